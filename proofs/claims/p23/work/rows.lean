section
-- ===== PART A: goes FIRST, ahead of the names: the tables' words, and 'selects' of the private methods out of them =====
/-- a private method of a class that the tables say can be made, by its rows of tables_1 -/
def lw_okq (q : MethodName × Nat) : Prop := (q.1.cls ≠ "java/lang/invoke/MethodHandle" ∧ q.1.cls ≠ "java/lang/invoke/VarHandle") ∧ Cond.instantiable q.1.cls q.2 ∈ tables_1 ∧ Cond.privateMethod q.1 ∈ tables_1 ∧ Cond.instanceMethod q.1 ∈ tables_1
theorem lw_p0 : lw_okq (⟨"MemberShelf$State", "aliases", "()I"⟩, 10) := ⟨⟨by decide +kernel, by decide +kernel⟩, List.mem_of_getElem? (i := 16) (by decide +kernel), List.mem_of_getElem? (i := 148) (by decide +kernel), List.mem_of_getElem? (i := 149) (by decide +kernel)⟩
theorem lw_p1 : lw_okq (⟨"MemberShelf$State", "isMember", "(I)Z"⟩, 10) := ⟨⟨by decide +kernel, by decide +kernel⟩, List.mem_of_getElem? (i := 16) (by decide +kernel), List.mem_of_getElem? (i := 152) (by decide +kernel), List.mem_of_getElem? (i := 153) (by decide +kernel)⟩
theorem lw_p2 : lw_okq (⟨"MemberShelf$State", "isRank", "(I)Z"⟩, 10) := ⟨⟨by decide +kernel, by decide +kernel⟩, List.mem_of_getElem? (i := 16) (by decide +kernel), List.mem_of_getElem? (i := 156) (by decide +kernel), List.mem_of_getElem? (i := 157) (by decide +kernel)⟩
theorem lw_p3 : lw_okq (⟨"MemberShelf$State", "lostAliases", "()I"⟩, 10) := ⟨⟨by decide +kernel, by decide +kernel⟩, List.mem_of_getElem? (i := 16) (by decide +kernel), List.mem_of_getElem? (i := 160) (by decide +kernel), List.mem_of_getElem? (i := 161) (by decide +kernel)⟩
theorem lw_p4 : lw_okq (⟨"MemberShelf$State", "isLost", "(I)Z"⟩, 10) := ⟨⟨by decide +kernel, by decide +kernel⟩, List.mem_of_getElem? (i := 16) (by decide +kernel), List.mem_of_getElem? (i := 164) (by decide +kernel), List.mem_of_getElem? (i := 165) (by decide +kernel)⟩
theorem lw_p5 : lw_okq (⟨"MemberShelf$State", "rankOf", "(I)I"⟩, 10) := ⟨⟨by decide +kernel, by decide +kernel⟩, List.mem_of_getElem? (i := 16) (by decide +kernel), List.mem_of_getElem? (i := 168) (by decide +kernel), List.mem_of_getElem? (i := 169) (by decide +kernel)⟩
theorem lw_p6 : lw_okq (⟨"MemberShelf$State", "livingUnits", "()I"⟩, 10) := ⟨⟨by decide +kernel, by decide +kernel⟩, List.mem_of_getElem? (i := 16) (by decide +kernel), List.mem_of_getElem? (i := 172) (by decide +kernel), List.mem_of_getElem? (i := 173) (by decide +kernel)⟩
theorem lw_p7 : lw_okq (⟨"MemberShelf$State", "isFirstOfText", "(I)Z"⟩, 10) := ⟨⟨by decide +kernel, by decide +kernel⟩, List.mem_of_getElem? (i := 16) (by decide +kernel), List.mem_of_getElem? (i := 176) (by decide +kernel), List.mem_of_getElem? (i := 177) (by decide +kernel)⟩
theorem lw_p8 : lw_okq (⟨"MemberShelf$State", "deadUnits", "()I"⟩, 10) := ⟨⟨by decide +kernel, by decide +kernel⟩, List.mem_of_getElem? (i := 16) (by decide +kernel), List.mem_of_getElem? (i := 180) (by decide +kernel), List.mem_of_getElem? (i := 181) (by decide +kernel)⟩
theorem lw_p9 : lw_okq (⟨"MemberShelf$State", "livingTexts", "()I"⟩, 10) := ⟨⟨by decide +kernel, by decide +kernel⟩, List.mem_of_getElem? (i := 16) (by decide +kernel), List.mem_of_getElem? (i := 184) (by decide +kernel), List.mem_of_getElem? (i := 185) (by decide +kernel)⟩
theorem lw_p10 : lw_okq (⟨"MemberShelf$State", "aliasesOf", "(I)I"⟩, 10) := ⟨⟨by decide +kernel, by decide +kernel⟩, List.mem_of_getElem? (i := 16) (by decide +kernel), List.mem_of_getElem? (i := 196) (by decide +kernel), List.mem_of_getElem? (i := 197) (by decide +kernel)⟩
theorem lw_p11 : lw_okq (⟨"MemberShelf$State", "isDirectoryFull", "()Z"⟩, 10) := ⟨⟨by decide +kernel, by decide +kernel⟩, List.mem_of_getElem? (i := 16) (by decide +kernel), List.mem_of_getElem? (i := 224) (by decide +kernel), List.mem_of_getElem? (i := 225) (by decide +kernel)⟩
theorem lw_p12 : lw_okq (⟨"MemberShelf$State", "hasRoom", "(I)Z"⟩, 10) := ⟨⟨by decide +kernel, by decide +kernel⟩, List.mem_of_getElem? (i := 16) (by decide +kernel), List.mem_of_getElem? (i := 228) (by decide +kernel), List.mem_of_getElem? (i := 229) (by decide +kernel)⟩
theorem lw_p13 : lw_okq (⟨"MemberShelf$State", "layText", "(I)I"⟩, 10) := ⟨⟨by decide +kernel, by decide +kernel⟩, List.mem_of_getElem? (i := 16) (by decide +kernel), List.mem_of_getElem? (i := 232) (by decide +kernel), List.mem_of_getElem? (i := 233) (by decide +kernel)⟩
theorem lw_p14 : lw_okq (⟨"MemberShelf$State", "insertEntry", "(IIIII)I"⟩, 10) := ⟨⟨by decide +kernel, by decide +kernel⟩, List.mem_of_getElem? (i := 16) (by decide +kernel), List.mem_of_getElem? (i := 236) (by decide +kernel), List.mem_of_getElem? (i := 237) (by decide +kernel)⟩
theorem lw_p15 : lw_okq (⟨"MemberShelf$State", "namesBelow", "(I)I"⟩, 10) := ⟨⟨by decide +kernel, by decide +kernel⟩, List.mem_of_getElem? (i := 16) (by decide +kernel), List.mem_of_getElem? (i := 240) (by decide +kernel), List.mem_of_getElem? (i := 241) (by decide +kernel)⟩
def lw_privs_1 : List (MethodName × Nat) := [(⟨"MemberShelf$State", "aliases", "()I"⟩, 10), (⟨"MemberShelf$State", "isMember", "(I)Z"⟩, 10), (⟨"MemberShelf$State", "isRank", "(I)Z"⟩, 10), (⟨"MemberShelf$State", "lostAliases", "()I"⟩, 10), (⟨"MemberShelf$State", "isLost", "(I)Z"⟩, 10), (⟨"MemberShelf$State", "rankOf", "(I)I"⟩, 10), (⟨"MemberShelf$State", "livingUnits", "()I"⟩, 10), (⟨"MemberShelf$State", "isFirstOfText", "(I)Z"⟩, 10), (⟨"MemberShelf$State", "deadUnits", "()I"⟩, 10), (⟨"MemberShelf$State", "livingTexts", "()I"⟩, 10), (⟨"MemberShelf$State", "aliasesOf", "(I)I"⟩, 10), (⟨"MemberShelf$State", "isDirectoryFull", "()Z"⟩, 10), (⟨"MemberShelf$State", "hasRoom", "(I)Z"⟩, 10), (⟨"MemberShelf$State", "layText", "(I)I"⟩, 10), (⟨"MemberShelf$State", "insertEntry", "(IIIII)I"⟩, 10), (⟨"MemberShelf$State", "namesBelow", "(I)I"⟩, 10)]
theorem lw_r1 : ∀ q ∈ lw_privs_1, lw_okq q := List.forall_mem_cons.mpr ⟨lw_p0, List.forall_mem_cons.mpr ⟨lw_p1, List.forall_mem_cons.mpr ⟨lw_p2, List.forall_mem_cons.mpr ⟨lw_p3, List.forall_mem_cons.mpr ⟨lw_p4, List.forall_mem_cons.mpr ⟨lw_p5, List.forall_mem_cons.mpr ⟨lw_p6, List.forall_mem_cons.mpr ⟨lw_p7, List.forall_mem_cons.mpr ⟨lw_p8, List.forall_mem_cons.mpr ⟨lw_p9, List.forall_mem_cons.mpr ⟨lw_p10, List.forall_mem_cons.mpr ⟨lw_p11, List.forall_mem_cons.mpr ⟨lw_p12, List.forall_mem_cons.mpr ⟨lw_p13, List.forall_mem_cons.mpr ⟨lw_p14, List.forall_mem_cons.mpr ⟨lw_p15, fun _ h => absurd h List.not_mem_nil⟩⟩⟩⟩⟩⟩⟩⟩⟩⟩⟩⟩⟩⟩⟩⟩
theorem lw_p16 : lw_okq (⟨"MemberShelf$State", "moveEntries", "(III)V"⟩, 10) := ⟨⟨by decide +kernel, by decide +kernel⟩, List.mem_of_getElem? (i := 16) (by decide +kernel), List.mem_of_getElem? (i := 244) (by decide +kernel), List.mem_of_getElem? (i := 245) (by decide +kernel)⟩
theorem lw_p17 : lw_okq (⟨"MemberShelf$State", "setEntry", "(IIIIII)V"⟩, 10) := ⟨⟨by decide +kernel, by decide +kernel⟩, List.mem_of_getElem? (i := 16) (by decide +kernel), List.mem_of_getElem? (i := 251) (by decide +kernel), List.mem_of_getElem? (i := 252) (by decide +kernel)⟩
theorem lw_p18 : lw_okq (⟨"MemberShelf", "settle", "(I)I"⟩, 6) := ⟨⟨by decide +kernel, by decide +kernel⟩, List.mem_of_getElem? (i := 8) (by decide +kernel), List.mem_of_getElem? (i := 255) (by decide +kernel), List.mem_of_getElem? (i := 256) (by decide +kernel)⟩
theorem lw_p19 : lw_okq (⟨"MemberShelf$History", "dropOldest", "()V"⟩, 2) := ⟨⟨by decide +kernel, by decide +kernel⟩, List.mem_of_getElem? (i := 54) (by decide +kernel), List.mem_of_getElem? (i := 263) (by decide +kernel), List.mem_of_getElem? (i := 264) (by decide +kernel)⟩
theorem lw_p20 : lw_okq (⟨"MemberShelf$Pad", "readAddition", "()Z"⟩, 8) := ⟨⟨by decide +kernel, by decide +kernel⟩, List.mem_of_getElem? (i := 70) (by decide +kernel), List.mem_of_getElem? (i := 301) (by decide +kernel), List.mem_of_getElem? (i := 302) (by decide +kernel)⟩
theorem lw_p21 : lw_okq (⟨"MemberShelf$Pad", "readName", "()I"⟩, 8) := ⟨⟨by decide +kernel, by decide +kernel⟩, List.mem_of_getElem? (i := 70) (by decide +kernel), List.mem_of_getElem? (i := 305) (by decide +kernel), List.mem_of_getElem? (i := 306) (by decide +kernel)⟩
theorem lw_p22 : lw_okq (⟨"MemberShelf$Pad", "readLetter", "()I"⟩, 8) := ⟨⟨by decide +kernel, by decide +kernel⟩, List.mem_of_getElem? (i := 70) (by decide +kernel), List.mem_of_getElem? (i := 309) (by decide +kernel), List.mem_of_getElem? (i := 310) (by decide +kernel)⟩
theorem lw_p23 : lw_okq (⟨"MemberShelf$Pad", "next", "()I"⟩, 8) := ⟨⟨by decide +kernel, by decide +kernel⟩, List.mem_of_getElem? (i := 70) (by decide +kernel), List.mem_of_getElem? (i := 313) (by decide +kernel), List.mem_of_getElem? (i := 314) (by decide +kernel)⟩
theorem lw_p24 : lw_okq (⟨"MemberShelf$Pad", "takes", "(C)Z"⟩, 8) := ⟨⟨by decide +kernel, by decide +kernel⟩, List.mem_of_getElem? (i := 70) (by decide +kernel), List.mem_of_getElem? (i := 317) (by decide +kernel), List.mem_of_getElem? (i := 318) (by decide +kernel)⟩
theorem lw_p25 : lw_okq (⟨"MemberShelf$Pad", "readMember", "(I)Z"⟩, 8) := ⟨⟨by decide +kernel, by decide +kernel⟩, List.mem_of_getElem? (i := 70) (by decide +kernel), List.mem_of_getElem? (i := 321) (by decide +kernel), List.mem_of_getElem? (i := 322) (by decide +kernel)⟩
theorem lw_p26 : lw_okq (⟨"MemberShelf$Pad", "readNumber", "(II)I"⟩, 8) := ⟨⟨by decide +kernel, by decide +kernel⟩, List.mem_of_getElem? (i := 70) (by decide +kernel), List.mem_of_getElem? (i := 325) (by decide +kernel), List.mem_of_getElem? (i := 326) (by decide +kernel)⟩
theorem lw_p27 : lw_okq (⟨"MemberShelf$Pad", "nextDigit", "()I"⟩, 8) := ⟨⟨by decide +kernel, by decide +kernel⟩, List.mem_of_getElem? (i := 70) (by decide +kernel), List.mem_of_getElem? (i := 329) (by decide +kernel), List.mem_of_getElem? (i := 330) (by decide +kernel)⟩
theorem lw_p28 : lw_okq (⟨"MemberShelf$Pad", "noteAddition", "(IIII)Z"⟩, 8) := ⟨⟨by decide +kernel, by decide +kernel⟩, List.mem_of_getElem? (i := 70) (by decide +kernel), List.mem_of_getElem? (i := 333) (by decide +kernel), List.mem_of_getElem? (i := 334) (by decide +kernel)⟩
theorem lw_p29 : lw_okq (⟨"MemberShelf$Pad", "readAlias", "(I)Z"⟩, 8) := ⟨⟨by decide +kernel, by decide +kernel⟩, List.mem_of_getElem? (i := 70) (by decide +kernel), List.mem_of_getElem? (i := 337) (by decide +kernel), List.mem_of_getElem? (i := 338) (by decide +kernel)⟩
theorem lw_p30 : lw_okq (⟨"MemberShelf$State", "takeOut", "(I)V"⟩, 10) := ⟨⟨by decide +kernel, by decide +kernel⟩, List.mem_of_getElem? (i := 16) (by decide +kernel), List.mem_of_getElem? (i := 374) (by decide +kernel), List.mem_of_getElem? (i := 375) (by decide +kernel)⟩
theorem lw_p31 : lw_okq (⟨"MemberShelf$State", "tellAliases", "(II)V"⟩, 10) := ⟨⟨by decide +kernel, by decide +kernel⟩, List.mem_of_getElem? (i := 16) (by decide +kernel), List.mem_of_getElem? (i := 386) (by decide +kernel), List.mem_of_getElem? (i := 387) (by decide +kernel)⟩
def lw_privs_2 : List (MethodName × Nat) := [(⟨"MemberShelf$State", "moveEntries", "(III)V"⟩, 10), (⟨"MemberShelf$State", "setEntry", "(IIIIII)V"⟩, 10), (⟨"MemberShelf", "settle", "(I)I"⟩, 6), (⟨"MemberShelf$History", "dropOldest", "()V"⟩, 2), (⟨"MemberShelf$Pad", "readAddition", "()Z"⟩, 8), (⟨"MemberShelf$Pad", "readName", "()I"⟩, 8), (⟨"MemberShelf$Pad", "readLetter", "()I"⟩, 8), (⟨"MemberShelf$Pad", "next", "()I"⟩, 8), (⟨"MemberShelf$Pad", "takes", "(C)Z"⟩, 8), (⟨"MemberShelf$Pad", "readMember", "(I)Z"⟩, 8), (⟨"MemberShelf$Pad", "readNumber", "(II)I"⟩, 8), (⟨"MemberShelf$Pad", "nextDigit", "()I"⟩, 8), (⟨"MemberShelf$Pad", "noteAddition", "(IIII)Z"⟩, 8), (⟨"MemberShelf$Pad", "readAlias", "(I)Z"⟩, 8), (⟨"MemberShelf$State", "takeOut", "(I)V"⟩, 10), (⟨"MemberShelf$State", "tellAliases", "(II)V"⟩, 10)]
theorem lw_r2 : ∀ q ∈ lw_privs_2, lw_okq q := List.forall_mem_cons.mpr ⟨lw_p16, List.forall_mem_cons.mpr ⟨lw_p17, List.forall_mem_cons.mpr ⟨lw_p18, List.forall_mem_cons.mpr ⟨lw_p19, List.forall_mem_cons.mpr ⟨lw_p20, List.forall_mem_cons.mpr ⟨lw_p21, List.forall_mem_cons.mpr ⟨lw_p22, List.forall_mem_cons.mpr ⟨lw_p23, List.forall_mem_cons.mpr ⟨lw_p24, List.forall_mem_cons.mpr ⟨lw_p25, List.forall_mem_cons.mpr ⟨lw_p26, List.forall_mem_cons.mpr ⟨lw_p27, List.forall_mem_cons.mpr ⟨lw_p28, List.forall_mem_cons.mpr ⟨lw_p29, List.forall_mem_cons.mpr ⟨lw_p30, List.forall_mem_cons.mpr ⟨lw_p31, fun _ h => absurd h List.not_mem_nil⟩⟩⟩⟩⟩⟩⟩⟩⟩⟩⟩⟩⟩⟩⟩⟩
theorem lw_p32 : lw_okq (⟨"MemberShelf$State", "closeUp", "()I"⟩, 10) := ⟨⟨by decide +kernel, by decide +kernel⟩, List.mem_of_getElem? (i := 16) (by decide +kernel), List.mem_of_getElem? (i := 403) (by decide +kernel), List.mem_of_getElem? (i := 404) (by decide +kernel)⟩
theorem lw_p33 : lw_okq (⟨"MemberShelf$State", "moveText", "(II)I"⟩, 10) := ⟨⟨by decide +kernel, by decide +kernel⟩, List.mem_of_getElem? (i := 16) (by decide +kernel), List.mem_of_getElem? (i := 407) (by decide +kernel), List.mem_of_getElem? (i := 408) (by decide +kernel)⟩
def lw_privs_3 : List (MethodName × Nat) := [(⟨"MemberShelf$State", "closeUp", "()I"⟩, 10), (⟨"MemberShelf$State", "moveText", "(II)I"⟩, 10)]
theorem lw_r3 : ∀ q ∈ lw_privs_3, lw_okq q := List.forall_mem_cons.mpr ⟨lw_p32, List.forall_mem_cons.mpr ⟨lw_p33, fun _ h => absurd h List.not_mem_nil⟩⟩
def lw_privs : List (MethodName × Nat) := lw_privs_1 ++ (lw_privs_2 ++ (lw_privs_3))
def lw_tbl : List Cond := k2_sels lw_privs ++ tables_1
theorem lw_privs_ok : ∀ q ∈ lw_privs, lw_okq q := by
  show ∀ q ∈ lw_privs_1 ++ (lw_privs_2 ++ (lw_privs_3)), lw_okq q
  exact List.forall_mem_append.mpr ⟨lw_r1, List.forall_mem_append.mpr ⟨lw_r2, lw_r3⟩⟩
def RX0 : String := "MemberShelf$History"
def TX0 : u_T := fun k => match k with
  | 0 => ("MemberShelf$History", "states", "[LMemberShelf$State;", true)
  | _ => ("MemberShelf$History", "size", "I", false)
def tyX0 : Nat → FieldType := fun k => match k with
  | 0 => .array (.object "MemberShelf$State")
  | _ => .int
abbrev wsX00 : List Cond := u_ws RX0 TX0 2
theorem nmX0 : ∀ a, a < 2 → ∀ b, b < 2 → a ≠ b → (TX0 a).2.1 ≠ (TX0 b).2.1 := by decide +kernel
theorem tyX0_ok : ∀ k, k < 2 → parseFieldDescriptor (TX0 k).2.2.1 = some (tyX0 k) := by decide +kernel
abbrev cX0_init : ByteArray := prog_2_method_1_code
def yX0_init : MethodName := ⟨RX0, "<init>", "()V"⟩
abbrev cX0_size : ByteArray := prog_2_method_2_code
def yX0_size : MethodName := ⟨RX0, "size", "()I"⟩
abbrev cX0_keepState : ByteArray := prog_2_method_3_code
def yX0_keepState : MethodName := ⟨RX0, "keepState", "(LMemberShelf$State;)V"⟩
abbrev cX0_giveLatestTo : ByteArray := prog_2_method_4_code
def yX0_giveLatestTo : MethodName := ⟨RX0, "giveLatestTo", "(LMemberShelf$State;)Z"⟩
abbrev cX0_dropOldest : ByteArray := prog_2_method_5_code
def yX0_dropOldest : MethodName := ⟨RX0, "dropOldest", "()V"⟩
def RX1 : String := "MemberShelf$Pad"
def TX1 : u_T := fun k => match k with
  | 0 => ("MemberShelf$Pad", "characters", "[C", true)
  | 1 => ("MemberShelf$Pad", "length", "I", false)
  | 2 => ("MemberShelf$Pad", "names", "[I", true)
  | 3 => ("MemberShelf$Pad", "givers", "[I", true)
  | 4 => ("MemberShelf$Pad", "lengths", "[I", true)
  | 5 => ("MemberShelf$Pad", "marks", "[I", true)
  | 6 => ("MemberShelf$Pad", "additions", "I", false)
  | _ => ("MemberShelf$Pad", "place", "I", false)
def tyX1 : Nat → FieldType := fun k => match k with
  | 0 => .array .char
  | 1 => .int
  | 2 => .array .int
  | 3 => .array .int
  | 4 => .array .int
  | 5 => .array .int
  | 6 => .int
  | _ => .int
abbrev wsX10 : List Cond := u_ws RX1 TX1 8
theorem nmX1 : ∀ a, a < 8 → ∀ b, b < 8 → a ≠ b → (TX1 a).2.1 ≠ (TX1 b).2.1 := by decide +kernel
theorem tyX1_ok : ∀ k, k < 8 → parseFieldDescriptor (TX1 k).2.2.1 = some (tyX1 k) := by decide +kernel
abbrev cX1_init : ByteArray := prog_3_method_1_code
def yX1_init : MethodName := ⟨RX1, "<init>", "()V"⟩
abbrev cX1_length : ByteArray := prog_3_method_2_code
def yX1_length : MethodName := ⟨RX1, "length", "()I"⟩
abbrev cX1_append : ByteArray := prog_3_method_3_code
def yX1_append : MethodName := ⟨RX1, "append", "(C)I"⟩
abbrev cX1_empty : ByteArray := prog_3_method_4_code
def yX1_empty : MethodName := ⟨RX1, "empty", "()I"⟩
abbrev cX1_readAdditions : ByteArray := prog_3_method_5_code
def yX1_readAdditions : MethodName := ⟨RX1, "readAdditions", "()I"⟩
abbrev cX1_makeAdditions : ByteArray := prog_3_method_6_code
def yX1_makeAdditions : MethodName := ⟨RX1, "makeAdditions", "(LMemberShelf$State;)I"⟩
abbrev cX1_readAddition : ByteArray := prog_3_method_7_code
def yX1_readAddition : MethodName := ⟨RX1, "readAddition", "()Z"⟩
abbrev cX1_readMember : ByteArray := prog_3_method_8_code
def yX1_readMember : MethodName := ⟨RX1, "readMember", "(I)Z"⟩
abbrev cX1_readAlias : ByteArray := prog_3_method_9_code
def yX1_readAlias : MethodName := ⟨RX1, "readAlias", "(I)Z"⟩
abbrev cX1_readName : ByteArray := prog_3_method_10_code
def yX1_readName : MethodName := ⟨RX1, "readName", "()I"⟩
abbrev cX1_readLetter : ByteArray := prog_3_method_11_code
def yX1_readLetter : MethodName := ⟨RX1, "readLetter", "()I"⟩
abbrev cX1_readNumber : ByteArray := prog_3_method_12_code
def yX1_readNumber : MethodName := ⟨RX1, "readNumber", "(II)I"⟩
abbrev cX1_nextDigit : ByteArray := prog_3_method_13_code
def yX1_nextDigit : MethodName := ⟨RX1, "nextDigit", "()I"⟩
abbrev cX1_takes : ByteArray := prog_3_method_14_code
def yX1_takes : MethodName := ⟨RX1, "takes", "(C)Z"⟩
abbrev cX1_next : ByteArray := prog_3_method_15_code
def yX1_next : MethodName := ⟨RX1, "next", "()I"⟩
abbrev cX1_noteAddition : ByteArray := prog_3_method_16_code
def yX1_noteAddition : MethodName := ⟨RX1, "noteAddition", "(IIII)Z"⟩
def RX2 : String := "MemberShelf$State"
def TX2 : u_T := fun k => match k with
  | 0 => ("MemberShelf$State", "names", "[I", true)
  | 1 => ("MemberShelf$State", "givers", "[I", true)
  | 2 => ("MemberShelf$State", "starts", "[I", true)
  | 3 => ("MemberShelf$State", "lengths", "[I", true)
  | 4 => ("MemberShelf$State", "marks", "[I", true)
  | 5 => ("MemberShelf$State", "size", "I", false)
  | 6 => ("MemberShelf$State", "blocks", "I", false)
  | 7 => ("MemberShelf$State", "end", "I", false)
  | 8 => ("MemberShelf$State", "squeezings", "I", false)
  | _ => ("MemberShelf$State", "unitsGivenBack", "I", false)
def tyX2 : Nat → FieldType := fun k => match k with
  | 0 => .array .int
  | 1 => .array .int
  | 2 => .array .int
  | 3 => .array .int
  | 4 => .array .int
  | 5 => .int
  | 6 => .int
  | 7 => .int
  | 8 => .int
  | _ => .int
abbrev wsX20 : List Cond := u_ws RX2 TX2 10
theorem nmX2 : ∀ a, a < 10 → ∀ b, b < 10 → a ≠ b → (TX2 a).2.1 ≠ (TX2 b).2.1 := by decide +kernel
theorem tyX2_ok : ∀ k, k < 10 → parseFieldDescriptor (TX2 k).2.2.1 = some (tyX2 k) := by decide +kernel
abbrev cX2_init : ByteArray := prog_4_method_1_code
def yX2_init : MethodName := ⟨RX2, "<init>", "()V"⟩
abbrev cX2_copyFrom : ByteArray := prog_4_method_2_code
def yX2_copyFrom : MethodName := ⟨RX2, "copyFrom", "(LMemberShelf$State;)V"⟩
abbrev cX2_addMember : ByteArray := prog_4_method_4_code
def yX2_addMember : MethodName := ⟨RX2, "addMember", "(III)I"⟩
abbrev cX2_replaceText : ByteArray := prog_4_method_5_code
def yX2_replaceText : MethodName := ⟨RX2, "replaceText", "(III)I"⟩
abbrev cX2_removeEntry : ByteArray := prog_4_method_6_code
def yX2_removeEntry : MethodName := ⟨RX2, "removeEntry", "(I)I"⟩
abbrev cX2_renameEntry : ByteArray := prog_4_method_7_code
def yX2_renameEntry : MethodName := ⟨RX2, "renameEntry", "(II)I"⟩
abbrev cX2_giveAlias : ByteArray := prog_4_method_8_code
def yX2_giveAlias : MethodName := ⟨RX2, "giveAlias", "(II)I"⟩
abbrev cX2_giveBackDeadRoom : ByteArray := prog_4_method_9_code
def yX2_giveBackDeadRoom : MethodName := ⟨RX2, "giveBackDeadRoom", "()I"⟩
abbrev cX2_changeBlocks : ByteArray := prog_4_method_10_code
def yX2_changeBlocks : MethodName := ⟨RX2, "changeBlocks", "(I)I"⟩
abbrev cX2_tellEntry : ByteArray := prog_4_method_11_code
def yX2_tellEntry : MethodName := ⟨RX2, "tellEntry", "(II)I"⟩
abbrev cX2_tellName : ByteArray := prog_4_method_12_code
def yX2_tellName : MethodName := ⟨RX2, "tellName", "(I)I"⟩
abbrev cX2_tellUnit : ByteArray := prog_4_method_14_code
def yX2_tellUnit : MethodName := ⟨RX2, "tellUnit", "(I)I"⟩
abbrev cX2_tellFit : ByteArray := prog_4_method_15_code
def yX2_tellFit : MethodName := ⟨RX2, "tellFit", "(I)I"⟩
abbrev cX2_tellBeginning : ByteArray := prog_4_method_16_code
def yX2_tellBeginning : MethodName := ⟨RX2, "tellBeginning", "(II)I"⟩
abbrev cX2_tellCount : ByteArray := prog_4_method_17_code
def yX2_tellCount : MethodName := ⟨RX2, "tellCount", "(I)I"⟩
abbrev cX2_isName : ByteArray := prog_4_method_18_code
def yX2_isName : MethodName := ⟨RX2, "isName", "(I)Z"⟩
abbrev cX2_isLength : ByteArray := prog_4_method_19_code
def yX2_isLength : MethodName := ⟨RX2, "isLength", "(I)Z"⟩
abbrev cX2_isMark : ByteArray := prog_4_method_20_code
def yX2_isMark : MethodName := ⟨RX2, "isMark", "(I)Z"⟩
abbrev cX2_isRank : ByteArray := prog_4_method_21_code
def yX2_isRank : MethodName := ⟨RX2, "isRank", "(I)Z"⟩
abbrev cX2_isMember : ByteArray := prog_4_method_22_code
def yX2_isMember : MethodName := ⟨RX2, "isMember", "(I)Z"⟩
abbrev cX2_isLost : ByteArray := prog_4_method_23_code
def yX2_isLost : MethodName := ⟨RX2, "isLost", "(I)Z"⟩
abbrev cX2_isFirstOfText : ByteArray := prog_4_method_24_code
def yX2_isFirstOfText : MethodName := ⟨RX2, "isFirstOfText", "(I)Z"⟩
abbrev cX2_isDirectoryFull : ByteArray := prog_4_method_25_code
def yX2_isDirectoryFull : MethodName := ⟨RX2, "isDirectoryFull", "()Z"⟩
abbrev cX2_hasRoom : ByteArray := prog_4_method_26_code
def yX2_hasRoom : MethodName := ⟨RX2, "hasRoom", "(I)Z"⟩
abbrev cX2_rankOf : ByteArray := prog_4_method_27_code
def yX2_rankOf : MethodName := ⟨RX2, "rankOf", "(I)I"⟩
abbrev cX2_namesBelow : ByteArray := prog_4_method_28_code
def yX2_namesBelow : MethodName := ⟨RX2, "namesBelow", "(I)I"⟩
abbrev cX2_aliases : ByteArray := prog_4_method_29_code
def yX2_aliases : MethodName := ⟨RX2, "aliases", "()I"⟩
abbrev cX2_lostAliases : ByteArray := prog_4_method_30_code
def yX2_lostAliases : MethodName := ⟨RX2, "lostAliases", "()I"⟩
abbrev cX2_aliasesOf : ByteArray := prog_4_method_31_code
def yX2_aliasesOf : MethodName := ⟨RX2, "aliasesOf", "(I)I"⟩
abbrev cX2_livingTexts : ByteArray := prog_4_method_32_code
def yX2_livingTexts : MethodName := ⟨RX2, "livingTexts", "()I"⟩
abbrev cX2_livingUnits : ByteArray := prog_4_method_33_code
def yX2_livingUnits : MethodName := ⟨RX2, "livingUnits", "()I"⟩
abbrev cX2_deadUnits : ByteArray := prog_4_method_34_code
def yX2_deadUnits : MethodName := ⟨RX2, "deadUnits", "()I"⟩
abbrev cX2_layText : ByteArray := prog_4_method_35_code
def yX2_layText : MethodName := ⟨RX2, "layText", "(I)I"⟩
abbrev cX2_tellAliases : ByteArray := prog_4_method_36_code
def yX2_tellAliases : MethodName := ⟨RX2, "tellAliases", "(II)V"⟩
abbrev cX2_insertEntry : ByteArray := prog_4_method_37_code
def yX2_insertEntry : MethodName := ⟨RX2, "insertEntry", "(IIIII)I"⟩
abbrev cX2_takeOut : ByteArray := prog_4_method_38_code
def yX2_takeOut : MethodName := ⟨RX2, "takeOut", "(I)V"⟩
abbrev cX2_setEntry : ByteArray := prog_4_method_39_code
def yX2_setEntry : MethodName := ⟨RX2, "setEntry", "(IIIIII)V"⟩
abbrev cX2_moveEntries : ByteArray := prog_4_method_40_code
def yX2_moveEntries : MethodName := ⟨RX2, "moveEntries", "(III)V"⟩
abbrev cX2_closeUp : ByteArray := prog_4_method_41_code
def yX2_closeUp : MethodName := ⟨RX2, "closeUp", "()I"⟩
abbrev cX2_moveText : ByteArray := prog_4_method_42_code
def yX2_moveText : MethodName := ⟨RX2, "moveText", "(II)I"⟩
def RX3 : String := "MemberShelf"
def TX3 : u_T := fun k => match k with
  | 0 => ("MemberShelf", "shelf", "LMemberShelf$State;", true)
  | 1 => ("MemberShelf", "trial", "LMemberShelf$State;", true)
  | 2 => ("MemberShelf", "snapshot", "LMemberShelf$State;", true)
  | 3 => ("MemberShelf", "hasSnapshot", "Z", false)
  | 4 => ("MemberShelf", "history", "LMemberShelf$History;", true)
  | _ => ("MemberShelf", "pad", "LMemberShelf$Pad;", true)
def tyX3 : Nat → FieldType := fun k => match k with
  | 0 => .object "MemberShelf$State"
  | 1 => .object "MemberShelf$State"
  | 2 => .object "MemberShelf$State"
  | 3 => .boolean
  | 4 => .object "MemberShelf$History"
  | _ => .object "MemberShelf$Pad"
abbrev wsX30 : List Cond := u_ws RX3 TX3 6
theorem nmX3 : ∀ a, a < 6 → ∀ b, b < 6 → a ≠ b → (TX3 a).2.1 ≠ (TX3 b).2.1 := by decide +kernel
theorem tyX3_ok : ∀ k, k < 6 → parseFieldDescriptor (TX3 k).2.2.1 = some (tyX3 k) := by decide +kernel
abbrev cX3_init : ByteArray := prog_1_method_1_code
def yX3_init : MethodName := ⟨RX3, "<init>", "()V"⟩
abbrev cX3_add : ByteArray := prog_1_method_2_code
def yX3_add : MethodName := ⟨RX3, "add", "(III)I"⟩
abbrev cX3_replace : ByteArray := prog_1_method_3_code
def yX3_replace : MethodName := ⟨RX3, "replace", "(III)I"⟩
abbrev cX3_remove : ByteArray := prog_1_method_4_code
def yX3_remove : MethodName := ⟨RX3, "remove", "(I)I"⟩
abbrev cX3_rename : ByteArray := prog_1_method_5_code
def yX3_rename : MethodName := ⟨RX3, "rename", "(II)I"⟩
abbrev cX3_alias : ByteArray := prog_1_method_6_code
def yX3_alias : MethodName := ⟨RX3, "alias", "(II)I"⟩
abbrev cX3_addAll : ByteArray := prog_1_method_7_code
def yX3_addAll : MethodName := ⟨RX3, "addAll", "()I"⟩
abbrev cX3_squeeze : ByteArray := prog_1_method_8_code
def yX3_squeeze : MethodName := ⟨RX3, "squeeze", "()I"⟩
abbrev cX3_makeAnew : ByteArray := prog_1_method_9_code
def yX3_makeAnew : MethodName := ⟨RX3, "makeAnew", "(I)I"⟩
abbrev cX3_type : ByteArray := prog_1_method_10_code
def yX3_type : MethodName := ⟨RX3, "type", "(C)I"⟩
abbrev cX3_clearPad : ByteArray := prog_1_method_11_code
def yX3_clearPad : MethodName := ⟨RX3, "clearPad", "()I"⟩
abbrev cX3_undo : ByteArray := prog_1_method_12_code
def yX3_undo : MethodName := ⟨RX3, "undo", "()I"⟩
abbrev cX3_entry : ByteArray := prog_1_method_15_code
def yX3_entry : MethodName := ⟨RX3, "entry", "(II)I"⟩
abbrev cX3_named : ByteArray := prog_1_method_16_code
def yX3_named : MethodName := ⟨RX3, "named", "(I)I"⟩
abbrev cX3_at : ByteArray := prog_1_method_18_code
def yX3_at : MethodName := ⟨RX3, "at", "(I)I"⟩
abbrev cX3_fits : ByteArray := prog_1_method_19_code
def yX3_fits : MethodName := ⟨RX3, "fits", "(I)I"⟩
abbrev cX3_beginning : ByteArray := prog_1_method_20_code
def yX3_beginning : MethodName := ⟨RX3, "beginning", "(II)I"⟩
abbrev cX3_count : ByteArray := prog_1_method_21_code
def yX3_count : MethodName := ⟨RX3, "count", "(I)I"⟩
abbrev cX3_settle : ByteArray := prog_1_method_22_code
def yX3_settle : MethodName := ⟨RX3, "settle", "(I)I"⟩
def RX4 : String := "MemberShelfModel"
def TX4 : u_T := fun k => match k with
  | _ => ("", "", "", false)
def tyX4 : Nat → FieldType := fun k => match k with
  | _ => .int
abbrev wsX40 : List Cond := u_ws RX4 TX4 0
theorem nmX4 : ∀ a, a < 0 → ∀ b, b < 0 → a ≠ b → (TX4 a).2.1 ≠ (TX4 b).2.1 := by decide +kernel
theorem tyX4_ok : ∀ k, k < 0 → parseFieldDescriptor (TX4 k).2.2.1 = some (tyX4 k) := by decide +kernel
def RJ9 : String := "java/lang/Math"
def TJ9 : u_T := fun k => match k with
  | _ => ("", "", "", false)
def tyJ9 : Nat → FieldType := fun k => match k with
  | _ => .int
abbrev wsJ90 : List Cond := u_ws RJ9 TJ9 0
theorem nmJ9 : ∀ a, a < 0 → ∀ b, b < 0 → a ≠ b → (TJ9 a).2.1 ≠ (TJ9 b).2.1 := by decide +kernel
theorem tyJ9_ok : ∀ k, k < 0 → parseFieldDescriptor (TJ9 k).2.2.1 = some (tyJ9 k) := by decide +kernel
abbrev cJ9_max_7cf53 : ByteArray := prog_7_method_65_code
def yJ9_max_7cf53 : MethodName := ⟨RJ9, "max", "(II)I"⟩
def RJ10 : String := "java/lang/System"
def TJ10 : u_T := fun k => match k with
  | _ => ("", "", "", false)
def tyJ10 : Nat → FieldType := fun k => match k with
  | _ => .int
abbrev wsJ100 : List Cond := u_ws RJ10 TJ10 0
theorem nmJ10 : ∀ a, a < 0 → ∀ b, b < 0 → a ≠ b → (TJ10 a).2.1 ≠ (TJ10 b).2.1 := by decide +kernel
theorem tyJ10_ok : ∀ k, k < 0 → parseFieldDescriptor (TJ10 k).2.2.1 = some (tyJ10 k) := by decide +kernel
def RL : String := "MemberShelfLaw"
abbrev cL_cell : ByteArray := method_2_code
def yL_cell : MethodName := ⟨RL, "cell", "([II)I"⟩
abbrev cL_up : ByteArray := method_3_code
def yL_up : MethodName := ⟨RL, "up", "(II)I"⟩
abbrev cL_there : ByteArray := method_4_code
def yL_there : MethodName := ⟨RL, "there", "(I)I"⟩
abbrev cL_name : ByteArray := method_5_code
def yL_name : MethodName := ⟨RL, "name", "(LMemberShelf;I)Z"⟩
abbrev cL_number : ByteArray := method_6_code
def yL_number : MethodName := ⟨RL, "number", "(LMemberShelf;I)Z"⟩
abbrev cL_isStep : ByteArray := method_7_code
def yL_isStep : MethodName := ⟨RL, "isStep", "(LMemberShelf;LMemberShelf;II)Z"⟩
abbrev cL_areAlike : ByteArray := method_8_code
def yL_areAlike : MethodName := ⟨RL, "areAlike", "(LMemberShelf;LMemberShelf;)Z"⟩
abbrev cL_isWell : ByteArray := method_9_code
def yL_isWell : MethodName := ⟨RL, "isWell", "(LMemberShelf;)Z"⟩
abbrev cL_law : ByteArray := code
def yL_law : MethodName := ⟨RL, "law", "([I)Z"⟩
theorem inJ9 : ∀ w ∈ wsJ90, w ∈ lw_tbl := by decide +kernel
theorem inJ10 : ∀ w ∈ wsJ100, w ∈ lw_tbl := by decide +kernel
abbrev vwCl : List vw_C := [(RX0, TX0, 2), (RX1, TX1, 8), (RX2, TX2, 10), (RX3, TX3, 6)]
theorem inX0 : ∀ w ∈ u_ws RX0 TX0 2, w ∈ lw_tbl := by decide +kernel
theorem inX1 : ∀ w ∈ u_ws RX1 TX1 8, w ∈ lw_tbl := by decide +kernel
theorem inX2 : ∀ w ∈ u_ws RX2 TX2 10, w ∈ lw_tbl := by decide +kernel
theorem inX3 : ∀ w ∈ u_ws RX3 TX3 6, w ∈ lw_tbl := by decide +kernel
end
section
theorem dX0_init_0 : decode cX0_init 0 = .ok (.aload_n 0, 1) := by decide +kernel
theorem dX0_init_1 : decode cX0_init 1 = .ok (.invokespecial 3, 3) := by decide +kernel
theorem dX0_init_4 : decode cX0_init 4 = .ok (.aload_n 0, 1) := by decide +kernel
theorem dX0_init_5 : decode cX0_init 5 = .ok (.iconst 4, 1) := by decide +kernel
theorem dX0_init_6 : decode cX0_init 6 = .ok (.anewarray 9, 3) := by decide +kernel
theorem dX0_init_9 : decode cX0_init 9 = .ok (.putfield 11, 3) := by decide +kernel
theorem dX0_init_12 : decode cX0_init 12 = .ok (.aload_n 0, 1) := by decide +kernel
theorem dX0_init_13 : decode cX0_init 13 = .ok (.iconst 0, 1) := by decide +kernel
theorem dX0_init_14 : decode cX0_init 14 = .ok (.putfield 17, 3) := by decide +kernel
theorem dX0_init_17 : decode cX0_init 17 = .ok (.iconst 0, 1) := by decide +kernel
theorem dX0_init_18 : decode cX0_init 18 = .ok (.istore_n 1, 1) := by decide +kernel
theorem dX0_init_19 : decode cX0_init 19 = .ok (.iload_n 1, 1) := by decide +kernel
theorem dX0_init_20 : decode cX0_init 20 = .ok (.iconst 4, 1) := by decide +kernel
theorem dX0_init_21 : decode cX0_init 21 = .ok (.if_icmp .ge 22, 3) := by decide +kernel
theorem dX0_init_24 : decode cX0_init 24 = .ok (.aload_n 0, 1) := by decide +kernel
theorem dX0_init_25 : decode cX0_init 25 = .ok (.getfield 11, 3) := by decide +kernel
theorem dX0_init_28 : decode cX0_init 28 = .ok (.iload_n 1, 1) := by decide +kernel
theorem dX0_init_29 : decode cX0_init 29 = .ok (.new 9, 3) := by decide +kernel
theorem dX0_init_32 : decode cX0_init 32 = .ok (.dup, 1) := by decide +kernel
theorem dX0_init_33 : decode cX0_init 33 = .ok (.invokespecial 21, 3) := by decide +kernel
theorem dX0_init_36 : decode cX0_init 36 = .ok (.aastore, 1) := by decide +kernel
theorem dX0_init_37 : decode cX0_init 37 = .ok (.iinc 1 1, 3) := by decide +kernel
theorem dX0_init_40 : decode cX0_init 40 = .ok (.goto (-21), 3) := by decide +kernel
theorem dX0_init_43 : decode cX0_init 43 = .ok (.return_, 1) := by decide +kernel
theorem dX0_size_0 : decode cX0_size 0 = .ok (.aload_n 0, 1) := by decide +kernel
theorem dX0_size_1 : decode cX0_size 1 = .ok (.getfield 17, 3) := by decide +kernel
theorem dX0_size_4 : decode cX0_size 4 = .ok (.ireturn, 1) := by decide +kernel
theorem dX0_keepState_0 : decode cX0_keepState 0 = .ok (.aload_n 0, 1) := by decide +kernel
theorem dX0_keepState_1 : decode cX0_keepState 1 = .ok (.getfield 17, 3) := by decide +kernel
theorem dX0_keepState_4 : decode cX0_keepState 4 = .ok (.iconst 4, 1) := by decide +kernel
theorem dX0_keepState_5 : decode cX0_keepState 5 = .ok (.if_icmp .lt 7, 3) := by decide +kernel
theorem dX0_keepState_8 : decode cX0_keepState 8 = .ok (.aload_n 0, 1) := by decide +kernel
theorem dX0_keepState_9 : decode cX0_keepState 9 = .ok (.invokevirtual 22, 3) := by decide +kernel
theorem dX0_keepState_12 : decode cX0_keepState 12 = .ok (.aload_n 0, 1) := by decide +kernel
theorem dX0_keepState_13 : decode cX0_keepState 13 = .ok (.getfield 11, 3) := by decide +kernel
theorem dX0_keepState_16 : decode cX0_keepState 16 = .ok (.aload_n 0, 1) := by decide +kernel
theorem dX0_keepState_17 : decode cX0_keepState 17 = .ok (.getfield 17, 3) := by decide +kernel
theorem dX0_keepState_20 : decode cX0_keepState 20 = .ok (.aaload, 1) := by decide +kernel
theorem dX0_keepState_21 : decode cX0_keepState 21 = .ok (.astore_n 2, 1) := by decide +kernel
theorem dX0_keepState_22 : decode cX0_keepState 22 = .ok (.aload_n 2, 1) := by decide +kernel
theorem dX0_keepState_23 : decode cX0_keepState 23 = .ok (.ifnull 18, 3) := by decide +kernel
theorem dX0_keepState_26 : decode cX0_keepState 26 = .ok (.aload_n 2, 1) := by decide +kernel
theorem dX0_keepState_27 : decode cX0_keepState 27 = .ok (.aload_n 1, 1) := by decide +kernel
theorem dX0_keepState_28 : decode cX0_keepState 28 = .ok (.invokevirtual 25, 3) := by decide +kernel
theorem dX0_keepState_31 : decode cX0_keepState 31 = .ok (.aload_n 0, 1) := by decide +kernel
theorem dX0_keepState_32 : decode cX0_keepState 32 = .ok (.dup, 1) := by decide +kernel
theorem dX0_keepState_33 : decode cX0_keepState 33 = .ok (.getfield 17, 3) := by decide +kernel
theorem dX0_keepState_36 : decode cX0_keepState 36 = .ok (.iconst 1, 1) := by decide +kernel
theorem dX0_keepState_37 : decode cX0_keepState 37 = .ok (.iadd, 1) := by decide +kernel
theorem dX0_keepState_38 : decode cX0_keepState 38 = .ok (.putfield 17, 3) := by decide +kernel
theorem dX0_keepState_41 : decode cX0_keepState 41 = .ok (.return_, 1) := by decide +kernel
theorem dX0_giveLatestTo_0 : decode cX0_giveLatestTo 0 = .ok (.aload_n 0, 1) := by decide +kernel
theorem dX0_giveLatestTo_1 : decode cX0_giveLatestTo 1 = .ok (.getfield 17, 3) := by decide +kernel
theorem dX0_giveLatestTo_4 : decode cX0_giveLatestTo 4 = .ok (.ifCond .le 11, 3) := by decide +kernel
theorem dX0_giveLatestTo_7 : decode cX0_giveLatestTo 7 = .ok (.aload_n 0, 1) := by decide +kernel
theorem dX0_giveLatestTo_8 : decode cX0_giveLatestTo 8 = .ok (.getfield 17, 3) := by decide +kernel
theorem dX0_giveLatestTo_11 : decode cX0_giveLatestTo 11 = .ok (.iconst 4, 1) := by decide +kernel
theorem dX0_giveLatestTo_12 : decode cX0_giveLatestTo 12 = .ok (.if_icmp .le 5, 3) := by decide +kernel
theorem dX0_giveLatestTo_15 : decode cX0_giveLatestTo 15 = .ok (.iconst 0, 1) := by decide +kernel
theorem dX0_giveLatestTo_16 : decode cX0_giveLatestTo 16 = .ok (.ireturn, 1) := by decide +kernel
theorem dX0_giveLatestTo_17 : decode cX0_giveLatestTo 17 = .ok (.aload_n 0, 1) := by decide +kernel
theorem dX0_giveLatestTo_18 : decode cX0_giveLatestTo 18 = .ok (.getfield 11, 3) := by decide +kernel
theorem dX0_giveLatestTo_21 : decode cX0_giveLatestTo 21 = .ok (.aload_n 0, 1) := by decide +kernel
theorem dX0_giveLatestTo_22 : decode cX0_giveLatestTo 22 = .ok (.getfield 17, 3) := by decide +kernel
theorem dX0_giveLatestTo_25 : decode cX0_giveLatestTo 25 = .ok (.iconst 1, 1) := by decide +kernel
theorem dX0_giveLatestTo_26 : decode cX0_giveLatestTo 26 = .ok (.isub, 1) := by decide +kernel
theorem dX0_giveLatestTo_27 : decode cX0_giveLatestTo 27 = .ok (.aaload, 1) := by decide +kernel
theorem dX0_giveLatestTo_28 : decode cX0_giveLatestTo 28 = .ok (.astore_n 2, 1) := by decide +kernel
theorem dX0_giveLatestTo_29 : decode cX0_giveLatestTo 29 = .ok (.aload_n 2, 1) := by decide +kernel
theorem dX0_giveLatestTo_30 : decode cX0_giveLatestTo 30 = .ok (.ifnonnull 5, 3) := by decide +kernel
theorem dX0_giveLatestTo_33 : decode cX0_giveLatestTo 33 = .ok (.iconst 0, 1) := by decide +kernel
theorem dX0_giveLatestTo_34 : decode cX0_giveLatestTo 34 = .ok (.ireturn, 1) := by decide +kernel
theorem dX0_giveLatestTo_35 : decode cX0_giveLatestTo 35 = .ok (.aload_n 1, 1) := by decide +kernel
theorem dX0_giveLatestTo_36 : decode cX0_giveLatestTo 36 = .ok (.aload_n 2, 1) := by decide +kernel
theorem dX0_giveLatestTo_37 : decode cX0_giveLatestTo 37 = .ok (.invokevirtual 25, 3) := by decide +kernel
theorem dX0_giveLatestTo_40 : decode cX0_giveLatestTo 40 = .ok (.aload_n 0, 1) := by decide +kernel
theorem dX0_giveLatestTo_41 : decode cX0_giveLatestTo 41 = .ok (.dup, 1) := by decide +kernel
theorem dX0_giveLatestTo_42 : decode cX0_giveLatestTo 42 = .ok (.getfield 17, 3) := by decide +kernel
theorem dX0_giveLatestTo_45 : decode cX0_giveLatestTo 45 = .ok (.iconst 1, 1) := by decide +kernel
theorem dX0_giveLatestTo_46 : decode cX0_giveLatestTo 46 = .ok (.isub, 1) := by decide +kernel
theorem dX0_giveLatestTo_47 : decode cX0_giveLatestTo 47 = .ok (.putfield 17, 3) := by decide +kernel
theorem dX0_giveLatestTo_50 : decode cX0_giveLatestTo 50 = .ok (.iconst 1, 1) := by decide +kernel
theorem dX0_giveLatestTo_51 : decode cX0_giveLatestTo 51 = .ok (.ireturn, 1) := by decide +kernel
theorem dX0_dropOldest_0 : decode cX0_dropOldest 0 = .ok (.aload_n 0, 1) := by decide +kernel
theorem dX0_dropOldest_1 : decode cX0_dropOldest 1 = .ok (.getfield 11, 3) := by decide +kernel
theorem dX0_dropOldest_4 : decode cX0_dropOldest 4 = .ok (.iconst 0, 1) := by decide +kernel
theorem dX0_dropOldest_5 : decode cX0_dropOldest 5 = .ok (.aaload, 1) := by decide +kernel
theorem dX0_dropOldest_6 : decode cX0_dropOldest 6 = .ok (.astore_n 1, 1) := by decide +kernel
theorem dX0_dropOldest_7 : decode cX0_dropOldest 7 = .ok (.iconst 1, 1) := by decide +kernel
theorem dX0_dropOldest_8 : decode cX0_dropOldest 8 = .ok (.istore_n 2, 1) := by decide +kernel
theorem dX0_dropOldest_9 : decode cX0_dropOldest 9 = .ok (.iload_n 2, 1) := by decide +kernel
theorem dX0_dropOldest_10 : decode cX0_dropOldest 10 = .ok (.iconst 4, 1) := by decide +kernel
theorem dX0_dropOldest_11 : decode cX0_dropOldest 11 = .ok (.if_icmp .ge 23, 3) := by decide +kernel
theorem dX0_dropOldest_14 : decode cX0_dropOldest 14 = .ok (.aload_n 0, 1) := by decide +kernel
theorem dX0_dropOldest_15 : decode cX0_dropOldest 15 = .ok (.getfield 11, 3) := by decide +kernel
theorem dX0_dropOldest_18 : decode cX0_dropOldest 18 = .ok (.iload_n 2, 1) := by decide +kernel
theorem dX0_dropOldest_19 : decode cX0_dropOldest 19 = .ok (.iconst 1, 1) := by decide +kernel
theorem dX0_dropOldest_20 : decode cX0_dropOldest 20 = .ok (.isub, 1) := by decide +kernel
theorem dX0_dropOldest_21 : decode cX0_dropOldest 21 = .ok (.aload_n 0, 1) := by decide +kernel
theorem dX0_dropOldest_22 : decode cX0_dropOldest 22 = .ok (.getfield 11, 3) := by decide +kernel
theorem dX0_dropOldest_25 : decode cX0_dropOldest 25 = .ok (.iload_n 2, 1) := by decide +kernel
theorem dX0_dropOldest_26 : decode cX0_dropOldest 26 = .ok (.aaload, 1) := by decide +kernel
theorem dX0_dropOldest_27 : decode cX0_dropOldest 27 = .ok (.aastore, 1) := by decide +kernel
theorem dX0_dropOldest_28 : decode cX0_dropOldest 28 = .ok (.iinc 2 1, 3) := by decide +kernel
theorem dX0_dropOldest_31 : decode cX0_dropOldest 31 = .ok (.goto (-22), 3) := by decide +kernel
theorem dX0_dropOldest_34 : decode cX0_dropOldest 34 = .ok (.aload_n 0, 1) := by decide +kernel
theorem dX0_dropOldest_35 : decode cX0_dropOldest 35 = .ok (.getfield 11, 3) := by decide +kernel
theorem dX0_dropOldest_38 : decode cX0_dropOldest 38 = .ok (.iconst 3, 1) := by decide +kernel
theorem dX0_dropOldest_39 : decode cX0_dropOldest 39 = .ok (.aload_n 1, 1) := by decide +kernel
theorem dX0_dropOldest_40 : decode cX0_dropOldest 40 = .ok (.aastore, 1) := by decide +kernel
theorem dX0_dropOldest_41 : decode cX0_dropOldest 41 = .ok (.aload_n 0, 1) := by decide +kernel
theorem dX0_dropOldest_42 : decode cX0_dropOldest 42 = .ok (.iconst 3, 1) := by decide +kernel
theorem dX0_dropOldest_43 : decode cX0_dropOldest 43 = .ok (.putfield 17, 3) := by decide +kernel
theorem dX0_dropOldest_46 : decode cX0_dropOldest 46 = .ok (.return_, 1) := by decide +kernel
theorem dX1_init_0 : decode cX1_init 0 = .ok (.aload_n 0, 1) := by decide +kernel
theorem dX1_init_1 : decode cX1_init 1 = .ok (.invokespecial 3, 3) := by decide +kernel
theorem dX1_init_4 : decode cX1_init 4 = .ok (.aload_n 0, 1) := by decide +kernel
theorem dX1_init_5 : decode cX1_init 5 = .ok (.bipush 60, 2) := by decide +kernel
theorem dX1_init_7 : decode cX1_init 7 = .ok (.newarray .char, 2) := by decide +kernel
theorem dX1_init_9 : decode cX1_init 9 = .ok (.putfield 9, 3) := by decide +kernel
theorem dX1_init_12 : decode cX1_init 12 = .ok (.aload_n 0, 1) := by decide +kernel
theorem dX1_init_13 : decode cX1_init 13 = .ok (.iconst 0, 1) := by decide +kernel
theorem dX1_init_14 : decode cX1_init 14 = .ok (.putfield 15, 3) := by decide +kernel
theorem dX1_init_17 : decode cX1_init 17 = .ok (.aload_n 0, 1) := by decide +kernel
theorem dX1_init_18 : decode cX1_init 18 = .ok (.bipush 12, 2) := by decide +kernel
theorem dX1_init_20 : decode cX1_init 20 = .ok (.newarray .int, 2) := by decide +kernel
theorem dX1_init_22 : decode cX1_init 22 = .ok (.putfield 19, 3) := by decide +kernel
theorem dX1_init_25 : decode cX1_init 25 = .ok (.aload_n 0, 1) := by decide +kernel
theorem dX1_init_26 : decode cX1_init 26 = .ok (.bipush 12, 2) := by decide +kernel
theorem dX1_init_28 : decode cX1_init 28 = .ok (.newarray .int, 2) := by decide +kernel
theorem dX1_init_30 : decode cX1_init 30 = .ok (.putfield 23, 3) := by decide +kernel
theorem dX1_init_33 : decode cX1_init 33 = .ok (.aload_n 0, 1) := by decide +kernel
theorem dX1_init_34 : decode cX1_init 34 = .ok (.bipush 12, 2) := by decide +kernel
theorem dX1_init_36 : decode cX1_init 36 = .ok (.newarray .int, 2) := by decide +kernel
theorem dX1_init_38 : decode cX1_init 38 = .ok (.putfield 26, 3) := by decide +kernel
theorem dX1_init_41 : decode cX1_init 41 = .ok (.aload_n 0, 1) := by decide +kernel
theorem dX1_init_42 : decode cX1_init 42 = .ok (.bipush 12, 2) := by decide +kernel
theorem dX1_init_44 : decode cX1_init 44 = .ok (.newarray .int, 2) := by decide +kernel
theorem dX1_init_46 : decode cX1_init 46 = .ok (.putfield 29, 3) := by decide +kernel
theorem dX1_init_49 : decode cX1_init 49 = .ok (.aload_n 0, 1) := by decide +kernel
theorem dX1_init_50 : decode cX1_init 50 = .ok (.iconst 0, 1) := by decide +kernel
theorem dX1_init_51 : decode cX1_init 51 = .ok (.putfield 32, 3) := by decide +kernel
theorem dX1_init_54 : decode cX1_init 54 = .ok (.aload_n 0, 1) := by decide +kernel
theorem dX1_init_55 : decode cX1_init 55 = .ok (.iconst 0, 1) := by decide +kernel
theorem dX1_init_56 : decode cX1_init 56 = .ok (.putfield 35, 3) := by decide +kernel
theorem dX1_init_59 : decode cX1_init 59 = .ok (.return_, 1) := by decide +kernel
theorem dX1_length_0 : decode cX1_length 0 = .ok (.aload_n 0, 1) := by decide +kernel
theorem dX1_length_1 : decode cX1_length 1 = .ok (.getfield 15, 3) := by decide +kernel
theorem dX1_length_4 : decode cX1_length 4 = .ok (.ireturn, 1) := by decide +kernel
theorem dX1_append_0 : decode cX1_append 0 = .ok (.aload_n 0, 1) := by decide +kernel
theorem dX1_append_1 : decode cX1_append 1 = .ok (.getfield 15, 3) := by decide +kernel
theorem dX1_append_4 : decode cX1_append 4 = .ok (.bipush 60, 2) := by decide +kernel
theorem dX1_append_6 : decode cX1_append 6 = .ok (.if_icmp .lt 6, 3) := by decide +kernel
theorem dX1_append_9 : decode cX1_append 9 = .ok (.bipush (-3), 2) := by decide +kernel
theorem dX1_append_11 : decode cX1_append 11 = .ok (.ireturn, 1) := by decide +kernel
theorem dX1_append_12 : decode cX1_append 12 = .ok (.aload_n 0, 1) := by decide +kernel
theorem dX1_append_13 : decode cX1_append 13 = .ok (.getfield 9, 3) := by decide +kernel
theorem dX1_append_16 : decode cX1_append 16 = .ok (.aload_n 0, 1) := by decide +kernel
theorem dX1_append_17 : decode cX1_append 17 = .ok (.getfield 15, 3) := by decide +kernel
theorem dX1_append_20 : decode cX1_append 20 = .ok (.iload_n 1, 1) := by decide +kernel
theorem dX1_append_21 : decode cX1_append 21 = .ok (.castore, 1) := by decide +kernel
theorem dX1_append_22 : decode cX1_append 22 = .ok (.aload_n 0, 1) := by decide +kernel
theorem dX1_append_23 : decode cX1_append 23 = .ok (.dup, 1) := by decide +kernel
theorem dX1_append_24 : decode cX1_append 24 = .ok (.getfield 15, 3) := by decide +kernel
theorem dX1_append_27 : decode cX1_append 27 = .ok (.iconst 1, 1) := by decide +kernel
theorem dX1_append_28 : decode cX1_append 28 = .ok (.iadd, 1) := by decide +kernel
theorem dX1_append_29 : decode cX1_append 29 = .ok (.putfield 15, 3) := by decide +kernel
theorem dX1_append_32 : decode cX1_append 32 = .ok (.aload_n 0, 1) := by decide +kernel
theorem dX1_append_33 : decode cX1_append 33 = .ok (.getfield 15, 3) := by decide +kernel
theorem dX1_append_36 : decode cX1_append 36 = .ok (.ireturn, 1) := by decide +kernel
theorem dX1_empty_0 : decode cX1_empty 0 = .ok (.aload_n 0, 1) := by decide +kernel
theorem dX1_empty_1 : decode cX1_empty 1 = .ok (.getfield 15, 3) := by decide +kernel
theorem dX1_empty_4 : decode cX1_empty 4 = .ok (.istore_n 1, 1) := by decide +kernel
theorem dX1_empty_5 : decode cX1_empty 5 = .ok (.aload_n 0, 1) := by decide +kernel
theorem dX1_empty_6 : decode cX1_empty 6 = .ok (.iconst 0, 1) := by decide +kernel
theorem dX1_empty_7 : decode cX1_empty 7 = .ok (.putfield 15, 3) := by decide +kernel
theorem dX1_empty_10 : decode cX1_empty 10 = .ok (.iload_n 1, 1) := by decide +kernel
theorem dX1_empty_11 : decode cX1_empty 11 = .ok (.ireturn, 1) := by decide +kernel
theorem dX1_readAdditions_0 : decode cX1_readAdditions 0 = .ok (.aload_n 0, 1) := by decide +kernel
theorem dX1_readAdditions_1 : decode cX1_readAdditions 1 = .ok (.iconst 0, 1) := by decide +kernel
theorem dX1_readAdditions_2 : decode cX1_readAdditions 2 = .ok (.putfield 32, 3) := by decide +kernel
theorem dX1_readAdditions_5 : decode cX1_readAdditions 5 = .ok (.aload_n 0, 1) := by decide +kernel
theorem dX1_readAdditions_6 : decode cX1_readAdditions 6 = .ok (.iconst 0, 1) := by decide +kernel
theorem dX1_readAdditions_7 : decode cX1_readAdditions 7 = .ok (.putfield 35, 3) := by decide +kernel
theorem dX1_readAdditions_10 : decode cX1_readAdditions 10 = .ok (.iconst 0, 1) := by decide +kernel
theorem dX1_readAdditions_11 : decode cX1_readAdditions 11 = .ok (.istore_n 1, 1) := by decide +kernel
theorem dX1_readAdditions_12 : decode cX1_readAdditions 12 = .ok (.iload_n 1, 1) := by decide +kernel
theorem dX1_readAdditions_13 : decode cX1_readAdditions 13 = .ok (.bipush 12, 2) := by decide +kernel
theorem dX1_readAdditions_15 : decode cX1_readAdditions 15 = .ok (.if_icmp .gt 48, 3) := by decide +kernel
theorem dX1_readAdditions_18 : decode cX1_readAdditions 18 = .ok (.aload_n 0, 1) := by decide +kernel
theorem dX1_readAdditions_19 : decode cX1_readAdditions 19 = .ok (.invokevirtual 38, 3) := by decide +kernel
theorem dX1_readAdditions_22 : decode cX1_readAdditions 22 = .ok (.ifCond .ne 8, 3) := by decide +kernel
theorem dX1_readAdditions_25 : decode cX1_readAdditions 25 = .ok (.aload_n 0, 1) := by decide +kernel
theorem dX1_readAdditions_26 : decode cX1_readAdditions 26 = .ok (.getfield 35, 3) := by decide +kernel
theorem dX1_readAdditions_29 : decode cX1_readAdditions 29 = .ok (.ireturn, 1) := by decide +kernel
theorem dX1_readAdditions_30 : decode cX1_readAdditions 30 = .ok (.aload_n 0, 1) := by decide +kernel
theorem dX1_readAdditions_31 : decode cX1_readAdditions 31 = .ok (.getfield 35, 3) := by decide +kernel
theorem dX1_readAdditions_34 : decode cX1_readAdditions 34 = .ok (.aload_n 0, 1) := by decide +kernel
theorem dX1_readAdditions_35 : decode cX1_readAdditions 35 = .ok (.getfield 15, 3) := by decide +kernel
theorem dX1_readAdditions_38 : decode cX1_readAdditions 38 = .ok (.if_icmp .lt 5, 3) := by decide +kernel
theorem dX1_readAdditions_41 : decode cX1_readAdditions 41 = .ok (.iconst (-1), 1) := by decide +kernel
theorem dX1_readAdditions_42 : decode cX1_readAdditions 42 = .ok (.ireturn, 1) := by decide +kernel
theorem dX1_readAdditions_43 : decode cX1_readAdditions 43 = .ok (.aload_n 0, 1) := by decide +kernel
theorem dX1_readAdditions_44 : decode cX1_readAdditions 44 = .ok (.bipush 59, 2) := by decide +kernel
theorem dX1_readAdditions_46 : decode cX1_readAdditions 46 = .ok (.invokevirtual 42, 3) := by decide +kernel
theorem dX1_readAdditions_49 : decode cX1_readAdditions 49 = .ok (.ifCond .ne 8, 3) := by decide +kernel
theorem dX1_readAdditions_52 : decode cX1_readAdditions 52 = .ok (.aload_n 0, 1) := by decide +kernel
theorem dX1_readAdditions_53 : decode cX1_readAdditions 53 = .ok (.getfield 35, 3) := by decide +kernel
theorem dX1_readAdditions_56 : decode cX1_readAdditions 56 = .ok (.ireturn, 1) := by decide +kernel
theorem dX1_readAdditions_57 : decode cX1_readAdditions 57 = .ok (.iinc 1 1, 3) := by decide +kernel
theorem dX1_readAdditions_60 : decode cX1_readAdditions 60 = .ok (.goto (-48), 3) := by decide +kernel
theorem dX1_readAdditions_63 : decode cX1_readAdditions 63 = .ok (.aload_n 0, 1) := by decide +kernel
theorem dX1_readAdditions_64 : decode cX1_readAdditions 64 = .ok (.getfield 35, 3) := by decide +kernel
theorem dX1_readAdditions_67 : decode cX1_readAdditions 67 = .ok (.ireturn, 1) := by decide +kernel
theorem dX1_makeAdditions_0 : decode cX1_makeAdditions 0 = .ok (.iconst 0, 1) := by decide +kernel
theorem dX1_makeAdditions_1 : decode cX1_makeAdditions 1 = .ok (.istore_n 2, 1) := by decide +kernel
theorem dX1_makeAdditions_2 : decode cX1_makeAdditions 2 = .ok (.iload_n 2, 1) := by decide +kernel
theorem dX1_makeAdditions_3 : decode cX1_makeAdditions 3 = .ok (.aload_n 0, 1) := by decide +kernel
theorem dX1_makeAdditions_4 : decode cX1_makeAdditions 4 = .ok (.getfield 32, 3) := by decide +kernel
theorem dX1_makeAdditions_7 : decode cX1_makeAdditions 7 = .ok (.if_icmp .ge 80, 3) := by decide +kernel
theorem dX1_makeAdditions_10 : decode cX1_makeAdditions 10 = .ok (.iload_n 2, 1) := by decide +kernel
theorem dX1_makeAdditions_11 : decode cX1_makeAdditions 11 = .ok (.bipush 12, 2) := by decide +kernel
theorem dX1_makeAdditions_13 : decode cX1_makeAdditions 13 = .ok (.if_icmp .ge 74, 3) := by decide +kernel
theorem dX1_makeAdditions_16 : decode cX1_makeAdditions 16 = .ok (.aload_n 0, 1) := by decide +kernel
theorem dX1_makeAdditions_17 : decode cX1_makeAdditions 17 = .ok (.getfield 23, 3) := by decide +kernel
theorem dX1_makeAdditions_20 : decode cX1_makeAdditions 20 = .ok (.iload_n 2, 1) := by decide +kernel
theorem dX1_makeAdditions_21 : decode cX1_makeAdditions 21 = .ok (.iaload, 1) := by decide +kernel
theorem dX1_makeAdditions_22 : decode cX1_makeAdditions 22 = .ok (.bipush (-5), 2) := by decide +kernel
theorem dX1_makeAdditions_24 : decode cX1_makeAdditions 24 = .ok (.if_icmp .ne 28, 3) := by decide +kernel
theorem dX1_makeAdditions_27 : decode cX1_makeAdditions 27 = .ok (.aload_n 1, 1) := by decide +kernel
theorem dX1_makeAdditions_28 : decode cX1_makeAdditions 28 = .ok (.aload_n 0, 1) := by decide +kernel
theorem dX1_makeAdditions_29 : decode cX1_makeAdditions 29 = .ok (.getfield 19, 3) := by decide +kernel
theorem dX1_makeAdditions_32 : decode cX1_makeAdditions 32 = .ok (.iload_n 2, 1) := by decide +kernel
theorem dX1_makeAdditions_33 : decode cX1_makeAdditions 33 = .ok (.iaload, 1) := by decide +kernel
theorem dX1_makeAdditions_34 : decode cX1_makeAdditions 34 = .ok (.aload_n 0, 1) := by decide +kernel
theorem dX1_makeAdditions_35 : decode cX1_makeAdditions 35 = .ok (.getfield 26, 3) := by decide +kernel
theorem dX1_makeAdditions_38 : decode cX1_makeAdditions 38 = .ok (.iload_n 2, 1) := by decide +kernel
theorem dX1_makeAdditions_39 : decode cX1_makeAdditions 39 = .ok (.iaload, 1) := by decide +kernel
theorem dX1_makeAdditions_40 : decode cX1_makeAdditions 40 = .ok (.aload_n 0, 1) := by decide +kernel
theorem dX1_makeAdditions_41 : decode cX1_makeAdditions 41 = .ok (.getfield 29, 3) := by decide +kernel
theorem dX1_makeAdditions_44 : decode cX1_makeAdditions 44 = .ok (.iload_n 2, 1) := by decide +kernel
theorem dX1_makeAdditions_45 : decode cX1_makeAdditions 45 = .ok (.iaload, 1) := by decide +kernel
theorem dX1_makeAdditions_46 : decode cX1_makeAdditions 46 = .ok (.invokevirtual 46, 3) := by decide +kernel
theorem dX1_makeAdditions_49 : decode cX1_makeAdditions 49 = .ok (.goto 19, 3) := by decide +kernel
theorem dX1_makeAdditions_52 : decode cX1_makeAdditions 52 = .ok (.aload_n 1, 1) := by decide +kernel
theorem dX1_makeAdditions_53 : decode cX1_makeAdditions 53 = .ok (.aload_n 0, 1) := by decide +kernel
theorem dX1_makeAdditions_54 : decode cX1_makeAdditions 54 = .ok (.getfield 19, 3) := by decide +kernel
theorem dX1_makeAdditions_57 : decode cX1_makeAdditions 57 = .ok (.iload_n 2, 1) := by decide +kernel
theorem dX1_makeAdditions_58 : decode cX1_makeAdditions 58 = .ok (.iaload, 1) := by decide +kernel
theorem dX1_makeAdditions_59 : decode cX1_makeAdditions 59 = .ok (.aload_n 0, 1) := by decide +kernel
theorem dX1_makeAdditions_60 : decode cX1_makeAdditions 60 = .ok (.getfield 23, 3) := by decide +kernel
theorem dX1_makeAdditions_63 : decode cX1_makeAdditions 63 = .ok (.iload_n 2, 1) := by decide +kernel
theorem dX1_makeAdditions_64 : decode cX1_makeAdditions 64 = .ok (.iaload, 1) := by decide +kernel
theorem dX1_makeAdditions_65 : decode cX1_makeAdditions 65 = .ok (.invokevirtual 52, 3) := by decide +kernel
theorem dX1_makeAdditions_68 : decode cX1_makeAdditions 68 = .ok (.istore_n 3, 1) := by decide +kernel
theorem dX1_makeAdditions_69 : decode cX1_makeAdditions 69 = .ok (.iload_n 3, 1) := by decide +kernel
theorem dX1_makeAdditions_70 : decode cX1_makeAdditions 70 = .ok (.ifCond .ge 11, 3) := by decide +kernel
theorem dX1_makeAdditions_73 : decode cX1_makeAdditions 73 = .ok (.iload_n 3, 1) := by decide +kernel
theorem dX1_makeAdditions_74 : decode cX1_makeAdditions 74 = .ok (.bipush (-5), 2) := by decide +kernel
theorem dX1_makeAdditions_76 : decode cX1_makeAdditions 76 = .ok (.if_icmp .eq 5, 3) := by decide +kernel
theorem dX1_makeAdditions_79 : decode cX1_makeAdditions 79 = .ok (.iload_n 3, 1) := by decide +kernel
theorem dX1_makeAdditions_80 : decode cX1_makeAdditions 80 = .ok (.ireturn, 1) := by decide +kernel
theorem dX1_makeAdditions_81 : decode cX1_makeAdditions 81 = .ok (.iinc 2 1, 3) := by decide +kernel
theorem dX1_makeAdditions_84 : decode cX1_makeAdditions 84 = .ok (.goto (-82), 3) := by decide +kernel
theorem dX1_makeAdditions_87 : decode cX1_makeAdditions 87 = .ok (.aload_n 0, 1) := by decide +kernel
theorem dX1_makeAdditions_88 : decode cX1_makeAdditions 88 = .ok (.getfield 32, 3) := by decide +kernel
theorem dX1_makeAdditions_91 : decode cX1_makeAdditions 91 = .ok (.ireturn, 1) := by decide +kernel
theorem dX1_readAddition_0 : decode cX1_readAddition 0 = .ok (.aload_n 0, 1) := by decide +kernel
theorem dX1_readAddition_1 : decode cX1_readAddition 1 = .ok (.invokevirtual 56, 3) := by decide +kernel
theorem dX1_readAddition_4 : decode cX1_readAddition 4 = .ok (.istore_n 1, 1) := by decide +kernel
theorem dX1_readAddition_5 : decode cX1_readAddition 5 = .ok (.iload_n 1, 1) := by decide +kernel
theorem dX1_readAddition_6 : decode cX1_readAddition 6 = .ok (.iconst (-1), 1) := by decide +kernel
theorem dX1_readAddition_7 : decode cX1_readAddition 7 = .ok (.if_icmp .ne 5, 3) := by decide +kernel
theorem dX1_readAddition_10 : decode cX1_readAddition 10 = .ok (.iconst 0, 1) := by decide +kernel
theorem dX1_readAddition_11 : decode cX1_readAddition 11 = .ok (.ireturn, 1) := by decide +kernel
theorem dX1_readAddition_12 : decode cX1_readAddition 12 = .ok (.aload_n 0, 1) := by decide +kernel
theorem dX1_readAddition_13 : decode cX1_readAddition 13 = .ok (.bipush 61, 2) := by decide +kernel
theorem dX1_readAddition_15 : decode cX1_readAddition 15 = .ok (.invokevirtual 42, 3) := by decide +kernel
theorem dX1_readAddition_18 : decode cX1_readAddition 18 = .ok (.ifCond .eq 9, 3) := by decide +kernel
theorem dX1_readAddition_21 : decode cX1_readAddition 21 = .ok (.aload_n 0, 1) := by decide +kernel
theorem dX1_readAddition_22 : decode cX1_readAddition 22 = .ok (.iload_n 1, 1) := by decide +kernel
theorem dX1_readAddition_23 : decode cX1_readAddition 23 = .ok (.invokevirtual 60, 3) := by decide +kernel
theorem dX1_readAddition_26 : decode cX1_readAddition 26 = .ok (.ireturn, 1) := by decide +kernel
theorem dX1_readAddition_27 : decode cX1_readAddition 27 = .ok (.aload_n 0, 1) := by decide +kernel
theorem dX1_readAddition_28 : decode cX1_readAddition 28 = .ok (.bipush 62, 2) := by decide +kernel
theorem dX1_readAddition_30 : decode cX1_readAddition 30 = .ok (.invokevirtual 42, 3) := by decide +kernel
theorem dX1_readAddition_33 : decode cX1_readAddition 33 = .ok (.ifCond .eq 15, 3) := by decide +kernel
theorem dX1_readAddition_36 : decode cX1_readAddition 36 = .ok (.aload_n 0, 1) := by decide +kernel
theorem dX1_readAddition_37 : decode cX1_readAddition 37 = .ok (.iload_n 1, 1) := by decide +kernel
theorem dX1_readAddition_38 : decode cX1_readAddition 38 = .ok (.invokevirtual 64, 3) := by decide +kernel
theorem dX1_readAddition_41 : decode cX1_readAddition 41 = .ok (.ifCond .eq 7, 3) := by decide +kernel
theorem dX1_readAddition_44 : decode cX1_readAddition 44 = .ok (.iconst 1, 1) := by decide +kernel
theorem dX1_readAddition_45 : decode cX1_readAddition 45 = .ok (.goto 4, 3) := by decide +kernel
theorem dX1_readAddition_48 : decode cX1_readAddition 48 = .ok (.iconst 0, 1) := by decide +kernel
theorem dX1_readAddition_49 : decode cX1_readAddition 49 = .ok (.ireturn, 1) := by decide +kernel
theorem dX1_readMember_0 : decode cX1_readMember 0 = .ok (.aload_n 0, 1) := by decide +kernel
theorem dX1_readMember_1 : decode cX1_readMember 1 = .ok (.iconst 1, 1) := by decide +kernel
theorem dX1_readMember_2 : decode cX1_readMember 2 = .ok (.bipush 40, 2) := by decide +kernel
theorem dX1_readMember_4 : decode cX1_readMember 4 = .ok (.invokevirtual 67, 3) := by decide +kernel
theorem dX1_readMember_7 : decode cX1_readMember 7 = .ok (.istore_n 2, 1) := by decide +kernel
theorem dX1_readMember_8 : decode cX1_readMember 8 = .ok (.iload_n 2, 1) := by decide +kernel
theorem dX1_readMember_9 : decode cX1_readMember 9 = .ok (.iconst (-1), 1) := by decide +kernel
theorem dX1_readMember_10 : decode cX1_readMember 10 = .ok (.if_icmp .ne 5, 3) := by decide +kernel
theorem dX1_readMember_13 : decode cX1_readMember 13 = .ok (.iconst 0, 1) := by decide +kernel
theorem dX1_readMember_14 : decode cX1_readMember 14 = .ok (.ireturn, 1) := by decide +kernel
theorem dX1_readMember_15 : decode cX1_readMember 15 = .ok (.iconst 0, 1) := by decide +kernel
theorem dX1_readMember_16 : decode cX1_readMember 16 = .ok (.istore_n 3, 1) := by decide +kernel
theorem dX1_readMember_17 : decode cX1_readMember 17 = .ok (.aload_n 0, 1) := by decide +kernel
theorem dX1_readMember_18 : decode cX1_readMember 18 = .ok (.bipush 44, 2) := by decide +kernel
theorem dX1_readMember_20 : decode cX1_readMember 20 = .ok (.invokevirtual 42, 3) := by decide +kernel
theorem dX1_readMember_23 : decode cX1_readMember 23 = .ok (.ifCond .eq 12, 3) := by decide +kernel
theorem dX1_readMember_26 : decode cX1_readMember 26 = .ok (.aload_n 0, 1) := by decide +kernel
theorem dX1_readMember_27 : decode cX1_readMember 27 = .ok (.iconst 0, 1) := by decide +kernel
theorem dX1_readMember_28 : decode cX1_readMember 28 = .ok (.sipush 9999, 3) := by decide +kernel
theorem dX1_readMember_31 : decode cX1_readMember 31 = .ok (.invokevirtual 67, 3) := by decide +kernel
theorem dX1_readMember_34 : decode cX1_readMember 34 = .ok (.istore_n 3, 1) := by decide +kernel
theorem dX1_readMember_35 : decode cX1_readMember 35 = .ok (.iload_n 3, 1) := by decide +kernel
theorem dX1_readMember_36 : decode cX1_readMember 36 = .ok (.iconst (-1), 1) := by decide +kernel
theorem dX1_readMember_37 : decode cX1_readMember 37 = .ok (.if_icmp .eq 19, 3) := by decide +kernel
theorem dX1_readMember_40 : decode cX1_readMember 40 = .ok (.aload_n 0, 1) := by decide +kernel
theorem dX1_readMember_41 : decode cX1_readMember 41 = .ok (.iload_n 1, 1) := by decide +kernel
theorem dX1_readMember_42 : decode cX1_readMember 42 = .ok (.bipush (-5), 2) := by decide +kernel
theorem dX1_readMember_44 : decode cX1_readMember 44 = .ok (.iload_n 2, 1) := by decide +kernel
theorem dX1_readMember_45 : decode cX1_readMember 45 = .ok (.iload_n 3, 1) := by decide +kernel
theorem dX1_readMember_46 : decode cX1_readMember 46 = .ok (.invokevirtual 70, 3) := by decide +kernel
theorem dX1_readMember_49 : decode cX1_readMember 49 = .ok (.ifCond .eq 7, 3) := by decide +kernel
theorem dX1_readMember_52 : decode cX1_readMember 52 = .ok (.iconst 1, 1) := by decide +kernel
theorem dX1_readMember_53 : decode cX1_readMember 53 = .ok (.goto 4, 3) := by decide +kernel
theorem dX1_readMember_56 : decode cX1_readMember 56 = .ok (.iconst 0, 1) := by decide +kernel
theorem dX1_readMember_57 : decode cX1_readMember 57 = .ok (.ireturn, 1) := by decide +kernel
theorem dX1_readAlias_0 : decode cX1_readAlias 0 = .ok (.aload_n 0, 1) := by decide +kernel
theorem dX1_readAlias_1 : decode cX1_readAlias 1 = .ok (.invokevirtual 56, 3) := by decide +kernel
theorem dX1_readAlias_4 : decode cX1_readAlias 4 = .ok (.istore_n 2, 1) := by decide +kernel
theorem dX1_readAlias_5 : decode cX1_readAlias 5 = .ok (.iload_n 2, 1) := by decide +kernel
theorem dX1_readAlias_6 : decode cX1_readAlias 6 = .ok (.iconst (-1), 1) := by decide +kernel
theorem dX1_readAlias_7 : decode cX1_readAlias 7 = .ok (.if_icmp .eq 18, 3) := by decide +kernel
theorem dX1_readAlias_10 : decode cX1_readAlias 10 = .ok (.aload_n 0, 1) := by decide +kernel
theorem dX1_readAlias_11 : decode cX1_readAlias 11 = .ok (.iload_n 1, 1) := by decide +kernel
theorem dX1_readAlias_12 : decode cX1_readAlias 12 = .ok (.iload_n 2, 1) := by decide +kernel
theorem dX1_readAlias_13 : decode cX1_readAlias 13 = .ok (.iconst 0, 1) := by decide +kernel
theorem dX1_readAlias_14 : decode cX1_readAlias 14 = .ok (.iconst 0, 1) := by decide +kernel
theorem dX1_readAlias_15 : decode cX1_readAlias 15 = .ok (.invokevirtual 70, 3) := by decide +kernel
theorem dX1_readAlias_18 : decode cX1_readAlias 18 = .ok (.ifCond .eq 7, 3) := by decide +kernel
theorem dX1_readAlias_21 : decode cX1_readAlias 21 = .ok (.iconst 1, 1) := by decide +kernel
theorem dX1_readAlias_22 : decode cX1_readAlias 22 = .ok (.goto 4, 3) := by decide +kernel
theorem dX1_readAlias_25 : decode cX1_readAlias 25 = .ok (.iconst 0, 1) := by decide +kernel
theorem dX1_readAlias_26 : decode cX1_readAlias 26 = .ok (.ireturn, 1) := by decide +kernel
theorem dX1_readName_0 : decode cX1_readName 0 = .ok (.aload_n 0, 1) := by decide +kernel
theorem dX1_readName_1 : decode cX1_readName 1 = .ok (.invokevirtual 74, 3) := by decide +kernel
theorem dX1_readName_4 : decode cX1_readName 4 = .ok (.istore_n 1, 1) := by decide +kernel
theorem dX1_readName_5 : decode cX1_readName 5 = .ok (.iload_n 1, 1) := by decide +kernel
theorem dX1_readName_6 : decode cX1_readName 6 = .ok (.iconst (-1), 1) := by decide +kernel
theorem dX1_readName_7 : decode cX1_readName 7 = .ok (.if_icmp .ne 5, 3) := by decide +kernel
theorem dX1_readName_10 : decode cX1_readName 10 = .ok (.iconst (-1), 1) := by decide +kernel
theorem dX1_readName_11 : decode cX1_readName 11 = .ok (.ireturn, 1) := by decide +kernel
theorem dX1_readName_12 : decode cX1_readName 12 = .ok (.aload_n 0, 1) := by decide +kernel
theorem dX1_readName_13 : decode cX1_readName 13 = .ok (.invokevirtual 74, 3) := by decide +kernel
theorem dX1_readName_16 : decode cX1_readName 16 = .ok (.istore_n 2, 1) := by decide +kernel
theorem dX1_readName_17 : decode cX1_readName 17 = .ok (.iload_n 2, 1) := by decide +kernel
theorem dX1_readName_18 : decode cX1_readName 18 = .ok (.iconst (-1), 1) := by decide +kernel
theorem dX1_readName_19 : decode cX1_readName 19 = .ok (.if_icmp .ne 5, 3) := by decide +kernel
theorem dX1_readName_22 : decode cX1_readName 22 = .ok (.iconst (-1), 1) := by decide +kernel
theorem dX1_readName_23 : decode cX1_readName 23 = .ok (.ireturn, 1) := by decide +kernel
theorem dX1_readName_24 : decode cX1_readName 24 = .ok (.iload_n 1, 1) := by decide +kernel
theorem dX1_readName_25 : decode cX1_readName 25 = .ok (.bipush 26, 2) := by decide +kernel
theorem dX1_readName_27 : decode cX1_readName 27 = .ok (.imul, 1) := by decide +kernel
theorem dX1_readName_28 : decode cX1_readName 28 = .ok (.iload_n 2, 1) := by decide +kernel
theorem dX1_readName_29 : decode cX1_readName 29 = .ok (.iadd, 1) := by decide +kernel
theorem dX1_readName_30 : decode cX1_readName 30 = .ok (.ireturn, 1) := by decide +kernel
theorem dX1_readLetter_0 : decode cX1_readLetter 0 = .ok (.aload_n 0, 1) := by decide +kernel
theorem dX1_readLetter_1 : decode cX1_readLetter 1 = .ok (.invokevirtual 77, 3) := by decide +kernel
theorem dX1_readLetter_4 : decode cX1_readLetter 4 = .ok (.istore_n 1, 1) := by decide +kernel
theorem dX1_readLetter_5 : decode cX1_readLetter 5 = .ok (.iload_n 1, 1) := by decide +kernel
theorem dX1_readLetter_6 : decode cX1_readLetter 6 = .ok (.bipush 65, 2) := by decide +kernel
theorem dX1_readLetter_8 : decode cX1_readLetter 8 = .ok (.if_icmp .lt 9, 3) := by decide +kernel
theorem dX1_readLetter_11 : decode cX1_readLetter 11 = .ok (.iload_n 1, 1) := by decide +kernel
theorem dX1_readLetter_12 : decode cX1_readLetter 12 = .ok (.bipush 90, 2) := by decide +kernel
theorem dX1_readLetter_14 : decode cX1_readLetter 14 = .ok (.if_icmp .le 5, 3) := by decide +kernel
theorem dX1_readLetter_17 : decode cX1_readLetter 17 = .ok (.iconst (-1), 1) := by decide +kernel
theorem dX1_readLetter_18 : decode cX1_readLetter 18 = .ok (.ireturn, 1) := by decide +kernel
theorem dX1_readLetter_19 : decode cX1_readLetter 19 = .ok (.aload_n 0, 1) := by decide +kernel
theorem dX1_readLetter_20 : decode cX1_readLetter 20 = .ok (.dup, 1) := by decide +kernel
theorem dX1_readLetter_21 : decode cX1_readLetter 21 = .ok (.getfield 35, 3) := by decide +kernel
theorem dX1_readLetter_24 : decode cX1_readLetter 24 = .ok (.iconst 1, 1) := by decide +kernel
theorem dX1_readLetter_25 : decode cX1_readLetter 25 = .ok (.iadd, 1) := by decide +kernel
theorem dX1_readLetter_26 : decode cX1_readLetter 26 = .ok (.putfield 35, 3) := by decide +kernel
theorem dX1_readLetter_29 : decode cX1_readLetter 29 = .ok (.iload_n 1, 1) := by decide +kernel
theorem dX1_readLetter_30 : decode cX1_readLetter 30 = .ok (.bipush 65, 2) := by decide +kernel
theorem dX1_readLetter_32 : decode cX1_readLetter 32 = .ok (.isub, 1) := by decide +kernel
theorem dX1_readLetter_33 : decode cX1_readLetter 33 = .ok (.ireturn, 1) := by decide +kernel
theorem dX1_readNumber_0 : decode cX1_readNumber 0 = .ok (.aload_n 0, 1) := by decide +kernel
theorem dX1_readNumber_1 : decode cX1_readNumber 1 = .ok (.invokevirtual 80, 3) := by decide +kernel
theorem dX1_readNumber_4 : decode cX1_readNumber 4 = .ok (.istore_n 3, 1) := by decide +kernel
theorem dX1_readNumber_5 : decode cX1_readNumber 5 = .ok (.iload_n 3, 1) := by decide +kernel
theorem dX1_readNumber_6 : decode cX1_readNumber 6 = .ok (.iload_n 1, 1) := by decide +kernel
theorem dX1_readNumber_7 : decode cX1_readNumber 7 = .ok (.if_icmp .ge 5, 3) := by decide +kernel
theorem dX1_readNumber_10 : decode cX1_readNumber 10 = .ok (.iconst (-1), 1) := by decide +kernel
theorem dX1_readNumber_11 : decode cX1_readNumber 11 = .ok (.ireturn, 1) := by decide +kernel
theorem dX1_readNumber_12 : decode cX1_readNumber 12 = .ok (.aload_n 0, 1) := by decide +kernel
theorem dX1_readNumber_13 : decode cX1_readNumber 13 = .ok (.dup, 1) := by decide +kernel
theorem dX1_readNumber_14 : decode cX1_readNumber 14 = .ok (.getfield 35, 3) := by decide +kernel
theorem dX1_readNumber_17 : decode cX1_readNumber 17 = .ok (.iconst 1, 1) := by decide +kernel
theorem dX1_readNumber_18 : decode cX1_readNumber 18 = .ok (.iadd, 1) := by decide +kernel
theorem dX1_readNumber_19 : decode cX1_readNumber 19 = .ok (.putfield 35, 3) := by decide +kernel
theorem dX1_readNumber_22 : decode cX1_readNumber 22 = .ok (.iconst 1, 1) := by decide +kernel
theorem dX1_readNumber_23 : decode cX1_readNumber 23 = .ok (.istore 4, 2) := by decide +kernel
theorem dX1_readNumber_25 : decode cX1_readNumber 25 = .ok (.iload 4, 2) := by decide +kernel
theorem dX1_readNumber_27 : decode cX1_readNumber 27 = .ok (.iconst 4, 1) := by decide +kernel
theorem dX1_readNumber_28 : decode cX1_readNumber 28 = .ok (.if_icmp .ge 56, 3) := by decide +kernel
theorem dX1_readNumber_31 : decode cX1_readNumber 31 = .ok (.aload_n 0, 1) := by decide +kernel
theorem dX1_readNumber_32 : decode cX1_readNumber 32 = .ok (.invokevirtual 80, 3) := by decide +kernel
theorem dX1_readNumber_35 : decode cX1_readNumber 35 = .ok (.istore 5, 2) := by decide +kernel
theorem dX1_readNumber_37 : decode cX1_readNumber 37 = .ok (.iload_n 3, 1) := by decide +kernel
theorem dX1_readNumber_38 : decode cX1_readNumber 38 = .ok (.ifCond .eq 20, 3) := by decide +kernel
theorem dX1_readNumber_41 : decode cX1_readNumber 41 = .ok (.iload 5, 2) := by decide +kernel
theorem dX1_readNumber_43 : decode cX1_readNumber 43 = .ok (.iconst (-1), 1) := by decide +kernel
theorem dX1_readNumber_44 : decode cX1_readNumber 44 = .ok (.if_icmp .eq 14, 3) := by decide +kernel
theorem dX1_readNumber_47 : decode cX1_readNumber 47 = .ok (.iload_n 3, 1) := by decide +kernel
theorem dX1_readNumber_48 : decode cX1_readNumber 48 = .ok (.bipush 10, 2) := by decide +kernel
theorem dX1_readNumber_50 : decode cX1_readNumber 50 = .ok (.imul, 1) := by decide +kernel
theorem dX1_readNumber_51 : decode cX1_readNumber 51 = .ok (.iload 5, 2) := by decide +kernel
theorem dX1_readNumber_53 : decode cX1_readNumber 53 = .ok (.iadd, 1) := by decide +kernel
theorem dX1_readNumber_54 : decode cX1_readNumber 54 = .ok (.iload_n 2, 1) := by decide +kernel
theorem dX1_readNumber_55 : decode cX1_readNumber 55 = .ok (.if_icmp .le 5, 3) := by decide +kernel
theorem dX1_readNumber_58 : decode cX1_readNumber 58 = .ok (.iload_n 3, 1) := by decide +kernel
theorem dX1_readNumber_59 : decode cX1_readNumber 59 = .ok (.ireturn, 1) := by decide +kernel
theorem dX1_readNumber_60 : decode cX1_readNumber 60 = .ok (.iload_n 3, 1) := by decide +kernel
theorem dX1_readNumber_61 : decode cX1_readNumber 61 = .ok (.bipush 10, 2) := by decide +kernel
theorem dX1_readNumber_63 : decode cX1_readNumber 63 = .ok (.imul, 1) := by decide +kernel
theorem dX1_readNumber_64 : decode cX1_readNumber 64 = .ok (.iload 5, 2) := by decide +kernel
theorem dX1_readNumber_66 : decode cX1_readNumber 66 = .ok (.iadd, 1) := by decide +kernel
theorem dX1_readNumber_67 : decode cX1_readNumber 67 = .ok (.istore_n 3, 1) := by decide +kernel
theorem dX1_readNumber_68 : decode cX1_readNumber 68 = .ok (.aload_n 0, 1) := by decide +kernel
theorem dX1_readNumber_69 : decode cX1_readNumber 69 = .ok (.dup, 1) := by decide +kernel
theorem dX1_readNumber_70 : decode cX1_readNumber 70 = .ok (.getfield 35, 3) := by decide +kernel
theorem dX1_readNumber_73 : decode cX1_readNumber 73 = .ok (.iconst 1, 1) := by decide +kernel
theorem dX1_readNumber_74 : decode cX1_readNumber 74 = .ok (.iadd, 1) := by decide +kernel
theorem dX1_readNumber_75 : decode cX1_readNumber 75 = .ok (.putfield 35, 3) := by decide +kernel
theorem dX1_readNumber_78 : decode cX1_readNumber 78 = .ok (.iinc 4 1, 3) := by decide +kernel
theorem dX1_readNumber_81 : decode cX1_readNumber 81 = .ok (.goto (-56), 3) := by decide +kernel
theorem dX1_readNumber_84 : decode cX1_readNumber 84 = .ok (.iload_n 3, 1) := by decide +kernel
theorem dX1_readNumber_85 : decode cX1_readNumber 85 = .ok (.ireturn, 1) := by decide +kernel
theorem dX1_nextDigit_0 : decode cX1_nextDigit 0 = .ok (.aload_n 0, 1) := by decide +kernel
theorem dX1_nextDigit_1 : decode cX1_nextDigit 1 = .ok (.invokevirtual 77, 3) := by decide +kernel
theorem dX1_nextDigit_4 : decode cX1_nextDigit 4 = .ok (.istore_n 1, 1) := by decide +kernel
theorem dX1_nextDigit_5 : decode cX1_nextDigit 5 = .ok (.iload_n 1, 1) := by decide +kernel
theorem dX1_nextDigit_6 : decode cX1_nextDigit 6 = .ok (.bipush 48, 2) := by decide +kernel
theorem dX1_nextDigit_8 : decode cX1_nextDigit 8 = .ok (.if_icmp .lt 16, 3) := by decide +kernel
theorem dX1_nextDigit_11 : decode cX1_nextDigit 11 = .ok (.iload_n 1, 1) := by decide +kernel
theorem dX1_nextDigit_12 : decode cX1_nextDigit 12 = .ok (.bipush 57, 2) := by decide +kernel
theorem dX1_nextDigit_14 : decode cX1_nextDigit 14 = .ok (.if_icmp .gt 10, 3) := by decide +kernel
theorem dX1_nextDigit_17 : decode cX1_nextDigit 17 = .ok (.iload_n 1, 1) := by decide +kernel
theorem dX1_nextDigit_18 : decode cX1_nextDigit 18 = .ok (.bipush 48, 2) := by decide +kernel
theorem dX1_nextDigit_20 : decode cX1_nextDigit 20 = .ok (.isub, 1) := by decide +kernel
theorem dX1_nextDigit_21 : decode cX1_nextDigit 21 = .ok (.goto 4, 3) := by decide +kernel
theorem dX1_nextDigit_24 : decode cX1_nextDigit 24 = .ok (.iconst (-1), 1) := by decide +kernel
theorem dX1_nextDigit_25 : decode cX1_nextDigit 25 = .ok (.ireturn, 1) := by decide +kernel
theorem dX1_takes_0 : decode cX1_takes 0 = .ok (.aload_n 0, 1) := by decide +kernel
theorem dX1_takes_1 : decode cX1_takes 1 = .ok (.invokevirtual 77, 3) := by decide +kernel
theorem dX1_takes_4 : decode cX1_takes 4 = .ok (.iload_n 1, 1) := by decide +kernel
theorem dX1_takes_5 : decode cX1_takes 5 = .ok (.if_icmp .eq 5, 3) := by decide +kernel
theorem dX1_takes_8 : decode cX1_takes 8 = .ok (.iconst 0, 1) := by decide +kernel
theorem dX1_takes_9 : decode cX1_takes 9 = .ok (.ireturn, 1) := by decide +kernel
theorem dX1_takes_10 : decode cX1_takes 10 = .ok (.aload_n 0, 1) := by decide +kernel
theorem dX1_takes_11 : decode cX1_takes 11 = .ok (.dup, 1) := by decide +kernel
theorem dX1_takes_12 : decode cX1_takes 12 = .ok (.getfield 35, 3) := by decide +kernel
theorem dX1_takes_15 : decode cX1_takes 15 = .ok (.iconst 1, 1) := by decide +kernel
theorem dX1_takes_16 : decode cX1_takes 16 = .ok (.iadd, 1) := by decide +kernel
theorem dX1_takes_17 : decode cX1_takes 17 = .ok (.putfield 35, 3) := by decide +kernel
theorem dX1_takes_20 : decode cX1_takes 20 = .ok (.iconst 1, 1) := by decide +kernel
theorem dX1_takes_21 : decode cX1_takes 21 = .ok (.ireturn, 1) := by decide +kernel
theorem dX1_next_0 : decode cX1_next 0 = .ok (.aload_n 0, 1) := by decide +kernel
theorem dX1_next_1 : decode cX1_next 1 = .ok (.getfield 35, 3) := by decide +kernel
theorem dX1_next_4 : decode cX1_next 4 = .ok (.ifCond .lt 26, 3) := by decide +kernel
theorem dX1_next_7 : decode cX1_next 7 = .ok (.aload_n 0, 1) := by decide +kernel
theorem dX1_next_8 : decode cX1_next 8 = .ok (.getfield 35, 3) := by decide +kernel
theorem dX1_next_11 : decode cX1_next 11 = .ok (.aload_n 0, 1) := by decide +kernel
theorem dX1_next_12 : decode cX1_next 12 = .ok (.getfield 15, 3) := by decide +kernel
theorem dX1_next_15 : decode cX1_next 15 = .ok (.if_icmp .ge 15, 3) := by decide +kernel
theorem dX1_next_18 : decode cX1_next 18 = .ok (.aload_n 0, 1) := by decide +kernel
theorem dX1_next_19 : decode cX1_next 19 = .ok (.getfield 9, 3) := by decide +kernel
theorem dX1_next_22 : decode cX1_next 22 = .ok (.aload_n 0, 1) := by decide +kernel
theorem dX1_next_23 : decode cX1_next 23 = .ok (.getfield 35, 3) := by decide +kernel
theorem dX1_next_26 : decode cX1_next 26 = .ok (.caload, 1) := by decide +kernel
theorem dX1_next_27 : decode cX1_next 27 = .ok (.goto 4, 3) := by decide +kernel
theorem dX1_next_30 : decode cX1_next 30 = .ok (.iconst (-1), 1) := by decide +kernel
theorem dX1_next_31 : decode cX1_next 31 = .ok (.ireturn, 1) := by decide +kernel
theorem dX1_noteAddition_0 : decode cX1_noteAddition 0 = .ok (.aload_n 0, 1) := by decide +kernel
theorem dX1_noteAddition_1 : decode cX1_noteAddition 1 = .ok (.getfield 32, 3) := by decide +kernel
theorem dX1_noteAddition_4 : decode cX1_noteAddition 4 = .ok (.bipush 12, 2) := by decide +kernel
theorem dX1_noteAddition_6 : decode cX1_noteAddition 6 = .ok (.if_icmp .lt 5, 3) := by decide +kernel
theorem dX1_noteAddition_9 : decode cX1_noteAddition 9 = .ok (.iconst 0, 1) := by decide +kernel
theorem dX1_noteAddition_10 : decode cX1_noteAddition 10 = .ok (.ireturn, 1) := by decide +kernel
theorem dX1_noteAddition_11 : decode cX1_noteAddition 11 = .ok (.aload_n 0, 1) := by decide +kernel
theorem dX1_noteAddition_12 : decode cX1_noteAddition 12 = .ok (.getfield 19, 3) := by decide +kernel
theorem dX1_noteAddition_15 : decode cX1_noteAddition 15 = .ok (.aload_n 0, 1) := by decide +kernel
theorem dX1_noteAddition_16 : decode cX1_noteAddition 16 = .ok (.getfield 32, 3) := by decide +kernel
theorem dX1_noteAddition_19 : decode cX1_noteAddition 19 = .ok (.iload_n 1, 1) := by decide +kernel
theorem dX1_noteAddition_20 : decode cX1_noteAddition 20 = .ok (.iastore, 1) := by decide +kernel
theorem dX1_noteAddition_21 : decode cX1_noteAddition 21 = .ok (.aload_n 0, 1) := by decide +kernel
theorem dX1_noteAddition_22 : decode cX1_noteAddition 22 = .ok (.getfield 23, 3) := by decide +kernel
theorem dX1_noteAddition_25 : decode cX1_noteAddition 25 = .ok (.aload_n 0, 1) := by decide +kernel
theorem dX1_noteAddition_26 : decode cX1_noteAddition 26 = .ok (.getfield 32, 3) := by decide +kernel
theorem dX1_noteAddition_29 : decode cX1_noteAddition 29 = .ok (.iload_n 2, 1) := by decide +kernel
theorem dX1_noteAddition_30 : decode cX1_noteAddition 30 = .ok (.iastore, 1) := by decide +kernel
theorem dX1_noteAddition_31 : decode cX1_noteAddition 31 = .ok (.aload_n 0, 1) := by decide +kernel
theorem dX1_noteAddition_32 : decode cX1_noteAddition 32 = .ok (.getfield 26, 3) := by decide +kernel
theorem dX1_noteAddition_35 : decode cX1_noteAddition 35 = .ok (.aload_n 0, 1) := by decide +kernel
theorem dX1_noteAddition_36 : decode cX1_noteAddition 36 = .ok (.getfield 32, 3) := by decide +kernel
theorem dX1_noteAddition_39 : decode cX1_noteAddition 39 = .ok (.iload_n 3, 1) := by decide +kernel
theorem dX1_noteAddition_40 : decode cX1_noteAddition 40 = .ok (.iastore, 1) := by decide +kernel
theorem dX1_noteAddition_41 : decode cX1_noteAddition 41 = .ok (.aload_n 0, 1) := by decide +kernel
theorem dX1_noteAddition_42 : decode cX1_noteAddition 42 = .ok (.getfield 29, 3) := by decide +kernel
theorem dX1_noteAddition_45 : decode cX1_noteAddition 45 = .ok (.aload_n 0, 1) := by decide +kernel
theorem dX1_noteAddition_46 : decode cX1_noteAddition 46 = .ok (.getfield 32, 3) := by decide +kernel
theorem dX1_noteAddition_49 : decode cX1_noteAddition 49 = .ok (.iload 4, 2) := by decide +kernel
theorem dX1_noteAddition_51 : decode cX1_noteAddition 51 = .ok (.iastore, 1) := by decide +kernel
theorem dX1_noteAddition_52 : decode cX1_noteAddition 52 = .ok (.aload_n 0, 1) := by decide +kernel
theorem dX1_noteAddition_53 : decode cX1_noteAddition 53 = .ok (.dup, 1) := by decide +kernel
theorem dX1_noteAddition_54 : decode cX1_noteAddition 54 = .ok (.getfield 32, 3) := by decide +kernel
theorem dX1_noteAddition_57 : decode cX1_noteAddition 57 = .ok (.iconst 1, 1) := by decide +kernel
theorem dX1_noteAddition_58 : decode cX1_noteAddition 58 = .ok (.iadd, 1) := by decide +kernel
theorem dX1_noteAddition_59 : decode cX1_noteAddition 59 = .ok (.putfield 32, 3) := by decide +kernel
theorem dX1_noteAddition_62 : decode cX1_noteAddition 62 = .ok (.iconst 1, 1) := by decide +kernel
theorem dX1_noteAddition_63 : decode cX1_noteAddition 63 = .ok (.ireturn, 1) := by decide +kernel
theorem dX2_init_0 : decode cX2_init 0 = .ok (.aload_n 0, 1) := by decide +kernel
theorem dX2_init_1 : decode cX2_init 1 = .ok (.invokespecial 3, 3) := by decide +kernel
theorem dX2_init_4 : decode cX2_init 4 = .ok (.aload_n 0, 1) := by decide +kernel
theorem dX2_init_5 : decode cX2_init 5 = .ok (.bipush 24, 2) := by decide +kernel
theorem dX2_init_7 : decode cX2_init 7 = .ok (.newarray .int, 2) := by decide +kernel
theorem dX2_init_9 : decode cX2_init 9 = .ok (.putfield 9, 3) := by decide +kernel
theorem dX2_init_12 : decode cX2_init 12 = .ok (.aload_n 0, 1) := by decide +kernel
theorem dX2_init_13 : decode cX2_init 13 = .ok (.bipush 24, 2) := by decide +kernel
theorem dX2_init_15 : decode cX2_init 15 = .ok (.newarray .int, 2) := by decide +kernel
theorem dX2_init_17 : decode cX2_init 17 = .ok (.putfield 15, 3) := by decide +kernel
theorem dX2_init_20 : decode cX2_init 20 = .ok (.aload_n 0, 1) := by decide +kernel
theorem dX2_init_21 : decode cX2_init 21 = .ok (.bipush 24, 2) := by decide +kernel
theorem dX2_init_23 : decode cX2_init 23 = .ok (.newarray .int, 2) := by decide +kernel
theorem dX2_init_25 : decode cX2_init 25 = .ok (.putfield 18, 3) := by decide +kernel
theorem dX2_init_28 : decode cX2_init 28 = .ok (.aload_n 0, 1) := by decide +kernel
theorem dX2_init_29 : decode cX2_init 29 = .ok (.bipush 24, 2) := by decide +kernel
theorem dX2_init_31 : decode cX2_init 31 = .ok (.newarray .int, 2) := by decide +kernel
theorem dX2_init_33 : decode cX2_init 33 = .ok (.putfield 21, 3) := by decide +kernel
theorem dX2_init_36 : decode cX2_init 36 = .ok (.aload_n 0, 1) := by decide +kernel
theorem dX2_init_37 : decode cX2_init 37 = .ok (.bipush 24, 2) := by decide +kernel
theorem dX2_init_39 : decode cX2_init 39 = .ok (.newarray .int, 2) := by decide +kernel
theorem dX2_init_41 : decode cX2_init 41 = .ok (.putfield 24, 3) := by decide +kernel
theorem dX2_init_44 : decode cX2_init 44 = .ok (.aload_n 0, 1) := by decide +kernel
theorem dX2_init_45 : decode cX2_init 45 = .ok (.iconst 0, 1) := by decide +kernel
theorem dX2_init_46 : decode cX2_init 46 = .ok (.putfield 27, 3) := by decide +kernel
theorem dX2_init_49 : decode cX2_init 49 = .ok (.aload_n 0, 1) := by decide +kernel
theorem dX2_init_50 : decode cX2_init 50 = .ok (.iconst 2, 1) := by decide +kernel
theorem dX2_init_51 : decode cX2_init 51 = .ok (.putfield 31, 3) := by decide +kernel
theorem dX2_init_54 : decode cX2_init 54 = .ok (.aload_n 0, 1) := by decide +kernel
theorem dX2_init_55 : decode cX2_init 55 = .ok (.iconst 0, 1) := by decide +kernel
theorem dX2_init_56 : decode cX2_init 56 = .ok (.putfield 34, 3) := by decide +kernel
theorem dX2_init_59 : decode cX2_init 59 = .ok (.aload_n 0, 1) := by decide +kernel
theorem dX2_init_60 : decode cX2_init 60 = .ok (.iconst 0, 1) := by decide +kernel
theorem dX2_init_61 : decode cX2_init 61 = .ok (.putfield 37, 3) := by decide +kernel
theorem dX2_init_64 : decode cX2_init 64 = .ok (.aload_n 0, 1) := by decide +kernel
theorem dX2_init_65 : decode cX2_init 65 = .ok (.iconst 0, 1) := by decide +kernel
theorem dX2_init_66 : decode cX2_init 66 = .ok (.putfield 40, 3) := by decide +kernel
theorem dX2_init_69 : decode cX2_init 69 = .ok (.return_, 1) := by decide +kernel
theorem dX2_copyFrom_0 : decode cX2_copyFrom 0 = .ok (.aload_n 1, 1) := by decide +kernel
theorem dX2_copyFrom_1 : decode cX2_copyFrom 1 = .ok (.getfield 9, 3) := by decide +kernel
theorem dX2_copyFrom_4 : decode cX2_copyFrom 4 = .ok (.iconst 0, 1) := by decide +kernel
theorem dX2_copyFrom_5 : decode cX2_copyFrom 5 = .ok (.aload_n 0, 1) := by decide +kernel
theorem dX2_copyFrom_6 : decode cX2_copyFrom 6 = .ok (.getfield 9, 3) := by decide +kernel
theorem dX2_copyFrom_9 : decode cX2_copyFrom 9 = .ok (.iconst 0, 1) := by decide +kernel
theorem dX2_copyFrom_10 : decode cX2_copyFrom 10 = .ok (.bipush 24, 2) := by decide +kernel
theorem dX2_copyFrom_12 : decode cX2_copyFrom 12 = .ok (.invokestatic 43, 3) := by decide +kernel
theorem dX2_copyFrom_15 : decode cX2_copyFrom 15 = .ok (.aload_n 1, 1) := by decide +kernel
theorem dX2_copyFrom_16 : decode cX2_copyFrom 16 = .ok (.getfield 15, 3) := by decide +kernel
theorem dX2_copyFrom_19 : decode cX2_copyFrom 19 = .ok (.iconst 0, 1) := by decide +kernel
theorem dX2_copyFrom_20 : decode cX2_copyFrom 20 = .ok (.aload_n 0, 1) := by decide +kernel
theorem dX2_copyFrom_21 : decode cX2_copyFrom 21 = .ok (.getfield 15, 3) := by decide +kernel
theorem dX2_copyFrom_24 : decode cX2_copyFrom 24 = .ok (.iconst 0, 1) := by decide +kernel
theorem dX2_copyFrom_25 : decode cX2_copyFrom 25 = .ok (.bipush 24, 2) := by decide +kernel
theorem dX2_copyFrom_27 : decode cX2_copyFrom 27 = .ok (.invokestatic 43, 3) := by decide +kernel
theorem dX2_copyFrom_30 : decode cX2_copyFrom 30 = .ok (.aload_n 1, 1) := by decide +kernel
theorem dX2_copyFrom_31 : decode cX2_copyFrom 31 = .ok (.getfield 18, 3) := by decide +kernel
theorem dX2_copyFrom_34 : decode cX2_copyFrom 34 = .ok (.iconst 0, 1) := by decide +kernel
theorem dX2_copyFrom_35 : decode cX2_copyFrom 35 = .ok (.aload_n 0, 1) := by decide +kernel
theorem dX2_copyFrom_36 : decode cX2_copyFrom 36 = .ok (.getfield 18, 3) := by decide +kernel
theorem dX2_copyFrom_39 : decode cX2_copyFrom 39 = .ok (.iconst 0, 1) := by decide +kernel
theorem dX2_copyFrom_40 : decode cX2_copyFrom 40 = .ok (.bipush 24, 2) := by decide +kernel
theorem dX2_copyFrom_42 : decode cX2_copyFrom 42 = .ok (.invokestatic 43, 3) := by decide +kernel
theorem dX2_copyFrom_45 : decode cX2_copyFrom 45 = .ok (.aload_n 1, 1) := by decide +kernel
theorem dX2_copyFrom_46 : decode cX2_copyFrom 46 = .ok (.getfield 21, 3) := by decide +kernel
theorem dX2_copyFrom_49 : decode cX2_copyFrom 49 = .ok (.iconst 0, 1) := by decide +kernel
theorem dX2_copyFrom_50 : decode cX2_copyFrom 50 = .ok (.aload_n 0, 1) := by decide +kernel
theorem dX2_copyFrom_51 : decode cX2_copyFrom 51 = .ok (.getfield 21, 3) := by decide +kernel
theorem dX2_copyFrom_54 : decode cX2_copyFrom 54 = .ok (.iconst 0, 1) := by decide +kernel
theorem dX2_copyFrom_55 : decode cX2_copyFrom 55 = .ok (.bipush 24, 2) := by decide +kernel
theorem dX2_copyFrom_57 : decode cX2_copyFrom 57 = .ok (.invokestatic 43, 3) := by decide +kernel
theorem dX2_copyFrom_60 : decode cX2_copyFrom 60 = .ok (.aload_n 1, 1) := by decide +kernel
theorem dX2_copyFrom_61 : decode cX2_copyFrom 61 = .ok (.getfield 24, 3) := by decide +kernel
theorem dX2_copyFrom_64 : decode cX2_copyFrom 64 = .ok (.iconst 0, 1) := by decide +kernel
theorem dX2_copyFrom_65 : decode cX2_copyFrom 65 = .ok (.aload_n 0, 1) := by decide +kernel
theorem dX2_copyFrom_66 : decode cX2_copyFrom 66 = .ok (.getfield 24, 3) := by decide +kernel
theorem dX2_copyFrom_69 : decode cX2_copyFrom 69 = .ok (.iconst 0, 1) := by decide +kernel
theorem dX2_copyFrom_70 : decode cX2_copyFrom 70 = .ok (.bipush 24, 2) := by decide +kernel
theorem dX2_copyFrom_72 : decode cX2_copyFrom 72 = .ok (.invokestatic 43, 3) := by decide +kernel
theorem dX2_copyFrom_75 : decode cX2_copyFrom 75 = .ok (.aload_n 0, 1) := by decide +kernel
theorem dX2_copyFrom_76 : decode cX2_copyFrom 76 = .ok (.aload_n 1, 1) := by decide +kernel
theorem dX2_copyFrom_77 : decode cX2_copyFrom 77 = .ok (.getfield 27, 3) := by decide +kernel
theorem dX2_copyFrom_80 : decode cX2_copyFrom 80 = .ok (.putfield 27, 3) := by decide +kernel
theorem dX2_copyFrom_83 : decode cX2_copyFrom 83 = .ok (.aload_n 0, 1) := by decide +kernel
theorem dX2_copyFrom_84 : decode cX2_copyFrom 84 = .ok (.aload_n 1, 1) := by decide +kernel
theorem dX2_copyFrom_85 : decode cX2_copyFrom 85 = .ok (.getfield 31, 3) := by decide +kernel
theorem dX2_copyFrom_88 : decode cX2_copyFrom 88 = .ok (.putfield 31, 3) := by decide +kernel
theorem dX2_copyFrom_91 : decode cX2_copyFrom 91 = .ok (.aload_n 0, 1) := by decide +kernel
theorem dX2_copyFrom_92 : decode cX2_copyFrom 92 = .ok (.aload_n 1, 1) := by decide +kernel
theorem dX2_copyFrom_93 : decode cX2_copyFrom 93 = .ok (.getfield 34, 3) := by decide +kernel
theorem dX2_copyFrom_96 : decode cX2_copyFrom 96 = .ok (.putfield 34, 3) := by decide +kernel
theorem dX2_copyFrom_99 : decode cX2_copyFrom 99 = .ok (.aload_n 0, 1) := by decide +kernel
theorem dX2_copyFrom_100 : decode cX2_copyFrom 100 = .ok (.aload_n 1, 1) := by decide +kernel
theorem dX2_copyFrom_101 : decode cX2_copyFrom 101 = .ok (.getfield 37, 3) := by decide +kernel
theorem dX2_copyFrom_104 : decode cX2_copyFrom 104 = .ok (.putfield 37, 3) := by decide +kernel
theorem dX2_copyFrom_107 : decode cX2_copyFrom 107 = .ok (.aload_n 0, 1) := by decide +kernel
theorem dX2_copyFrom_108 : decode cX2_copyFrom 108 = .ok (.aload_n 1, 1) := by decide +kernel
theorem dX2_copyFrom_109 : decode cX2_copyFrom 109 = .ok (.getfield 40, 3) := by decide +kernel
theorem dX2_copyFrom_112 : decode cX2_copyFrom 112 = .ok (.putfield 40, 3) := by decide +kernel
theorem dX2_copyFrom_115 : decode cX2_copyFrom 115 = .ok (.return_, 1) := by decide +kernel
theorem dX2_addMember_0 : decode cX2_addMember 0 = .ok (.iload_n 1, 1) := by decide +kernel
theorem dX2_addMember_1 : decode cX2_addMember 1 = .ok (.invokestatic 49, 3) := by decide +kernel
theorem dX2_addMember_4 : decode cX2_addMember 4 = .ok (.ifCond .eq 17, 3) := by decide +kernel
theorem dX2_addMember_7 : decode cX2_addMember 7 = .ok (.iload_n 2, 1) := by decide +kernel
theorem dX2_addMember_8 : decode cX2_addMember 8 = .ok (.invokestatic 53, 3) := by decide +kernel
theorem dX2_addMember_11 : decode cX2_addMember 11 = .ok (.ifCond .eq 10, 3) := by decide +kernel
theorem dX2_addMember_14 : decode cX2_addMember 14 = .ok (.iload_n 3, 1) := by decide +kernel
theorem dX2_addMember_15 : decode cX2_addMember 15 = .ok (.invokestatic 56, 3) := by decide +kernel
theorem dX2_addMember_18 : decode cX2_addMember 18 = .ok (.ifCond .ne 6, 3) := by decide +kernel
theorem dX2_addMember_21 : decode cX2_addMember 21 = .ok (.bipush (-2), 2) := by decide +kernel
theorem dX2_addMember_23 : decode cX2_addMember 23 = .ok (.ireturn, 1) := by decide +kernel
theorem dX2_addMember_24 : decode cX2_addMember 24 = .ok (.aload_n 0, 1) := by decide +kernel
theorem dX2_addMember_25 : decode cX2_addMember 25 = .ok (.aload_n 0, 1) := by decide +kernel
theorem dX2_addMember_26 : decode cX2_addMember 26 = .ok (.iload_n 1, 1) := by decide +kernel
theorem dX2_addMember_27 : decode cX2_addMember 27 = .ok (.invokevirtual 59, 3) := by decide +kernel
theorem dX2_addMember_30 : decode cX2_addMember 30 = .ok (.invokevirtual 63, 3) := by decide +kernel
theorem dX2_addMember_33 : decode cX2_addMember 33 = .ok (.ifCond .eq 6, 3) := by decide +kernel
theorem dX2_addMember_36 : decode cX2_addMember 36 = .ok (.bipush (-7), 2) := by decide +kernel
theorem dX2_addMember_38 : decode cX2_addMember 38 = .ok (.ireturn, 1) := by decide +kernel
theorem dX2_addMember_39 : decode cX2_addMember 39 = .ok (.aload_n 0, 1) := by decide +kernel
theorem dX2_addMember_40 : decode cX2_addMember 40 = .ok (.invokevirtual 66, 3) := by decide +kernel
theorem dX2_addMember_43 : decode cX2_addMember 43 = .ok (.ifCond .eq 6, 3) := by decide +kernel
theorem dX2_addMember_46 : decode cX2_addMember 46 = .ok (.bipush (-6), 2) := by decide +kernel
theorem dX2_addMember_48 : decode cX2_addMember 48 = .ok (.ireturn, 1) := by decide +kernel
theorem dX2_addMember_49 : decode cX2_addMember 49 = .ok (.aload_n 0, 1) := by decide +kernel
theorem dX2_addMember_50 : decode cX2_addMember 50 = .ok (.iload_n 2, 1) := by decide +kernel
theorem dX2_addMember_51 : decode cX2_addMember 51 = .ok (.invokevirtual 70, 3) := by decide +kernel
theorem dX2_addMember_54 : decode cX2_addMember 54 = .ok (.ifCond .ne 6, 3) := by decide +kernel
theorem dX2_addMember_57 : decode cX2_addMember 57 = .ok (.bipush (-3), 2) := by decide +kernel
theorem dX2_addMember_59 : decode cX2_addMember 59 = .ok (.ireturn, 1) := by decide +kernel
theorem dX2_addMember_60 : decode cX2_addMember 60 = .ok (.aload_n 0, 1) := by decide +kernel
theorem dX2_addMember_61 : decode cX2_addMember 61 = .ok (.iload_n 2, 1) := by decide +kernel
theorem dX2_addMember_62 : decode cX2_addMember 62 = .ok (.invokevirtual 73, 3) := by decide +kernel
theorem dX2_addMember_65 : decode cX2_addMember 65 = .ok (.istore 4, 2) := by decide +kernel
theorem dX2_addMember_67 : decode cX2_addMember 67 = .ok (.aload_n 0, 1) := by decide +kernel
theorem dX2_addMember_68 : decode cX2_addMember 68 = .ok (.iload_n 1, 1) := by decide +kernel
theorem dX2_addMember_69 : decode cX2_addMember 69 = .ok (.bipush (-5), 2) := by decide +kernel
theorem dX2_addMember_71 : decode cX2_addMember 71 = .ok (.iload 4, 2) := by decide +kernel
theorem dX2_addMember_73 : decode cX2_addMember 73 = .ok (.iload_n 2, 1) := by decide +kernel
theorem dX2_addMember_74 : decode cX2_addMember 74 = .ok (.iload_n 3, 1) := by decide +kernel
theorem dX2_addMember_75 : decode cX2_addMember 75 = .ok (.invokevirtual 76, 3) := by decide +kernel
theorem dX2_addMember_78 : decode cX2_addMember 78 = .ok (.pop, 1) := by decide +kernel
theorem dX2_addMember_79 : decode cX2_addMember 79 = .ok (.iload 4, 2) := by decide +kernel
theorem dX2_addMember_81 : decode cX2_addMember 81 = .ok (.ireturn, 1) := by decide +kernel
theorem dX2_replaceText_0 : decode cX2_replaceText 0 = .ok (.aload_n 0, 1) := by decide +kernel
theorem dX2_replaceText_1 : decode cX2_replaceText 1 = .ok (.iload_n 1, 1) := by decide +kernel
theorem dX2_replaceText_2 : decode cX2_replaceText 2 = .ok (.invokevirtual 59, 3) := by decide +kernel
theorem dX2_replaceText_5 : decode cX2_replaceText 5 = .ok (.istore 4, 2) := by decide +kernel
theorem dX2_replaceText_7 : decode cX2_replaceText 7 = .ok (.aload_n 0, 1) := by decide +kernel
theorem dX2_replaceText_8 : decode cX2_replaceText 8 = .ok (.iload 4, 2) := by decide +kernel
theorem dX2_replaceText_10 : decode cX2_replaceText 10 = .ok (.invokevirtual 80, 3) := by decide +kernel
theorem dX2_replaceText_13 : decode cX2_replaceText 13 = .ok (.ifCond .ne 5, 3) := by decide +kernel
theorem dX2_replaceText_16 : decode cX2_replaceText 16 = .ok (.iconst (-1), 1) := by decide +kernel
theorem dX2_replaceText_17 : decode cX2_replaceText 17 = .ok (.ireturn, 1) := by decide +kernel
theorem dX2_replaceText_18 : decode cX2_replaceText 18 = .ok (.iload_n 2, 1) := by decide +kernel
theorem dX2_replaceText_19 : decode cX2_replaceText 19 = .ok (.invokestatic 53, 3) := by decide +kernel
theorem dX2_replaceText_22 : decode cX2_replaceText 22 = .ok (.ifCond .eq 10, 3) := by decide +kernel
theorem dX2_replaceText_25 : decode cX2_replaceText 25 = .ok (.iload_n 3, 1) := by decide +kernel
theorem dX2_replaceText_26 : decode cX2_replaceText 26 = .ok (.invokestatic 56, 3) := by decide +kernel
theorem dX2_replaceText_29 : decode cX2_replaceText 29 = .ok (.ifCond .ne 6, 3) := by decide +kernel
theorem dX2_replaceText_32 : decode cX2_replaceText 32 = .ok (.bipush (-2), 2) := by decide +kernel
theorem dX2_replaceText_34 : decode cX2_replaceText 34 = .ok (.ireturn, 1) := by decide +kernel
theorem dX2_replaceText_35 : decode cX2_replaceText 35 = .ok (.aload_n 0, 1) := by decide +kernel
theorem dX2_replaceText_36 : decode cX2_replaceText 36 = .ok (.iload_n 2, 1) := by decide +kernel
theorem dX2_replaceText_37 : decode cX2_replaceText 37 = .ok (.invokevirtual 70, 3) := by decide +kernel
theorem dX2_replaceText_40 : decode cX2_replaceText 40 = .ok (.ifCond .ne 6, 3) := by decide +kernel
theorem dX2_replaceText_43 : decode cX2_replaceText 43 = .ok (.bipush (-3), 2) := by decide +kernel
theorem dX2_replaceText_45 : decode cX2_replaceText 45 = .ok (.ireturn, 1) := by decide +kernel
theorem dX2_replaceText_46 : decode cX2_replaceText 46 = .ok (.aload_n 0, 1) := by decide +kernel
theorem dX2_replaceText_47 : decode cX2_replaceText 47 = .ok (.iload_n 2, 1) := by decide +kernel
theorem dX2_replaceText_48 : decode cX2_replaceText 48 = .ok (.invokevirtual 73, 3) := by decide +kernel
theorem dX2_replaceText_51 : decode cX2_replaceText 51 = .ok (.istore 5, 2) := by decide +kernel
theorem dX2_replaceText_53 : decode cX2_replaceText 53 = .ok (.aload_n 0, 1) := by decide +kernel
theorem dX2_replaceText_54 : decode cX2_replaceText 54 = .ok (.iload 4, 2) := by decide +kernel
theorem dX2_replaceText_56 : decode cX2_replaceText 56 = .ok (.iload_n 1, 1) := by decide +kernel
theorem dX2_replaceText_57 : decode cX2_replaceText 57 = .ok (.bipush (-5), 2) := by decide +kernel
theorem dX2_replaceText_59 : decode cX2_replaceText 59 = .ok (.iload 5, 2) := by decide +kernel
theorem dX2_replaceText_61 : decode cX2_replaceText 61 = .ok (.iload_n 2, 1) := by decide +kernel
theorem dX2_replaceText_62 : decode cX2_replaceText 62 = .ok (.iload_n 3, 1) := by decide +kernel
theorem dX2_replaceText_63 : decode cX2_replaceText 63 = .ok (.invokevirtual 83, 3) := by decide +kernel
theorem dX2_replaceText_66 : decode cX2_replaceText 66 = .ok (.iload 5, 2) := by decide +kernel
theorem dX2_replaceText_68 : decode cX2_replaceText 68 = .ok (.ireturn, 1) := by decide +kernel
theorem dX2_removeEntry_0 : decode cX2_removeEntry 0 = .ok (.aload_n 0, 1) := by decide +kernel
theorem dX2_removeEntry_1 : decode cX2_removeEntry 1 = .ok (.iload_n 1, 1) := by decide +kernel
theorem dX2_removeEntry_2 : decode cX2_removeEntry 2 = .ok (.invokevirtual 59, 3) := by decide +kernel
theorem dX2_removeEntry_5 : decode cX2_removeEntry 5 = .ok (.istore_n 2, 1) := by decide +kernel
theorem dX2_removeEntry_6 : decode cX2_removeEntry 6 = .ok (.aload_n 0, 1) := by decide +kernel
theorem dX2_removeEntry_7 : decode cX2_removeEntry 7 = .ok (.iload_n 2, 1) := by decide +kernel
theorem dX2_removeEntry_8 : decode cX2_removeEntry 8 = .ok (.invokevirtual 63, 3) := by decide +kernel
theorem dX2_removeEntry_11 : decode cX2_removeEntry 11 = .ok (.ifCond .ne 5, 3) := by decide +kernel
theorem dX2_removeEntry_14 : decode cX2_removeEntry 14 = .ok (.iconst (-1), 1) := by decide +kernel
theorem dX2_removeEntry_15 : decode cX2_removeEntry 15 = .ok (.ireturn, 1) := by decide +kernel
theorem dX2_removeEntry_16 : decode cX2_removeEntry 16 = .ok (.aload_n 0, 1) := by decide +kernel
theorem dX2_removeEntry_17 : decode cX2_removeEntry 17 = .ok (.iload_n 2, 1) := by decide +kernel
theorem dX2_removeEntry_18 : decode cX2_removeEntry 18 = .ok (.invokevirtual 87, 3) := by decide +kernel
theorem dX2_removeEntry_21 : decode cX2_removeEntry 21 = .ok (.aload_n 0, 1) := by decide +kernel
theorem dX2_removeEntry_22 : decode cX2_removeEntry 22 = .ok (.getfield 27, 3) := by decide +kernel
theorem dX2_removeEntry_25 : decode cX2_removeEntry 25 = .ok (.ireturn, 1) := by decide +kernel
theorem dX2_renameEntry_0 : decode cX2_renameEntry 0 = .ok (.aload_n 0, 1) := by decide +kernel
theorem dX2_renameEntry_1 : decode cX2_renameEntry 1 = .ok (.iload_n 1, 1) := by decide +kernel
theorem dX2_renameEntry_2 : decode cX2_renameEntry 2 = .ok (.invokevirtual 59, 3) := by decide +kernel
theorem dX2_renameEntry_5 : decode cX2_renameEntry 5 = .ok (.istore_n 3, 1) := by decide +kernel
theorem dX2_renameEntry_6 : decode cX2_renameEntry 6 = .ok (.aload_n 0, 1) := by decide +kernel
theorem dX2_renameEntry_7 : decode cX2_renameEntry 7 = .ok (.iload_n 3, 1) := by decide +kernel
theorem dX2_renameEntry_8 : decode cX2_renameEntry 8 = .ok (.invokevirtual 63, 3) := by decide +kernel
theorem dX2_renameEntry_11 : decode cX2_renameEntry 11 = .ok (.ifCond .ne 5, 3) := by decide +kernel
theorem dX2_renameEntry_14 : decode cX2_renameEntry 14 = .ok (.iconst (-1), 1) := by decide +kernel
theorem dX2_renameEntry_15 : decode cX2_renameEntry 15 = .ok (.ireturn, 1) := by decide +kernel
theorem dX2_renameEntry_16 : decode cX2_renameEntry 16 = .ok (.iload_n 2, 1) := by decide +kernel
theorem dX2_renameEntry_17 : decode cX2_renameEntry 17 = .ok (.invokestatic 49, 3) := by decide +kernel
theorem dX2_renameEntry_20 : decode cX2_renameEntry 20 = .ok (.ifCond .ne 6, 3) := by decide +kernel
theorem dX2_renameEntry_23 : decode cX2_renameEntry 23 = .ok (.bipush (-2), 2) := by decide +kernel
theorem dX2_renameEntry_25 : decode cX2_renameEntry 25 = .ok (.ireturn, 1) := by decide +kernel
theorem dX2_renameEntry_26 : decode cX2_renameEntry 26 = .ok (.aload_n 0, 1) := by decide +kernel
theorem dX2_renameEntry_27 : decode cX2_renameEntry 27 = .ok (.iload_n 2, 1) := by decide +kernel
theorem dX2_renameEntry_28 : decode cX2_renameEntry 28 = .ok (.invokevirtual 59, 3) := by decide +kernel
theorem dX2_renameEntry_31 : decode cX2_renameEntry 31 = .ok (.istore 4, 2) := by decide +kernel
theorem dX2_renameEntry_33 : decode cX2_renameEntry 33 = .ok (.iload 4, 2) := by decide +kernel
theorem dX2_renameEntry_35 : decode cX2_renameEntry 35 = .ok (.iload_n 3, 1) := by decide +kernel
theorem dX2_renameEntry_36 : decode cX2_renameEntry 36 = .ok (.if_icmp .ne 6, 3) := by decide +kernel
theorem dX2_renameEntry_39 : decode cX2_renameEntry 39 = .ok (.bipush (-5), 2) := by decide +kernel
theorem dX2_renameEntry_41 : decode cX2_renameEntry 41 = .ok (.ireturn, 1) := by decide +kernel
theorem dX2_renameEntry_42 : decode cX2_renameEntry 42 = .ok (.aload_n 0, 1) := by decide +kernel
theorem dX2_renameEntry_43 : decode cX2_renameEntry 43 = .ok (.iload 4, 2) := by decide +kernel
theorem dX2_renameEntry_45 : decode cX2_renameEntry 45 = .ok (.invokevirtual 63, 3) := by decide +kernel
theorem dX2_renameEntry_48 : decode cX2_renameEntry 48 = .ok (.ifCond .eq 6, 3) := by decide +kernel
theorem dX2_renameEntry_51 : decode cX2_renameEntry 51 = .ok (.bipush (-7), 2) := by decide +kernel
theorem dX2_renameEntry_53 : decode cX2_renameEntry 53 = .ok (.ireturn, 1) := by decide +kernel
theorem dX2_renameEntry_54 : decode cX2_renameEntry 54 = .ok (.aload_n 0, 1) := by decide +kernel
theorem dX2_renameEntry_55 : decode cX2_renameEntry 55 = .ok (.iload_n 3, 1) := by decide +kernel
theorem dX2_renameEntry_56 : decode cX2_renameEntry 56 = .ok (.invokevirtual 80, 3) := by decide +kernel
theorem dX2_renameEntry_59 : decode cX2_renameEntry 59 = .ok (.ifCond .eq 9, 3) := by decide +kernel
theorem dX2_renameEntry_62 : decode cX2_renameEntry 62 = .ok (.aload_n 0, 1) := by decide +kernel
theorem dX2_renameEntry_63 : decode cX2_renameEntry 63 = .ok (.iload_n 1, 1) := by decide +kernel
theorem dX2_renameEntry_64 : decode cX2_renameEntry 64 = .ok (.iload_n 2, 1) := by decide +kernel
theorem dX2_renameEntry_65 : decode cX2_renameEntry 65 = .ok (.invokevirtual 91, 3) := by decide +kernel
theorem dX2_renameEntry_68 : decode cX2_renameEntry 68 = .ok (.aload_n 0, 1) := by decide +kernel
theorem dX2_renameEntry_69 : decode cX2_renameEntry 69 = .ok (.getfield 15, 3) := by decide +kernel
theorem dX2_renameEntry_72 : decode cX2_renameEntry 72 = .ok (.iload_n 3, 1) := by decide +kernel
theorem dX2_renameEntry_73 : decode cX2_renameEntry 73 = .ok (.iaload, 1) := by decide +kernel
theorem dX2_renameEntry_74 : decode cX2_renameEntry 74 = .ok (.istore 5, 2) := by decide +kernel
theorem dX2_renameEntry_76 : decode cX2_renameEntry 76 = .ok (.aload_n 0, 1) := by decide +kernel
theorem dX2_renameEntry_77 : decode cX2_renameEntry 77 = .ok (.getfield 18, 3) := by decide +kernel
theorem dX2_renameEntry_80 : decode cX2_renameEntry 80 = .ok (.iload_n 3, 1) := by decide +kernel
theorem dX2_renameEntry_81 : decode cX2_renameEntry 81 = .ok (.iaload, 1) := by decide +kernel
theorem dX2_renameEntry_82 : decode cX2_renameEntry 82 = .ok (.istore 6, 2) := by decide +kernel
theorem dX2_renameEntry_84 : decode cX2_renameEntry 84 = .ok (.aload_n 0, 1) := by decide +kernel
theorem dX2_renameEntry_85 : decode cX2_renameEntry 85 = .ok (.getfield 21, 3) := by decide +kernel
theorem dX2_renameEntry_88 : decode cX2_renameEntry 88 = .ok (.iload_n 3, 1) := by decide +kernel
theorem dX2_renameEntry_89 : decode cX2_renameEntry 89 = .ok (.iaload, 1) := by decide +kernel
theorem dX2_renameEntry_90 : decode cX2_renameEntry 90 = .ok (.istore 7, 2) := by decide +kernel
theorem dX2_renameEntry_92 : decode cX2_renameEntry 92 = .ok (.aload_n 0, 1) := by decide +kernel
theorem dX2_renameEntry_93 : decode cX2_renameEntry 93 = .ok (.getfield 24, 3) := by decide +kernel
theorem dX2_renameEntry_96 : decode cX2_renameEntry 96 = .ok (.iload_n 3, 1) := by decide +kernel
theorem dX2_renameEntry_97 : decode cX2_renameEntry 97 = .ok (.iaload, 1) := by decide +kernel
theorem dX2_renameEntry_98 : decode cX2_renameEntry 98 = .ok (.istore 8, 2) := by decide +kernel
theorem dX2_renameEntry_100 : decode cX2_renameEntry 100 = .ok (.aload_n 0, 1) := by decide +kernel
theorem dX2_renameEntry_101 : decode cX2_renameEntry 101 = .ok (.iload_n 3, 1) := by decide +kernel
theorem dX2_renameEntry_102 : decode cX2_renameEntry 102 = .ok (.invokevirtual 87, 3) := by decide +kernel
theorem dX2_renameEntry_105 : decode cX2_renameEntry 105 = .ok (.aload_n 0, 1) := by decide +kernel
theorem dX2_renameEntry_106 : decode cX2_renameEntry 106 = .ok (.iload_n 2, 1) := by decide +kernel
theorem dX2_renameEntry_107 : decode cX2_renameEntry 107 = .ok (.iload 5, 2) := by decide +kernel
theorem dX2_renameEntry_109 : decode cX2_renameEntry 109 = .ok (.iload 6, 2) := by decide +kernel
theorem dX2_renameEntry_111 : decode cX2_renameEntry 111 = .ok (.iload 7, 2) := by decide +kernel
theorem dX2_renameEntry_113 : decode cX2_renameEntry 113 = .ok (.iload 8, 2) := by decide +kernel
theorem dX2_renameEntry_115 : decode cX2_renameEntry 115 = .ok (.invokevirtual 76, 3) := by decide +kernel
theorem dX2_renameEntry_118 : decode cX2_renameEntry 118 = .ok (.ireturn, 1) := by decide +kernel
theorem dX2_giveAlias_0 : decode cX2_giveAlias 0 = .ok (.aload_n 0, 1) := by decide +kernel
theorem dX2_giveAlias_1 : decode cX2_giveAlias 1 = .ok (.iload_n 2, 1) := by decide +kernel
theorem dX2_giveAlias_2 : decode cX2_giveAlias 2 = .ok (.invokevirtual 59, 3) := by decide +kernel
theorem dX2_giveAlias_5 : decode cX2_giveAlias 5 = .ok (.istore_n 3, 1) := by decide +kernel
theorem dX2_giveAlias_6 : decode cX2_giveAlias 6 = .ok (.aload_n 0, 1) := by decide +kernel
theorem dX2_giveAlias_7 : decode cX2_giveAlias 7 = .ok (.iload_n 3, 1) := by decide +kernel
theorem dX2_giveAlias_8 : decode cX2_giveAlias 8 = .ok (.invokevirtual 80, 3) := by decide +kernel
theorem dX2_giveAlias_11 : decode cX2_giveAlias 11 = .ok (.ifCond .ne 5, 3) := by decide +kernel
theorem dX2_giveAlias_14 : decode cX2_giveAlias 14 = .ok (.iconst (-1), 1) := by decide +kernel
theorem dX2_giveAlias_15 : decode cX2_giveAlias 15 = .ok (.ireturn, 1) := by decide +kernel
theorem dX2_giveAlias_16 : decode cX2_giveAlias 16 = .ok (.iload_n 1, 1) := by decide +kernel
theorem dX2_giveAlias_17 : decode cX2_giveAlias 17 = .ok (.invokestatic 49, 3) := by decide +kernel
theorem dX2_giveAlias_20 : decode cX2_giveAlias 20 = .ok (.ifCond .ne 6, 3) := by decide +kernel
theorem dX2_giveAlias_23 : decode cX2_giveAlias 23 = .ok (.bipush (-2), 2) := by decide +kernel
theorem dX2_giveAlias_25 : decode cX2_giveAlias 25 = .ok (.ireturn, 1) := by decide +kernel
theorem dX2_giveAlias_26 : decode cX2_giveAlias 26 = .ok (.aload_n 0, 1) := by decide +kernel
theorem dX2_giveAlias_27 : decode cX2_giveAlias 27 = .ok (.iload_n 1, 1) := by decide +kernel
theorem dX2_giveAlias_28 : decode cX2_giveAlias 28 = .ok (.invokevirtual 59, 3) := by decide +kernel
theorem dX2_giveAlias_31 : decode cX2_giveAlias 31 = .ok (.istore 4, 2) := by decide +kernel
theorem dX2_giveAlias_33 : decode cX2_giveAlias 33 = .ok (.aload_n 0, 1) := by decide +kernel
theorem dX2_giveAlias_34 : decode cX2_giveAlias 34 = .ok (.iload 4, 2) := by decide +kernel
theorem dX2_giveAlias_36 : decode cX2_giveAlias 36 = .ok (.invokevirtual 80, 3) := by decide +kernel
theorem dX2_giveAlias_39 : decode cX2_giveAlias 39 = .ok (.ifCond .eq 6, 3) := by decide +kernel
theorem dX2_giveAlias_42 : decode cX2_giveAlias 42 = .ok (.bipush (-7), 2) := by decide +kernel
theorem dX2_giveAlias_44 : decode cX2_giveAlias 44 = .ok (.ireturn, 1) := by decide +kernel
theorem dX2_giveAlias_45 : decode cX2_giveAlias 45 = .ok (.aload_n 0, 1) := by decide +kernel
theorem dX2_giveAlias_46 : decode cX2_giveAlias 46 = .ok (.getfield 18, 3) := by decide +kernel
theorem dX2_giveAlias_49 : decode cX2_giveAlias 49 = .ok (.iload_n 3, 1) := by decide +kernel
theorem dX2_giveAlias_50 : decode cX2_giveAlias 50 = .ok (.iaload, 1) := by decide +kernel
theorem dX2_giveAlias_51 : decode cX2_giveAlias 51 = .ok (.istore 5, 2) := by decide +kernel
theorem dX2_giveAlias_53 : decode cX2_giveAlias 53 = .ok (.aload_n 0, 1) := by decide +kernel
theorem dX2_giveAlias_54 : decode cX2_giveAlias 54 = .ok (.iload 4, 2) := by decide +kernel
theorem dX2_giveAlias_56 : decode cX2_giveAlias 56 = .ok (.invokevirtual 63, 3) := by decide +kernel
theorem dX2_giveAlias_59 : decode cX2_giveAlias 59 = .ok (.ifCond .ne 37, 3) := by decide +kernel
theorem dX2_giveAlias_62 : decode cX2_giveAlias 62 = .ok (.aload_n 0, 1) := by decide +kernel
theorem dX2_giveAlias_63 : decode cX2_giveAlias 63 = .ok (.invokevirtual 66, 3) := by decide +kernel
theorem dX2_giveAlias_66 : decode cX2_giveAlias 66 = .ok (.ifCond .eq 6, 3) := by decide +kernel
theorem dX2_giveAlias_69 : decode cX2_giveAlias 69 = .ok (.bipush (-6), 2) := by decide +kernel
theorem dX2_giveAlias_71 : decode cX2_giveAlias 71 = .ok (.ireturn, 1) := by decide +kernel
theorem dX2_giveAlias_72 : decode cX2_giveAlias 72 = .ok (.aload_n 0, 1) := by decide +kernel
theorem dX2_giveAlias_73 : decode cX2_giveAlias 73 = .ok (.iload_n 1, 1) := by decide +kernel
theorem dX2_giveAlias_74 : decode cX2_giveAlias 74 = .ok (.iload_n 2, 1) := by decide +kernel
theorem dX2_giveAlias_75 : decode cX2_giveAlias 75 = .ok (.iload 5, 2) := by decide +kernel
theorem dX2_giveAlias_77 : decode cX2_giveAlias 77 = .ok (.aload_n 0, 1) := by decide +kernel
theorem dX2_giveAlias_78 : decode cX2_giveAlias 78 = .ok (.getfield 21, 3) := by decide +kernel
theorem dX2_giveAlias_81 : decode cX2_giveAlias 81 = .ok (.iload_n 3, 1) := by decide +kernel
theorem dX2_giveAlias_82 : decode cX2_giveAlias 82 = .ok (.iaload, 1) := by decide +kernel
theorem dX2_giveAlias_83 : decode cX2_giveAlias 83 = .ok (.aload_n 0, 1) := by decide +kernel
theorem dX2_giveAlias_84 : decode cX2_giveAlias 84 = .ok (.getfield 24, 3) := by decide +kernel
theorem dX2_giveAlias_87 : decode cX2_giveAlias 87 = .ok (.iload_n 3, 1) := by decide +kernel
theorem dX2_giveAlias_88 : decode cX2_giveAlias 88 = .ok (.iaload, 1) := by decide +kernel
theorem dX2_giveAlias_89 : decode cX2_giveAlias 89 = .ok (.invokevirtual 76, 3) := by decide +kernel
theorem dX2_giveAlias_92 : decode cX2_giveAlias 92 = .ok (.pop, 1) := by decide +kernel
theorem dX2_giveAlias_93 : decode cX2_giveAlias 93 = .ok (.iload 5, 2) := by decide +kernel
theorem dX2_giveAlias_95 : decode cX2_giveAlias 95 = .ok (.ireturn, 1) := by decide +kernel
theorem dX2_giveAlias_96 : decode cX2_giveAlias 96 = .ok (.aload_n 0, 1) := by decide +kernel
theorem dX2_giveAlias_97 : decode cX2_giveAlias 97 = .ok (.getfield 18, 3) := by decide +kernel
theorem dX2_giveAlias_100 : decode cX2_giveAlias 100 = .ok (.iload 4, 2) := by decide +kernel
theorem dX2_giveAlias_102 : decode cX2_giveAlias 102 = .ok (.iaload, 1) := by decide +kernel
theorem dX2_giveAlias_103 : decode cX2_giveAlias 103 = .ok (.iload 5, 2) := by decide +kernel
theorem dX2_giveAlias_105 : decode cX2_giveAlias 105 = .ok (.if_icmp .ne 17, 3) := by decide +kernel
theorem dX2_giveAlias_108 : decode cX2_giveAlias 108 = .ok (.aload_n 0, 1) := by decide +kernel
theorem dX2_giveAlias_109 : decode cX2_giveAlias 109 = .ok (.getfield 15, 3) := by decide +kernel
theorem dX2_giveAlias_112 : decode cX2_giveAlias 112 = .ok (.iload 4, 2) := by decide +kernel
theorem dX2_giveAlias_114 : decode cX2_giveAlias 114 = .ok (.iaload, 1) := by decide +kernel
theorem dX2_giveAlias_115 : decode cX2_giveAlias 115 = .ok (.iload_n 2, 1) := by decide +kernel
theorem dX2_giveAlias_116 : decode cX2_giveAlias 116 = .ok (.if_icmp .ne 6, 3) := by decide +kernel
theorem dX2_giveAlias_119 : decode cX2_giveAlias 119 = .ok (.bipush (-5), 2) := by decide +kernel
theorem dX2_giveAlias_121 : decode cX2_giveAlias 121 = .ok (.ireturn, 1) := by decide +kernel
theorem dX2_giveAlias_122 : decode cX2_giveAlias 122 = .ok (.aload_n 0, 1) := by decide +kernel
theorem dX2_giveAlias_123 : decode cX2_giveAlias 123 = .ok (.iload 4, 2) := by decide +kernel
theorem dX2_giveAlias_125 : decode cX2_giveAlias 125 = .ok (.iload_n 1, 1) := by decide +kernel
theorem dX2_giveAlias_126 : decode cX2_giveAlias 126 = .ok (.iload_n 2, 1) := by decide +kernel
theorem dX2_giveAlias_127 : decode cX2_giveAlias 127 = .ok (.iload 5, 2) := by decide +kernel
theorem dX2_giveAlias_129 : decode cX2_giveAlias 129 = .ok (.aload_n 0, 1) := by decide +kernel
theorem dX2_giveAlias_130 : decode cX2_giveAlias 130 = .ok (.getfield 21, 3) := by decide +kernel
theorem dX2_giveAlias_133 : decode cX2_giveAlias 133 = .ok (.iload_n 3, 1) := by decide +kernel
theorem dX2_giveAlias_134 : decode cX2_giveAlias 134 = .ok (.iaload, 1) := by decide +kernel
theorem dX2_giveAlias_135 : decode cX2_giveAlias 135 = .ok (.aload_n 0, 1) := by decide +kernel
theorem dX2_giveAlias_136 : decode cX2_giveAlias 136 = .ok (.getfield 24, 3) := by decide +kernel
theorem dX2_giveAlias_139 : decode cX2_giveAlias 139 = .ok (.iload_n 3, 1) := by decide +kernel
theorem dX2_giveAlias_140 : decode cX2_giveAlias 140 = .ok (.iaload, 1) := by decide +kernel
theorem dX2_giveAlias_141 : decode cX2_giveAlias 141 = .ok (.invokevirtual 83, 3) := by decide +kernel
theorem dX2_giveAlias_144 : decode cX2_giveAlias 144 = .ok (.iload 5, 2) := by decide +kernel
theorem dX2_giveAlias_146 : decode cX2_giveAlias 146 = .ok (.ireturn, 1) := by decide +kernel
theorem dX2_giveBackDeadRoom_0 : decode cX2_giveBackDeadRoom 0 = .ok (.aload_n 0, 1) := by decide +kernel
theorem dX2_giveBackDeadRoom_1 : decode cX2_giveBackDeadRoom 1 = .ok (.invokevirtual 95, 3) := by decide +kernel
theorem dX2_giveBackDeadRoom_4 : decode cX2_giveBackDeadRoom 4 = .ok (.ifCond .ne 6, 3) := by decide +kernel
theorem dX2_giveBackDeadRoom_7 : decode cX2_giveBackDeadRoom 7 = .ok (.bipush (-5), 2) := by decide +kernel
theorem dX2_giveBackDeadRoom_9 : decode cX2_giveBackDeadRoom 9 = .ok (.ireturn, 1) := by decide +kernel
theorem dX2_giveBackDeadRoom_10 : decode cX2_giveBackDeadRoom 10 = .ok (.aload_n 0, 1) := by decide +kernel
theorem dX2_giveBackDeadRoom_11 : decode cX2_giveBackDeadRoom 11 = .ok (.invokevirtual 99, 3) := by decide +kernel
theorem dX2_giveBackDeadRoom_14 : decode cX2_giveBackDeadRoom 14 = .ok (.ireturn, 1) := by decide +kernel
theorem dX2_changeBlocks_0 : decode cX2_changeBlocks 0 = .ok (.iload_n 1, 1) := by decide +kernel
theorem dX2_changeBlocks_1 : decode cX2_changeBlocks 1 = .ok (.iconst 1, 1) := by decide +kernel
theorem dX2_changeBlocks_2 : decode cX2_changeBlocks 2 = .ok (.if_icmp .lt 9, 3) := by decide +kernel
theorem dX2_changeBlocks_5 : decode cX2_changeBlocks 5 = .ok (.iload_n 1, 1) := by decide +kernel
theorem dX2_changeBlocks_6 : decode cX2_changeBlocks 6 = .ok (.bipush 6, 2) := by decide +kernel
theorem dX2_changeBlocks_8 : decode cX2_changeBlocks 8 = .ok (.if_icmp .le 6, 3) := by decide +kernel
theorem dX2_changeBlocks_11 : decode cX2_changeBlocks 11 = .ok (.bipush (-2), 2) := by decide +kernel
theorem dX2_changeBlocks_13 : decode cX2_changeBlocks 13 = .ok (.ireturn, 1) := by decide +kernel
theorem dX2_changeBlocks_14 : decode cX2_changeBlocks 14 = .ok (.aload_n 0, 1) := by decide +kernel
theorem dX2_changeBlocks_15 : decode cX2_changeBlocks 15 = .ok (.getfield 27, 3) := by decide +kernel
theorem dX2_changeBlocks_18 : decode cX2_changeBlocks 18 = .ok (.iload_n 1, 1) := by decide +kernel
theorem dX2_changeBlocks_19 : decode cX2_changeBlocks 19 = .ok (.iconst 4, 1) := by decide +kernel
theorem dX2_changeBlocks_20 : decode cX2_changeBlocks 20 = .ok (.imul, 1) := by decide +kernel
theorem dX2_changeBlocks_21 : decode cX2_changeBlocks 21 = .ok (.if_icmp .le 6, 3) := by decide +kernel
theorem dX2_changeBlocks_24 : decode cX2_changeBlocks 24 = .ok (.bipush (-6), 2) := by decide +kernel
theorem dX2_changeBlocks_26 : decode cX2_changeBlocks 26 = .ok (.ireturn, 1) := by decide +kernel
theorem dX2_changeBlocks_27 : decode cX2_changeBlocks 27 = .ok (.iload_n 1, 1) := by decide +kernel
theorem dX2_changeBlocks_28 : decode cX2_changeBlocks 28 = .ok (.aload_n 0, 1) := by decide +kernel
theorem dX2_changeBlocks_29 : decode cX2_changeBlocks 29 = .ok (.getfield 31, 3) := by decide +kernel
theorem dX2_changeBlocks_32 : decode cX2_changeBlocks 32 = .ok (.if_icmp .ne 6, 3) := by decide +kernel
theorem dX2_changeBlocks_35 : decode cX2_changeBlocks 35 = .ok (.bipush (-5), 2) := by decide +kernel
theorem dX2_changeBlocks_37 : decode cX2_changeBlocks 37 = .ok (.ireturn, 1) := by decide +kernel
theorem dX2_changeBlocks_38 : decode cX2_changeBlocks 38 = .ok (.aload_n 0, 1) := by decide +kernel
theorem dX2_changeBlocks_39 : decode cX2_changeBlocks 39 = .ok (.getfield 31, 3) := by decide +kernel
theorem dX2_changeBlocks_42 : decode cX2_changeBlocks 42 = .ok (.istore_n 2, 1) := by decide +kernel
theorem dX2_changeBlocks_43 : decode cX2_changeBlocks 43 = .ok (.aload_n 0, 1) := by decide +kernel
theorem dX2_changeBlocks_44 : decode cX2_changeBlocks 44 = .ok (.iload_n 1, 1) := by decide +kernel
theorem dX2_changeBlocks_45 : decode cX2_changeBlocks 45 = .ok (.putfield 31, 3) := by decide +kernel
theorem dX2_changeBlocks_48 : decode cX2_changeBlocks 48 = .ok (.aload_n 0, 1) := by decide +kernel
theorem dX2_changeBlocks_49 : decode cX2_changeBlocks 49 = .ok (.invokevirtual 99, 3) := by decide +kernel
theorem dX2_changeBlocks_52 : decode cX2_changeBlocks 52 = .ok (.pop, 1) := by decide +kernel
theorem dX2_changeBlocks_53 : decode cX2_changeBlocks 53 = .ok (.iload_n 2, 1) := by decide +kernel
theorem dX2_changeBlocks_54 : decode cX2_changeBlocks 54 = .ok (.ireturn, 1) := by decide +kernel
theorem dX2_tellEntry_0 : decode cX2_tellEntry 0 = .ok (.aload_n 0, 1) := by decide +kernel
theorem dX2_tellEntry_1 : decode cX2_tellEntry 1 = .ok (.iload_n 1, 1) := by decide +kernel
theorem dX2_tellEntry_2 : decode cX2_tellEntry 2 = .ok (.invokevirtual 59, 3) := by decide +kernel
theorem dX2_tellEntry_5 : decode cX2_tellEntry 5 = .ok (.istore_n 3, 1) := by decide +kernel
theorem dX2_tellEntry_6 : decode cX2_tellEntry 6 = .ok (.aload_n 0, 1) := by decide +kernel
theorem dX2_tellEntry_7 : decode cX2_tellEntry 7 = .ok (.iload_n 3, 1) := by decide +kernel
theorem dX2_tellEntry_8 : decode cX2_tellEntry 8 = .ok (.invokevirtual 63, 3) := by decide +kernel
theorem dX2_tellEntry_11 : decode cX2_tellEntry 11 = .ok (.ifCond .ne 5, 3) := by decide +kernel
theorem dX2_tellEntry_14 : decode cX2_tellEntry 14 = .ok (.iconst (-1), 1) := by decide +kernel
theorem dX2_tellEntry_15 : decode cX2_tellEntry 15 = .ok (.ireturn, 1) := by decide +kernel
theorem dX2_tellEntry_16 : decode cX2_tellEntry 16 = .ok (.iload_n 2, 1) := by decide +kernel
theorem dX2_tellEntry_17 : decode cX2_tellEntry 17 = .ok (.tableswitch 124 0 8 #[51, 53, 57, 71, 78, 85, 92, 103, 110], 51) := by decide +kernel
theorem dX2_tellEntry_68 : decode cX2_tellEntry 68 = .ok (.iload_n 3, 1) := by decide +kernel
theorem dX2_tellEntry_69 : decode cX2_tellEntry 69 = .ok (.ireturn, 1) := by decide +kernel
theorem dX2_tellEntry_70 : decode cX2_tellEntry 70 = .ok (.iload_n 3, 1) := by decide +kernel
theorem dX2_tellEntry_71 : decode cX2_tellEntry 71 = .ok (.iconst 4, 1) := by decide +kernel
theorem dX2_tellEntry_72 : decode cX2_tellEntry 72 = .ok (.idiv, 1) := by decide +kernel
theorem dX2_tellEntry_73 : decode cX2_tellEntry 73 = .ok (.ireturn, 1) := by decide +kernel
theorem dX2_tellEntry_74 : decode cX2_tellEntry 74 = .ok (.aload_n 0, 1) := by decide +kernel
theorem dX2_tellEntry_75 : decode cX2_tellEntry 75 = .ok (.iload_n 3, 1) := by decide +kernel
theorem dX2_tellEntry_76 : decode cX2_tellEntry 76 = .ok (.invokevirtual 80, 3) := by decide +kernel
theorem dX2_tellEntry_79 : decode cX2_tellEntry 79 = .ok (.ifCond .eq 7, 3) := by decide +kernel
theorem dX2_tellEntry_82 : decode cX2_tellEntry 82 = .ok (.iconst 0, 1) := by decide +kernel
theorem dX2_tellEntry_83 : decode cX2_tellEntry 83 = .ok (.goto 4, 3) := by decide +kernel
theorem dX2_tellEntry_86 : decode cX2_tellEntry 86 = .ok (.iconst 1, 1) := by decide +kernel
theorem dX2_tellEntry_87 : decode cX2_tellEntry 87 = .ok (.ireturn, 1) := by decide +kernel
theorem dX2_tellEntry_88 : decode cX2_tellEntry 88 = .ok (.aload_n 0, 1) := by decide +kernel
theorem dX2_tellEntry_89 : decode cX2_tellEntry 89 = .ok (.getfield 18, 3) := by decide +kernel
theorem dX2_tellEntry_92 : decode cX2_tellEntry 92 = .ok (.iload_n 3, 1) := by decide +kernel
theorem dX2_tellEntry_93 : decode cX2_tellEntry 93 = .ok (.iaload, 1) := by decide +kernel
theorem dX2_tellEntry_94 : decode cX2_tellEntry 94 = .ok (.ireturn, 1) := by decide +kernel
theorem dX2_tellEntry_95 : decode cX2_tellEntry 95 = .ok (.aload_n 0, 1) := by decide +kernel
theorem dX2_tellEntry_96 : decode cX2_tellEntry 96 = .ok (.getfield 21, 3) := by decide +kernel
theorem dX2_tellEntry_99 : decode cX2_tellEntry 99 = .ok (.iload_n 3, 1) := by decide +kernel
theorem dX2_tellEntry_100 : decode cX2_tellEntry 100 = .ok (.iaload, 1) := by decide +kernel
theorem dX2_tellEntry_101 : decode cX2_tellEntry 101 = .ok (.ireturn, 1) := by decide +kernel
theorem dX2_tellEntry_102 : decode cX2_tellEntry 102 = .ok (.aload_n 0, 1) := by decide +kernel
theorem dX2_tellEntry_103 : decode cX2_tellEntry 103 = .ok (.getfield 24, 3) := by decide +kernel
theorem dX2_tellEntry_106 : decode cX2_tellEntry 106 = .ok (.iload_n 3, 1) := by decide +kernel
theorem dX2_tellEntry_107 : decode cX2_tellEntry 107 = .ok (.iaload, 1) := by decide +kernel
theorem dX2_tellEntry_108 : decode cX2_tellEntry 108 = .ok (.ireturn, 1) := by decide +kernel
theorem dX2_tellEntry_109 : decode cX2_tellEntry 109 = .ok (.aload_n 0, 1) := by decide +kernel
theorem dX2_tellEntry_110 : decode cX2_tellEntry 110 = .ok (.aload_n 0, 1) := by decide +kernel
theorem dX2_tellEntry_111 : decode cX2_tellEntry 111 = .ok (.getfield 18, 3) := by decide +kernel
theorem dX2_tellEntry_114 : decode cX2_tellEntry 114 = .ok (.iload_n 3, 1) := by decide +kernel
theorem dX2_tellEntry_115 : decode cX2_tellEntry 115 = .ok (.iaload, 1) := by decide +kernel
theorem dX2_tellEntry_116 : decode cX2_tellEntry 116 = .ok (.invokevirtual 102, 3) := by decide +kernel
theorem dX2_tellEntry_119 : decode cX2_tellEntry 119 = .ok (.ireturn, 1) := by decide +kernel
theorem dX2_tellEntry_120 : decode cX2_tellEntry 120 = .ok (.aload_n 0, 1) := by decide +kernel
theorem dX2_tellEntry_121 : decode cX2_tellEntry 121 = .ok (.getfield 15, 3) := by decide +kernel
theorem dX2_tellEntry_124 : decode cX2_tellEntry 124 = .ok (.iload_n 3, 1) := by decide +kernel
theorem dX2_tellEntry_125 : decode cX2_tellEntry 125 = .ok (.iaload, 1) := by decide +kernel
theorem dX2_tellEntry_126 : decode cX2_tellEntry 126 = .ok (.ireturn, 1) := by decide +kernel
theorem dX2_tellEntry_127 : decode cX2_tellEntry 127 = .ok (.aload_n 0, 1) := by decide +kernel
theorem dX2_tellEntry_128 : decode cX2_tellEntry 128 = .ok (.iload_n 3, 1) := by decide +kernel
theorem dX2_tellEntry_129 : decode cX2_tellEntry 129 = .ok (.invokevirtual 105, 3) := by decide +kernel
theorem dX2_tellEntry_132 : decode cX2_tellEntry 132 = .ok (.ifCond .eq 7, 3) := by decide +kernel
theorem dX2_tellEntry_135 : decode cX2_tellEntry 135 = .ok (.iconst 1, 1) := by decide +kernel
theorem dX2_tellEntry_136 : decode cX2_tellEntry 136 = .ok (.goto 4, 3) := by decide +kernel
theorem dX2_tellEntry_139 : decode cX2_tellEntry 139 = .ok (.iconst 0, 1) := by decide +kernel
theorem dX2_tellEntry_140 : decode cX2_tellEntry 140 = .ok (.ireturn, 1) := by decide +kernel
theorem dX2_tellEntry_141 : decode cX2_tellEntry 141 = .ok (.bipush (-2), 2) := by decide +kernel
theorem dX2_tellEntry_143 : decode cX2_tellEntry 143 = .ok (.ireturn, 1) := by decide +kernel
theorem dX2_tellName_0 : decode cX2_tellName 0 = .ok (.iload_n 1, 1) := by decide +kernel
theorem dX2_tellName_1 : decode cX2_tellName 1 = .ok (.ifCond .ge 6, 3) := by decide +kernel
theorem dX2_tellName_4 : decode cX2_tellName 4 = .ok (.bipush (-2), 2) := by decide +kernel
theorem dX2_tellName_6 : decode cX2_tellName 6 = .ok (.ireturn, 1) := by decide +kernel
theorem dX2_tellName_7 : decode cX2_tellName 7 = .ok (.aload_n 0, 1) := by decide +kernel
theorem dX2_tellName_8 : decode cX2_tellName 8 = .ok (.iload_n 1, 1) := by decide +kernel
theorem dX2_tellName_9 : decode cX2_tellName 9 = .ok (.invokevirtual 63, 3) := by decide +kernel
theorem dX2_tellName_12 : decode cX2_tellName 12 = .ok (.ifCond .eq 12, 3) := by decide +kernel
theorem dX2_tellName_15 : decode cX2_tellName 15 = .ok (.aload_n 0, 1) := by decide +kernel
theorem dX2_tellName_16 : decode cX2_tellName 16 = .ok (.getfield 9, 3) := by decide +kernel
theorem dX2_tellName_19 : decode cX2_tellName 19 = .ok (.iload_n 1, 1) := by decide +kernel
theorem dX2_tellName_20 : decode cX2_tellName 20 = .ok (.iaload, 1) := by decide +kernel
theorem dX2_tellName_21 : decode cX2_tellName 21 = .ok (.goto 5, 3) := by decide +kernel
theorem dX2_tellName_24 : decode cX2_tellName 24 = .ok (.bipush (-5), 2) := by decide +kernel
theorem dX2_tellName_26 : decode cX2_tellName 26 = .ok (.ireturn, 1) := by decide +kernel
theorem dX2_tellUnit_0 : decode cX2_tellUnit 0 = .ok (.iload_n 1, 1) := by decide +kernel
theorem dX2_tellUnit_1 : decode cX2_tellUnit 1 = .ok (.ifCond .lt 9, 3) := by decide +kernel
theorem dX2_tellUnit_4 : decode cX2_tellUnit 4 = .ok (.iload_n 1, 1) := by decide +kernel
theorem dX2_tellUnit_5 : decode cX2_tellUnit 5 = .ok (.bipush 100, 2) := by decide +kernel
theorem dX2_tellUnit_7 : decode cX2_tellUnit 7 = .ok (.if_icmp .lt 5, 3) := by decide +kernel
theorem dX2_tellUnit_10 : decode cX2_tellUnit 10 = .ok (.iconst (-1), 1) := by decide +kernel
theorem dX2_tellUnit_11 : decode cX2_tellUnit 11 = .ok (.ireturn, 1) := by decide +kernel
theorem dX2_tellUnit_12 : decode cX2_tellUnit 12 = .ok (.iload_n 1, 1) := by decide +kernel
theorem dX2_tellUnit_13 : decode cX2_tellUnit 13 = .ok (.aload_n 0, 1) := by decide +kernel
theorem dX2_tellUnit_14 : decode cX2_tellUnit 14 = .ok (.getfield 34, 3) := by decide +kernel
theorem dX2_tellUnit_17 : decode cX2_tellUnit 17 = .ok (.if_icmp .lt 6, 3) := by decide +kernel
theorem dX2_tellUnit_20 : decode cX2_tellUnit 20 = .ok (.bipush (-5), 2) := by decide +kernel
theorem dX2_tellUnit_22 : decode cX2_tellUnit 22 = .ok (.ireturn, 1) := by decide +kernel
theorem dX2_tellUnit_23 : decode cX2_tellUnit 23 = .ok (.iconst 0, 1) := by decide +kernel
theorem dX2_tellUnit_24 : decode cX2_tellUnit 24 = .ok (.istore_n 2, 1) := by decide +kernel
theorem dX2_tellUnit_25 : decode cX2_tellUnit 25 = .ok (.iload_n 2, 1) := by decide +kernel
theorem dX2_tellUnit_26 : decode cX2_tellUnit 26 = .ok (.aload_n 0, 1) := by decide +kernel
theorem dX2_tellUnit_27 : decode cX2_tellUnit 27 = .ok (.getfield 27, 3) := by decide +kernel
theorem dX2_tellUnit_30 : decode cX2_tellUnit 30 = .ok (.if_icmp .ge 43, 3) := by decide +kernel
theorem dX2_tellUnit_33 : decode cX2_tellUnit 33 = .ok (.iload_n 1, 1) := by decide +kernel
theorem dX2_tellUnit_34 : decode cX2_tellUnit 34 = .ok (.aload_n 0, 1) := by decide +kernel
theorem dX2_tellUnit_35 : decode cX2_tellUnit 35 = .ok (.getfield 18, 3) := by decide +kernel
theorem dX2_tellUnit_38 : decode cX2_tellUnit 38 = .ok (.iload_n 2, 1) := by decide +kernel
theorem dX2_tellUnit_39 : decode cX2_tellUnit 39 = .ok (.iaload, 1) := by decide +kernel
theorem dX2_tellUnit_40 : decode cX2_tellUnit 40 = .ok (.if_icmp .lt 27, 3) := by decide +kernel
theorem dX2_tellUnit_43 : decode cX2_tellUnit 43 = .ok (.iload_n 1, 1) := by decide +kernel
theorem dX2_tellUnit_44 : decode cX2_tellUnit 44 = .ok (.aload_n 0, 1) := by decide +kernel
theorem dX2_tellUnit_45 : decode cX2_tellUnit 45 = .ok (.getfield 18, 3) := by decide +kernel
theorem dX2_tellUnit_48 : decode cX2_tellUnit 48 = .ok (.iload_n 2, 1) := by decide +kernel
theorem dX2_tellUnit_49 : decode cX2_tellUnit 49 = .ok (.iaload, 1) := by decide +kernel
theorem dX2_tellUnit_50 : decode cX2_tellUnit 50 = .ok (.aload_n 0, 1) := by decide +kernel
theorem dX2_tellUnit_51 : decode cX2_tellUnit 51 = .ok (.getfield 21, 3) := by decide +kernel
theorem dX2_tellUnit_54 : decode cX2_tellUnit 54 = .ok (.iload_n 2, 1) := by decide +kernel
theorem dX2_tellUnit_55 : decode cX2_tellUnit 55 = .ok (.iaload, 1) := by decide +kernel
theorem dX2_tellUnit_56 : decode cX2_tellUnit 56 = .ok (.iadd, 1) := by decide +kernel
theorem dX2_tellUnit_57 : decode cX2_tellUnit 57 = .ok (.if_icmp .ge 10, 3) := by decide +kernel
theorem dX2_tellUnit_60 : decode cX2_tellUnit 60 = .ok (.aload_n 0, 1) := by decide +kernel
theorem dX2_tellUnit_61 : decode cX2_tellUnit 61 = .ok (.getfield 9, 3) := by decide +kernel
theorem dX2_tellUnit_64 : decode cX2_tellUnit 64 = .ok (.iload_n 2, 1) := by decide +kernel
theorem dX2_tellUnit_65 : decode cX2_tellUnit 65 = .ok (.iaload, 1) := by decide +kernel
theorem dX2_tellUnit_66 : decode cX2_tellUnit 66 = .ok (.ireturn, 1) := by decide +kernel
theorem dX2_tellUnit_67 : decode cX2_tellUnit 67 = .ok (.iinc 2 1, 3) := by decide +kernel
theorem dX2_tellUnit_70 : decode cX2_tellUnit 70 = .ok (.goto (-45), 3) := by decide +kernel
theorem dX2_tellUnit_73 : decode cX2_tellUnit 73 = .ok (.sipush 1000, 3) := by decide +kernel
theorem dX2_tellUnit_76 : decode cX2_tellUnit 76 = .ok (.ireturn, 1) := by decide +kernel
theorem dX2_tellFit_0 : decode cX2_tellFit 0 = .ok (.iload_n 1, 1) := by decide +kernel
theorem dX2_tellFit_1 : decode cX2_tellFit 1 = .ok (.invokestatic 53, 3) := by decide +kernel
theorem dX2_tellFit_4 : decode cX2_tellFit 4 = .ok (.ifCond .ne 6, 3) := by decide +kernel
theorem dX2_tellFit_7 : decode cX2_tellFit 7 = .ok (.bipush (-2), 2) := by decide +kernel
theorem dX2_tellFit_9 : decode cX2_tellFit 9 = .ok (.ireturn, 1) := by decide +kernel
theorem dX2_tellFit_10 : decode cX2_tellFit 10 = .ok (.aload_n 0, 1) := by decide +kernel
theorem dX2_tellFit_11 : decode cX2_tellFit 11 = .ok (.iload_n 1, 1) := by decide +kernel
theorem dX2_tellFit_12 : decode cX2_tellFit 12 = .ok (.invokevirtual 70, 3) := by decide +kernel
theorem dX2_tellFit_15 : decode cX2_tellFit 15 = .ok (.ifCond .eq 5, 3) := by decide +kernel
theorem dX2_tellFit_18 : decode cX2_tellFit 18 = .ok (.iconst 0, 1) := by decide +kernel
theorem dX2_tellFit_19 : decode cX2_tellFit 19 = .ok (.ireturn, 1) := by decide +kernel
theorem dX2_tellFit_20 : decode cX2_tellFit 20 = .ok (.aload_n 0, 1) := by decide +kernel
theorem dX2_tellFit_21 : decode cX2_tellFit 21 = .ok (.invokevirtual 120, 3) := by decide +kernel
theorem dX2_tellFit_24 : decode cX2_tellFit 24 = .ok (.iload_n 1, 1) := by decide +kernel
theorem dX2_tellFit_25 : decode cX2_tellFit 25 = .ok (.iadd, 1) := by decide +kernel
theorem dX2_tellFit_26 : decode cX2_tellFit 26 = .ok (.bipush 100, 2) := by decide +kernel
theorem dX2_tellFit_28 : decode cX2_tellFit 28 = .ok (.if_icmp .gt 7, 3) := by decide +kernel
theorem dX2_tellFit_31 : decode cX2_tellFit 31 = .ok (.iconst 1, 1) := by decide +kernel
theorem dX2_tellFit_32 : decode cX2_tellFit 32 = .ok (.goto 4, 3) := by decide +kernel
theorem dX2_tellFit_35 : decode cX2_tellFit 35 = .ok (.iconst 2, 1) := by decide +kernel
theorem dX2_tellFit_36 : decode cX2_tellFit 36 = .ok (.ireturn, 1) := by decide +kernel
theorem dX2_tellBeginning_0 : decode cX2_tellBeginning 0 = .ok (.iload_n 1, 1) := by decide +kernel
theorem dX2_tellBeginning_1 : decode cX2_tellBeginning 1 = .ok (.ifCond .lt 13, 3) := by decide +kernel
theorem dX2_tellBeginning_4 : decode cX2_tellBeginning 4 = .ok (.iload_n 1, 1) := by decide +kernel
theorem dX2_tellBeginning_5 : decode cX2_tellBeginning 5 = .ok (.bipush 26, 2) := by decide +kernel
theorem dX2_tellBeginning_7 : decode cX2_tellBeginning 7 = .ok (.if_icmp .ge 7, 3) := by decide +kernel
theorem dX2_tellBeginning_10 : decode cX2_tellBeginning 10 = .ok (.iload_n 2, 1) := by decide +kernel
theorem dX2_tellBeginning_11 : decode cX2_tellBeginning 11 = .ok (.ifCond .ge 6, 3) := by decide +kernel
theorem dX2_tellBeginning_14 : decode cX2_tellBeginning 14 = .ok (.bipush (-2), 2) := by decide +kernel
theorem dX2_tellBeginning_16 : decode cX2_tellBeginning 16 = .ok (.ireturn, 1) := by decide +kernel
theorem dX2_tellBeginning_17 : decode cX2_tellBeginning 17 = .ok (.aload_n 0, 1) := by decide +kernel
theorem dX2_tellBeginning_18 : decode cX2_tellBeginning 18 = .ok (.iload_n 1, 1) := by decide +kernel
theorem dX2_tellBeginning_19 : decode cX2_tellBeginning 19 = .ok (.bipush 26, 2) := by decide +kernel
theorem dX2_tellBeginning_21 : decode cX2_tellBeginning 21 = .ok (.imul, 1) := by decide +kernel
theorem dX2_tellBeginning_22 : decode cX2_tellBeginning 22 = .ok (.invokevirtual 123, 3) := by decide +kernel
theorem dX2_tellBeginning_25 : decode cX2_tellBeginning 25 = .ok (.istore_n 3, 1) := by decide +kernel
theorem dX2_tellBeginning_26 : decode cX2_tellBeginning 26 = .ok (.aload_n 0, 1) := by decide +kernel
theorem dX2_tellBeginning_27 : decode cX2_tellBeginning 27 = .ok (.iload_n 1, 1) := by decide +kernel
theorem dX2_tellBeginning_28 : decode cX2_tellBeginning 28 = .ok (.iconst 1, 1) := by decide +kernel
theorem dX2_tellBeginning_29 : decode cX2_tellBeginning 29 = .ok (.iadd, 1) := by decide +kernel
theorem dX2_tellBeginning_30 : decode cX2_tellBeginning 30 = .ok (.bipush 26, 2) := by decide +kernel
theorem dX2_tellBeginning_32 : decode cX2_tellBeginning 32 = .ok (.imul, 1) := by decide +kernel
theorem dX2_tellBeginning_33 : decode cX2_tellBeginning 33 = .ok (.invokevirtual 123, 3) := by decide +kernel
theorem dX2_tellBeginning_36 : decode cX2_tellBeginning 36 = .ok (.iload_n 3, 1) := by decide +kernel
theorem dX2_tellBeginning_37 : decode cX2_tellBeginning 37 = .ok (.isub, 1) := by decide +kernel
theorem dX2_tellBeginning_38 : decode cX2_tellBeginning 38 = .ok (.istore 4, 2) := by decide +kernel
theorem dX2_tellBeginning_40 : decode cX2_tellBeginning 40 = .ok (.iload_n 2, 1) := by decide +kernel
theorem dX2_tellBeginning_41 : decode cX2_tellBeginning 41 = .ok (.iload 4, 2) := by decide +kernel
theorem dX2_tellBeginning_43 : decode cX2_tellBeginning 43 = .ok (.if_icmp .ge 13, 3) := by decide +kernel
theorem dX2_tellBeginning_46 : decode cX2_tellBeginning 46 = .ok (.aload_n 0, 1) := by decide +kernel
theorem dX2_tellBeginning_47 : decode cX2_tellBeginning 47 = .ok (.iload_n 3, 1) := by decide +kernel
theorem dX2_tellBeginning_48 : decode cX2_tellBeginning 48 = .ok (.iload_n 2, 1) := by decide +kernel
theorem dX2_tellBeginning_49 : decode cX2_tellBeginning 49 = .ok (.iadd, 1) := by decide +kernel
theorem dX2_tellBeginning_50 : decode cX2_tellBeginning 50 = .ok (.invokevirtual 117, 3) := by decide +kernel
theorem dX2_tellBeginning_53 : decode cX2_tellBeginning 53 = .ok (.goto 5, 3) := by decide +kernel
theorem dX2_tellBeginning_56 : decode cX2_tellBeginning 56 = .ok (.bipush (-5), 2) := by decide +kernel
theorem dX2_tellBeginning_58 : decode cX2_tellBeginning 58 = .ok (.ireturn, 1) := by decide +kernel
theorem dX2_tellCount_0 : decode cX2_tellCount 0 = .ok (.iload_n 1, 1) := by decide +kernel
theorem dX2_tellCount_1 : decode cX2_tellCount 1 = .ok (.tableswitch 147 0 12 #[67, 72, 82, 87, 92, 97, 109, 114, 119, 124, 132, 137, 142], 67) := by decide +kernel
theorem dX2_tellCount_68 : decode cX2_tellCount 68 = .ok (.aload_n 0, 1) := by decide +kernel
end
section
theorem dX2_tellCount_69 : decode cX2_tellCount 69 = .ok (.getfield 27, 3) := by decide +kernel
theorem dX2_tellCount_72 : decode cX2_tellCount 72 = .ok (.ireturn, 1) := by decide +kernel
theorem dX2_tellCount_73 : decode cX2_tellCount 73 = .ok (.aload_n 0, 1) := by decide +kernel
theorem dX2_tellCount_74 : decode cX2_tellCount 74 = .ok (.getfield 27, 3) := by decide +kernel
theorem dX2_tellCount_77 : decode cX2_tellCount 77 = .ok (.aload_n 0, 1) := by decide +kernel
theorem dX2_tellCount_78 : decode cX2_tellCount 78 = .ok (.invokevirtual 126, 3) := by decide +kernel
theorem dX2_tellCount_81 : decode cX2_tellCount 81 = .ok (.isub, 1) := by decide +kernel
theorem dX2_tellCount_82 : decode cX2_tellCount 82 = .ok (.ireturn, 1) := by decide +kernel
theorem dX2_tellCount_83 : decode cX2_tellCount 83 = .ok (.aload_n 0, 1) := by decide +kernel
theorem dX2_tellCount_84 : decode cX2_tellCount 84 = .ok (.invokevirtual 126, 3) := by decide +kernel
theorem dX2_tellCount_87 : decode cX2_tellCount 87 = .ok (.ireturn, 1) := by decide +kernel
theorem dX2_tellCount_88 : decode cX2_tellCount 88 = .ok (.aload_n 0, 1) := by decide +kernel
theorem dX2_tellCount_89 : decode cX2_tellCount 89 = .ok (.invokevirtual 129, 3) := by decide +kernel
theorem dX2_tellCount_92 : decode cX2_tellCount 92 = .ok (.ireturn, 1) := by decide +kernel
theorem dX2_tellCount_93 : decode cX2_tellCount 93 = .ok (.aload_n 0, 1) := by decide +kernel
theorem dX2_tellCount_94 : decode cX2_tellCount 94 = .ok (.getfield 31, 3) := by decide +kernel
theorem dX2_tellCount_97 : decode cX2_tellCount 97 = .ok (.ireturn, 1) := by decide +kernel
theorem dX2_tellCount_98 : decode cX2_tellCount 98 = .ok (.aload_n 0, 1) := by decide +kernel
theorem dX2_tellCount_99 : decode cX2_tellCount 99 = .ok (.getfield 31, 3) := by decide +kernel
theorem dX2_tellCount_102 : decode cX2_tellCount 102 = .ok (.iconst 4, 1) := by decide +kernel
theorem dX2_tellCount_103 : decode cX2_tellCount 103 = .ok (.imul, 1) := by decide +kernel
theorem dX2_tellCount_104 : decode cX2_tellCount 104 = .ok (.aload_n 0, 1) := by decide +kernel
theorem dX2_tellCount_105 : decode cX2_tellCount 105 = .ok (.getfield 27, 3) := by decide +kernel
theorem dX2_tellCount_108 : decode cX2_tellCount 108 = .ok (.isub, 1) := by decide +kernel
theorem dX2_tellCount_109 : decode cX2_tellCount 109 = .ok (.ireturn, 1) := by decide +kernel
theorem dX2_tellCount_110 : decode cX2_tellCount 110 = .ok (.aload_n 0, 1) := by decide +kernel
theorem dX2_tellCount_111 : decode cX2_tellCount 111 = .ok (.getfield 34, 3) := by decide +kernel
theorem dX2_tellCount_114 : decode cX2_tellCount 114 = .ok (.ireturn, 1) := by decide +kernel
theorem dX2_tellCount_115 : decode cX2_tellCount 115 = .ok (.aload_n 0, 1) := by decide +kernel
theorem dX2_tellCount_116 : decode cX2_tellCount 116 = .ok (.invokevirtual 120, 3) := by decide +kernel
theorem dX2_tellCount_119 : decode cX2_tellCount 119 = .ok (.ireturn, 1) := by decide +kernel
theorem dX2_tellCount_120 : decode cX2_tellCount 120 = .ok (.aload_n 0, 1) := by decide +kernel
theorem dX2_tellCount_121 : decode cX2_tellCount 121 = .ok (.invokevirtual 95, 3) := by decide +kernel
theorem dX2_tellCount_124 : decode cX2_tellCount 124 = .ok (.ireturn, 1) := by decide +kernel
theorem dX2_tellCount_125 : decode cX2_tellCount 125 = .ok (.bipush 100, 2) := by decide +kernel
theorem dX2_tellCount_127 : decode cX2_tellCount 127 = .ok (.aload_n 0, 1) := by decide +kernel
theorem dX2_tellCount_128 : decode cX2_tellCount 128 = .ok (.getfield 34, 3) := by decide +kernel
theorem dX2_tellCount_131 : decode cX2_tellCount 131 = .ok (.isub, 1) := by decide +kernel
theorem dX2_tellCount_132 : decode cX2_tellCount 132 = .ok (.ireturn, 1) := by decide +kernel
theorem dX2_tellCount_133 : decode cX2_tellCount 133 = .ok (.aload_n 0, 1) := by decide +kernel
theorem dX2_tellCount_134 : decode cX2_tellCount 134 = .ok (.invokevirtual 132, 3) := by decide +kernel
theorem dX2_tellCount_137 : decode cX2_tellCount 137 = .ok (.ireturn, 1) := by decide +kernel
theorem dX2_tellCount_138 : decode cX2_tellCount 138 = .ok (.aload_n 0, 1) := by decide +kernel
theorem dX2_tellCount_139 : decode cX2_tellCount 139 = .ok (.getfield 37, 3) := by decide +kernel
theorem dX2_tellCount_142 : decode cX2_tellCount 142 = .ok (.ireturn, 1) := by decide +kernel
theorem dX2_tellCount_143 : decode cX2_tellCount 143 = .ok (.aload_n 0, 1) := by decide +kernel
theorem dX2_tellCount_144 : decode cX2_tellCount 144 = .ok (.getfield 40, 3) := by decide +kernel
theorem dX2_tellCount_147 : decode cX2_tellCount 147 = .ok (.ireturn, 1) := by decide +kernel
theorem dX2_tellCount_148 : decode cX2_tellCount 148 = .ok (.bipush (-2), 2) := by decide +kernel
theorem dX2_tellCount_150 : decode cX2_tellCount 150 = .ok (.ireturn, 1) := by decide +kernel
theorem dX2_isName_0 : decode cX2_isName 0 = .ok (.iload_n 0, 1) := by decide +kernel
theorem dX2_isName_1 : decode cX2_isName 1 = .ok (.ifCond .lt 14, 3) := by decide +kernel
theorem dX2_isName_4 : decode cX2_isName 4 = .ok (.iload_n 0, 1) := by decide +kernel
theorem dX2_isName_5 : decode cX2_isName 5 = .ok (.sipush 676, 3) := by decide +kernel
theorem dX2_isName_8 : decode cX2_isName 8 = .ok (.if_icmp .ge 7, 3) := by decide +kernel
theorem dX2_isName_11 : decode cX2_isName 11 = .ok (.iconst 1, 1) := by decide +kernel
theorem dX2_isName_12 : decode cX2_isName 12 = .ok (.goto 4, 3) := by decide +kernel
theorem dX2_isName_15 : decode cX2_isName 15 = .ok (.iconst 0, 1) := by decide +kernel
theorem dX2_isName_16 : decode cX2_isName 16 = .ok (.ireturn, 1) := by decide +kernel
theorem dX2_isLength_0 : decode cX2_isLength 0 = .ok (.iload_n 0, 1) := by decide +kernel
theorem dX2_isLength_1 : decode cX2_isLength 1 = .ok (.iconst 1, 1) := by decide +kernel
theorem dX2_isLength_2 : decode cX2_isLength 2 = .ok (.if_icmp .lt 13, 3) := by decide +kernel
theorem dX2_isLength_5 : decode cX2_isLength 5 = .ok (.iload_n 0, 1) := by decide +kernel
theorem dX2_isLength_6 : decode cX2_isLength 6 = .ok (.bipush 40, 2) := by decide +kernel
theorem dX2_isLength_8 : decode cX2_isLength 8 = .ok (.if_icmp .gt 7, 3) := by decide +kernel
theorem dX2_isLength_11 : decode cX2_isLength 11 = .ok (.iconst 1, 1) := by decide +kernel
theorem dX2_isLength_12 : decode cX2_isLength 12 = .ok (.goto 4, 3) := by decide +kernel
theorem dX2_isLength_15 : decode cX2_isLength 15 = .ok (.iconst 0, 1) := by decide +kernel
theorem dX2_isLength_16 : decode cX2_isLength 16 = .ok (.ireturn, 1) := by decide +kernel
theorem dX2_isMark_0 : decode cX2_isMark 0 = .ok (.iload_n 0, 1) := by decide +kernel
theorem dX2_isMark_1 : decode cX2_isMark 1 = .ok (.ifCond .lt 14, 3) := by decide +kernel
theorem dX2_isMark_4 : decode cX2_isMark 4 = .ok (.iload_n 0, 1) := by decide +kernel
theorem dX2_isMark_5 : decode cX2_isMark 5 = .ok (.sipush 9999, 3) := by decide +kernel
theorem dX2_isMark_8 : decode cX2_isMark 8 = .ok (.if_icmp .gt 7, 3) := by decide +kernel
theorem dX2_isMark_11 : decode cX2_isMark 11 = .ok (.iconst 1, 1) := by decide +kernel
theorem dX2_isMark_12 : decode cX2_isMark 12 = .ok (.goto 4, 3) := by decide +kernel
theorem dX2_isMark_15 : decode cX2_isMark 15 = .ok (.iconst 0, 1) := by decide +kernel
theorem dX2_isMark_16 : decode cX2_isMark 16 = .ok (.ireturn, 1) := by decide +kernel
theorem dX2_isRank_0 : decode cX2_isRank 0 = .ok (.iload_n 1, 1) := by decide +kernel
theorem dX2_isRank_1 : decode cX2_isRank 1 = .ok (.ifCond .lt 15, 3) := by decide +kernel
theorem dX2_isRank_4 : decode cX2_isRank 4 = .ok (.iload_n 1, 1) := by decide +kernel
theorem dX2_isRank_5 : decode cX2_isRank 5 = .ok (.aload_n 0, 1) := by decide +kernel
theorem dX2_isRank_6 : decode cX2_isRank 6 = .ok (.getfield 27, 3) := by decide +kernel
theorem dX2_isRank_9 : decode cX2_isRank 9 = .ok (.if_icmp .ge 7, 3) := by decide +kernel
theorem dX2_isRank_12 : decode cX2_isRank 12 = .ok (.iconst 1, 1) := by decide +kernel
theorem dX2_isRank_13 : decode cX2_isRank 13 = .ok (.goto 4, 3) := by decide +kernel
theorem dX2_isRank_16 : decode cX2_isRank 16 = .ok (.iconst 0, 1) := by decide +kernel
theorem dX2_isRank_17 : decode cX2_isRank 17 = .ok (.ireturn, 1) := by decide +kernel
theorem dX2_isMember_0 : decode cX2_isMember 0 = .ok (.aload_n 0, 1) := by decide +kernel
theorem dX2_isMember_1 : decode cX2_isMember 1 = .ok (.iload_n 1, 1) := by decide +kernel
theorem dX2_isMember_2 : decode cX2_isMember 2 = .ok (.invokevirtual 63, 3) := by decide +kernel
theorem dX2_isMember_5 : decode cX2_isMember 5 = .ok (.ifCond .eq 18, 3) := by decide +kernel
theorem dX2_isMember_8 : decode cX2_isMember 8 = .ok (.aload_n 0, 1) := by decide +kernel
theorem dX2_isMember_9 : decode cX2_isMember 9 = .ok (.getfield 15, 3) := by decide +kernel
theorem dX2_isMember_12 : decode cX2_isMember 12 = .ok (.iload_n 1, 1) := by decide +kernel
theorem dX2_isMember_13 : decode cX2_isMember 13 = .ok (.iaload, 1) := by decide +kernel
theorem dX2_isMember_14 : decode cX2_isMember 14 = .ok (.bipush (-5), 2) := by decide +kernel
theorem dX2_isMember_16 : decode cX2_isMember 16 = .ok (.if_icmp .ne 7, 3) := by decide +kernel
theorem dX2_isMember_19 : decode cX2_isMember 19 = .ok (.iconst 1, 1) := by decide +kernel
theorem dX2_isMember_20 : decode cX2_isMember 20 = .ok (.goto 4, 3) := by decide +kernel
theorem dX2_isMember_23 : decode cX2_isMember 23 = .ok (.iconst 0, 1) := by decide +kernel
theorem dX2_isMember_24 : decode cX2_isMember 24 = .ok (.ireturn, 1) := by decide +kernel
theorem dX2_isLost_0 : decode cX2_isLost 0 = .ok (.aload_n 0, 1) := by decide +kernel
theorem dX2_isLost_1 : decode cX2_isLost 1 = .ok (.iload_n 1, 1) := by decide +kernel
theorem dX2_isLost_2 : decode cX2_isLost 2 = .ok (.invokevirtual 63, 3) := by decide +kernel
theorem dX2_isLost_5 : decode cX2_isLost 5 = .ok (.ifCond .eq 11, 3) := by decide +kernel
theorem dX2_isLost_8 : decode cX2_isLost 8 = .ok (.aload_n 0, 1) := by decide +kernel
theorem dX2_isLost_9 : decode cX2_isLost 9 = .ok (.iload_n 1, 1) := by decide +kernel
theorem dX2_isLost_10 : decode cX2_isLost 10 = .ok (.invokevirtual 80, 3) := by decide +kernel
theorem dX2_isLost_13 : decode cX2_isLost 13 = .ok (.ifCond .eq 5, 3) := by decide +kernel
theorem dX2_isLost_16 : decode cX2_isLost 16 = .ok (.iconst 0, 1) := by decide +kernel
theorem dX2_isLost_17 : decode cX2_isLost 17 = .ok (.ireturn, 1) := by decide +kernel
theorem dX2_isLost_18 : decode cX2_isLost 18 = .ok (.aload_n 0, 1) := by decide +kernel
theorem dX2_isLost_19 : decode cX2_isLost 19 = .ok (.aload_n 0, 1) := by decide +kernel
theorem dX2_isLost_20 : decode cX2_isLost 20 = .ok (.getfield 15, 3) := by decide +kernel
theorem dX2_isLost_23 : decode cX2_isLost 23 = .ok (.iload_n 1, 1) := by decide +kernel
theorem dX2_isLost_24 : decode cX2_isLost 24 = .ok (.iaload, 1) := by decide +kernel
theorem dX2_isLost_25 : decode cX2_isLost 25 = .ok (.invokevirtual 59, 3) := by decide +kernel
theorem dX2_isLost_28 : decode cX2_isLost 28 = .ok (.istore_n 2, 1) := by decide +kernel
theorem dX2_isLost_29 : decode cX2_isLost 29 = .ok (.aload_n 0, 1) := by decide +kernel
theorem dX2_isLost_30 : decode cX2_isLost 30 = .ok (.iload_n 2, 1) := by decide +kernel
theorem dX2_isLost_31 : decode cX2_isLost 31 = .ok (.invokevirtual 80, 3) := by decide +kernel
theorem dX2_isLost_34 : decode cX2_isLost 34 = .ok (.ifCond .eq 18, 3) := by decide +kernel
theorem dX2_isLost_37 : decode cX2_isLost 37 = .ok (.aload_n 0, 1) := by decide +kernel
theorem dX2_isLost_38 : decode cX2_isLost 38 = .ok (.getfield 18, 3) := by decide +kernel
theorem dX2_isLost_41 : decode cX2_isLost 41 = .ok (.iload_n 2, 1) := by decide +kernel
theorem dX2_isLost_42 : decode cX2_isLost 42 = .ok (.iaload, 1) := by decide +kernel
theorem dX2_isLost_43 : decode cX2_isLost 43 = .ok (.aload_n 0, 1) := by decide +kernel
theorem dX2_isLost_44 : decode cX2_isLost 44 = .ok (.getfield 18, 3) := by decide +kernel
theorem dX2_isLost_47 : decode cX2_isLost 47 = .ok (.iload_n 1, 1) := by decide +kernel
theorem dX2_isLost_48 : decode cX2_isLost 48 = .ok (.iaload, 1) := by decide +kernel
theorem dX2_isLost_49 : decode cX2_isLost 49 = .ok (.if_icmp .eq 7, 3) := by decide +kernel
theorem dX2_isLost_52 : decode cX2_isLost 52 = .ok (.iconst 1, 1) := by decide +kernel
theorem dX2_isLost_53 : decode cX2_isLost 53 = .ok (.goto 4, 3) := by decide +kernel
theorem dX2_isLost_56 : decode cX2_isLost 56 = .ok (.iconst 0, 1) := by decide +kernel
theorem dX2_isLost_57 : decode cX2_isLost 57 = .ok (.ireturn, 1) := by decide +kernel
theorem dX2_isFirstOfText_0 : decode cX2_isFirstOfText 0 = .ok (.aload_n 0, 1) := by decide +kernel
theorem dX2_isFirstOfText_1 : decode cX2_isFirstOfText 1 = .ok (.iload_n 1, 1) := by decide +kernel
theorem dX2_isFirstOfText_2 : decode cX2_isFirstOfText 2 = .ok (.invokevirtual 63, 3) := by decide +kernel
theorem dX2_isFirstOfText_5 : decode cX2_isFirstOfText 5 = .ok (.ifCond .ne 5, 3) := by decide +kernel
theorem dX2_isFirstOfText_8 : decode cX2_isFirstOfText 8 = .ok (.iconst 0, 1) := by decide +kernel
theorem dX2_isFirstOfText_9 : decode cX2_isFirstOfText 9 = .ok (.ireturn, 1) := by decide +kernel
theorem dX2_isFirstOfText_10 : decode cX2_isFirstOfText 10 = .ok (.iconst 0, 1) := by decide +kernel
theorem dX2_isFirstOfText_11 : decode cX2_isFirstOfText 11 = .ok (.istore_n 2, 1) := by decide +kernel
theorem dX2_isFirstOfText_12 : decode cX2_isFirstOfText 12 = .ok (.iload_n 2, 1) := by decide +kernel
theorem dX2_isFirstOfText_13 : decode cX2_isFirstOfText 13 = .ok (.iload_n 1, 1) := by decide +kernel
theorem dX2_isFirstOfText_14 : decode cX2_isFirstOfText 14 = .ok (.if_icmp .ge 26, 3) := by decide +kernel
theorem dX2_isFirstOfText_17 : decode cX2_isFirstOfText 17 = .ok (.aload_n 0, 1) := by decide +kernel
theorem dX2_isFirstOfText_18 : decode cX2_isFirstOfText 18 = .ok (.getfield 18, 3) := by decide +kernel
theorem dX2_isFirstOfText_21 : decode cX2_isFirstOfText 21 = .ok (.iload_n 2, 1) := by decide +kernel
theorem dX2_isFirstOfText_22 : decode cX2_isFirstOfText 22 = .ok (.iaload, 1) := by decide +kernel
theorem dX2_isFirstOfText_23 : decode cX2_isFirstOfText 23 = .ok (.aload_n 0, 1) := by decide +kernel
theorem dX2_isFirstOfText_24 : decode cX2_isFirstOfText 24 = .ok (.getfield 18, 3) := by decide +kernel
theorem dX2_isFirstOfText_27 : decode cX2_isFirstOfText 27 = .ok (.iload_n 1, 1) := by decide +kernel
theorem dX2_isFirstOfText_28 : decode cX2_isFirstOfText 28 = .ok (.iaload, 1) := by decide +kernel
theorem dX2_isFirstOfText_29 : decode cX2_isFirstOfText 29 = .ok (.if_icmp .ne 5, 3) := by decide +kernel
theorem dX2_isFirstOfText_32 : decode cX2_isFirstOfText 32 = .ok (.iconst 0, 1) := by decide +kernel
theorem dX2_isFirstOfText_33 : decode cX2_isFirstOfText 33 = .ok (.ireturn, 1) := by decide +kernel
theorem dX2_isFirstOfText_34 : decode cX2_isFirstOfText 34 = .ok (.iinc 2 1, 3) := by decide +kernel
theorem dX2_isFirstOfText_37 : decode cX2_isFirstOfText 37 = .ok (.goto (-25), 3) := by decide +kernel
theorem dX2_isFirstOfText_40 : decode cX2_isFirstOfText 40 = .ok (.iconst 1, 1) := by decide +kernel
theorem dX2_isFirstOfText_41 : decode cX2_isFirstOfText 41 = .ok (.ireturn, 1) := by decide +kernel
theorem dX2_isDirectoryFull_0 : decode cX2_isDirectoryFull 0 = .ok (.aload_n 0, 1) := by decide +kernel
theorem dX2_isDirectoryFull_1 : decode cX2_isDirectoryFull 1 = .ok (.getfield 27, 3) := by decide +kernel
theorem dX2_isDirectoryFull_4 : decode cX2_isDirectoryFull 4 = .ok (.aload_n 0, 1) := by decide +kernel
theorem dX2_isDirectoryFull_5 : decode cX2_isDirectoryFull 5 = .ok (.getfield 31, 3) := by decide +kernel
theorem dX2_isDirectoryFull_8 : decode cX2_isDirectoryFull 8 = .ok (.iconst 4, 1) := by decide +kernel
theorem dX2_isDirectoryFull_9 : decode cX2_isDirectoryFull 9 = .ok (.imul, 1) := by decide +kernel
theorem dX2_isDirectoryFull_10 : decode cX2_isDirectoryFull 10 = .ok (.if_icmp .lt 7, 3) := by decide +kernel
theorem dX2_isDirectoryFull_13 : decode cX2_isDirectoryFull 13 = .ok (.iconst 1, 1) := by decide +kernel
theorem dX2_isDirectoryFull_14 : decode cX2_isDirectoryFull 14 = .ok (.goto 4, 3) := by decide +kernel
theorem dX2_isDirectoryFull_17 : decode cX2_isDirectoryFull 17 = .ok (.iconst 0, 1) := by decide +kernel
theorem dX2_isDirectoryFull_18 : decode cX2_isDirectoryFull 18 = .ok (.ireturn, 1) := by decide +kernel
theorem dX2_hasRoom_0 : decode cX2_hasRoom 0 = .ok (.aload_n 0, 1) := by decide +kernel
theorem dX2_hasRoom_1 : decode cX2_hasRoom 1 = .ok (.getfield 34, 3) := by decide +kernel
theorem dX2_hasRoom_4 : decode cX2_hasRoom 4 = .ok (.iload_n 1, 1) := by decide +kernel
theorem dX2_hasRoom_5 : decode cX2_hasRoom 5 = .ok (.iadd, 1) := by decide +kernel
theorem dX2_hasRoom_6 : decode cX2_hasRoom 6 = .ok (.bipush 100, 2) := by decide +kernel
theorem dX2_hasRoom_8 : decode cX2_hasRoom 8 = .ok (.if_icmp .gt 7, 3) := by decide +kernel
theorem dX2_hasRoom_11 : decode cX2_hasRoom 11 = .ok (.iconst 1, 1) := by decide +kernel
theorem dX2_hasRoom_12 : decode cX2_hasRoom 12 = .ok (.goto 4, 3) := by decide +kernel
theorem dX2_hasRoom_15 : decode cX2_hasRoom 15 = .ok (.iconst 0, 1) := by decide +kernel
theorem dX2_hasRoom_16 : decode cX2_hasRoom 16 = .ok (.ireturn, 1) := by decide +kernel
theorem dX2_rankOf_0 : decode cX2_rankOf 0 = .ok (.iconst 0, 1) := by decide +kernel
theorem dX2_rankOf_1 : decode cX2_rankOf 1 = .ok (.istore_n 2, 1) := by decide +kernel
theorem dX2_rankOf_2 : decode cX2_rankOf 2 = .ok (.iload_n 2, 1) := by decide +kernel
theorem dX2_rankOf_3 : decode cX2_rankOf 3 = .ok (.aload_n 0, 1) := by decide +kernel
theorem dX2_rankOf_4 : decode cX2_rankOf 4 = .ok (.getfield 27, 3) := by decide +kernel
theorem dX2_rankOf_7 : decode cX2_rankOf 7 = .ok (.if_icmp .ge 21, 3) := by decide +kernel
theorem dX2_rankOf_10 : decode cX2_rankOf 10 = .ok (.aload_n 0, 1) := by decide +kernel
theorem dX2_rankOf_11 : decode cX2_rankOf 11 = .ok (.getfield 9, 3) := by decide +kernel
theorem dX2_rankOf_14 : decode cX2_rankOf 14 = .ok (.iload_n 2, 1) := by decide +kernel
theorem dX2_rankOf_15 : decode cX2_rankOf 15 = .ok (.iaload, 1) := by decide +kernel
theorem dX2_rankOf_16 : decode cX2_rankOf 16 = .ok (.iload_n 1, 1) := by decide +kernel
theorem dX2_rankOf_17 : decode cX2_rankOf 17 = .ok (.if_icmp .ne 5, 3) := by decide +kernel
theorem dX2_rankOf_20 : decode cX2_rankOf 20 = .ok (.iload_n 2, 1) := by decide +kernel
theorem dX2_rankOf_21 : decode cX2_rankOf 21 = .ok (.ireturn, 1) := by decide +kernel
theorem dX2_rankOf_22 : decode cX2_rankOf 22 = .ok (.iinc 2 1, 3) := by decide +kernel
theorem dX2_rankOf_25 : decode cX2_rankOf 25 = .ok (.goto (-23), 3) := by decide +kernel
theorem dX2_rankOf_28 : decode cX2_rankOf 28 = .ok (.iconst (-1), 1) := by decide +kernel
theorem dX2_rankOf_29 : decode cX2_rankOf 29 = .ok (.ireturn, 1) := by decide +kernel
theorem dX2_namesBelow_0 : decode cX2_namesBelow 0 = .ok (.iconst 0, 1) := by decide +kernel
theorem dX2_namesBelow_1 : decode cX2_namesBelow 1 = .ok (.istore_n 2, 1) := by decide +kernel
theorem dX2_namesBelow_2 : decode cX2_namesBelow 2 = .ok (.iconst 0, 1) := by decide +kernel
theorem dX2_namesBelow_3 : decode cX2_namesBelow 3 = .ok (.istore_n 3, 1) := by decide +kernel
theorem dX2_namesBelow_4 : decode cX2_namesBelow 4 = .ok (.iload_n 3, 1) := by decide +kernel
theorem dX2_namesBelow_5 : decode cX2_namesBelow 5 = .ok (.aload_n 0, 1) := by decide +kernel
theorem dX2_namesBelow_6 : decode cX2_namesBelow 6 = .ok (.getfield 27, 3) := by decide +kernel
theorem dX2_namesBelow_9 : decode cX2_namesBelow 9 = .ok (.if_icmp .ge 22, 3) := by decide +kernel
theorem dX2_namesBelow_12 : decode cX2_namesBelow 12 = .ok (.aload_n 0, 1) := by decide +kernel
theorem dX2_namesBelow_13 : decode cX2_namesBelow 13 = .ok (.getfield 9, 3) := by decide +kernel
theorem dX2_namesBelow_16 : decode cX2_namesBelow 16 = .ok (.iload_n 3, 1) := by decide +kernel
theorem dX2_namesBelow_17 : decode cX2_namesBelow 17 = .ok (.iaload, 1) := by decide +kernel
theorem dX2_namesBelow_18 : decode cX2_namesBelow 18 = .ok (.iload_n 1, 1) := by decide +kernel
theorem dX2_namesBelow_19 : decode cX2_namesBelow 19 = .ok (.if_icmp .ge 6, 3) := by decide +kernel
theorem dX2_namesBelow_22 : decode cX2_namesBelow 22 = .ok (.iinc 2 1, 3) := by decide +kernel
theorem dX2_namesBelow_25 : decode cX2_namesBelow 25 = .ok (.iinc 3 1, 3) := by decide +kernel
theorem dX2_namesBelow_28 : decode cX2_namesBelow 28 = .ok (.goto (-24), 3) := by decide +kernel
theorem dX2_namesBelow_31 : decode cX2_namesBelow 31 = .ok (.iload_n 2, 1) := by decide +kernel
theorem dX2_namesBelow_32 : decode cX2_namesBelow 32 = .ok (.ireturn, 1) := by decide +kernel
theorem dX2_aliases_0 : decode cX2_aliases 0 = .ok (.iconst 0, 1) := by decide +kernel
theorem dX2_aliases_1 : decode cX2_aliases 1 = .ok (.istore_n 1, 1) := by decide +kernel
theorem dX2_aliases_2 : decode cX2_aliases 2 = .ok (.iconst 0, 1) := by decide +kernel
theorem dX2_aliases_3 : decode cX2_aliases 3 = .ok (.istore_n 2, 1) := by decide +kernel
theorem dX2_aliases_4 : decode cX2_aliases 4 = .ok (.iload_n 2, 1) := by decide +kernel
theorem dX2_aliases_5 : decode cX2_aliases 5 = .ok (.aload_n 0, 1) := by decide +kernel
theorem dX2_aliases_6 : decode cX2_aliases 6 = .ok (.getfield 27, 3) := by decide +kernel
theorem dX2_aliases_9 : decode cX2_aliases 9 = .ok (.if_icmp .ge 20, 3) := by decide +kernel
theorem dX2_aliases_12 : decode cX2_aliases 12 = .ok (.aload_n 0, 1) := by decide +kernel
theorem dX2_aliases_13 : decode cX2_aliases 13 = .ok (.iload_n 2, 1) := by decide +kernel
theorem dX2_aliases_14 : decode cX2_aliases 14 = .ok (.invokevirtual 80, 3) := by decide +kernel
theorem dX2_aliases_17 : decode cX2_aliases 17 = .ok (.ifCond .ne 6, 3) := by decide +kernel
theorem dX2_aliases_20 : decode cX2_aliases 20 = .ok (.iinc 1 1, 3) := by decide +kernel
theorem dX2_aliases_23 : decode cX2_aliases 23 = .ok (.iinc 2 1, 3) := by decide +kernel
theorem dX2_aliases_26 : decode cX2_aliases 26 = .ok (.goto (-22), 3) := by decide +kernel
theorem dX2_aliases_29 : decode cX2_aliases 29 = .ok (.iload_n 1, 1) := by decide +kernel
theorem dX2_aliases_30 : decode cX2_aliases 30 = .ok (.ireturn, 1) := by decide +kernel
theorem dX2_lostAliases_0 : decode cX2_lostAliases 0 = .ok (.iconst 0, 1) := by decide +kernel
theorem dX2_lostAliases_1 : decode cX2_lostAliases 1 = .ok (.istore_n 1, 1) := by decide +kernel
theorem dX2_lostAliases_2 : decode cX2_lostAliases 2 = .ok (.iconst 0, 1) := by decide +kernel
theorem dX2_lostAliases_3 : decode cX2_lostAliases 3 = .ok (.istore_n 2, 1) := by decide +kernel
theorem dX2_lostAliases_4 : decode cX2_lostAliases 4 = .ok (.iload_n 2, 1) := by decide +kernel
theorem dX2_lostAliases_5 : decode cX2_lostAliases 5 = .ok (.aload_n 0, 1) := by decide +kernel
theorem dX2_lostAliases_6 : decode cX2_lostAliases 6 = .ok (.getfield 27, 3) := by decide +kernel
theorem dX2_lostAliases_9 : decode cX2_lostAliases 9 = .ok (.if_icmp .ge 20, 3) := by decide +kernel
theorem dX2_lostAliases_12 : decode cX2_lostAliases 12 = .ok (.aload_n 0, 1) := by decide +kernel
theorem dX2_lostAliases_13 : decode cX2_lostAliases 13 = .ok (.iload_n 2, 1) := by decide +kernel
theorem dX2_lostAliases_14 : decode cX2_lostAliases 14 = .ok (.invokevirtual 105, 3) := by decide +kernel
theorem dX2_lostAliases_17 : decode cX2_lostAliases 17 = .ok (.ifCond .eq 6, 3) := by decide +kernel
theorem dX2_lostAliases_20 : decode cX2_lostAliases 20 = .ok (.iinc 1 1, 3) := by decide +kernel
theorem dX2_lostAliases_23 : decode cX2_lostAliases 23 = .ok (.iinc 2 1, 3) := by decide +kernel
theorem dX2_lostAliases_26 : decode cX2_lostAliases 26 = .ok (.goto (-22), 3) := by decide +kernel
theorem dX2_lostAliases_29 : decode cX2_lostAliases 29 = .ok (.iload_n 1, 1) := by decide +kernel
theorem dX2_lostAliases_30 : decode cX2_lostAliases 30 = .ok (.ireturn, 1) := by decide +kernel
theorem dX2_aliasesOf_0 : decode cX2_aliasesOf 0 = .ok (.iconst 0, 1) := by decide +kernel
theorem dX2_aliasesOf_1 : decode cX2_aliasesOf 1 = .ok (.istore_n 2, 1) := by decide +kernel
theorem dX2_aliasesOf_2 : decode cX2_aliasesOf 2 = .ok (.iconst 0, 1) := by decide +kernel
theorem dX2_aliasesOf_3 : decode cX2_aliasesOf 3 = .ok (.istore_n 3, 1) := by decide +kernel
theorem dX2_aliasesOf_4 : decode cX2_aliasesOf 4 = .ok (.iload_n 3, 1) := by decide +kernel
theorem dX2_aliasesOf_5 : decode cX2_aliasesOf 5 = .ok (.aload_n 0, 1) := by decide +kernel
theorem dX2_aliasesOf_6 : decode cX2_aliasesOf 6 = .ok (.getfield 27, 3) := by decide +kernel
theorem dX2_aliasesOf_9 : decode cX2_aliasesOf 9 = .ok (.if_icmp .ge 30, 3) := by decide +kernel
theorem dX2_aliasesOf_12 : decode cX2_aliasesOf 12 = .ok (.aload_n 0, 1) := by decide +kernel
theorem dX2_aliasesOf_13 : decode cX2_aliasesOf 13 = .ok (.getfield 18, 3) := by decide +kernel
theorem dX2_aliasesOf_16 : decode cX2_aliasesOf 16 = .ok (.iload_n 3, 1) := by decide +kernel
theorem dX2_aliasesOf_17 : decode cX2_aliasesOf 17 = .ok (.iaload, 1) := by decide +kernel
theorem dX2_aliasesOf_18 : decode cX2_aliasesOf 18 = .ok (.iload_n 1, 1) := by decide +kernel
theorem dX2_aliasesOf_19 : decode cX2_aliasesOf 19 = .ok (.if_icmp .ne 14, 3) := by decide +kernel
theorem dX2_aliasesOf_22 : decode cX2_aliasesOf 22 = .ok (.aload_n 0, 1) := by decide +kernel
theorem dX2_aliasesOf_23 : decode cX2_aliasesOf 23 = .ok (.iload_n 3, 1) := by decide +kernel
theorem dX2_aliasesOf_24 : decode cX2_aliasesOf 24 = .ok (.invokevirtual 80, 3) := by decide +kernel
theorem dX2_aliasesOf_27 : decode cX2_aliasesOf 27 = .ok (.ifCond .ne 6, 3) := by decide +kernel
theorem dX2_aliasesOf_30 : decode cX2_aliasesOf 30 = .ok (.iinc 2 1, 3) := by decide +kernel
theorem dX2_aliasesOf_33 : decode cX2_aliasesOf 33 = .ok (.iinc 3 1, 3) := by decide +kernel
theorem dX2_aliasesOf_36 : decode cX2_aliasesOf 36 = .ok (.goto (-32), 3) := by decide +kernel
theorem dX2_aliasesOf_39 : decode cX2_aliasesOf 39 = .ok (.iload_n 2, 1) := by decide +kernel
theorem dX2_aliasesOf_40 : decode cX2_aliasesOf 40 = .ok (.ireturn, 1) := by decide +kernel
theorem dX2_livingTexts_0 : decode cX2_livingTexts 0 = .ok (.iconst 0, 1) := by decide +kernel
theorem dX2_livingTexts_1 : decode cX2_livingTexts 1 = .ok (.istore_n 1, 1) := by decide +kernel
theorem dX2_livingTexts_2 : decode cX2_livingTexts 2 = .ok (.iconst 0, 1) := by decide +kernel
theorem dX2_livingTexts_3 : decode cX2_livingTexts 3 = .ok (.istore_n 2, 1) := by decide +kernel
theorem dX2_livingTexts_4 : decode cX2_livingTexts 4 = .ok (.iload_n 2, 1) := by decide +kernel
theorem dX2_livingTexts_5 : decode cX2_livingTexts 5 = .ok (.aload_n 0, 1) := by decide +kernel
theorem dX2_livingTexts_6 : decode cX2_livingTexts 6 = .ok (.getfield 27, 3) := by decide +kernel
theorem dX2_livingTexts_9 : decode cX2_livingTexts 9 = .ok (.if_icmp .ge 20, 3) := by decide +kernel
theorem dX2_livingTexts_12 : decode cX2_livingTexts 12 = .ok (.aload_n 0, 1) := by decide +kernel
theorem dX2_livingTexts_13 : decode cX2_livingTexts 13 = .ok (.iload_n 2, 1) := by decide +kernel
theorem dX2_livingTexts_14 : decode cX2_livingTexts 14 = .ok (.invokevirtual 135, 3) := by decide +kernel
theorem dX2_livingTexts_17 : decode cX2_livingTexts 17 = .ok (.ifCond .eq 6, 3) := by decide +kernel
theorem dX2_livingTexts_20 : decode cX2_livingTexts 20 = .ok (.iinc 1 1, 3) := by decide +kernel
theorem dX2_livingTexts_23 : decode cX2_livingTexts 23 = .ok (.iinc 2 1, 3) := by decide +kernel
theorem dX2_livingTexts_26 : decode cX2_livingTexts 26 = .ok (.goto (-22), 3) := by decide +kernel
theorem dX2_livingTexts_29 : decode cX2_livingTexts 29 = .ok (.iload_n 1, 1) := by decide +kernel
theorem dX2_livingTexts_30 : decode cX2_livingTexts 30 = .ok (.ireturn, 1) := by decide +kernel
theorem dX2_livingUnits_0 : decode cX2_livingUnits 0 = .ok (.iconst 0, 1) := by decide +kernel
theorem dX2_livingUnits_1 : decode cX2_livingUnits 1 = .ok (.istore_n 1, 1) := by decide +kernel
theorem dX2_livingUnits_2 : decode cX2_livingUnits 2 = .ok (.iconst 0, 1) := by decide +kernel
theorem dX2_livingUnits_3 : decode cX2_livingUnits 3 = .ok (.istore_n 2, 1) := by decide +kernel
theorem dX2_livingUnits_4 : decode cX2_livingUnits 4 = .ok (.iload_n 2, 1) := by decide +kernel
theorem dX2_livingUnits_5 : decode cX2_livingUnits 5 = .ok (.aload_n 0, 1) := by decide +kernel
theorem dX2_livingUnits_6 : decode cX2_livingUnits 6 = .ok (.getfield 27, 3) := by decide +kernel
theorem dX2_livingUnits_9 : decode cX2_livingUnits 9 = .ok (.if_icmp .ge 26, 3) := by decide +kernel
theorem dX2_livingUnits_12 : decode cX2_livingUnits 12 = .ok (.aload_n 0, 1) := by decide +kernel
theorem dX2_livingUnits_13 : decode cX2_livingUnits 13 = .ok (.iload_n 2, 1) := by decide +kernel
theorem dX2_livingUnits_14 : decode cX2_livingUnits 14 = .ok (.invokevirtual 135, 3) := by decide +kernel
theorem dX2_livingUnits_17 : decode cX2_livingUnits 17 = .ok (.ifCond .eq 12, 3) := by decide +kernel
theorem dX2_livingUnits_20 : decode cX2_livingUnits 20 = .ok (.iload_n 1, 1) := by decide +kernel
theorem dX2_livingUnits_21 : decode cX2_livingUnits 21 = .ok (.aload_n 0, 1) := by decide +kernel
theorem dX2_livingUnits_22 : decode cX2_livingUnits 22 = .ok (.getfield 21, 3) := by decide +kernel
theorem dX2_livingUnits_25 : decode cX2_livingUnits 25 = .ok (.iload_n 2, 1) := by decide +kernel
theorem dX2_livingUnits_26 : decode cX2_livingUnits 26 = .ok (.iaload, 1) := by decide +kernel
theorem dX2_livingUnits_27 : decode cX2_livingUnits 27 = .ok (.iadd, 1) := by decide +kernel
theorem dX2_livingUnits_28 : decode cX2_livingUnits 28 = .ok (.istore_n 1, 1) := by decide +kernel
theorem dX2_livingUnits_29 : decode cX2_livingUnits 29 = .ok (.iinc 2 1, 3) := by decide +kernel
theorem dX2_livingUnits_32 : decode cX2_livingUnits 32 = .ok (.goto (-28), 3) := by decide +kernel
theorem dX2_livingUnits_35 : decode cX2_livingUnits 35 = .ok (.iload_n 1, 1) := by decide +kernel
theorem dX2_livingUnits_36 : decode cX2_livingUnits 36 = .ok (.ireturn, 1) := by decide +kernel
theorem dX2_deadUnits_0 : decode cX2_deadUnits 0 = .ok (.aload_n 0, 1) := by decide +kernel
theorem dX2_deadUnits_1 : decode cX2_deadUnits 1 = .ok (.getfield 34, 3) := by decide +kernel
theorem dX2_deadUnits_4 : decode cX2_deadUnits 4 = .ok (.aload_n 0, 1) := by decide +kernel
theorem dX2_deadUnits_5 : decode cX2_deadUnits 5 = .ok (.invokevirtual 120, 3) := by decide +kernel
theorem dX2_deadUnits_8 : decode cX2_deadUnits 8 = .ok (.isub, 1) := by decide +kernel
theorem dX2_deadUnits_9 : decode cX2_deadUnits 9 = .ok (.ireturn, 1) := by decide +kernel
theorem dX2_layText_0 : decode cX2_layText 0 = .ok (.aload_n 0, 1) := by decide +kernel
theorem dX2_layText_1 : decode cX2_layText 1 = .ok (.getfield 34, 3) := by decide +kernel
theorem dX2_layText_4 : decode cX2_layText 4 = .ok (.istore_n 2, 1) := by decide +kernel
theorem dX2_layText_5 : decode cX2_layText 5 = .ok (.aload_n 0, 1) := by decide +kernel
theorem dX2_layText_6 : decode cX2_layText 6 = .ok (.dup, 1) := by decide +kernel
theorem dX2_layText_7 : decode cX2_layText 7 = .ok (.getfield 34, 3) := by decide +kernel
theorem dX2_layText_10 : decode cX2_layText 10 = .ok (.iload_n 1, 1) := by decide +kernel
theorem dX2_layText_11 : decode cX2_layText 11 = .ok (.iadd, 1) := by decide +kernel
theorem dX2_layText_12 : decode cX2_layText 12 = .ok (.putfield 34, 3) := by decide +kernel
theorem dX2_layText_15 : decode cX2_layText 15 = .ok (.iload_n 2, 1) := by decide +kernel
theorem dX2_layText_16 : decode cX2_layText 16 = .ok (.ireturn, 1) := by decide +kernel
theorem dX2_tellAliases_0 : decode cX2_tellAliases 0 = .ok (.iconst 0, 1) := by decide +kernel
theorem dX2_tellAliases_1 : decode cX2_tellAliases 1 = .ok (.istore_n 3, 1) := by decide +kernel
theorem dX2_tellAliases_2 : decode cX2_tellAliases 2 = .ok (.iload_n 3, 1) := by decide +kernel
theorem dX2_tellAliases_3 : decode cX2_tellAliases 3 = .ok (.aload_n 0, 1) := by decide +kernel
theorem dX2_tellAliases_4 : decode cX2_tellAliases 4 = .ok (.getfield 27, 3) := by decide +kernel
theorem dX2_tellAliases_7 : decode cX2_tellAliases 7 = .ok (.if_icmp .ge 26, 3) := by decide +kernel
theorem dX2_tellAliases_10 : decode cX2_tellAliases 10 = .ok (.aload_n 0, 1) := by decide +kernel
theorem dX2_tellAliases_11 : decode cX2_tellAliases 11 = .ok (.getfield 15, 3) := by decide +kernel
theorem dX2_tellAliases_14 : decode cX2_tellAliases 14 = .ok (.iload_n 3, 1) := by decide +kernel
theorem dX2_tellAliases_15 : decode cX2_tellAliases 15 = .ok (.iaload, 1) := by decide +kernel
theorem dX2_tellAliases_16 : decode cX2_tellAliases 16 = .ok (.iload_n 1, 1) := by decide +kernel
theorem dX2_tellAliases_17 : decode cX2_tellAliases 17 = .ok (.if_icmp .ne 10, 3) := by decide +kernel
theorem dX2_tellAliases_20 : decode cX2_tellAliases 20 = .ok (.aload_n 0, 1) := by decide +kernel
theorem dX2_tellAliases_21 : decode cX2_tellAliases 21 = .ok (.getfield 15, 3) := by decide +kernel
theorem dX2_tellAliases_24 : decode cX2_tellAliases 24 = .ok (.iload_n 3, 1) := by decide +kernel
theorem dX2_tellAliases_25 : decode cX2_tellAliases 25 = .ok (.iload_n 2, 1) := by decide +kernel
theorem dX2_tellAliases_26 : decode cX2_tellAliases 26 = .ok (.iastore, 1) := by decide +kernel
theorem dX2_tellAliases_27 : decode cX2_tellAliases 27 = .ok (.iinc 3 1, 3) := by decide +kernel
theorem dX2_tellAliases_30 : decode cX2_tellAliases 30 = .ok (.goto (-28), 3) := by decide +kernel
theorem dX2_tellAliases_33 : decode cX2_tellAliases 33 = .ok (.return_, 1) := by decide +kernel
theorem dX2_insertEntry_0 : decode cX2_insertEntry 0 = .ok (.aload_n 0, 1) := by decide +kernel
theorem dX2_insertEntry_1 : decode cX2_insertEntry 1 = .ok (.invokevirtual 66, 3) := by decide +kernel
theorem dX2_insertEntry_4 : decode cX2_insertEntry 4 = .ok (.ifCond .eq 6, 3) := by decide +kernel
theorem dX2_insertEntry_7 : decode cX2_insertEntry 7 = .ok (.bipush (-6), 2) := by decide +kernel
theorem dX2_insertEntry_9 : decode cX2_insertEntry 9 = .ok (.ireturn, 1) := by decide +kernel
theorem dX2_insertEntry_10 : decode cX2_insertEntry 10 = .ok (.aload_n 0, 1) := by decide +kernel
theorem dX2_insertEntry_11 : decode cX2_insertEntry 11 = .ok (.iload_n 1, 1) := by decide +kernel
theorem dX2_insertEntry_12 : decode cX2_insertEntry 12 = .ok (.invokevirtual 123, 3) := by decide +kernel
theorem dX2_insertEntry_15 : decode cX2_insertEntry 15 = .ok (.istore 6, 2) := by decide +kernel
theorem dX2_insertEntry_17 : decode cX2_insertEntry 17 = .ok (.aload_n 0, 1) := by decide +kernel
theorem dX2_insertEntry_18 : decode cX2_insertEntry 18 = .ok (.iload 6, 2) := by decide +kernel
theorem dX2_insertEntry_20 : decode cX2_insertEntry 20 = .ok (.iload 6, 2) := by decide +kernel
theorem dX2_insertEntry_22 : decode cX2_insertEntry 22 = .ok (.iconst 1, 1) := by decide +kernel
theorem dX2_insertEntry_23 : decode cX2_insertEntry 23 = .ok (.iadd, 1) := by decide +kernel
theorem dX2_insertEntry_24 : decode cX2_insertEntry 24 = .ok (.aload_n 0, 1) := by decide +kernel
theorem dX2_insertEntry_25 : decode cX2_insertEntry 25 = .ok (.getfield 27, 3) := by decide +kernel
theorem dX2_insertEntry_28 : decode cX2_insertEntry 28 = .ok (.iload 6, 2) := by decide +kernel
theorem dX2_insertEntry_30 : decode cX2_insertEntry 30 = .ok (.isub, 1) := by decide +kernel
theorem dX2_insertEntry_31 : decode cX2_insertEntry 31 = .ok (.invokevirtual 138, 3) := by decide +kernel
theorem dX2_insertEntry_34 : decode cX2_insertEntry 34 = .ok (.aload_n 0, 1) := by decide +kernel
theorem dX2_insertEntry_35 : decode cX2_insertEntry 35 = .ok (.dup, 1) := by decide +kernel
theorem dX2_insertEntry_36 : decode cX2_insertEntry 36 = .ok (.getfield 27, 3) := by decide +kernel
theorem dX2_insertEntry_39 : decode cX2_insertEntry 39 = .ok (.iconst 1, 1) := by decide +kernel
theorem dX2_insertEntry_40 : decode cX2_insertEntry 40 = .ok (.iadd, 1) := by decide +kernel
theorem dX2_insertEntry_41 : decode cX2_insertEntry 41 = .ok (.putfield 27, 3) := by decide +kernel
theorem dX2_insertEntry_44 : decode cX2_insertEntry 44 = .ok (.aload_n 0, 1) := by decide +kernel
theorem dX2_insertEntry_45 : decode cX2_insertEntry 45 = .ok (.iload 6, 2) := by decide +kernel
theorem dX2_insertEntry_47 : decode cX2_insertEntry 47 = .ok (.iload_n 1, 1) := by decide +kernel
theorem dX2_insertEntry_48 : decode cX2_insertEntry 48 = .ok (.iload_n 2, 1) := by decide +kernel
theorem dX2_insertEntry_49 : decode cX2_insertEntry 49 = .ok (.iload_n 3, 1) := by decide +kernel
theorem dX2_insertEntry_50 : decode cX2_insertEntry 50 = .ok (.iload 4, 2) := by decide +kernel
theorem dX2_insertEntry_52 : decode cX2_insertEntry 52 = .ok (.iload 5, 2) := by decide +kernel
theorem dX2_insertEntry_54 : decode cX2_insertEntry 54 = .ok (.invokevirtual 83, 3) := by decide +kernel
theorem dX2_insertEntry_57 : decode cX2_insertEntry 57 = .ok (.iload 6, 2) := by decide +kernel
theorem dX2_insertEntry_59 : decode cX2_insertEntry 59 = .ok (.ireturn, 1) := by decide +kernel
theorem dX2_takeOut_0 : decode cX2_takeOut 0 = .ok (.aload_n 0, 1) := by decide +kernel
theorem dX2_takeOut_1 : decode cX2_takeOut 1 = .ok (.iload_n 1, 1) := by decide +kernel
theorem dX2_takeOut_2 : decode cX2_takeOut 2 = .ok (.invokevirtual 63, 3) := by decide +kernel
theorem dX2_takeOut_5 : decode cX2_takeOut 5 = .ok (.ifCond .eq 29, 3) := by decide +kernel
theorem dX2_takeOut_8 : decode cX2_takeOut 8 = .ok (.aload_n 0, 1) := by decide +kernel
theorem dX2_takeOut_9 : decode cX2_takeOut 9 = .ok (.iload_n 1, 1) := by decide +kernel
theorem dX2_takeOut_10 : decode cX2_takeOut 10 = .ok (.iconst 1, 1) := by decide +kernel
theorem dX2_takeOut_11 : decode cX2_takeOut 11 = .ok (.iadd, 1) := by decide +kernel
theorem dX2_takeOut_12 : decode cX2_takeOut 12 = .ok (.iload_n 1, 1) := by decide +kernel
theorem dX2_takeOut_13 : decode cX2_takeOut 13 = .ok (.aload_n 0, 1) := by decide +kernel
theorem dX2_takeOut_14 : decode cX2_takeOut 14 = .ok (.getfield 27, 3) := by decide +kernel
theorem dX2_takeOut_17 : decode cX2_takeOut 17 = .ok (.iload_n 1, 1) := by decide +kernel
theorem dX2_takeOut_18 : decode cX2_takeOut 18 = .ok (.isub, 1) := by decide +kernel
theorem dX2_takeOut_19 : decode cX2_takeOut 19 = .ok (.iconst 1, 1) := by decide +kernel
theorem dX2_takeOut_20 : decode cX2_takeOut 20 = .ok (.isub, 1) := by decide +kernel
theorem dX2_takeOut_21 : decode cX2_takeOut 21 = .ok (.invokevirtual 138, 3) := by decide +kernel
theorem dX2_takeOut_24 : decode cX2_takeOut 24 = .ok (.aload_n 0, 1) := by decide +kernel
theorem dX2_takeOut_25 : decode cX2_takeOut 25 = .ok (.dup, 1) := by decide +kernel
theorem dX2_takeOut_26 : decode cX2_takeOut 26 = .ok (.getfield 27, 3) := by decide +kernel
theorem dX2_takeOut_29 : decode cX2_takeOut 29 = .ok (.iconst 1, 1) := by decide +kernel
theorem dX2_takeOut_30 : decode cX2_takeOut 30 = .ok (.isub, 1) := by decide +kernel
theorem dX2_takeOut_31 : decode cX2_takeOut 31 = .ok (.putfield 27, 3) := by decide +kernel
theorem dX2_takeOut_34 : decode cX2_takeOut 34 = .ok (.return_, 1) := by decide +kernel
theorem dX2_setEntry_0 : decode cX2_setEntry 0 = .ok (.aload_n 0, 1) := by decide +kernel
theorem dX2_setEntry_1 : decode cX2_setEntry 1 = .ok (.iload_n 1, 1) := by decide +kernel
theorem dX2_setEntry_2 : decode cX2_setEntry 2 = .ok (.invokevirtual 63, 3) := by decide +kernel
theorem dX2_setEntry_5 : decode cX2_setEntry 5 = .ok (.ifCond .eq 41, 3) := by decide +kernel
theorem dX2_setEntry_8 : decode cX2_setEntry 8 = .ok (.aload_n 0, 1) := by decide +kernel
theorem dX2_setEntry_9 : decode cX2_setEntry 9 = .ok (.getfield 9, 3) := by decide +kernel
theorem dX2_setEntry_12 : decode cX2_setEntry 12 = .ok (.iload_n 1, 1) := by decide +kernel
theorem dX2_setEntry_13 : decode cX2_setEntry 13 = .ok (.iload_n 2, 1) := by decide +kernel
theorem dX2_setEntry_14 : decode cX2_setEntry 14 = .ok (.iastore, 1) := by decide +kernel
theorem dX2_setEntry_15 : decode cX2_setEntry 15 = .ok (.aload_n 0, 1) := by decide +kernel
theorem dX2_setEntry_16 : decode cX2_setEntry 16 = .ok (.getfield 15, 3) := by decide +kernel
theorem dX2_setEntry_19 : decode cX2_setEntry 19 = .ok (.iload_n 1, 1) := by decide +kernel
theorem dX2_setEntry_20 : decode cX2_setEntry 20 = .ok (.iload_n 3, 1) := by decide +kernel
theorem dX2_setEntry_21 : decode cX2_setEntry 21 = .ok (.iastore, 1) := by decide +kernel
theorem dX2_setEntry_22 : decode cX2_setEntry 22 = .ok (.aload_n 0, 1) := by decide +kernel
theorem dX2_setEntry_23 : decode cX2_setEntry 23 = .ok (.getfield 18, 3) := by decide +kernel
theorem dX2_setEntry_26 : decode cX2_setEntry 26 = .ok (.iload_n 1, 1) := by decide +kernel
theorem dX2_setEntry_27 : decode cX2_setEntry 27 = .ok (.iload 4, 2) := by decide +kernel
theorem dX2_setEntry_29 : decode cX2_setEntry 29 = .ok (.iastore, 1) := by decide +kernel
theorem dX2_setEntry_30 : decode cX2_setEntry 30 = .ok (.aload_n 0, 1) := by decide +kernel
theorem dX2_setEntry_31 : decode cX2_setEntry 31 = .ok (.getfield 21, 3) := by decide +kernel
theorem dX2_setEntry_34 : decode cX2_setEntry 34 = .ok (.iload_n 1, 1) := by decide +kernel
theorem dX2_setEntry_35 : decode cX2_setEntry 35 = .ok (.iload 5, 2) := by decide +kernel
theorem dX2_setEntry_37 : decode cX2_setEntry 37 = .ok (.iastore, 1) := by decide +kernel
theorem dX2_setEntry_38 : decode cX2_setEntry 38 = .ok (.aload_n 0, 1) := by decide +kernel
theorem dX2_setEntry_39 : decode cX2_setEntry 39 = .ok (.getfield 24, 3) := by decide +kernel
theorem dX2_setEntry_42 : decode cX2_setEntry 42 = .ok (.iload_n 1, 1) := by decide +kernel
theorem dX2_setEntry_43 : decode cX2_setEntry 43 = .ok (.iload 6, 2) := by decide +kernel
theorem dX2_setEntry_45 : decode cX2_setEntry 45 = .ok (.iastore, 1) := by decide +kernel
theorem dX2_setEntry_46 : decode cX2_setEntry 46 = .ok (.return_, 1) := by decide +kernel
theorem dX2_moveEntries_0 : decode cX2_moveEntries 0 = .ok (.iload_n 1, 1) := by decide +kernel
theorem dX2_moveEntries_1 : decode cX2_moveEntries 1 = .ok (.ifCond .lt 23, 3) := by decide +kernel
theorem dX2_moveEntries_4 : decode cX2_moveEntries 4 = .ok (.iload_n 2, 1) := by decide +kernel
theorem dX2_moveEntries_5 : decode cX2_moveEntries 5 = .ok (.ifCond .lt 19, 3) := by decide +kernel
theorem dX2_moveEntries_8 : decode cX2_moveEntries 8 = .ok (.iload_n 3, 1) := by decide +kernel
theorem dX2_moveEntries_9 : decode cX2_moveEntries 9 = .ok (.ifCond .lt 15, 3) := by decide +kernel
theorem dX2_moveEntries_12 : decode cX2_moveEntries 12 = .ok (.iload_n 1, 1) := by decide +kernel
theorem dX2_moveEntries_13 : decode cX2_moveEntries 13 = .ok (.iload_n 2, 1) := by decide +kernel
theorem dX2_moveEntries_14 : decode cX2_moveEntries 14 = .ok (.invokestatic 114, 3) := by decide +kernel
theorem dX2_moveEntries_17 : decode cX2_moveEntries 17 = .ok (.bipush 24, 2) := by decide +kernel
theorem dX2_moveEntries_19 : decode cX2_moveEntries 19 = .ok (.iload_n 3, 1) := by decide +kernel
theorem dX2_moveEntries_20 : decode cX2_moveEntries 20 = .ok (.isub, 1) := by decide +kernel
theorem dX2_moveEntries_21 : decode cX2_moveEntries 21 = .ok (.if_icmp .le 4, 3) := by decide +kernel
theorem dX2_moveEntries_24 : decode cX2_moveEntries 24 = .ok (.return_, 1) := by decide +kernel
theorem dX2_moveEntries_25 : decode cX2_moveEntries 25 = .ok (.aload_n 0, 1) := by decide +kernel
theorem dX2_moveEntries_26 : decode cX2_moveEntries 26 = .ok (.getfield 9, 3) := by decide +kernel
theorem dX2_moveEntries_29 : decode cX2_moveEntries 29 = .ok (.iload_n 1, 1) := by decide +kernel
theorem dX2_moveEntries_30 : decode cX2_moveEntries 30 = .ok (.aload_n 0, 1) := by decide +kernel
theorem dX2_moveEntries_31 : decode cX2_moveEntries 31 = .ok (.getfield 9, 3) := by decide +kernel
theorem dX2_moveEntries_34 : decode cX2_moveEntries 34 = .ok (.iload_n 2, 1) := by decide +kernel
theorem dX2_moveEntries_35 : decode cX2_moveEntries 35 = .ok (.iload_n 3, 1) := by decide +kernel
theorem dX2_moveEntries_36 : decode cX2_moveEntries 36 = .ok (.invokestatic 43, 3) := by decide +kernel
theorem dX2_moveEntries_39 : decode cX2_moveEntries 39 = .ok (.aload_n 0, 1) := by decide +kernel
theorem dX2_moveEntries_40 : decode cX2_moveEntries 40 = .ok (.getfield 15, 3) := by decide +kernel
theorem dX2_moveEntries_43 : decode cX2_moveEntries 43 = .ok (.iload_n 1, 1) := by decide +kernel
theorem dX2_moveEntries_44 : decode cX2_moveEntries 44 = .ok (.aload_n 0, 1) := by decide +kernel
theorem dX2_moveEntries_45 : decode cX2_moveEntries 45 = .ok (.getfield 15, 3) := by decide +kernel
theorem dX2_moveEntries_48 : decode cX2_moveEntries 48 = .ok (.iload_n 2, 1) := by decide +kernel
theorem dX2_moveEntries_49 : decode cX2_moveEntries 49 = .ok (.iload_n 3, 1) := by decide +kernel
theorem dX2_moveEntries_50 : decode cX2_moveEntries 50 = .ok (.invokestatic 43, 3) := by decide +kernel
theorem dX2_moveEntries_53 : decode cX2_moveEntries 53 = .ok (.aload_n 0, 1) := by decide +kernel
theorem dX2_moveEntries_54 : decode cX2_moveEntries 54 = .ok (.getfield 18, 3) := by decide +kernel
theorem dX2_moveEntries_57 : decode cX2_moveEntries 57 = .ok (.iload_n 1, 1) := by decide +kernel
theorem dX2_moveEntries_58 : decode cX2_moveEntries 58 = .ok (.aload_n 0, 1) := by decide +kernel
theorem dX2_moveEntries_59 : decode cX2_moveEntries 59 = .ok (.getfield 18, 3) := by decide +kernel
theorem dX2_moveEntries_62 : decode cX2_moveEntries 62 = .ok (.iload_n 2, 1) := by decide +kernel
theorem dX2_moveEntries_63 : decode cX2_moveEntries 63 = .ok (.iload_n 3, 1) := by decide +kernel
theorem dX2_moveEntries_64 : decode cX2_moveEntries 64 = .ok (.invokestatic 43, 3) := by decide +kernel
theorem dX2_moveEntries_67 : decode cX2_moveEntries 67 = .ok (.aload_n 0, 1) := by decide +kernel
theorem dX2_moveEntries_68 : decode cX2_moveEntries 68 = .ok (.getfield 21, 3) := by decide +kernel
theorem dX2_moveEntries_71 : decode cX2_moveEntries 71 = .ok (.iload_n 1, 1) := by decide +kernel
theorem dX2_moveEntries_72 : decode cX2_moveEntries 72 = .ok (.aload_n 0, 1) := by decide +kernel
theorem dX2_moveEntries_73 : decode cX2_moveEntries 73 = .ok (.getfield 21, 3) := by decide +kernel
theorem dX2_moveEntries_76 : decode cX2_moveEntries 76 = .ok (.iload_n 2, 1) := by decide +kernel
theorem dX2_moveEntries_77 : decode cX2_moveEntries 77 = .ok (.iload_n 3, 1) := by decide +kernel
theorem dX2_moveEntries_78 : decode cX2_moveEntries 78 = .ok (.invokestatic 43, 3) := by decide +kernel
theorem dX2_moveEntries_81 : decode cX2_moveEntries 81 = .ok (.aload_n 0, 1) := by decide +kernel
theorem dX2_moveEntries_82 : decode cX2_moveEntries 82 = .ok (.getfield 24, 3) := by decide +kernel
theorem dX2_moveEntries_85 : decode cX2_moveEntries 85 = .ok (.iload_n 1, 1) := by decide +kernel
theorem dX2_moveEntries_86 : decode cX2_moveEntries 86 = .ok (.aload_n 0, 1) := by decide +kernel
theorem dX2_moveEntries_87 : decode cX2_moveEntries 87 = .ok (.getfield 24, 3) := by decide +kernel
theorem dX2_moveEntries_90 : decode cX2_moveEntries 90 = .ok (.iload_n 2, 1) := by decide +kernel
theorem dX2_moveEntries_91 : decode cX2_moveEntries 91 = .ok (.iload_n 3, 1) := by decide +kernel
theorem dX2_moveEntries_92 : decode cX2_moveEntries 92 = .ok (.invokestatic 43, 3) := by decide +kernel
theorem dX2_moveEntries_95 : decode cX2_moveEntries 95 = .ok (.return_, 1) := by decide +kernel
theorem dX2_closeUp_0 : decode cX2_closeUp 0 = .ok (.iconst 0, 1) := by decide +kernel
theorem dX2_closeUp_1 : decode cX2_closeUp 1 = .ok (.istore_n 1, 1) := by decide +kernel
theorem dX2_closeUp_2 : decode cX2_closeUp 2 = .ok (.iconst 0, 1) := by decide +kernel
theorem dX2_closeUp_3 : decode cX2_closeUp 3 = .ok (.istore_n 2, 1) := by decide +kernel
theorem dX2_closeUp_4 : decode cX2_closeUp 4 = .ok (.iload_n 2, 1) := by decide +kernel
theorem dX2_closeUp_5 : decode cX2_closeUp 5 = .ok (.bipush 100, 2) := by decide +kernel
theorem dX2_closeUp_7 : decode cX2_closeUp 7 = .ok (.if_icmp .ge 18, 3) := by decide +kernel
theorem dX2_closeUp_10 : decode cX2_closeUp 10 = .ok (.iload_n 1, 1) := by decide +kernel
theorem dX2_closeUp_11 : decode cX2_closeUp 11 = .ok (.aload_n 0, 1) := by decide +kernel
theorem dX2_closeUp_12 : decode cX2_closeUp 12 = .ok (.iload_n 2, 1) := by decide +kernel
theorem dX2_closeUp_13 : decode cX2_closeUp 13 = .ok (.iload_n 1, 1) := by decide +kernel
theorem dX2_closeUp_14 : decode cX2_closeUp 14 = .ok (.invokevirtual 142, 3) := by decide +kernel
theorem dX2_closeUp_17 : decode cX2_closeUp 17 = .ok (.iadd, 1) := by decide +kernel
theorem dX2_closeUp_18 : decode cX2_closeUp 18 = .ok (.istore_n 1, 1) := by decide +kernel
theorem dX2_closeUp_19 : decode cX2_closeUp 19 = .ok (.iinc 2 1, 3) := by decide +kernel
theorem dX2_closeUp_22 : decode cX2_closeUp 22 = .ok (.goto (-18), 3) := by decide +kernel
theorem dX2_closeUp_25 : decode cX2_closeUp 25 = .ok (.aload_n 0, 1) := by decide +kernel
theorem dX2_closeUp_26 : decode cX2_closeUp 26 = .ok (.getfield 34, 3) := by decide +kernel
theorem dX2_closeUp_29 : decode cX2_closeUp 29 = .ok (.iload_n 1, 1) := by decide +kernel
theorem dX2_closeUp_30 : decode cX2_closeUp 30 = .ok (.isub, 1) := by decide +kernel
theorem dX2_closeUp_31 : decode cX2_closeUp 31 = .ok (.istore_n 2, 1) := by decide +kernel
theorem dX2_closeUp_32 : decode cX2_closeUp 32 = .ok (.aload_n 0, 1) := by decide +kernel
theorem dX2_closeUp_33 : decode cX2_closeUp 33 = .ok (.iload_n 1, 1) := by decide +kernel
theorem dX2_closeUp_34 : decode cX2_closeUp 34 = .ok (.putfield 34, 3) := by decide +kernel
theorem dX2_closeUp_37 : decode cX2_closeUp 37 = .ok (.aload_n 0, 1) := by decide +kernel
theorem dX2_closeUp_38 : decode cX2_closeUp 38 = .ok (.dup, 1) := by decide +kernel
theorem dX2_closeUp_39 : decode cX2_closeUp 39 = .ok (.getfield 37, 3) := by decide +kernel
theorem dX2_closeUp_42 : decode cX2_closeUp 42 = .ok (.iconst 1, 1) := by decide +kernel
theorem dX2_closeUp_43 : decode cX2_closeUp 43 = .ok (.iadd, 1) := by decide +kernel
theorem dX2_closeUp_44 : decode cX2_closeUp 44 = .ok (.putfield 37, 3) := by decide +kernel
theorem dX2_closeUp_47 : decode cX2_closeUp 47 = .ok (.aload_n 0, 1) := by decide +kernel
theorem dX2_closeUp_48 : decode cX2_closeUp 48 = .ok (.dup, 1) := by decide +kernel
theorem dX2_closeUp_49 : decode cX2_closeUp 49 = .ok (.getfield 40, 3) := by decide +kernel
theorem dX2_closeUp_52 : decode cX2_closeUp 52 = .ok (.iload_n 2, 1) := by decide +kernel
theorem dX2_closeUp_53 : decode cX2_closeUp 53 = .ok (.iadd, 1) := by decide +kernel
theorem dX2_closeUp_54 : decode cX2_closeUp 54 = .ok (.putfield 40, 3) := by decide +kernel
theorem dX2_closeUp_57 : decode cX2_closeUp 57 = .ok (.iload_n 2, 1) := by decide +kernel
theorem dX2_closeUp_58 : decode cX2_closeUp 58 = .ok (.ireturn, 1) := by decide +kernel
theorem dX2_moveText_0 : decode cX2_moveText 0 = .ok (.iconst 0, 1) := by decide +kernel
theorem dX2_moveText_1 : decode cX2_moveText 1 = .ok (.istore_n 3, 1) := by decide +kernel
theorem dX2_moveText_2 : decode cX2_moveText 2 = .ok (.iconst 0, 1) := by decide +kernel
theorem dX2_moveText_3 : decode cX2_moveText 3 = .ok (.istore 4, 2) := by decide +kernel
theorem dX2_moveText_5 : decode cX2_moveText 5 = .ok (.iload 4, 2) := by decide +kernel
theorem dX2_moveText_7 : decode cX2_moveText 7 = .ok (.aload_n 0, 1) := by decide +kernel
theorem dX2_moveText_8 : decode cX2_moveText 8 = .ok (.getfield 27, 3) := by decide +kernel
theorem dX2_moveText_11 : decode cX2_moveText 11 = .ok (.if_icmp .ge 36, 3) := by decide +kernel
theorem dX2_moveText_14 : decode cX2_moveText 14 = .ok (.aload_n 0, 1) := by decide +kernel
theorem dX2_moveText_15 : decode cX2_moveText 15 = .ok (.getfield 18, 3) := by decide +kernel
theorem dX2_moveText_18 : decode cX2_moveText 18 = .ok (.iload 4, 2) := by decide +kernel
theorem dX2_moveText_20 : decode cX2_moveText 20 = .ok (.iaload, 1) := by decide +kernel
theorem dX2_moveText_21 : decode cX2_moveText 21 = .ok (.iload_n 1, 1) := by decide +kernel
theorem dX2_moveText_22 : decode cX2_moveText 22 = .ok (.if_icmp .ne 19, 3) := by decide +kernel
theorem dX2_moveText_25 : decode cX2_moveText 25 = .ok (.aload_n 0, 1) := by decide +kernel
theorem dX2_moveText_26 : decode cX2_moveText 26 = .ok (.getfield 18, 3) := by decide +kernel
theorem dX2_moveText_29 : decode cX2_moveText 29 = .ok (.iload 4, 2) := by decide +kernel
theorem dX2_moveText_31 : decode cX2_moveText 31 = .ok (.iload_n 2, 1) := by decide +kernel
theorem dX2_moveText_32 : decode cX2_moveText 32 = .ok (.iastore, 1) := by decide +kernel
theorem dX2_moveText_33 : decode cX2_moveText 33 = .ok (.aload_n 0, 1) := by decide +kernel
theorem dX2_moveText_34 : decode cX2_moveText 34 = .ok (.getfield 21, 3) := by decide +kernel
theorem dX2_moveText_37 : decode cX2_moveText 37 = .ok (.iload 4, 2) := by decide +kernel
theorem dX2_moveText_39 : decode cX2_moveText 39 = .ok (.iaload, 1) := by decide +kernel
theorem dX2_moveText_40 : decode cX2_moveText 40 = .ok (.istore_n 3, 1) := by decide +kernel
theorem dX2_moveText_41 : decode cX2_moveText 41 = .ok (.iinc 4 1, 3) := by decide +kernel
theorem dX2_moveText_44 : decode cX2_moveText 44 = .ok (.goto (-39), 3) := by decide +kernel
theorem dX2_moveText_47 : decode cX2_moveText 47 = .ok (.iload_n 3, 1) := by decide +kernel
theorem dX2_moveText_48 : decode cX2_moveText 48 = .ok (.ireturn, 1) := by decide +kernel
theorem dX3_init_0 : decode cX3_init 0 = .ok (.aload_n 0, 1) := by decide +kernel
theorem dX3_init_1 : decode cX3_init 1 = .ok (.invokespecial 3, 3) := by decide +kernel
theorem dX3_init_4 : decode cX3_init 4 = .ok (.aload_n 0, 1) := by decide +kernel
theorem dX3_init_5 : decode cX3_init 5 = .ok (.new 9, 3) := by decide +kernel
theorem dX3_init_8 : decode cX3_init 8 = .ok (.dup, 1) := by decide +kernel
theorem dX3_init_9 : decode cX3_init 9 = .ok (.invokespecial 11, 3) := by decide +kernel
theorem dX3_init_12 : decode cX3_init 12 = .ok (.putfield 12, 3) := by decide +kernel
theorem dX3_init_15 : decode cX3_init 15 = .ok (.aload_n 0, 1) := by decide +kernel
theorem dX3_init_16 : decode cX3_init 16 = .ok (.new 9, 3) := by decide +kernel
theorem dX3_init_19 : decode cX3_init 19 = .ok (.dup, 1) := by decide +kernel
theorem dX3_init_20 : decode cX3_init 20 = .ok (.invokespecial 11, 3) := by decide +kernel
theorem dX3_init_23 : decode cX3_init 23 = .ok (.putfield 16, 3) := by decide +kernel
theorem dX3_init_26 : decode cX3_init 26 = .ok (.aload_n 0, 1) := by decide +kernel
theorem dX3_init_27 : decode cX3_init 27 = .ok (.new 9, 3) := by decide +kernel
theorem dX3_init_30 : decode cX3_init 30 = .ok (.dup, 1) := by decide +kernel
theorem dX3_init_31 : decode cX3_init 31 = .ok (.invokespecial 11, 3) := by decide +kernel
theorem dX3_init_34 : decode cX3_init 34 = .ok (.putfield 19, 3) := by decide +kernel
theorem dX3_init_37 : decode cX3_init 37 = .ok (.aload_n 0, 1) := by decide +kernel
theorem dX3_init_38 : decode cX3_init 38 = .ok (.iconst 0, 1) := by decide +kernel
theorem dX3_init_39 : decode cX3_init 39 = .ok (.putfield 22, 3) := by decide +kernel
theorem dX3_init_42 : decode cX3_init 42 = .ok (.aload_n 0, 1) := by decide +kernel
theorem dX3_init_43 : decode cX3_init 43 = .ok (.new 26, 3) := by decide +kernel
theorem dX3_init_46 : decode cX3_init 46 = .ok (.dup, 1) := by decide +kernel
theorem dX3_init_47 : decode cX3_init 47 = .ok (.invokespecial 28, 3) := by decide +kernel
theorem dX3_init_50 : decode cX3_init 50 = .ok (.putfield 29, 3) := by decide +kernel
theorem dX3_init_53 : decode cX3_init 53 = .ok (.aload_n 0, 1) := by decide +kernel
theorem dX3_init_54 : decode cX3_init 54 = .ok (.new 33, 3) := by decide +kernel
theorem dX3_init_57 : decode cX3_init 57 = .ok (.dup, 1) := by decide +kernel
theorem dX3_init_58 : decode cX3_init 58 = .ok (.invokespecial 35, 3) := by decide +kernel
theorem dX3_init_61 : decode cX3_init 61 = .ok (.putfield 36, 3) := by decide +kernel
theorem dX3_init_64 : decode cX3_init 64 = .ok (.return_, 1) := by decide +kernel
theorem dX3_add_0 : decode cX3_add 0 = .ok (.aload_n 0, 1) := by decide +kernel
theorem dX3_add_1 : decode cX3_add 1 = .ok (.getfield 16, 3) := by decide +kernel
theorem dX3_add_4 : decode cX3_add 4 = .ok (.aload_n 0, 1) := by decide +kernel
theorem dX3_add_5 : decode cX3_add 5 = .ok (.getfield 12, 3) := by decide +kernel
theorem dX3_add_8 : decode cX3_add 8 = .ok (.invokevirtual 40, 3) := by decide +kernel
theorem dX3_add_11 : decode cX3_add 11 = .ok (.aload_n 0, 1) := by decide +kernel
theorem dX3_add_12 : decode cX3_add 12 = .ok (.aload_n 0, 1) := by decide +kernel
theorem dX3_add_13 : decode cX3_add 13 = .ok (.getfield 16, 3) := by decide +kernel
theorem dX3_add_16 : decode cX3_add 16 = .ok (.iload_n 1, 1) := by decide +kernel
theorem dX3_add_17 : decode cX3_add 17 = .ok (.iload_n 2, 1) := by decide +kernel
theorem dX3_add_18 : decode cX3_add 18 = .ok (.iload_n 3, 1) := by decide +kernel
theorem dX3_add_19 : decode cX3_add 19 = .ok (.invokevirtual 44, 3) := by decide +kernel
theorem dX3_add_22 : decode cX3_add 22 = .ok (.invokevirtual 48, 3) := by decide +kernel
theorem dX3_add_25 : decode cX3_add 25 = .ok (.ireturn, 1) := by decide +kernel
theorem dX3_replace_0 : decode cX3_replace 0 = .ok (.aload_n 0, 1) := by decide +kernel
theorem dX3_replace_1 : decode cX3_replace 1 = .ok (.getfield 16, 3) := by decide +kernel
theorem dX3_replace_4 : decode cX3_replace 4 = .ok (.aload_n 0, 1) := by decide +kernel
theorem dX3_replace_5 : decode cX3_replace 5 = .ok (.getfield 12, 3) := by decide +kernel
theorem dX3_replace_8 : decode cX3_replace 8 = .ok (.invokevirtual 40, 3) := by decide +kernel
theorem dX3_replace_11 : decode cX3_replace 11 = .ok (.aload_n 0, 1) := by decide +kernel
theorem dX3_replace_12 : decode cX3_replace 12 = .ok (.aload_n 0, 1) := by decide +kernel
theorem dX3_replace_13 : decode cX3_replace 13 = .ok (.getfield 16, 3) := by decide +kernel
theorem dX3_replace_16 : decode cX3_replace 16 = .ok (.iload_n 1, 1) := by decide +kernel
theorem dX3_replace_17 : decode cX3_replace 17 = .ok (.iload_n 2, 1) := by decide +kernel
theorem dX3_replace_18 : decode cX3_replace 18 = .ok (.iload_n 3, 1) := by decide +kernel
theorem dX3_replace_19 : decode cX3_replace 19 = .ok (.invokevirtual 52, 3) := by decide +kernel
theorem dX3_replace_22 : decode cX3_replace 22 = .ok (.invokevirtual 48, 3) := by decide +kernel
theorem dX3_replace_25 : decode cX3_replace 25 = .ok (.ireturn, 1) := by decide +kernel
theorem dX3_remove_0 : decode cX3_remove 0 = .ok (.aload_n 0, 1) := by decide +kernel
theorem dX3_remove_1 : decode cX3_remove 1 = .ok (.getfield 16, 3) := by decide +kernel
theorem dX3_remove_4 : decode cX3_remove 4 = .ok (.aload_n 0, 1) := by decide +kernel
theorem dX3_remove_5 : decode cX3_remove 5 = .ok (.getfield 12, 3) := by decide +kernel
theorem dX3_remove_8 : decode cX3_remove 8 = .ok (.invokevirtual 40, 3) := by decide +kernel
theorem dX3_remove_11 : decode cX3_remove 11 = .ok (.aload_n 0, 1) := by decide +kernel
theorem dX3_remove_12 : decode cX3_remove 12 = .ok (.aload_n 0, 1) := by decide +kernel
theorem dX3_remove_13 : decode cX3_remove 13 = .ok (.getfield 16, 3) := by decide +kernel
theorem dX3_remove_16 : decode cX3_remove 16 = .ok (.iload_n 1, 1) := by decide +kernel
theorem dX3_remove_17 : decode cX3_remove 17 = .ok (.invokevirtual 55, 3) := by decide +kernel
theorem dX3_remove_20 : decode cX3_remove 20 = .ok (.invokevirtual 48, 3) := by decide +kernel
theorem dX3_remove_23 : decode cX3_remove 23 = .ok (.ireturn, 1) := by decide +kernel
theorem dX3_rename_0 : decode cX3_rename 0 = .ok (.aload_n 0, 1) := by decide +kernel
theorem dX3_rename_1 : decode cX3_rename 1 = .ok (.getfield 16, 3) := by decide +kernel
theorem dX3_rename_4 : decode cX3_rename 4 = .ok (.aload_n 0, 1) := by decide +kernel
theorem dX3_rename_5 : decode cX3_rename 5 = .ok (.getfield 12, 3) := by decide +kernel
theorem dX3_rename_8 : decode cX3_rename 8 = .ok (.invokevirtual 40, 3) := by decide +kernel
theorem dX3_rename_11 : decode cX3_rename 11 = .ok (.aload_n 0, 1) := by decide +kernel
theorem dX3_rename_12 : decode cX3_rename 12 = .ok (.aload_n 0, 1) := by decide +kernel
theorem dX3_rename_13 : decode cX3_rename 13 = .ok (.getfield 16, 3) := by decide +kernel
theorem dX3_rename_16 : decode cX3_rename 16 = .ok (.iload_n 1, 1) := by decide +kernel
theorem dX3_rename_17 : decode cX3_rename 17 = .ok (.iload_n 2, 1) := by decide +kernel
theorem dX3_rename_18 : decode cX3_rename 18 = .ok (.invokevirtual 58, 3) := by decide +kernel
theorem dX3_rename_21 : decode cX3_rename 21 = .ok (.invokevirtual 48, 3) := by decide +kernel
theorem dX3_rename_24 : decode cX3_rename 24 = .ok (.ireturn, 1) := by decide +kernel
theorem dX3_alias_0 : decode cX3_alias 0 = .ok (.aload_n 0, 1) := by decide +kernel
theorem dX3_alias_1 : decode cX3_alias 1 = .ok (.getfield 16, 3) := by decide +kernel
theorem dX3_alias_4 : decode cX3_alias 4 = .ok (.aload_n 0, 1) := by decide +kernel
theorem dX3_alias_5 : decode cX3_alias 5 = .ok (.getfield 12, 3) := by decide +kernel
theorem dX3_alias_8 : decode cX3_alias 8 = .ok (.invokevirtual 40, 3) := by decide +kernel
theorem dX3_alias_11 : decode cX3_alias 11 = .ok (.aload_n 0, 1) := by decide +kernel
theorem dX3_alias_12 : decode cX3_alias 12 = .ok (.aload_n 0, 1) := by decide +kernel
theorem dX3_alias_13 : decode cX3_alias 13 = .ok (.getfield 16, 3) := by decide +kernel
theorem dX3_alias_16 : decode cX3_alias 16 = .ok (.iload_n 1, 1) := by decide +kernel
theorem dX3_alias_17 : decode cX3_alias 17 = .ok (.iload_n 2, 1) := by decide +kernel
theorem dX3_alias_18 : decode cX3_alias 18 = .ok (.invokevirtual 62, 3) := by decide +kernel
theorem dX3_alias_21 : decode cX3_alias 21 = .ok (.invokevirtual 48, 3) := by decide +kernel
theorem dX3_alias_24 : decode cX3_alias 24 = .ok (.ireturn, 1) := by decide +kernel
theorem dX3_addAll_0 : decode cX3_addAll 0 = .ok (.aload_n 0, 1) := by decide +kernel
theorem dX3_addAll_1 : decode cX3_addAll 1 = .ok (.getfield 36, 3) := by decide +kernel
theorem dX3_addAll_4 : decode cX3_addAll 4 = .ok (.invokevirtual 65, 3) := by decide +kernel
theorem dX3_addAll_7 : decode cX3_addAll 7 = .ok (.istore_n 1, 1) := by decide +kernel
theorem dX3_addAll_8 : decode cX3_addAll 8 = .ok (.iload_n 1, 1) := by decide +kernel
theorem dX3_addAll_9 : decode cX3_addAll 9 = .ok (.iconst (-1), 1) := by decide +kernel
theorem dX3_addAll_10 : decode cX3_addAll 10 = .ok (.if_icmp .eq 8, 3) := by decide +kernel
theorem dX3_addAll_13 : decode cX3_addAll 13 = .ok (.bipush (-100), 2) := by decide +kernel
theorem dX3_addAll_15 : decode cX3_addAll 15 = .ok (.iload_n 1, 1) := by decide +kernel
theorem dX3_addAll_16 : decode cX3_addAll 16 = .ok (.isub, 1) := by decide +kernel
theorem dX3_addAll_17 : decode cX3_addAll 17 = .ok (.ireturn, 1) := by decide +kernel
theorem dX3_addAll_18 : decode cX3_addAll 18 = .ok (.aload_n 0, 1) := by decide +kernel
theorem dX3_addAll_19 : decode cX3_addAll 19 = .ok (.getfield 16, 3) := by decide +kernel
theorem dX3_addAll_22 : decode cX3_addAll 22 = .ok (.aload_n 0, 1) := by decide +kernel
theorem dX3_addAll_23 : decode cX3_addAll 23 = .ok (.getfield 12, 3) := by decide +kernel
theorem dX3_addAll_26 : decode cX3_addAll 26 = .ok (.invokevirtual 40, 3) := by decide +kernel
theorem dX3_addAll_29 : decode cX3_addAll 29 = .ok (.aload_n 0, 1) := by decide +kernel
theorem dX3_addAll_30 : decode cX3_addAll 30 = .ok (.aload_n 0, 1) := by decide +kernel
theorem dX3_addAll_31 : decode cX3_addAll 31 = .ok (.getfield 36, 3) := by decide +kernel
theorem dX3_addAll_34 : decode cX3_addAll 34 = .ok (.aload_n 0, 1) := by decide +kernel
theorem dX3_addAll_35 : decode cX3_addAll 35 = .ok (.getfield 16, 3) := by decide +kernel
theorem dX3_addAll_38 : decode cX3_addAll 38 = .ok (.invokevirtual 69, 3) := by decide +kernel
theorem dX3_addAll_41 : decode cX3_addAll 41 = .ok (.invokevirtual 48, 3) := by decide +kernel
theorem dX3_addAll_44 : decode cX3_addAll 44 = .ok (.ireturn, 1) := by decide +kernel
theorem dX3_squeeze_0 : decode cX3_squeeze 0 = .ok (.aload_n 0, 1) := by decide +kernel
theorem dX3_squeeze_1 : decode cX3_squeeze 1 = .ok (.getfield 16, 3) := by decide +kernel
theorem dX3_squeeze_4 : decode cX3_squeeze 4 = .ok (.aload_n 0, 1) := by decide +kernel
theorem dX3_squeeze_5 : decode cX3_squeeze 5 = .ok (.getfield 12, 3) := by decide +kernel
theorem dX3_squeeze_8 : decode cX3_squeeze 8 = .ok (.invokevirtual 40, 3) := by decide +kernel
theorem dX3_squeeze_11 : decode cX3_squeeze 11 = .ok (.aload_n 0, 1) := by decide +kernel
theorem dX3_squeeze_12 : decode cX3_squeeze 12 = .ok (.aload_n 0, 1) := by decide +kernel
theorem dX3_squeeze_13 : decode cX3_squeeze 13 = .ok (.getfield 16, 3) := by decide +kernel
theorem dX3_squeeze_16 : decode cX3_squeeze 16 = .ok (.invokevirtual 73, 3) := by decide +kernel
theorem dX3_squeeze_19 : decode cX3_squeeze 19 = .ok (.invokevirtual 48, 3) := by decide +kernel
theorem dX3_squeeze_22 : decode cX3_squeeze 22 = .ok (.ireturn, 1) := by decide +kernel
theorem dX3_makeAnew_0 : decode cX3_makeAnew 0 = .ok (.aload_n 0, 1) := by decide +kernel
theorem dX3_makeAnew_1 : decode cX3_makeAnew 1 = .ok (.getfield 16, 3) := by decide +kernel
theorem dX3_makeAnew_4 : decode cX3_makeAnew 4 = .ok (.aload_n 0, 1) := by decide +kernel
theorem dX3_makeAnew_5 : decode cX3_makeAnew 5 = .ok (.getfield 12, 3) := by decide +kernel
theorem dX3_makeAnew_8 : decode cX3_makeAnew 8 = .ok (.invokevirtual 40, 3) := by decide +kernel
theorem dX3_makeAnew_11 : decode cX3_makeAnew 11 = .ok (.aload_n 0, 1) := by decide +kernel
theorem dX3_makeAnew_12 : decode cX3_makeAnew 12 = .ok (.aload_n 0, 1) := by decide +kernel
theorem dX3_makeAnew_13 : decode cX3_makeAnew 13 = .ok (.getfield 16, 3) := by decide +kernel
theorem dX3_makeAnew_16 : decode cX3_makeAnew 16 = .ok (.iload_n 1, 1) := by decide +kernel
theorem dX3_makeAnew_17 : decode cX3_makeAnew 17 = .ok (.invokevirtual 76, 3) := by decide +kernel
theorem dX3_makeAnew_20 : decode cX3_makeAnew 20 = .ok (.invokevirtual 48, 3) := by decide +kernel
theorem dX3_makeAnew_23 : decode cX3_makeAnew 23 = .ok (.ireturn, 1) := by decide +kernel
theorem dX3_type_0 : decode cX3_type 0 = .ok (.aload_n 0, 1) := by decide +kernel
theorem dX3_type_1 : decode cX3_type 1 = .ok (.getfield 36, 3) := by decide +kernel
theorem dX3_type_4 : decode cX3_type 4 = .ok (.iload_n 1, 1) := by decide +kernel
theorem dX3_type_5 : decode cX3_type 5 = .ok (.invokevirtual 79, 3) := by decide +kernel
theorem dX3_type_8 : decode cX3_type 8 = .ok (.ireturn, 1) := by decide +kernel
theorem dX3_clearPad_0 : decode cX3_clearPad 0 = .ok (.aload_n 0, 1) := by decide +kernel
theorem dX3_clearPad_1 : decode cX3_clearPad 1 = .ok (.getfield 36, 3) := by decide +kernel
theorem dX3_clearPad_4 : decode cX3_clearPad 4 = .ok (.invokevirtual 83, 3) := by decide +kernel
theorem dX3_clearPad_7 : decode cX3_clearPad 7 = .ok (.ireturn, 1) := by decide +kernel
theorem dX3_undo_0 : decode cX3_undo 0 = .ok (.aload_n 0, 1) := by decide +kernel
theorem dX3_undo_1 : decode cX3_undo 1 = .ok (.getfield 29, 3) := by decide +kernel
theorem dX3_undo_4 : decode cX3_undo 4 = .ok (.aload_n 0, 1) := by decide +kernel
theorem dX3_undo_5 : decode cX3_undo 5 = .ok (.getfield 12, 3) := by decide +kernel
theorem dX3_undo_8 : decode cX3_undo 8 = .ok (.invokevirtual 86, 3) := by decide +kernel
theorem dX3_undo_11 : decode cX3_undo 11 = .ok (.ifCond .ne 6, 3) := by decide +kernel
theorem dX3_undo_14 : decode cX3_undo 14 = .ok (.bipush (-5), 2) := by decide +kernel
theorem dX3_undo_16 : decode cX3_undo 16 = .ok (.ireturn, 1) := by decide +kernel
theorem dX3_undo_17 : decode cX3_undo 17 = .ok (.aload_n 0, 1) := by decide +kernel
theorem dX3_undo_18 : decode cX3_undo 18 = .ok (.getfield 29, 3) := by decide +kernel
theorem dX3_undo_21 : decode cX3_undo 21 = .ok (.invokevirtual 90, 3) := by decide +kernel
theorem dX3_undo_24 : decode cX3_undo 24 = .ok (.ireturn, 1) := by decide +kernel
theorem dX3_entry_0 : decode cX3_entry 0 = .ok (.aload_n 0, 1) := by decide +kernel
theorem dX3_entry_1 : decode cX3_entry 1 = .ok (.getfield 12, 3) := by decide +kernel
theorem dX3_entry_4 : decode cX3_entry 4 = .ok (.iload_n 1, 1) := by decide +kernel
theorem dX3_entry_5 : decode cX3_entry 5 = .ok (.iload_n 2, 1) := by decide +kernel
theorem dX3_entry_6 : decode cX3_entry 6 = .ok (.invokevirtual 94, 3) := by decide +kernel
theorem dX3_entry_9 : decode cX3_entry 9 = .ok (.ireturn, 1) := by decide +kernel
theorem dX3_named_0 : decode cX3_named 0 = .ok (.aload_n 0, 1) := by decide +kernel
theorem dX3_named_1 : decode cX3_named 1 = .ok (.getfield 12, 3) := by decide +kernel
theorem dX3_named_4 : decode cX3_named 4 = .ok (.iload_n 1, 1) := by decide +kernel
theorem dX3_named_5 : decode cX3_named 5 = .ok (.invokevirtual 97, 3) := by decide +kernel
theorem dX3_named_8 : decode cX3_named 8 = .ok (.ireturn, 1) := by decide +kernel
theorem dX3_at_0 : decode cX3_at 0 = .ok (.aload_n 0, 1) := by decide +kernel
theorem dX3_at_1 : decode cX3_at 1 = .ok (.getfield 12, 3) := by decide +kernel
theorem dX3_at_4 : decode cX3_at 4 = .ok (.iload_n 1, 1) := by decide +kernel
theorem dX3_at_5 : decode cX3_at 5 = .ok (.invokevirtual 103, 3) := by decide +kernel
theorem dX3_at_8 : decode cX3_at 8 = .ok (.ireturn, 1) := by decide +kernel
theorem dX3_fits_0 : decode cX3_fits 0 = .ok (.aload_n 0, 1) := by decide +kernel
theorem dX3_fits_1 : decode cX3_fits 1 = .ok (.getfield 12, 3) := by decide +kernel
theorem dX3_fits_4 : decode cX3_fits 4 = .ok (.iload_n 1, 1) := by decide +kernel
theorem dX3_fits_5 : decode cX3_fits 5 = .ok (.invokevirtual 106, 3) := by decide +kernel
theorem dX3_fits_8 : decode cX3_fits 8 = .ok (.ireturn, 1) := by decide +kernel
theorem dX3_beginning_0 : decode cX3_beginning 0 = .ok (.aload_n 0, 1) := by decide +kernel
theorem dX3_beginning_1 : decode cX3_beginning 1 = .ok (.getfield 12, 3) := by decide +kernel
theorem dX3_beginning_4 : decode cX3_beginning 4 = .ok (.iload_n 1, 1) := by decide +kernel
theorem dX3_beginning_5 : decode cX3_beginning 5 = .ok (.iload_n 2, 1) := by decide +kernel
theorem dX3_beginning_6 : decode cX3_beginning 6 = .ok (.invokevirtual 109, 3) := by decide +kernel
theorem dX3_beginning_9 : decode cX3_beginning 9 = .ok (.ireturn, 1) := by decide +kernel
theorem dX3_count_0 : decode cX3_count 0 = .ok (.iload_n 1, 1) := by decide +kernel
theorem dX3_count_1 : decode cX3_count 1 = .ok (.lookupswitch 43 #[(13, 27), (14, 35)], 27) := by decide +kernel
theorem dX3_count_28 : decode cX3_count 28 = .ok (.aload_n 0, 1) := by decide +kernel
theorem dX3_count_29 : decode cX3_count 29 = .ok (.getfield 29, 3) := by decide +kernel
theorem dX3_count_32 : decode cX3_count 32 = .ok (.invokevirtual 90, 3) := by decide +kernel
theorem dX3_count_35 : decode cX3_count 35 = .ok (.ireturn, 1) := by decide +kernel
theorem dX3_count_36 : decode cX3_count 36 = .ok (.aload_n 0, 1) := by decide +kernel
theorem dX3_count_37 : decode cX3_count 37 = .ok (.getfield 36, 3) := by decide +kernel
theorem dX3_count_40 : decode cX3_count 40 = .ok (.invokevirtual 112, 3) := by decide +kernel
theorem dX3_count_43 : decode cX3_count 43 = .ok (.ireturn, 1) := by decide +kernel
theorem dX3_count_44 : decode cX3_count 44 = .ok (.aload_n 0, 1) := by decide +kernel
theorem dX3_count_45 : decode cX3_count 45 = .ok (.getfield 12, 3) := by decide +kernel
theorem dX3_count_48 : decode cX3_count 48 = .ok (.iload_n 1, 1) := by decide +kernel
theorem dX3_count_49 : decode cX3_count 49 = .ok (.invokevirtual 115, 3) := by decide +kernel
theorem dX3_count_52 : decode cX3_count 52 = .ok (.ireturn, 1) := by decide +kernel
theorem dX3_settle_0 : decode cX3_settle 0 = .ok (.iload_n 1, 1) := by decide +kernel
theorem dX3_settle_1 : decode cX3_settle 1 = .ok (.ifCond .lt 25, 3) := by decide +kernel
theorem dX3_settle_4 : decode cX3_settle 4 = .ok (.aload_n 0, 1) := by decide +kernel
theorem dX3_settle_5 : decode cX3_settle 5 = .ok (.getfield 29, 3) := by decide +kernel
theorem dX3_settle_8 : decode cX3_settle 8 = .ok (.aload_n 0, 1) := by decide +kernel
theorem dX3_settle_9 : decode cX3_settle 9 = .ok (.getfield 12, 3) := by decide +kernel
theorem dX3_settle_12 : decode cX3_settle 12 = .ok (.invokevirtual 118, 3) := by decide +kernel
theorem dX3_settle_15 : decode cX3_settle 15 = .ok (.aload_n 0, 1) := by decide +kernel
theorem dX3_settle_16 : decode cX3_settle 16 = .ok (.getfield 12, 3) := by decide +kernel
theorem dX3_settle_19 : decode cX3_settle 19 = .ok (.aload_n 0, 1) := by decide +kernel
theorem dX3_settle_20 : decode cX3_settle 20 = .ok (.getfield 16, 3) := by decide +kernel
theorem dX3_settle_23 : decode cX3_settle 23 = .ok (.invokevirtual 40, 3) := by decide +kernel
theorem dX3_settle_26 : decode cX3_settle 26 = .ok (.iload_n 1, 1) := by decide +kernel
theorem dX3_settle_27 : decode cX3_settle 27 = .ok (.ireturn, 1) := by decide +kernel
theorem dJ9_max_7cf53_0 : decode cJ9_max_7cf53 0 = .ok (.iload_n 0, 1) := by decide +kernel
theorem dJ9_max_7cf53_1 : decode cJ9_max_7cf53 1 = .ok (.iload_n 1, 1) := by decide +kernel
theorem dJ9_max_7cf53_2 : decode cJ9_max_7cf53 2 = .ok (.if_icmp .lt 7, 3) := by decide +kernel
theorem dJ9_max_7cf53_5 : decode cJ9_max_7cf53 5 = .ok (.iload_n 0, 1) := by decide +kernel
theorem dJ9_max_7cf53_6 : decode cJ9_max_7cf53 6 = .ok (.goto 4, 3) := by decide +kernel
theorem dJ9_max_7cf53_9 : decode cJ9_max_7cf53 9 = .ok (.iload_n 1, 1) := by decide +kernel
theorem dJ9_max_7cf53_10 : decode cJ9_max_7cf53 10 = .ok (.ireturn, 1) := by decide +kernel
theorem dL_cell_0 : decode cL_cell 0 = .ok (.iload_n 1, 1) := by decide +kernel
theorem dL_cell_1 : decode cL_cell 1 = .ok (.aload_n 0, 1) := by decide +kernel
theorem dL_cell_2 : decode cL_cell 2 = .ok (.arraylength, 1) := by decide +kernel
theorem dL_cell_3 : decode cL_cell 3 = .ok (.if_icmp .ge 9, 3) := by decide +kernel
theorem dL_cell_6 : decode cL_cell 6 = .ok (.aload_n 0, 1) := by decide +kernel
theorem dL_cell_7 : decode cL_cell 7 = .ok (.iload_n 1, 1) := by decide +kernel
theorem dL_cell_8 : decode cL_cell 8 = .ok (.iaload, 1) := by decide +kernel
theorem dL_cell_9 : decode cL_cell 9 = .ok (.goto 11, 3) := by decide +kernel
theorem dL_cell_12 : decode cL_cell 12 = .ok (.ldc 7, 2) := by decide +kernel
theorem dL_cell_14 : decode cL_cell 14 = .ok (.iload_n 1, 1) := by decide +kernel
theorem dL_cell_15 : decode cL_cell 15 = .ok (.sipush 1091, 3) := by decide +kernel
theorem dL_cell_18 : decode cL_cell 18 = .ok (.iadd, 1) := by decide +kernel
theorem dL_cell_19 : decode cL_cell 19 = .ok (.imul, 1) := by decide +kernel
theorem dL_cell_20 : decode cL_cell 20 = .ok (.ireturn, 1) := by decide +kernel
theorem dL_up_0 : decode cL_up 0 = .ok (.iload_n 0, 1) := by decide +kernel
theorem dL_up_1 : decode cL_up 1 = .ok (.ldc 8, 2) := by decide +kernel
theorem dL_up_3 : decode cL_up 3 = .ok (.iand, 1) := by decide +kernel
theorem dL_up_4 : decode cL_up 4 = .ok (.iload_n 1, 1) := by decide +kernel
theorem dL_up_5 : decode cL_up 5 = .ok (.irem, 1) := by decide +kernel
theorem dL_up_6 : decode cL_up 6 = .ok (.ireturn, 1) := by decide +kernel
theorem dL_there_0 : decode cL_there 0 = .ok (.iload_n 0, 1) := by decide +kernel
theorem dL_there_1 : decode cL_there 1 = .ok (.ifCond .lt 10, 3) := by decide +kernel
theorem dL_there_4 : decode cL_there 4 = .ok (.iload_n 0, 1) := by decide +kernel
theorem dL_there_5 : decode cL_there 5 = .ok (.sipush 1000, 3) := by decide +kernel
theorem dL_there_8 : decode cL_there 8 = .ok (.if_icmp .ne 7, 3) := by decide +kernel
theorem dL_there_11 : decode cL_there 11 = .ok (.iload_n 0, 1) := by decide +kernel
theorem dL_there_12 : decode cL_there 12 = .ok (.goto 8, 3) := by decide +kernel
theorem dL_there_15 : decode cL_there 15 = .ok (.iload_n 0, 1) := by decide +kernel
theorem dL_there_16 : decode cL_there 16 = .ok (.sipush 338, 3) := by decide +kernel
theorem dL_there_19 : decode cL_there 19 = .ok (.iadd, 1) := by decide +kernel
theorem dL_there_20 : decode cL_there 20 = .ok (.ireturn, 1) := by decide +kernel
theorem dL_name_0 : decode cL_name 0 = .ok (.aload_n 0, 1) := by decide +kernel
theorem dL_name_1 : decode cL_name 1 = .ok (.bipush 65, 2) := by decide +kernel
theorem dL_name_3 : decode cL_name 3 = .ok (.iload_n 1, 1) := by decide +kernel
theorem dL_name_4 : decode cL_name 4 = .ok (.bipush 26, 2) := by decide +kernel
theorem dL_name_6 : decode cL_name 6 = .ok (.idiv, 1) := by decide +kernel
theorem dL_name_7 : decode cL_name 7 = .ok (.iadd, 1) := by decide +kernel
theorem dL_name_8 : decode cL_name 8 = .ok (.i2c, 1) := by decide +kernel
theorem dL_name_9 : decode cL_name 9 = .ok (.invokevirtual 11, 3) := by decide +kernel
theorem dL_name_12 : decode cL_name 12 = .ok (.ifCond .le 22, 3) := by decide +kernel
theorem dL_name_15 : decode cL_name 15 = .ok (.aload_n 0, 1) := by decide +kernel
theorem dL_name_16 : decode cL_name 16 = .ok (.bipush 65, 2) := by decide +kernel
theorem dL_name_18 : decode cL_name 18 = .ok (.iload_n 1, 1) := by decide +kernel
theorem dL_name_19 : decode cL_name 19 = .ok (.bipush 26, 2) := by decide +kernel
theorem dL_name_21 : decode cL_name 21 = .ok (.irem, 1) := by decide +kernel
theorem dL_name_22 : decode cL_name 22 = .ok (.iadd, 1) := by decide +kernel
theorem dL_name_23 : decode cL_name 23 = .ok (.i2c, 1) := by decide +kernel
theorem dL_name_24 : decode cL_name 24 = .ok (.invokevirtual 11, 3) := by decide +kernel
theorem dL_name_27 : decode cL_name 27 = .ok (.ifCond .le 7, 3) := by decide +kernel
theorem dL_name_30 : decode cL_name 30 = .ok (.iconst 1, 1) := by decide +kernel
theorem dL_name_31 : decode cL_name 31 = .ok (.goto 4, 3) := by decide +kernel
theorem dL_name_34 : decode cL_name 34 = .ok (.iconst 0, 1) := by decide +kernel
theorem dL_name_35 : decode cL_name 35 = .ok (.ireturn, 1) := by decide +kernel
theorem dL_number_0 : decode cL_number 0 = .ok (.iconst 1, 1) := by decide +kernel
theorem dL_number_1 : decode cL_number 1 = .ok (.istore_n 2, 1) := by decide +kernel
theorem dL_number_2 : decode cL_number 2 = .ok (.iload_n 1, 1) := by decide +kernel
theorem dL_number_3 : decode cL_number 3 = .ok (.sipush 999, 3) := by decide +kernel
theorem dL_number_6 : decode cL_number 6 = .ok (.if_icmp .le 9, 3) := by decide +kernel
theorem dL_number_9 : decode cL_number 9 = .ok (.sipush 1000, 3) := by decide +kernel
theorem dL_number_12 : decode cL_number 12 = .ok (.goto 26, 3) := by decide +kernel
theorem dL_number_15 : decode cL_number 15 = .ok (.iload_n 1, 1) := by decide +kernel
theorem dL_number_16 : decode cL_number 16 = .ok (.bipush 99, 2) := by decide +kernel
theorem dL_number_18 : decode cL_number 18 = .ok (.if_icmp .le 8, 3) := by decide +kernel
theorem dL_number_21 : decode cL_number 21 = .ok (.bipush 100, 2) := by decide +kernel
theorem dL_number_23 : decode cL_number 23 = .ok (.goto 15, 3) := by decide +kernel
theorem dL_number_26 : decode cL_number 26 = .ok (.iload_n 1, 1) := by decide +kernel
theorem dL_number_27 : decode cL_number 27 = .ok (.bipush 9, 2) := by decide +kernel
theorem dL_number_29 : decode cL_number 29 = .ok (.if_icmp .le 8, 3) := by decide +kernel
theorem dL_number_32 : decode cL_number 32 = .ok (.bipush 10, 2) := by decide +kernel
theorem dL_number_34 : decode cL_number 34 = .ok (.goto 4, 3) := by decide +kernel
theorem dL_number_37 : decode cL_number 37 = .ok (.iconst 1, 1) := by decide +kernel
theorem dL_number_38 : decode cL_number 38 = .ok (.istore_n 3, 1) := by decide +kernel
theorem dL_number_39 : decode cL_number 39 = .ok (.iload_n 3, 1) := by decide +kernel
theorem dL_number_40 : decode cL_number 40 = .ok (.ifCond .le 38, 3) := by decide +kernel
theorem dL_number_43 : decode cL_number 43 = .ok (.iload_n 2, 1) := by decide +kernel
theorem dL_number_44 : decode cL_number 44 = .ok (.ifCond .eq 24, 3) := by decide +kernel
theorem dL_number_47 : decode cL_number 47 = .ok (.aload_n 0, 1) := by decide +kernel
theorem dL_number_48 : decode cL_number 48 = .ok (.bipush 48, 2) := by decide +kernel
theorem dL_number_50 : decode cL_number 50 = .ok (.iload_n 1, 1) := by decide +kernel
theorem dL_number_51 : decode cL_number 51 = .ok (.iload_n 3, 1) := by decide +kernel
theorem dL_number_52 : decode cL_number 52 = .ok (.idiv, 1) := by decide +kernel
theorem dL_number_53 : decode cL_number 53 = .ok (.bipush 10, 2) := by decide +kernel
theorem dL_number_55 : decode cL_number 55 = .ok (.irem, 1) := by decide +kernel
theorem dL_number_56 : decode cL_number 56 = .ok (.iadd, 1) := by decide +kernel
theorem dL_number_57 : decode cL_number 57 = .ok (.i2c, 1) := by decide +kernel
theorem dL_number_58 : decode cL_number 58 = .ok (.invokevirtual 11, 3) := by decide +kernel
theorem dL_number_61 : decode cL_number 61 = .ok (.ifCond .le 7, 3) := by decide +kernel
theorem dL_number_64 : decode cL_number 64 = .ok (.iconst 1, 1) := by decide +kernel
theorem dL_number_65 : decode cL_number 65 = .ok (.goto 4, 3) := by decide +kernel
theorem dL_number_68 : decode cL_number 68 = .ok (.iconst 0, 1) := by decide +kernel
theorem dL_number_69 : decode cL_number 69 = .ok (.istore_n 2, 1) := by decide +kernel
theorem dL_number_70 : decode cL_number 70 = .ok (.iload_n 3, 1) := by decide +kernel
theorem dL_number_71 : decode cL_number 71 = .ok (.bipush 10, 2) := by decide +kernel
theorem dL_number_73 : decode cL_number 73 = .ok (.idiv, 1) := by decide +kernel
theorem dL_number_74 : decode cL_number 74 = .ok (.istore_n 3, 1) := by decide +kernel
theorem dL_number_75 : decode cL_number 75 = .ok (.goto (-36), 3) := by decide +kernel
theorem dL_number_78 : decode cL_number 78 = .ok (.iload_n 2, 1) := by decide +kernel
theorem dL_number_79 : decode cL_number 79 = .ok (.ireturn, 1) := by decide +kernel
theorem dL_isStep_0 : decode cL_isStep 0 = .ok (.iload_n 2, 1) := by decide +kernel
theorem dL_isStep_1 : decode cL_isStep 1 = .ok (.iconst 4, 1) := by decide +kernel
theorem dL_isStep_2 : decode cL_isStep 2 = .ok (.ishr, 1) := by decide +kernel
theorem dL_isStep_3 : decode cL_isStep 3 = .ok (.istore 4, 2) := by decide +kernel
theorem dL_isStep_5 : decode cL_isStep 5 = .ok (.bipush 26, 2) := by decide +kernel
theorem dL_isStep_7 : decode cL_isStep 7 = .ok (.iload 4, 2) := by decide +kernel
theorem dL_isStep_9 : decode cL_isStep 9 = .ok (.iconst 3, 1) := by decide +kernel
theorem dL_isStep_10 : decode cL_isStep 10 = .ok (.invokestatic 17, 3) := by decide +kernel
theorem dL_isStep_13 : decode cL_isStep 13 = .ok (.imul, 1) := by decide +kernel
theorem dL_isStep_14 : decode cL_isStep 14 = .ok (.iload 4, 2) := by decide +kernel
theorem dL_isStep_16 : decode cL_isStep 16 = .ok (.iconst 2, 1) := by decide +kernel
theorem dL_isStep_17 : decode cL_isStep 17 = .ok (.ishr, 1) := by decide +kernel
theorem dL_isStep_18 : decode cL_isStep 18 = .ok (.iconst 5, 1) := by decide +kernel
theorem dL_isStep_19 : decode cL_isStep 19 = .ok (.invokestatic 17, 3) := by decide +kernel
theorem dL_isStep_22 : decode cL_isStep 22 = .ok (.iadd, 1) := by decide +kernel
theorem dL_isStep_23 : decode cL_isStep 23 = .ok (.istore 5, 2) := by decide +kernel
theorem dL_isStep_25 : decode cL_isStep 25 = .ok (.bipush 26, 2) := by decide +kernel
theorem dL_isStep_27 : decode cL_isStep 27 = .ok (.iload 4, 2) := by decide +kernel
theorem dL_isStep_29 : decode cL_isStep 29 = .ok (.iconst 5, 1) := by decide +kernel
theorem dL_isStep_30 : decode cL_isStep 30 = .ok (.ishr, 1) := by decide +kernel
theorem dL_isStep_31 : decode cL_isStep 31 = .ok (.iconst 3, 1) := by decide +kernel
theorem dL_isStep_32 : decode cL_isStep 32 = .ok (.invokestatic 17, 3) := by decide +kernel
theorem dL_isStep_35 : decode cL_isStep 35 = .ok (.imul, 1) := by decide +kernel
theorem dL_isStep_36 : decode cL_isStep 36 = .ok (.iload 4, 2) := by decide +kernel
theorem dL_isStep_38 : decode cL_isStep 38 = .ok (.bipush 7, 2) := by decide +kernel
theorem dL_isStep_40 : decode cL_isStep 40 = .ok (.ishr, 1) := by decide +kernel
theorem dL_isStep_41 : decode cL_isStep 41 = .ok (.iconst 5, 1) := by decide +kernel
theorem dL_isStep_42 : decode cL_isStep 42 = .ok (.invokestatic 17, 3) := by decide +kernel
theorem dL_isStep_45 : decode cL_isStep 45 = .ok (.iadd, 1) := by decide +kernel
theorem dL_isStep_46 : decode cL_isStep 46 = .ok (.istore 6, 2) := by decide +kernel
theorem dL_isStep_48 : decode cL_isStep 48 = .ok (.iconst 1, 1) := by decide +kernel
theorem dL_isStep_49 : decode cL_isStep 49 = .ok (.iload_n 3, 1) := by decide +kernel
theorem dL_isStep_50 : decode cL_isStep 50 = .ok (.iload_n 3, 1) := by decide +kernel
theorem dL_isStep_51 : decode cL_isStep 51 = .ok (.bipush 6, 2) := by decide +kernel
theorem dL_isStep_53 : decode cL_isStep 53 = .ok (.ishr, 1) := by decide +kernel
theorem dL_isStep_54 : decode cL_isStep 54 = .ok (.iconst 3, 1) := by decide +kernel
theorem dL_isStep_55 : decode cL_isStep 55 = .ok (.invokestatic 17, 3) := by decide +kernel
theorem dL_isStep_58 : decode cL_isStep 58 = .ok (.ifCond .ne 8, 3) := by decide +kernel
theorem dL_isStep_61 : decode cL_isStep 61 = .ok (.bipush 40, 2) := by decide +kernel
theorem dL_isStep_63 : decode cL_isStep 63 = .ok (.goto 5, 3) := by decide +kernel
theorem dL_isStep_66 : decode cL_isStep 66 = .ok (.bipush 10, 2) := by decide +kernel
theorem dL_isStep_68 : decode cL_isStep 68 = .ok (.invokestatic 17, 3) := by decide +kernel
theorem dL_isStep_71 : decode cL_isStep 71 = .ok (.iadd, 1) := by decide +kernel
theorem dL_isStep_72 : decode cL_isStep 72 = .ok (.istore 7, 2) := by decide +kernel
theorem dL_isStep_74 : decode cL_isStep 74 = .ok (.iload_n 3, 1) := by decide +kernel
theorem dL_isStep_75 : decode cL_isStep 75 = .ok (.bipush 8, 2) := by decide +kernel
theorem dL_isStep_77 : decode cL_isStep 77 = .ok (.ishr, 1) := by decide +kernel
theorem dL_isStep_78 : decode cL_isStep 78 = .ok (.sipush 10000, 3) := by decide +kernel
theorem dL_isStep_81 : decode cL_isStep 81 = .ok (.invokestatic 17, 3) := by decide +kernel
theorem dL_isStep_84 : decode cL_isStep 84 = .ok (.istore 8, 2) := by decide +kernel
theorem dL_isStep_86 : decode cL_isStep 86 = .ok (.aload_n 0, 1) := by decide +kernel
theorem dL_isStep_87 : decode cL_isStep 87 = .ok (.iconst 0, 1) := by decide +kernel
theorem dL_isStep_88 : decode cL_isStep 88 = .ok (.invokevirtual 21, 3) := by decide +kernel
theorem dL_isStep_91 : decode cL_isStep 91 = .ok (.istore 9, 2) := by decide +kernel
theorem dL_isStep_93 : decode cL_isStep 93 = .ok (.aload_n 0, 1) := by decide +kernel
theorem dL_isStep_94 : decode cL_isStep 94 = .ok (.bipush 6, 2) := by decide +kernel
theorem dL_isStep_96 : decode cL_isStep 96 = .ok (.invokevirtual 21, 3) := by decide +kernel
theorem dL_isStep_99 : decode cL_isStep 99 = .ok (.istore 10, 2) := by decide +kernel
theorem dL_isStep_101 : decode cL_isStep 101 = .ok (.aload_n 0, 1) := by decide +kernel
theorem dL_isStep_102 : decode cL_isStep 102 = .ok (.iload 5, 2) := by decide +kernel
theorem dL_isStep_104 : decode cL_isStep 104 = .ok (.iconst 2, 1) := by decide +kernel
theorem dL_isStep_105 : decode cL_isStep 105 = .ok (.invokevirtual 25, 3) := by decide +kernel
theorem dL_isStep_108 : decode cL_isStep 108 = .ok (.istore 11, 2) := by decide +kernel
theorem dL_isStep_110 : decode cL_isStep 110 = .ok (.iload_n 2, 1) := by decide +kernel
theorem dL_isStep_111 : decode cL_isStep 111 = .ok (.bipush 15, 2) := by decide +kernel
theorem dL_isStep_113 : decode cL_isStep 113 = .ok (.invokestatic 17, 3) := by decide +kernel
theorem dL_isStep_116 : decode cL_isStep 116 = .ok (.tableswitch 960 0 13 #[72, 72, 72, 72, 301, 301, 418, 486, 486, 637, 637, 637, 802, 871], 72) := by decide +kernel
theorem dL_isStep_188 : decode cL_isStep 188 = .ok (.aload_n 0, 1) := by decide +kernel
theorem dL_isStep_189 : decode cL_isStep 189 = .ok (.iload 5, 2) := by decide +kernel
theorem dL_isStep_191 : decode cL_isStep 191 = .ok (.iload 7, 2) := by decide +kernel
theorem dL_isStep_193 : decode cL_isStep 193 = .ok (.iload 8, 2) := by decide +kernel
theorem dL_isStep_195 : decode cL_isStep 195 = .ok (.invokevirtual 28, 3) := by decide +kernel
theorem dL_isStep_198 : decode cL_isStep 198 = .ok (.istore 12, 2) := by decide +kernel
theorem dL_isStep_200 : decode cL_isStep 200 = .ok (.iload_n 3, 1) := by decide +kernel
theorem dL_isStep_201 : decode cL_isStep 201 = .ok (.iconst 3, 1) := by decide +kernel
theorem dL_isStep_202 : decode cL_isStep 202 = .ok (.ishr, 1) := by decide +kernel
theorem dL_isStep_203 : decode cL_isStep 203 = .ok (.iconst 2, 1) := by decide +kernel
theorem dL_isStep_204 : decode cL_isStep 204 = .ok (.invokestatic 17, 3) := by decide +kernel
theorem dL_isStep_207 : decode cL_isStep 207 = .ok (.ifCond .ne 23, 3) := by decide +kernel
theorem dL_isStep_210 : decode cL_isStep 210 = .ok (.aload_n 1, 1) := by decide +kernel
theorem dL_isStep_211 : decode cL_isStep 211 = .ok (.iload 5, 2) := by decide +kernel
theorem dL_isStep_213 : decode cL_isStep 213 = .ok (.invokestatic 32, 3) := by decide +kernel
theorem dL_isStep_216 : decode cL_isStep 216 = .ok (.iload 7, 2) := by decide +kernel
theorem dL_isStep_218 : decode cL_isStep 218 = .ok (.sipush 9999, 3) := by decide +kernel
theorem dL_isStep_221 : decode cL_isStep 221 = .ok (.iload 8, 2) := by decide +kernel
theorem dL_isStep_223 : decode cL_isStep 223 = .ok (.isub, 1) := by decide +kernel
theorem dL_isStep_224 : decode cL_isStep 224 = .ok (.invokevirtual 28, 3) := by decide +kernel
theorem dL_isStep_227 : decode cL_isStep 227 = .ok (.goto 4, 3) := by decide +kernel
theorem dL_isStep_230 : decode cL_isStep 230 = .ok (.iconst 0, 1) := by decide +kernel
theorem dL_isStep_231 : decode cL_isStep 231 = .ok (.istore 13, 2) := by decide +kernel
theorem dL_isStep_233 : decode cL_isStep 233 = .ok (.iload_n 3, 1) := by decide +kernel
theorem dL_isStep_234 : decode cL_isStep 234 = .ok (.iconst 3, 1) := by decide +kernel
theorem dL_isStep_235 : decode cL_isStep 235 = .ok (.ishr, 1) := by decide +kernel
theorem dL_isStep_236 : decode cL_isStep 236 = .ok (.iconst 2, 1) := by decide +kernel
theorem dL_isStep_237 : decode cL_isStep 237 = .ok (.invokestatic 17, 3) := by decide +kernel
theorem dL_isStep_240 : decode cL_isStep 240 = .ok (.ifCond .le 103, 3) := by decide +kernel
theorem dL_isStep_243 : decode cL_isStep 243 = .ok (.aload_n 1, 1) := by decide +kernel
theorem dL_isStep_244 : decode cL_isStep 244 = .ok (.invokevirtual 35, 3) := by decide +kernel
theorem dL_isStep_247 : decode cL_isStep 247 = .ok (.ifCond .lt 59, 3) := by decide +kernel
theorem dL_isStep_250 : decode cL_isStep 250 = .ok (.aload_n 1, 1) := by decide +kernel
theorem dL_isStep_251 : decode cL_isStep 251 = .ok (.iload 5, 2) := by decide +kernel
theorem dL_isStep_253 : decode cL_isStep 253 = .ok (.invokestatic 32, 3) := by decide +kernel
theorem dL_isStep_256 : decode cL_isStep 256 = .ok (.invokestatic 39, 3) := by decide +kernel
theorem dL_isStep_259 : decode cL_isStep 259 = .ok (.ifCond .eq 47, 3) := by decide +kernel
theorem dL_isStep_262 : decode cL_isStep 262 = .ok (.aload_n 1, 1) := by decide +kernel
theorem dL_isStep_263 : decode cL_isStep 263 = .ok (.bipush 61, 2) := by decide +kernel
theorem dL_isStep_265 : decode cL_isStep 265 = .ok (.invokevirtual 11, 3) := by decide +kernel
theorem dL_isStep_268 : decode cL_isStep 268 = .ok (.ifCond .le 38, 3) := by decide +kernel
theorem dL_isStep_271 : decode cL_isStep 271 = .ok (.aload_n 1, 1) := by decide +kernel
theorem dL_isStep_272 : decode cL_isStep 272 = .ok (.iload 7, 2) := by decide +kernel
theorem dL_isStep_274 : decode cL_isStep 274 = .ok (.invokestatic 43, 3) := by decide +kernel
theorem dL_isStep_277 : decode cL_isStep 277 = .ok (.ifCond .eq 29, 3) := by decide +kernel
theorem dL_isStep_280 : decode cL_isStep 280 = .ok (.aload_n 1, 1) := by decide +kernel
theorem dL_isStep_281 : decode cL_isStep 281 = .ok (.bipush 44, 2) := by decide +kernel
theorem dL_isStep_283 : decode cL_isStep 283 = .ok (.invokevirtual 11, 3) := by decide +kernel
theorem dL_isStep_286 : decode cL_isStep 286 = .ok (.ifCond .le 20, 3) := by decide +kernel
theorem dL_isStep_289 : decode cL_isStep 289 = .ok (.aload_n 1, 1) := by decide +kernel
theorem dL_isStep_290 : decode cL_isStep 290 = .ok (.sipush 9999, 3) := by decide +kernel
theorem dL_isStep_293 : decode cL_isStep 293 = .ok (.iload 8, 2) := by decide +kernel
theorem dL_isStep_295 : decode cL_isStep 295 = .ok (.isub, 1) := by decide +kernel
theorem dL_isStep_296 : decode cL_isStep 296 = .ok (.invokestatic 43, 3) := by decide +kernel
theorem dL_isStep_299 : decode cL_isStep 299 = .ok (.ifCond .eq 7, 3) := by decide +kernel
theorem dL_isStep_302 : decode cL_isStep 302 = .ok (.iconst 1, 1) := by decide +kernel
theorem dL_isStep_303 : decode cL_isStep 303 = .ok (.goto 4, 3) := by decide +kernel
theorem dL_isStep_306 : decode cL_isStep 306 = .ok (.iconst 0, 1) := by decide +kernel
theorem dL_isStep_307 : decode cL_isStep 307 = .ok (.istore 14, 2) := by decide +kernel
theorem dL_isStep_309 : decode cL_isStep 309 = .ok (.aload_n 1, 1) := by decide +kernel
theorem dL_isStep_310 : decode cL_isStep 310 = .ok (.invokevirtual 46, 3) := by decide +kernel
theorem dL_isStep_313 : decode cL_isStep 313 = .ok (.istore 15, 2) := by decide +kernel
theorem dL_isStep_315 : decode cL_isStep 315 = .ok (.iload 14, 2) := by decide +kernel
theorem dL_isStep_317 : decode cL_isStep 317 = .ok (.ifCond .eq 22, 3) := by decide +kernel
theorem dL_isStep_320 : decode cL_isStep 320 = .ok (.iload 15, 2) := by decide +kernel
theorem dL_isStep_322 : decode cL_isStep 322 = .ok (.iconst 1, 1) := by decide +kernel
theorem dL_isStep_323 : decode cL_isStep 323 = .ok (.if_icmp .ne 16, 3) := by decide +kernel
theorem dL_isStep_326 : decode cL_isStep 326 = .ok (.aload_n 1, 1) := by decide +kernel
theorem dL_isStep_327 : decode cL_isStep 327 = .ok (.iload 5, 2) := by decide +kernel
theorem dL_isStep_329 : decode cL_isStep 329 = .ok (.invokestatic 32, 3) := by decide +kernel
theorem dL_isStep_332 : decode cL_isStep 332 = .ok (.iconst 3, 1) := by decide +kernel
theorem dL_isStep_333 : decode cL_isStep 333 = .ok (.invokevirtual 25, 3) := by decide +kernel
theorem dL_isStep_336 : decode cL_isStep 336 = .ok (.goto 5, 3) := by decide +kernel
theorem dL_isStep_339 : decode cL_isStep 339 = .ok (.iload 15, 2) := by decide +kernel
theorem dL_isStep_341 : decode cL_isStep 341 = .ok (.istore 13, 2) := by decide +kernel
theorem dL_isStep_343 : decode cL_isStep 343 = .ok (.iload 11, 2) := by decide +kernel
theorem dL_isStep_345 : decode cL_isStep 345 = .ok (.ifCond .lt 7, 3) := by decide +kernel
theorem dL_isStep_348 : decode cL_isStep 348 = .ok (.iconst 1, 1) := by decide +kernel
theorem dL_isStep_349 : decode cL_isStep 349 = .ok (.goto 4, 3) := by decide +kernel
theorem dL_isStep_352 : decode cL_isStep 352 = .ok (.iconst 0, 1) := by decide +kernel
theorem dL_isStep_353 : decode cL_isStep 353 = .ok (.istore 14, 2) := by decide +kernel
theorem dL_isStep_355 : decode cL_isStep 355 = .ok (.iload 12, 2) := by decide +kernel
theorem dL_isStep_357 : decode cL_isStep 357 = .ok (.iload 13, 2) := by decide +kernel
theorem dL_isStep_359 : decode cL_isStep 359 = .ok (.if_icmp .ne 56, 3) := by decide +kernel
theorem dL_isStep_362 : decode cL_isStep 362 = .ok (.iload 12, 2) := by decide +kernel
theorem dL_isStep_364 : decode cL_isStep 364 = .ok (.iload 14, 2) := by decide +kernel
theorem dL_isStep_366 : decode cL_isStep 366 = .ok (.ifCond .eq 8, 3) := by decide +kernel
theorem dL_isStep_369 : decode cL_isStep 369 = .ok (.bipush (-7), 2) := by decide +kernel
theorem dL_isStep_371 : decode cL_isStep 371 = .ok (.goto 37, 3) := by decide +kernel
theorem dL_isStep_374 : decode cL_isStep 374 = .ok (.iload 9, 2) := by decide +kernel
theorem dL_isStep_376 : decode cL_isStep 376 = .ok (.iconst 4, 1) := by decide +kernel
theorem dL_isStep_377 : decode cL_isStep 377 = .ok (.aload_n 0, 1) := by decide +kernel
theorem dL_isStep_378 : decode cL_isStep 378 = .ok (.iconst 4, 1) := by decide +kernel
theorem dL_isStep_379 : decode cL_isStep 379 = .ok (.invokevirtual 21, 3) := by decide +kernel
theorem dL_isStep_382 : decode cL_isStep 382 = .ok (.imul, 1) := by decide +kernel
theorem dL_isStep_383 : decode cL_isStep 383 = .ok (.if_icmp .ne 8, 3) := by decide +kernel
theorem dL_isStep_386 : decode cL_isStep 386 = .ok (.bipush (-6), 2) := by decide +kernel
theorem dL_isStep_388 : decode cL_isStep 388 = .ok (.goto 20, 3) := by decide +kernel
theorem dL_isStep_391 : decode cL_isStep 391 = .ok (.iload 10, 2) := by decide +kernel
theorem dL_isStep_393 : decode cL_isStep 393 = .ok (.iload 7, 2) := by decide +kernel
theorem dL_isStep_395 : decode cL_isStep 395 = .ok (.iadd, 1) := by decide +kernel
theorem dL_isStep_396 : decode cL_isStep 396 = .ok (.bipush 100, 2) := by decide +kernel
theorem dL_isStep_398 : decode cL_isStep 398 = .ok (.if_icmp .le 8, 3) := by decide +kernel
theorem dL_isStep_401 : decode cL_isStep 401 = .ok (.bipush (-3), 2) := by decide +kernel
theorem dL_isStep_403 : decode cL_isStep 403 = .ok (.goto 5, 3) := by decide +kernel
theorem dL_isStep_406 : decode cL_isStep 406 = .ok (.iload 10, 2) := by decide +kernel
theorem dL_isStep_408 : decode cL_isStep 408 = .ok (.if_icmp .ne 7, 3) := by decide +kernel
theorem dL_isStep_411 : decode cL_isStep 411 = .ok (.iconst 1, 1) := by decide +kernel
theorem dL_isStep_412 : decode cL_isStep 412 = .ok (.goto 4, 3) := by decide +kernel
theorem dL_isStep_415 : decode cL_isStep 415 = .ok (.iconst 0, 1) := by decide +kernel
theorem dL_isStep_416 : decode cL_isStep 416 = .ok (.ireturn, 1) := by decide +kernel
theorem dL_isStep_417 : decode cL_isStep 417 = .ok (.aload_n 0, 1) := by decide +kernel
theorem dL_isStep_418 : decode cL_isStep 418 = .ok (.iload 7, 2) := by decide +kernel
theorem dL_isStep_420 : decode cL_isStep 420 = .ok (.invokevirtual 49, 3) := by decide +kernel
theorem dL_isStep_423 : decode cL_isStep 423 = .ok (.istore 12, 2) := by decide +kernel
theorem dL_isStep_425 : decode cL_isStep 425 = .ok (.aload_n 0, 1) := by decide +kernel
theorem dL_isStep_426 : decode cL_isStep 426 = .ok (.iload 5, 2) := by decide +kernel
theorem dL_isStep_428 : decode cL_isStep 428 = .ok (.iload 7, 2) := by decide +kernel
theorem dL_isStep_430 : decode cL_isStep 430 = .ok (.iload 8, 2) := by decide +kernel
theorem dL_isStep_432 : decode cL_isStep 432 = .ok (.invokevirtual 52, 3) := by decide +kernel
theorem dL_isStep_435 : decode cL_isStep 435 = .ok (.istore 13, 2) := by decide +kernel
theorem dL_isStep_437 : decode cL_isStep 437 = .ok (.iload 13, 2) := by decide +kernel
theorem dL_isStep_439 : decode cL_isStep 439 = .ok (.aload_n 1, 1) := by decide +kernel
theorem dL_isStep_440 : decode cL_isStep 440 = .ok (.iload 5, 2) := by decide +kernel
theorem dL_isStep_442 : decode cL_isStep 442 = .ok (.invokestatic 32, 3) := by decide +kernel
theorem dL_isStep_445 : decode cL_isStep 445 = .ok (.iload 7, 2) := by decide +kernel
theorem dL_isStep_447 : decode cL_isStep 447 = .ok (.sipush 9999, 3) := by decide +kernel
theorem dL_isStep_450 : decode cL_isStep 450 = .ok (.iload 8, 2) := by decide +kernel
theorem dL_isStep_452 : decode cL_isStep 452 = .ok (.isub, 1) := by decide +kernel
theorem dL_isStep_453 : decode cL_isStep 453 = .ok (.invokevirtual 52, 3) := by decide +kernel
theorem dL_isStep_456 : decode cL_isStep 456 = .ok (.if_icmp .ne 76, 3) := by decide +kernel
theorem dL_isStep_459 : decode cL_isStep 459 = .ok (.iload 13, 2) := by decide +kernel
theorem dL_isStep_461 : decode cL_isStep 461 = .ok (.iload 11, 2) := by decide +kernel
theorem dL_isStep_463 : decode cL_isStep 463 = .ok (.ifCond .eq 7, 3) := by decide +kernel
theorem dL_isStep_466 : decode cL_isStep 466 = .ok (.iconst (-1), 1) := by decide +kernel
theorem dL_isStep_467 : decode cL_isStep 467 = .ok (.goto 15, 3) := by decide +kernel
theorem dL_isStep_470 : decode cL_isStep 470 = .ok (.iload 12, 2) := by decide +kernel
theorem dL_isStep_472 : decode cL_isStep 472 = .ok (.ifCond .le 8, 3) := by decide +kernel
theorem dL_isStep_475 : decode cL_isStep 475 = .ok (.bipush (-3), 2) := by decide +kernel
theorem dL_isStep_477 : decode cL_isStep 477 = .ok (.goto 5, 3) := by decide +kernel
theorem dL_isStep_480 : decode cL_isStep 480 = .ok (.iload 10, 2) := by decide +kernel
theorem dL_isStep_482 : decode cL_isStep 482 = .ok (.if_icmp .ne 50, 3) := by decide +kernel
theorem dL_isStep_485 : decode cL_isStep 485 = .ok (.iload 13, 2) := by decide +kernel
theorem dL_isStep_487 : decode cL_isStep 487 = .ok (.ifCond .lt 41, 3) := by decide +kernel
end
section
theorem dL_isStep_490 : decode cL_isStep 490 = .ok (.aload_n 0, 1) := by decide +kernel
theorem dL_isStep_491 : decode cL_isStep 491 = .ok (.iload 5, 2) := by decide +kernel
theorem dL_isStep_493 : decode cL_isStep 493 = .ok (.iconst 4, 1) := by decide +kernel
theorem dL_isStep_494 : decode cL_isStep 494 = .ok (.invokevirtual 25, 3) := by decide +kernel
theorem dL_isStep_497 : decode cL_isStep 497 = .ok (.iload 7, 2) := by decide +kernel
theorem dL_isStep_499 : decode cL_isStep 499 = .ok (.if_icmp .ne 33, 3) := by decide +kernel
theorem dL_isStep_502 : decode cL_isStep 502 = .ok (.aload_n 0, 1) := by decide +kernel
theorem dL_isStep_503 : decode cL_isStep 503 = .ok (.iload 5, 2) := by decide +kernel
theorem dL_isStep_505 : decode cL_isStep 505 = .ok (.iconst 5, 1) := by decide +kernel
theorem dL_isStep_506 : decode cL_isStep 506 = .ok (.invokevirtual 25, 3) := by decide +kernel
theorem dL_isStep_509 : decode cL_isStep 509 = .ok (.iload 8, 2) := by decide +kernel
theorem dL_isStep_511 : decode cL_isStep 511 = .ok (.if_icmp .ne 21, 3) := by decide +kernel
theorem dL_isStep_514 : decode cL_isStep 514 = .ok (.aload_n 0, 1) := by decide +kernel
theorem dL_isStep_515 : decode cL_isStep 515 = .ok (.bipush 6, 2) := by decide +kernel
theorem dL_isStep_517 : decode cL_isStep 517 = .ok (.invokevirtual 21, 3) := by decide +kernel
theorem dL_isStep_520 : decode cL_isStep 520 = .ok (.iload 10, 2) := by decide +kernel
theorem dL_isStep_522 : decode cL_isStep 522 = .ok (.iload 7, 2) := by decide +kernel
theorem dL_isStep_524 : decode cL_isStep 524 = .ok (.iadd, 1) := by decide +kernel
theorem dL_isStep_525 : decode cL_isStep 525 = .ok (.if_icmp .ne 7, 3) := by decide +kernel
theorem dL_isStep_528 : decode cL_isStep 528 = .ok (.iconst 1, 1) := by decide +kernel
theorem dL_isStep_529 : decode cL_isStep 529 = .ok (.goto 4, 3) := by decide +kernel
theorem dL_isStep_532 : decode cL_isStep 532 = .ok (.iconst 0, 1) := by decide +kernel
theorem dL_isStep_533 : decode cL_isStep 533 = .ok (.ireturn, 1) := by decide +kernel
theorem dL_isStep_534 : decode cL_isStep 534 = .ok (.aload_n 0, 1) := by decide +kernel
theorem dL_isStep_535 : decode cL_isStep 535 = .ok (.iload 5, 2) := by decide +kernel
theorem dL_isStep_537 : decode cL_isStep 537 = .ok (.invokevirtual 55, 3) := by decide +kernel
theorem dL_isStep_540 : decode cL_isStep 540 = .ok (.istore 12, 2) := by decide +kernel
theorem dL_isStep_542 : decode cL_isStep 542 = .ok (.iload 12, 2) := by decide +kernel
theorem dL_isStep_544 : decode cL_isStep 544 = .ok (.aload_n 1, 1) := by decide +kernel
theorem dL_isStep_545 : decode cL_isStep 545 = .ok (.iload 5, 2) := by decide +kernel
theorem dL_isStep_547 : decode cL_isStep 547 = .ok (.invokestatic 32, 3) := by decide +kernel
theorem dL_isStep_550 : decode cL_isStep 550 = .ok (.invokevirtual 55, 3) := by decide +kernel
theorem dL_isStep_553 : decode cL_isStep 553 = .ok (.if_icmp .ne 47, 3) := by decide +kernel
theorem dL_isStep_556 : decode cL_isStep 556 = .ok (.iload 12, 2) := by decide +kernel
theorem dL_isStep_558 : decode cL_isStep 558 = .ok (.iload 11, 2) := by decide +kernel
theorem dL_isStep_560 : decode cL_isStep 560 = .ok (.ifCond .ge 7, 3) := by decide +kernel
theorem dL_isStep_563 : decode cL_isStep 563 = .ok (.iconst (-1), 1) := by decide +kernel
theorem dL_isStep_564 : decode cL_isStep 564 = .ok (.goto 7, 3) := by decide +kernel
theorem dL_isStep_567 : decode cL_isStep 567 = .ok (.iload 9, 2) := by decide +kernel
theorem dL_isStep_569 : decode cL_isStep 569 = .ok (.iconst 1, 1) := by decide +kernel
theorem dL_isStep_570 : decode cL_isStep 570 = .ok (.isub, 1) := by decide +kernel
theorem dL_isStep_571 : decode cL_isStep 571 = .ok (.if_icmp .ne 29, 3) := by decide +kernel
theorem dL_isStep_574 : decode cL_isStep 574 = .ok (.aload_n 0, 1) := by decide +kernel
theorem dL_isStep_575 : decode cL_isStep 575 = .ok (.iload 5, 2) := by decide +kernel
theorem dL_isStep_577 : decode cL_isStep 577 = .ok (.iconst 0, 1) := by decide +kernel
theorem dL_isStep_578 : decode cL_isStep 578 = .ok (.invokevirtual 25, 3) := by decide +kernel
theorem dL_isStep_581 : decode cL_isStep 581 = .ok (.iconst (-1), 1) := by decide +kernel
theorem dL_isStep_582 : decode cL_isStep 582 = .ok (.if_icmp .ne 18, 3) := by decide +kernel
theorem dL_isStep_585 : decode cL_isStep 585 = .ok (.aload_n 0, 1) := by decide +kernel
theorem dL_isStep_586 : decode cL_isStep 586 = .ok (.bipush 6, 2) := by decide +kernel
theorem dL_isStep_588 : decode cL_isStep 588 = .ok (.invokevirtual 21, 3) := by decide +kernel
theorem dL_isStep_591 : decode cL_isStep 591 = .ok (.iload 10, 2) := by decide +kernel
theorem dL_isStep_593 : decode cL_isStep 593 = .ok (.if_icmp .ne 7, 3) := by decide +kernel
theorem dL_isStep_596 : decode cL_isStep 596 = .ok (.iconst 1, 1) := by decide +kernel
theorem dL_isStep_597 : decode cL_isStep 597 = .ok (.goto 4, 3) := by decide +kernel
theorem dL_isStep_600 : decode cL_isStep 600 = .ok (.iconst 0, 1) := by decide +kernel
theorem dL_isStep_601 : decode cL_isStep 601 = .ok (.ireturn, 1) := by decide +kernel
theorem dL_isStep_602 : decode cL_isStep 602 = .ok (.aload_n 0, 1) := by decide +kernel
theorem dL_isStep_603 : decode cL_isStep 603 = .ok (.iload 6, 2) := by decide +kernel
theorem dL_isStep_605 : decode cL_isStep 605 = .ok (.iconst 0, 1) := by decide +kernel
theorem dL_isStep_606 : decode cL_isStep 606 = .ok (.invokevirtual 25, 3) := by decide +kernel
theorem dL_isStep_609 : decode cL_isStep 609 = .ok (.ifCond .lt 7, 3) := by decide +kernel
theorem dL_isStep_612 : decode cL_isStep 612 = .ok (.iconst 1, 1) := by decide +kernel
theorem dL_isStep_613 : decode cL_isStep 613 = .ok (.goto 4, 3) := by decide +kernel
theorem dL_isStep_616 : decode cL_isStep 616 = .ok (.iconst 0, 1) := by decide +kernel
theorem dL_isStep_617 : decode cL_isStep 617 = .ok (.istore 12, 2) := by decide +kernel
theorem dL_isStep_619 : decode cL_isStep 619 = .ok (.aload_n 0, 1) := by decide +kernel
theorem dL_isStep_620 : decode cL_isStep 620 = .ok (.iload 5, 2) := by decide +kernel
theorem dL_isStep_622 : decode cL_isStep 622 = .ok (.iconst 3, 1) := by decide +kernel
theorem dL_isStep_623 : decode cL_isStep 623 = .ok (.invokevirtual 25, 3) := by decide +kernel
theorem dL_isStep_626 : decode cL_isStep 626 = .ok (.istore 13, 2) := by decide +kernel
theorem dL_isStep_628 : decode cL_isStep 628 = .ok (.aload_n 0, 1) := by decide +kernel
theorem dL_isStep_629 : decode cL_isStep 629 = .ok (.iconst 3, 1) := by decide +kernel
theorem dL_isStep_630 : decode cL_isStep 630 = .ok (.invokevirtual 21, 3) := by decide +kernel
theorem dL_isStep_633 : decode cL_isStep 633 = .ok (.istore 14, 2) := by decide +kernel
theorem dL_isStep_635 : decode cL_isStep 635 = .ok (.aload_n 0, 1) := by decide +kernel
theorem dL_isStep_636 : decode cL_isStep 636 = .ok (.iload 5, 2) := by decide +kernel
theorem dL_isStep_638 : decode cL_isStep 638 = .ok (.iload 6, 2) := by decide +kernel
theorem dL_isStep_640 : decode cL_isStep 640 = .ok (.invokevirtual 58, 3) := by decide +kernel
theorem dL_isStep_643 : decode cL_isStep 643 = .ok (.istore 15, 2) := by decide +kernel
theorem dL_isStep_645 : decode cL_isStep 645 = .ok (.iload 15, 2) := by decide +kernel
theorem dL_isStep_647 : decode cL_isStep 647 = .ok (.aload_n 1, 1) := by decide +kernel
theorem dL_isStep_648 : decode cL_isStep 648 = .ok (.iload 5, 2) := by decide +kernel
theorem dL_isStep_650 : decode cL_isStep 650 = .ok (.invokestatic 32, 3) := by decide +kernel
theorem dL_isStep_653 : decode cL_isStep 653 = .ok (.iload 6, 2) := by decide +kernel
theorem dL_isStep_655 : decode cL_isStep 655 = .ok (.invokestatic 32, 3) := by decide +kernel
theorem dL_isStep_658 : decode cL_isStep 658 = .ok (.invokevirtual 58, 3) := by decide +kernel
theorem dL_isStep_661 : decode cL_isStep 661 = .ok (.if_icmp .ne 90, 3) := by decide +kernel
theorem dL_isStep_664 : decode cL_isStep 664 = .ok (.iload 11, 2) := by decide +kernel
theorem dL_isStep_666 : decode cL_isStep 666 = .ok (.ifCond .ge 12, 3) := by decide +kernel
theorem dL_isStep_669 : decode cL_isStep 669 = .ok (.iload 15, 2) := by decide +kernel
theorem dL_isStep_671 : decode cL_isStep 671 = .ok (.iconst (-1), 1) := by decide +kernel
theorem dL_isStep_672 : decode cL_isStep 672 = .ok (.if_icmp .ne 79, 3) := by decide +kernel
theorem dL_isStep_675 : decode cL_isStep 675 = .ok (.goto 72, 3) := by decide +kernel
theorem dL_isStep_678 : decode cL_isStep 678 = .ok (.iload 5, 2) := by decide +kernel
theorem dL_isStep_680 : decode cL_isStep 680 = .ok (.iload 6, 2) := by decide +kernel
theorem dL_isStep_682 : decode cL_isStep 682 = .ok (.if_icmp .ne 13, 3) := by decide +kernel
theorem dL_isStep_685 : decode cL_isStep 685 = .ok (.iload 15, 2) := by decide +kernel
theorem dL_isStep_687 : decode cL_isStep 687 = .ok (.bipush (-5), 2) := by decide +kernel
theorem dL_isStep_689 : decode cL_isStep 689 = .ok (.if_icmp .ne 62, 3) := by decide +kernel
theorem dL_isStep_692 : decode cL_isStep 692 = .ok (.goto 55, 3) := by decide +kernel
theorem dL_isStep_695 : decode cL_isStep 695 = .ok (.iload 12, 2) := by decide +kernel
theorem dL_isStep_697 : decode cL_isStep 697 = .ok (.ifCond .eq 13, 3) := by decide +kernel
theorem dL_isStep_700 : decode cL_isStep 700 = .ok (.iload 15, 2) := by decide +kernel
theorem dL_isStep_702 : decode cL_isStep 702 = .ok (.bipush (-7), 2) := by decide +kernel
theorem dL_isStep_704 : decode cL_isStep 704 = .ok (.if_icmp .ne 47, 3) := by decide +kernel
theorem dL_isStep_707 : decode cL_isStep 707 = .ok (.goto 40, 3) := by decide +kernel
theorem dL_isStep_710 : decode cL_isStep 710 = .ok (.iload 15, 2) := by decide +kernel
theorem dL_isStep_712 : decode cL_isStep 712 = .ok (.aload_n 0, 1) := by decide +kernel
theorem dL_isStep_713 : decode cL_isStep 713 = .ok (.iload 6, 2) := by decide +kernel
theorem dL_isStep_715 : decode cL_isStep 715 = .ok (.iconst 0, 1) := by decide +kernel
theorem dL_isStep_716 : decode cL_isStep 716 = .ok (.invokevirtual 25, 3) := by decide +kernel
theorem dL_isStep_719 : decode cL_isStep 719 = .ok (.if_icmp .ne 32, 3) := by decide +kernel
theorem dL_isStep_722 : decode cL_isStep 722 = .ok (.aload_n 0, 1) := by decide +kernel
theorem dL_isStep_723 : decode cL_isStep 723 = .ok (.iload 6, 2) := by decide +kernel
theorem dL_isStep_725 : decode cL_isStep 725 = .ok (.iconst 3, 1) := by decide +kernel
theorem dL_isStep_726 : decode cL_isStep 726 = .ok (.invokevirtual 25, 3) := by decide +kernel
theorem dL_isStep_729 : decode cL_isStep 729 = .ok (.iload 13, 2) := by decide +kernel
theorem dL_isStep_731 : decode cL_isStep 731 = .ok (.if_icmp .ne 20, 3) := by decide +kernel
theorem dL_isStep_734 : decode cL_isStep 734 = .ok (.aload_n 0, 1) := by decide +kernel
theorem dL_isStep_735 : decode cL_isStep 735 = .ok (.iconst 3, 1) := by decide +kernel
theorem dL_isStep_736 : decode cL_isStep 736 = .ok (.invokevirtual 21, 3) := by decide +kernel
theorem dL_isStep_739 : decode cL_isStep 739 = .ok (.iload 14, 2) := by decide +kernel
theorem dL_isStep_741 : decode cL_isStep 741 = .ok (.iload 9, 2) := by decide +kernel
theorem dL_isStep_743 : decode cL_isStep 743 = .ok (.iadd, 1) := by decide +kernel
theorem dL_isStep_744 : decode cL_isStep 744 = .ok (.if_icmp .gt 7, 3) := by decide +kernel
theorem dL_isStep_747 : decode cL_isStep 747 = .ok (.iconst 1, 1) := by decide +kernel
theorem dL_isStep_748 : decode cL_isStep 748 = .ok (.goto 4, 3) := by decide +kernel
theorem dL_isStep_751 : decode cL_isStep 751 = .ok (.iconst 0, 1) := by decide +kernel
theorem dL_isStep_752 : decode cL_isStep 752 = .ok (.ireturn, 1) := by decide +kernel
theorem dL_isStep_753 : decode cL_isStep 753 = .ok (.aload_n 0, 1) := by decide +kernel
theorem dL_isStep_754 : decode cL_isStep 754 = .ok (.iload 6, 2) := by decide +kernel
theorem dL_isStep_756 : decode cL_isStep 756 = .ok (.iconst 2, 1) := by decide +kernel
theorem dL_isStep_757 : decode cL_isStep 757 = .ok (.invokevirtual 25, 3) := by decide +kernel
theorem dL_isStep_760 : decode cL_isStep 760 = .ok (.istore 12, 2) := by decide +kernel
theorem dL_isStep_762 : decode cL_isStep 762 = .ok (.aload_n 0, 1) := by decide +kernel
theorem dL_isStep_763 : decode cL_isStep 763 = .ok (.iload 5, 2) := by decide +kernel
theorem dL_isStep_765 : decode cL_isStep 765 = .ok (.iload 6, 2) := by decide +kernel
theorem dL_isStep_767 : decode cL_isStep 767 = .ok (.invokevirtual 61, 3) := by decide +kernel
theorem dL_isStep_770 : decode cL_isStep 770 = .ok (.istore 13, 2) := by decide +kernel
theorem dL_isStep_772 : decode cL_isStep 772 = .ok (.iload 13, 2) := by decide +kernel
theorem dL_isStep_774 : decode cL_isStep 774 = .ok (.ifCond .ge 10, 3) := by decide +kernel
theorem dL_isStep_777 : decode cL_isStep 777 = .ok (.iload 13, 2) := by decide +kernel
theorem dL_isStep_779 : decode cL_isStep 779 = .ok (.bipush (-5), 2) := by decide +kernel
theorem dL_isStep_781 : decode cL_isStep 781 = .ok (.if_icmp .ne 7, 3) := by decide +kernel
theorem dL_isStep_784 : decode cL_isStep 784 = .ok (.iconst 1, 1) := by decide +kernel
theorem dL_isStep_785 : decode cL_isStep 785 = .ok (.goto 4, 3) := by decide +kernel
theorem dL_isStep_788 : decode cL_isStep 788 = .ok (.iconst 0, 1) := by decide +kernel
theorem dL_isStep_789 : decode cL_isStep 789 = .ok (.istore 14, 2) := by decide +kernel
theorem dL_isStep_791 : decode cL_isStep 791 = .ok (.iload 13, 2) := by decide +kernel
theorem dL_isStep_793 : decode cL_isStep 793 = .ok (.aload_n 1, 1) := by decide +kernel
theorem dL_isStep_794 : decode cL_isStep 794 = .ok (.iload 5, 2) := by decide +kernel
theorem dL_isStep_796 : decode cL_isStep 796 = .ok (.invokestatic 32, 3) := by decide +kernel
theorem dL_isStep_799 : decode cL_isStep 799 = .ok (.iload 6, 2) := by decide +kernel
theorem dL_isStep_801 : decode cL_isStep 801 = .ok (.invokestatic 32, 3) := by decide +kernel
theorem dL_isStep_804 : decode cL_isStep 804 = .ok (.invokevirtual 61, 3) := by decide +kernel
theorem dL_isStep_807 : decode cL_isStep 807 = .ok (.if_icmp .ne 109, 3) := by decide +kernel
theorem dL_isStep_810 : decode cL_isStep 810 = .ok (.iload 12, 2) := by decide +kernel
theorem dL_isStep_812 : decode cL_isStep 812 = .ok (.ifCond .eq 12, 3) := by decide +kernel
theorem dL_isStep_815 : decode cL_isStep 815 = .ok (.iload 13, 2) := by decide +kernel
theorem dL_isStep_817 : decode cL_isStep 817 = .ok (.iconst (-1), 1) := by decide +kernel
theorem dL_isStep_818 : decode cL_isStep 818 = .ok (.if_icmp .ne 98, 3) := by decide +kernel
theorem dL_isStep_821 : decode cL_isStep 821 = .ok (.goto 91, 3) := by decide +kernel
theorem dL_isStep_824 : decode cL_isStep 824 = .ok (.iload 11, 2) := by decide +kernel
theorem dL_isStep_826 : decode cL_isStep 826 = .ok (.ifCond .ne 13, 3) := by decide +kernel
theorem dL_isStep_829 : decode cL_isStep 829 = .ok (.iload 13, 2) := by decide +kernel
theorem dL_isStep_831 : decode cL_isStep 831 = .ok (.bipush (-7), 2) := by decide +kernel
theorem dL_isStep_833 : decode cL_isStep 833 = .ok (.if_icmp .ne 83, 3) := by decide +kernel
theorem dL_isStep_836 : decode cL_isStep 836 = .ok (.goto 76, 3) := by decide +kernel
theorem dL_isStep_839 : decode cL_isStep 839 = .ok (.iload 14, 2) := by decide +kernel
theorem dL_isStep_841 : decode cL_isStep 841 = .ok (.ifCond .eq 47, 3) := by decide +kernel
theorem dL_isStep_844 : decode cL_isStep 844 = .ok (.aload_n 0, 1) := by decide +kernel
theorem dL_isStep_845 : decode cL_isStep 845 = .ok (.iload 5, 2) := by decide +kernel
theorem dL_isStep_847 : decode cL_isStep 847 = .ok (.iconst 3, 1) := by decide +kernel
theorem dL_isStep_848 : decode cL_isStep 848 = .ok (.invokevirtual 25, 3) := by decide +kernel
theorem dL_isStep_851 : decode cL_isStep 851 = .ok (.aload_n 0, 1) := by decide +kernel
theorem dL_isStep_852 : decode cL_isStep 852 = .ok (.iload 6, 2) := by decide +kernel
theorem dL_isStep_854 : decode cL_isStep 854 = .ok (.iconst 3, 1) := by decide +kernel
theorem dL_isStep_855 : decode cL_isStep 855 = .ok (.invokevirtual 25, 3) := by decide +kernel
theorem dL_isStep_858 : decode cL_isStep 858 = .ok (.if_icmp .ne 58, 3) := by decide +kernel
theorem dL_isStep_861 : decode cL_isStep 861 = .ok (.aload_n 0, 1) := by decide +kernel
theorem dL_isStep_862 : decode cL_isStep 862 = .ok (.iload 5, 2) := by decide +kernel
theorem dL_isStep_864 : decode cL_isStep 864 = .ok (.bipush 7, 2) := by decide +kernel
theorem dL_isStep_866 : decode cL_isStep 866 = .ok (.invokevirtual 25, 3) := by decide +kernel
theorem dL_isStep_869 : decode cL_isStep 869 = .ok (.iload 6, 2) := by decide +kernel
theorem dL_isStep_871 : decode cL_isStep 871 = .ok (.if_icmp .ne 45, 3) := by decide +kernel
theorem dL_isStep_874 : decode cL_isStep 874 = .ok (.aload_n 0, 1) := by decide +kernel
theorem dL_isStep_875 : decode cL_isStep 875 = .ok (.iload 5, 2) := by decide +kernel
theorem dL_isStep_877 : decode cL_isStep 877 = .ok (.bipush 8, 2) := by decide +kernel
theorem dL_isStep_879 : decode cL_isStep 879 = .ok (.invokevirtual 25, 3) := by decide +kernel
theorem dL_isStep_882 : decode cL_isStep 882 = .ok (.ifCond .ne 34, 3) := by decide +kernel
theorem dL_isStep_885 : decode cL_isStep 885 = .ok (.goto 27, 3) := by decide +kernel
theorem dL_isStep_888 : decode cL_isStep 888 = .ok (.iload 13, 2) := by decide +kernel
theorem dL_isStep_890 : decode cL_isStep 890 = .ok (.bipush (-6), 2) := by decide +kernel
theorem dL_isStep_892 : decode cL_isStep 892 = .ok (.if_icmp .ne 24, 3) := by decide +kernel
theorem dL_isStep_895 : decode cL_isStep 895 = .ok (.iload 11, 2) := by decide +kernel
theorem dL_isStep_897 : decode cL_isStep 897 = .ok (.ifCond .ge 19, 3) := by decide +kernel
theorem dL_isStep_900 : decode cL_isStep 900 = .ok (.iload 9, 2) := by decide +kernel
theorem dL_isStep_902 : decode cL_isStep 902 = .ok (.iconst 4, 1) := by decide +kernel
theorem dL_isStep_903 : decode cL_isStep 903 = .ok (.aload_n 0, 1) := by decide +kernel
theorem dL_isStep_904 : decode cL_isStep 904 = .ok (.iconst 4, 1) := by decide +kernel
theorem dL_isStep_905 : decode cL_isStep 905 = .ok (.invokevirtual 21, 3) := by decide +kernel
theorem dL_isStep_908 : decode cL_isStep 908 = .ok (.imul, 1) := by decide +kernel
theorem dL_isStep_909 : decode cL_isStep 909 = .ok (.if_icmp .ne 7, 3) := by decide +kernel
theorem dL_isStep_912 : decode cL_isStep 912 = .ok (.iconst 1, 1) := by decide +kernel
theorem dL_isStep_913 : decode cL_isStep 913 = .ok (.goto 4, 3) := by decide +kernel
theorem dL_isStep_916 : decode cL_isStep 916 = .ok (.iconst 0, 1) := by decide +kernel
theorem dL_isStep_917 : decode cL_isStep 917 = .ok (.ireturn, 1) := by decide +kernel
theorem dL_isStep_918 : decode cL_isStep 918 = .ok (.aload_n 0, 1) := by decide +kernel
theorem dL_isStep_919 : decode cL_isStep 919 = .ok (.bipush 8, 2) := by decide +kernel
theorem dL_isStep_921 : decode cL_isStep 921 = .ok (.invokevirtual 21, 3) := by decide +kernel
theorem dL_isStep_924 : decode cL_isStep 924 = .ok (.istore 12, 2) := by decide +kernel
theorem dL_isStep_926 : decode cL_isStep 926 = .ok (.aload_n 0, 1) := by decide +kernel
theorem dL_isStep_927 : decode cL_isStep 927 = .ok (.invokevirtual 64, 3) := by decide +kernel
theorem dL_isStep_930 : decode cL_isStep 930 = .ok (.istore 13, 2) := by decide +kernel
theorem dL_isStep_932 : decode cL_isStep 932 = .ok (.iload 13, 2) := by decide +kernel
theorem dL_isStep_934 : decode cL_isStep 934 = .ok (.aload_n 1, 1) := by decide +kernel
theorem dL_isStep_935 : decode cL_isStep 935 = .ok (.invokevirtual 64, 3) := by decide +kernel
theorem dL_isStep_938 : decode cL_isStep 938 = .ok (.if_icmp .ne 47, 3) := by decide +kernel
theorem dL_isStep_941 : decode cL_isStep 941 = .ok (.iload 13, 2) := by decide +kernel
theorem dL_isStep_943 : decode cL_isStep 943 = .ok (.iload 12, 2) := by decide +kernel
theorem dL_isStep_945 : decode cL_isStep 945 = .ok (.ifCond .ne 8, 3) := by decide +kernel
theorem dL_isStep_948 : decode cL_isStep 948 = .ok (.bipush (-5), 2) := by decide +kernel
theorem dL_isStep_950 : decode cL_isStep 950 = .ok (.goto 5, 3) := by decide +kernel
theorem dL_isStep_953 : decode cL_isStep 953 = .ok (.iload 12, 2) := by decide +kernel
theorem dL_isStep_955 : decode cL_isStep 955 = .ok (.if_icmp .ne 30, 3) := by decide +kernel
theorem dL_isStep_958 : decode cL_isStep 958 = .ok (.aload_n 0, 1) := by decide +kernel
theorem dL_isStep_959 : decode cL_isStep 959 = .ok (.bipush 6, 2) := by decide +kernel
theorem dL_isStep_961 : decode cL_isStep 961 = .ok (.invokevirtual 21, 3) := by decide +kernel
theorem dL_isStep_964 : decode cL_isStep 964 = .ok (.iload 10, 2) := by decide +kernel
theorem dL_isStep_966 : decode cL_isStep 966 = .ok (.iload 12, 2) := by decide +kernel
theorem dL_isStep_968 : decode cL_isStep 968 = .ok (.isub, 1) := by decide +kernel
theorem dL_isStep_969 : decode cL_isStep 969 = .ok (.if_icmp .ne 16, 3) := by decide +kernel
theorem dL_isStep_972 : decode cL_isStep 972 = .ok (.aload_n 0, 1) := by decide +kernel
theorem dL_isStep_973 : decode cL_isStep 973 = .ok (.bipush 8, 2) := by decide +kernel
theorem dL_isStep_975 : decode cL_isStep 975 = .ok (.invokevirtual 21, 3) := by decide +kernel
theorem dL_isStep_978 : decode cL_isStep 978 = .ok (.ifCond .ne 7, 3) := by decide +kernel
theorem dL_isStep_981 : decode cL_isStep 981 = .ok (.iconst 1, 1) := by decide +kernel
theorem dL_isStep_982 : decode cL_isStep 982 = .ok (.goto 4, 3) := by decide +kernel
theorem dL_isStep_985 : decode cL_isStep 985 = .ok (.iconst 0, 1) := by decide +kernel
theorem dL_isStep_986 : decode cL_isStep 986 = .ok (.ireturn, 1) := by decide +kernel
theorem dL_isStep_987 : decode cL_isStep 987 = .ok (.iconst 1, 1) := by decide +kernel
theorem dL_isStep_988 : decode cL_isStep 988 = .ok (.iload_n 3, 1) := by decide +kernel
theorem dL_isStep_989 : decode cL_isStep 989 = .ok (.bipush 6, 2) := by decide +kernel
theorem dL_isStep_991 : decode cL_isStep 991 = .ok (.invokestatic 17, 3) := by decide +kernel
theorem dL_isStep_994 : decode cL_isStep 994 = .ok (.iadd, 1) := by decide +kernel
theorem dL_isStep_995 : decode cL_isStep 995 = .ok (.istore 12, 2) := by decide +kernel
theorem dL_isStep_997 : decode cL_isStep 997 = .ok (.aload_n 0, 1) := by decide +kernel
theorem dL_isStep_998 : decode cL_isStep 998 = .ok (.iconst 4, 1) := by decide +kernel
theorem dL_isStep_999 : decode cL_isStep 999 = .ok (.invokevirtual 21, 3) := by decide +kernel
theorem dL_isStep_1002 : decode cL_isStep 1002 = .ok (.istore 13, 2) := by decide +kernel
theorem dL_isStep_1004 : decode cL_isStep 1004 = .ok (.aload_n 0, 1) := by decide +kernel
theorem dL_isStep_1005 : decode cL_isStep 1005 = .ok (.iload 12, 2) := by decide +kernel
theorem dL_isStep_1007 : decode cL_isStep 1007 = .ok (.invokevirtual 67, 3) := by decide +kernel
theorem dL_isStep_1010 : decode cL_isStep 1010 = .ok (.istore 14, 2) := by decide +kernel
theorem dL_isStep_1012 : decode cL_isStep 1012 = .ok (.iload 14, 2) := by decide +kernel
theorem dL_isStep_1014 : decode cL_isStep 1014 = .ok (.aload_n 1, 1) := by decide +kernel
theorem dL_isStep_1015 : decode cL_isStep 1015 = .ok (.iload 12, 2) := by decide +kernel
theorem dL_isStep_1017 : decode cL_isStep 1017 = .ok (.invokevirtual 67, 3) := by decide +kernel
theorem dL_isStep_1020 : decode cL_isStep 1020 = .ok (.if_icmp .ne 54, 3) := by decide +kernel
theorem dL_isStep_1023 : decode cL_isStep 1023 = .ok (.iload 14, 2) := by decide +kernel
theorem dL_isStep_1025 : decode cL_isStep 1025 = .ok (.iload 9, 2) := by decide +kernel
theorem dL_isStep_1027 : decode cL_isStep 1027 = .ok (.iconst 4, 1) := by decide +kernel
theorem dL_isStep_1028 : decode cL_isStep 1028 = .ok (.iload 12, 2) := by decide +kernel
theorem dL_isStep_1030 : decode cL_isStep 1030 = .ok (.imul, 1) := by decide +kernel
theorem dL_isStep_1031 : decode cL_isStep 1031 = .ok (.if_icmp .le 8, 3) := by decide +kernel
theorem dL_isStep_1034 : decode cL_isStep 1034 = .ok (.bipush (-6), 2) := by decide +kernel
theorem dL_isStep_1036 : decode cL_isStep 1036 = .ok (.goto 17, 3) := by decide +kernel
theorem dL_isStep_1039 : decode cL_isStep 1039 = .ok (.iload 13, 2) := by decide +kernel
theorem dL_isStep_1041 : decode cL_isStep 1041 = .ok (.iload 12, 2) := by decide +kernel
theorem dL_isStep_1043 : decode cL_isStep 1043 = .ok (.if_icmp .ne 8, 3) := by decide +kernel
theorem dL_isStep_1046 : decode cL_isStep 1046 = .ok (.bipush (-5), 2) := by decide +kernel
theorem dL_isStep_1048 : decode cL_isStep 1048 = .ok (.goto 5, 3) := by decide +kernel
theorem dL_isStep_1051 : decode cL_isStep 1051 = .ok (.iload 13, 2) := by decide +kernel
theorem dL_isStep_1053 : decode cL_isStep 1053 = .ok (.if_icmp .ne 21, 3) := by decide +kernel
theorem dL_isStep_1056 : decode cL_isStep 1056 = .ok (.iload 14, 2) := by decide +kernel
theorem dL_isStep_1058 : decode cL_isStep 1058 = .ok (.ifCond .lt 12, 3) := by decide +kernel
theorem dL_isStep_1061 : decode cL_isStep 1061 = .ok (.aload_n 0, 1) := by decide +kernel
theorem dL_isStep_1062 : decode cL_isStep 1062 = .ok (.bipush 8, 2) := by decide +kernel
theorem dL_isStep_1064 : decode cL_isStep 1064 = .ok (.invokevirtual 21, 3) := by decide +kernel
theorem dL_isStep_1067 : decode cL_isStep 1067 = .ok (.ifCond .ne 7, 3) := by decide +kernel
theorem dL_isStep_1070 : decode cL_isStep 1070 = .ok (.iconst 1, 1) := by decide +kernel
theorem dL_isStep_1071 : decode cL_isStep 1071 = .ok (.goto 4, 3) := by decide +kernel
theorem dL_isStep_1074 : decode cL_isStep 1074 = .ok (.iconst 0, 1) := by decide +kernel
theorem dL_isStep_1075 : decode cL_isStep 1075 = .ok (.ireturn, 1) := by decide +kernel
theorem dL_isStep_1076 : decode cL_isStep 1076 = .ok (.aload_n 0, 1) := by decide +kernel
theorem dL_isStep_1077 : decode cL_isStep 1077 = .ok (.bipush 13, 2) := by decide +kernel
theorem dL_isStep_1079 : decode cL_isStep 1079 = .ok (.invokevirtual 21, 3) := by decide +kernel
theorem dL_isStep_1082 : decode cL_isStep 1082 = .ok (.ifCond .eq 14, 3) := by decide +kernel
theorem dL_isStep_1085 : decode cL_isStep 1085 = .ok (.aload_n 0, 1) := by decide +kernel
theorem dL_isStep_1086 : decode cL_isStep 1086 = .ok (.invokevirtual 70, 3) := by decide +kernel
theorem dL_isStep_1089 : decode cL_isStep 1089 = .ok (.aload_n 1, 1) := by decide +kernel
theorem dL_isStep_1090 : decode cL_isStep 1090 = .ok (.invokevirtual 70, 3) := by decide +kernel
theorem dL_isStep_1093 : decode cL_isStep 1093 = .ok (.if_icmp .ne 7, 3) := by decide +kernel
theorem dL_isStep_1096 : decode cL_isStep 1096 = .ok (.iconst 1, 1) := by decide +kernel
theorem dL_isStep_1097 : decode cL_isStep 1097 = .ok (.goto 4, 3) := by decide +kernel
theorem dL_isStep_1100 : decode cL_isStep 1100 = .ok (.iconst 0, 1) := by decide +kernel
theorem dL_isStep_1101 : decode cL_isStep 1101 = .ok (.ireturn, 1) := by decide +kernel
theorem dL_areAlike_0 : decode cL_areAlike 0 = .ok (.iconst 1, 1) := by decide +kernel
theorem dL_areAlike_1 : decode cL_areAlike 1 = .ok (.istore_n 2, 1) := by decide +kernel
theorem dL_areAlike_2 : decode cL_areAlike 2 = .ok (.iconst 0, 1) := by decide +kernel
theorem dL_areAlike_3 : decode cL_areAlike 3 = .ok (.istore_n 3, 1) := by decide +kernel
theorem dL_areAlike_4 : decode cL_areAlike 4 = .ok (.iload_n 3, 1) := by decide +kernel
theorem dL_areAlike_5 : decode cL_areAlike 5 = .ok (.bipush 14, 2) := by decide +kernel
theorem dL_areAlike_7 : decode cL_areAlike 7 = .ok (.if_icmp .ge 32, 3) := by decide +kernel
theorem dL_areAlike_10 : decode cL_areAlike 10 = .ok (.iload_n 2, 1) := by decide +kernel
theorem dL_areAlike_11 : decode cL_areAlike 11 = .ok (.ifCond .eq 20, 3) := by decide +kernel
theorem dL_areAlike_14 : decode cL_areAlike 14 = .ok (.aload_n 0, 1) := by decide +kernel
theorem dL_areAlike_15 : decode cL_areAlike 15 = .ok (.iload_n 3, 1) := by decide +kernel
theorem dL_areAlike_16 : decode cL_areAlike 16 = .ok (.invokevirtual 21, 3) := by decide +kernel
theorem dL_areAlike_19 : decode cL_areAlike 19 = .ok (.aload_n 1, 1) := by decide +kernel
theorem dL_areAlike_20 : decode cL_areAlike 20 = .ok (.iload_n 3, 1) := by decide +kernel
theorem dL_areAlike_21 : decode cL_areAlike 21 = .ok (.invokevirtual 21, 3) := by decide +kernel
theorem dL_areAlike_24 : decode cL_areAlike 24 = .ok (.if_icmp .ne 7, 3) := by decide +kernel
theorem dL_areAlike_27 : decode cL_areAlike 27 = .ok (.iconst 1, 1) := by decide +kernel
theorem dL_areAlike_28 : decode cL_areAlike 28 = .ok (.goto 4, 3) := by decide +kernel
theorem dL_areAlike_31 : decode cL_areAlike 31 = .ok (.iconst 0, 1) := by decide +kernel
theorem dL_areAlike_32 : decode cL_areAlike 32 = .ok (.istore_n 2, 1) := by decide +kernel
theorem dL_areAlike_33 : decode cL_areAlike 33 = .ok (.iinc 3 1, 3) := by decide +kernel
theorem dL_areAlike_36 : decode cL_areAlike 36 = .ok (.goto (-32), 3) := by decide +kernel
theorem dL_areAlike_39 : decode cL_areAlike 39 = .ok (.iconst 0, 1) := by decide +kernel
theorem dL_areAlike_40 : decode cL_areAlike 40 = .ok (.istore_n 3, 1) := by decide +kernel
theorem dL_areAlike_41 : decode cL_areAlike 41 = .ok (.iload_n 3, 1) := by decide +kernel
theorem dL_areAlike_42 : decode cL_areAlike 42 = .ok (.aload_n 0, 1) := by decide +kernel
theorem dL_areAlike_43 : decode cL_areAlike 43 = .ok (.iconst 0, 1) := by decide +kernel
theorem dL_areAlike_44 : decode cL_areAlike 44 = .ok (.invokevirtual 21, 3) := by decide +kernel
theorem dL_areAlike_47 : decode cL_areAlike 47 = .ok (.if_icmp .ge 149, 3) := by decide +kernel
theorem dL_areAlike_50 : decode cL_areAlike 50 = .ok (.iload_n 2, 1) := by decide +kernel
theorem dL_areAlike_51 : decode cL_areAlike 51 = .ok (.ifCond .eq 145, 3) := by decide +kernel
theorem dL_areAlike_54 : decode cL_areAlike 54 = .ok (.aload_n 0, 1) := by decide +kernel
theorem dL_areAlike_55 : decode cL_areAlike 55 = .ok (.iload_n 3, 1) := by decide +kernel
theorem dL_areAlike_56 : decode cL_areAlike 56 = .ok (.invokevirtual 73, 3) := by decide +kernel
theorem dL_areAlike_59 : decode cL_areAlike 59 = .ok (.istore 4, 2) := by decide +kernel
theorem dL_areAlike_61 : decode cL_areAlike 61 = .ok (.iload 4, 2) := by decide +kernel
theorem dL_areAlike_63 : decode cL_areAlike 63 = .ok (.invokestatic 32, 3) := by decide +kernel
theorem dL_areAlike_66 : decode cL_areAlike 66 = .ok (.aload_n 1, 1) := by decide +kernel
theorem dL_areAlike_67 : decode cL_areAlike 67 = .ok (.iload_n 3, 1) := by decide +kernel
theorem dL_areAlike_68 : decode cL_areAlike 68 = .ok (.invokevirtual 73, 3) := by decide +kernel
theorem dL_areAlike_71 : decode cL_areAlike 71 = .ok (.if_icmp .ne 56, 3) := by decide +kernel
theorem dL_areAlike_74 : decode cL_areAlike 74 = .ok (.aload_n 0, 1) := by decide +kernel
theorem dL_areAlike_75 : decode cL_areAlike 75 = .ok (.iload 4, 2) := by decide +kernel
theorem dL_areAlike_77 : decode cL_areAlike 77 = .ok (.bipush 7, 2) := by decide +kernel
theorem dL_areAlike_79 : decode cL_areAlike 79 = .ok (.invokevirtual 25, 3) := by decide +kernel
theorem dL_areAlike_82 : decode cL_areAlike 82 = .ok (.invokestatic 32, 3) := by decide +kernel
theorem dL_areAlike_85 : decode cL_areAlike 85 = .ok (.aload_n 1, 1) := by decide +kernel
theorem dL_areAlike_86 : decode cL_areAlike 86 = .ok (.iload 4, 2) := by decide +kernel
theorem dL_areAlike_88 : decode cL_areAlike 88 = .ok (.invokestatic 32, 3) := by decide +kernel
theorem dL_areAlike_91 : decode cL_areAlike 91 = .ok (.bipush 7, 2) := by decide +kernel
theorem dL_areAlike_93 : decode cL_areAlike 93 = .ok (.invokevirtual 25, 3) := by decide +kernel
theorem dL_areAlike_96 : decode cL_areAlike 96 = .ok (.if_icmp .ne 31, 3) := by decide +kernel
theorem dL_areAlike_99 : decode cL_areAlike 99 = .ok (.aload_n 0, 1) := by decide +kernel
theorem dL_areAlike_100 : decode cL_areAlike 100 = .ok (.iload 4, 2) := by decide +kernel
theorem dL_areAlike_102 : decode cL_areAlike 102 = .ok (.iconst 5, 1) := by decide +kernel
theorem dL_areAlike_103 : decode cL_areAlike 103 = .ok (.invokevirtual 25, 3) := by decide +kernel
theorem dL_areAlike_106 : decode cL_areAlike 106 = .ok (.sipush 9999, 3) := by decide +kernel
theorem dL_areAlike_109 : decode cL_areAlike 109 = .ok (.aload_n 1, 1) := by decide +kernel
theorem dL_areAlike_110 : decode cL_areAlike 110 = .ok (.iload 4, 2) := by decide +kernel
theorem dL_areAlike_112 : decode cL_areAlike 112 = .ok (.invokestatic 32, 3) := by decide +kernel
theorem dL_areAlike_115 : decode cL_areAlike 115 = .ok (.iconst 5, 1) := by decide +kernel
theorem dL_areAlike_116 : decode cL_areAlike 116 = .ok (.invokevirtual 25, 3) := by decide +kernel
theorem dL_areAlike_119 : decode cL_areAlike 119 = .ok (.isub, 1) := by decide +kernel
theorem dL_areAlike_120 : decode cL_areAlike 120 = .ok (.if_icmp .ne 7, 3) := by decide +kernel
theorem dL_areAlike_123 : decode cL_areAlike 123 = .ok (.iconst 1, 1) := by decide +kernel
theorem dL_areAlike_124 : decode cL_areAlike 124 = .ok (.goto 4, 3) := by decide +kernel
theorem dL_areAlike_127 : decode cL_areAlike 127 = .ok (.iconst 0, 1) := by decide +kernel
theorem dL_areAlike_128 : decode cL_areAlike 128 = .ok (.istore_n 2, 1) := by decide +kernel
theorem dL_areAlike_129 : decode cL_areAlike 129 = .ok (.iconst 0, 1) := by decide +kernel
theorem dL_areAlike_130 : decode cL_areAlike 130 = .ok (.istore 5, 2) := by decide +kernel
theorem dL_areAlike_132 : decode cL_areAlike 132 = .ok (.iload 5, 2) := by decide +kernel
theorem dL_areAlike_134 : decode cL_areAlike 134 = .ok (.bipush 9, 2) := by decide +kernel
theorem dL_areAlike_136 : decode cL_areAlike 136 = .ok (.if_icmp .ge 54, 3) := by decide +kernel
theorem dL_areAlike_139 : decode cL_areAlike 139 = .ok (.iload_n 2, 1) := by decide +kernel
theorem dL_areAlike_140 : decode cL_areAlike 140 = .ok (.ifCond .eq 42, 3) := by decide +kernel
theorem dL_areAlike_143 : decode cL_areAlike 143 = .ok (.iload 5, 2) := by decide +kernel
theorem dL_areAlike_145 : decode cL_areAlike 145 = .ok (.iconst 5, 1) := by decide +kernel
theorem dL_areAlike_146 : decode cL_areAlike 146 = .ok (.if_icmp .eq 32, 3) := by decide +kernel
theorem dL_areAlike_149 : decode cL_areAlike 149 = .ok (.iload 5, 2) := by decide +kernel
theorem dL_areAlike_151 : decode cL_areAlike 151 = .ok (.bipush 7, 2) := by decide +kernel
theorem dL_areAlike_153 : decode cL_areAlike 153 = .ok (.if_icmp .eq 25, 3) := by decide +kernel
theorem dL_areAlike_156 : decode cL_areAlike 156 = .ok (.aload_n 0, 1) := by decide +kernel
theorem dL_areAlike_157 : decode cL_areAlike 157 = .ok (.iload 4, 2) := by decide +kernel
theorem dL_areAlike_159 : decode cL_areAlike 159 = .ok (.iload 5, 2) := by decide +kernel
theorem dL_areAlike_161 : decode cL_areAlike 161 = .ok (.invokevirtual 25, 3) := by decide +kernel
theorem dL_areAlike_164 : decode cL_areAlike 164 = .ok (.aload_n 1, 1) := by decide +kernel
theorem dL_areAlike_165 : decode cL_areAlike 165 = .ok (.iload 4, 2) := by decide +kernel
theorem dL_areAlike_167 : decode cL_areAlike 167 = .ok (.invokestatic 32, 3) := by decide +kernel
theorem dL_areAlike_170 : decode cL_areAlike 170 = .ok (.iload 5, 2) := by decide +kernel
theorem dL_areAlike_172 : decode cL_areAlike 172 = .ok (.invokevirtual 25, 3) := by decide +kernel
theorem dL_areAlike_175 : decode cL_areAlike 175 = .ok (.if_icmp .ne 7, 3) := by decide +kernel
theorem dL_areAlike_178 : decode cL_areAlike 178 = .ok (.iconst 1, 1) := by decide +kernel
theorem dL_areAlike_179 : decode cL_areAlike 179 = .ok (.goto 4, 3) := by decide +kernel
theorem dL_areAlike_182 : decode cL_areAlike 182 = .ok (.iconst 0, 1) := by decide +kernel
theorem dL_areAlike_183 : decode cL_areAlike 183 = .ok (.istore_n 2, 1) := by decide +kernel
theorem dL_areAlike_184 : decode cL_areAlike 184 = .ok (.iinc 5 1, 3) := by decide +kernel
theorem dL_areAlike_187 : decode cL_areAlike 187 = .ok (.goto (-55), 3) := by decide +kernel
theorem dL_areAlike_190 : decode cL_areAlike 190 = .ok (.iinc 3 1, 3) := by decide +kernel
theorem dL_areAlike_193 : decode cL_areAlike 193 = .ok (.goto (-152), 3) := by decide +kernel
theorem dL_areAlike_196 : decode cL_areAlike 196 = .ok (.iconst 0, 1) := by decide +kernel
theorem dL_areAlike_197 : decode cL_areAlike 197 = .ok (.istore_n 3, 1) := by decide +kernel
theorem dL_areAlike_198 : decode cL_areAlike 198 = .ok (.iload_n 3, 1) := by decide +kernel
theorem dL_areAlike_199 : decode cL_areAlike 199 = .ok (.bipush 100, 2) := by decide +kernel
theorem dL_areAlike_201 : decode cL_areAlike 201 = .ok (.if_icmp .ge 35, 3) := by decide +kernel
theorem dL_areAlike_204 : decode cL_areAlike 204 = .ok (.iload_n 2, 1) := by decide +kernel
theorem dL_areAlike_205 : decode cL_areAlike 205 = .ok (.ifCond .eq 23, 3) := by decide +kernel
theorem dL_areAlike_208 : decode cL_areAlike 208 = .ok (.aload_n 0, 1) := by decide +kernel
theorem dL_areAlike_209 : decode cL_areAlike 209 = .ok (.iload_n 3, 1) := by decide +kernel
theorem dL_areAlike_210 : decode cL_areAlike 210 = .ok (.invokevirtual 76, 3) := by decide +kernel
theorem dL_areAlike_213 : decode cL_areAlike 213 = .ok (.invokestatic 32, 3) := by decide +kernel
theorem dL_areAlike_216 : decode cL_areAlike 216 = .ok (.aload_n 1, 1) := by decide +kernel
theorem dL_areAlike_217 : decode cL_areAlike 217 = .ok (.iload_n 3, 1) := by decide +kernel
theorem dL_areAlike_218 : decode cL_areAlike 218 = .ok (.invokevirtual 76, 3) := by decide +kernel
theorem dL_areAlike_221 : decode cL_areAlike 221 = .ok (.if_icmp .ne 7, 3) := by decide +kernel
theorem dL_areAlike_224 : decode cL_areAlike 224 = .ok (.iconst 1, 1) := by decide +kernel
theorem dL_areAlike_225 : decode cL_areAlike 225 = .ok (.goto 4, 3) := by decide +kernel
theorem dL_areAlike_228 : decode cL_areAlike 228 = .ok (.iconst 0, 1) := by decide +kernel
theorem dL_areAlike_229 : decode cL_areAlike 229 = .ok (.istore_n 2, 1) := by decide +kernel
theorem dL_areAlike_230 : decode cL_areAlike 230 = .ok (.iinc 3 3, 3) := by decide +kernel
theorem dL_areAlike_233 : decode cL_areAlike 233 = .ok (.goto (-35), 3) := by decide +kernel
theorem dL_areAlike_236 : decode cL_areAlike 236 = .ok (.iconst 0, 1) := by decide +kernel
theorem dL_areAlike_237 : decode cL_areAlike 237 = .ok (.istore_n 3, 1) := by decide +kernel
theorem dL_areAlike_238 : decode cL_areAlike 238 = .ok (.iload_n 3, 1) := by decide +kernel
theorem dL_areAlike_239 : decode cL_areAlike 239 = .ok (.bipush 13, 2) := by decide +kernel
theorem dL_areAlike_241 : decode cL_areAlike 241 = .ok (.if_icmp .ge 40, 3) := by decide +kernel
theorem dL_areAlike_244 : decode cL_areAlike 244 = .ok (.iload_n 2, 1) := by decide +kernel
theorem dL_areAlike_245 : decode cL_areAlike 245 = .ok (.ifCond .eq 28, 3) := by decide +kernel
theorem dL_areAlike_248 : decode cL_areAlike 248 = .ok (.aload_n 0, 1) := by decide +kernel
theorem dL_areAlike_249 : decode cL_areAlike 249 = .ok (.iload_n 3, 1) := by decide +kernel
theorem dL_areAlike_250 : decode cL_areAlike 250 = .ok (.iconst 1, 1) := by decide +kernel
theorem dL_areAlike_251 : decode cL_areAlike 251 = .ok (.invokevirtual 79, 3) := by decide +kernel
theorem dL_areAlike_254 : decode cL_areAlike 254 = .ok (.invokestatic 32, 3) := by decide +kernel
theorem dL_areAlike_257 : decode cL_areAlike 257 = .ok (.aload_n 1, 1) := by decide +kernel
theorem dL_areAlike_258 : decode cL_areAlike 258 = .ok (.iload_n 3, 1) := by decide +kernel
theorem dL_areAlike_259 : decode cL_areAlike 259 = .ok (.bipush 13, 2) := by decide +kernel
theorem dL_areAlike_261 : decode cL_areAlike 261 = .ok (.iadd, 1) := by decide +kernel
theorem dL_areAlike_262 : decode cL_areAlike 262 = .ok (.iconst 1, 1) := by decide +kernel
theorem dL_areAlike_263 : decode cL_areAlike 263 = .ok (.invokevirtual 79, 3) := by decide +kernel
theorem dL_areAlike_266 : decode cL_areAlike 266 = .ok (.if_icmp .ne 7, 3) := by decide +kernel
theorem dL_areAlike_269 : decode cL_areAlike 269 = .ok (.iconst 1, 1) := by decide +kernel
theorem dL_areAlike_270 : decode cL_areAlike 270 = .ok (.goto 4, 3) := by decide +kernel
theorem dL_areAlike_273 : decode cL_areAlike 273 = .ok (.iconst 0, 1) := by decide +kernel
theorem dL_areAlike_274 : decode cL_areAlike 274 = .ok (.istore_n 2, 1) := by decide +kernel
theorem dL_areAlike_275 : decode cL_areAlike 275 = .ok (.iinc 3 1, 3) := by decide +kernel
theorem dL_areAlike_278 : decode cL_areAlike 278 = .ok (.goto (-40), 3) := by decide +kernel
theorem dL_areAlike_281 : decode cL_areAlike 281 = .ok (.iload_n 2, 1) := by decide +kernel
theorem dL_areAlike_282 : decode cL_areAlike 282 = .ok (.ireturn, 1) := by decide +kernel
theorem dL_isWell_0 : decode cL_isWell 0 = .ok (.aload_n 0, 1) := by decide +kernel
theorem dL_isWell_1 : decode cL_isWell 1 = .ok (.iconst 0, 1) := by decide +kernel
theorem dL_isWell_2 : decode cL_isWell 2 = .ok (.invokevirtual 21, 3) := by decide +kernel
theorem dL_isWell_5 : decode cL_isWell 5 = .ok (.istore_n 1, 1) := by decide +kernel
theorem dL_isWell_6 : decode cL_isWell 6 = .ok (.iconst 0, 1) := by decide +kernel
theorem dL_isWell_7 : decode cL_isWell 7 = .ok (.istore_n 2, 1) := by decide +kernel
theorem dL_isWell_8 : decode cL_isWell 8 = .ok (.iconst 0, 1) := by decide +kernel
theorem dL_isWell_9 : decode cL_isWell 9 = .ok (.istore_n 3, 1) := by decide +kernel
theorem dL_isWell_10 : decode cL_isWell 10 = .ok (.iconst 0, 1) := by decide +kernel
theorem dL_isWell_11 : decode cL_isWell 11 = .ok (.istore 4, 2) := by decide +kernel
theorem dL_isWell_13 : decode cL_isWell 13 = .ok (.iconst 0, 1) := by decide +kernel
theorem dL_isWell_14 : decode cL_isWell 14 = .ok (.istore 5, 2) := by decide +kernel
theorem dL_isWell_16 : decode cL_isWell 16 = .ok (.iload_n 1, 1) := by decide +kernel
theorem dL_isWell_17 : decode cL_isWell 17 = .ok (.iconst 4, 1) := by decide +kernel
theorem dL_isWell_18 : decode cL_isWell 18 = .ok (.aload_n 0, 1) := by decide +kernel
theorem dL_isWell_19 : decode cL_isWell 19 = .ok (.iconst 4, 1) := by decide +kernel
theorem dL_isWell_20 : decode cL_isWell 20 = .ok (.invokevirtual 21, 3) := by decide +kernel
theorem dL_isWell_23 : decode cL_isWell 23 = .ok (.imul, 1) := by decide +kernel
theorem dL_isWell_24 : decode cL_isWell 24 = .ok (.if_icmp .gt 74, 3) := by decide +kernel
theorem dL_isWell_27 : decode cL_isWell 27 = .ok (.aload_n 0, 1) := by decide +kernel
theorem dL_isWell_28 : decode cL_isWell 28 = .ok (.iconst 5, 1) := by decide +kernel
theorem dL_isWell_29 : decode cL_isWell 29 = .ok (.invokevirtual 21, 3) := by decide +kernel
theorem dL_isWell_32 : decode cL_isWell 32 = .ok (.iconst 4, 1) := by decide +kernel
theorem dL_isWell_33 : decode cL_isWell 33 = .ok (.aload_n 0, 1) := by decide +kernel
theorem dL_isWell_34 : decode cL_isWell 34 = .ok (.iconst 4, 1) := by decide +kernel
theorem dL_isWell_35 : decode cL_isWell 35 = .ok (.invokevirtual 21, 3) := by decide +kernel
theorem dL_isWell_38 : decode cL_isWell 38 = .ok (.imul, 1) := by decide +kernel
theorem dL_isWell_39 : decode cL_isWell 39 = .ok (.iload_n 1, 1) := by decide +kernel
theorem dL_isWell_40 : decode cL_isWell 40 = .ok (.isub, 1) := by decide +kernel
theorem dL_isWell_41 : decode cL_isWell 41 = .ok (.if_icmp .ne 57, 3) := by decide +kernel
theorem dL_isWell_44 : decode cL_isWell 44 = .ok (.aload_n 0, 1) := by decide +kernel
theorem dL_isWell_45 : decode cL_isWell 45 = .ok (.bipush 9, 2) := by decide +kernel
theorem dL_isWell_47 : decode cL_isWell 47 = .ok (.invokevirtual 21, 3) := by decide +kernel
theorem dL_isWell_50 : decode cL_isWell 50 = .ok (.bipush 100, 2) := by decide +kernel
theorem dL_isWell_52 : decode cL_isWell 52 = .ok (.aload_n 0, 1) := by decide +kernel
theorem dL_isWell_53 : decode cL_isWell 53 = .ok (.bipush 6, 2) := by decide +kernel
theorem dL_isWell_55 : decode cL_isWell 55 = .ok (.invokevirtual 21, 3) := by decide +kernel
theorem dL_isWell_58 : decode cL_isWell 58 = .ok (.isub, 1) := by decide +kernel
theorem dL_isWell_59 : decode cL_isWell 59 = .ok (.if_icmp .ne 39, 3) := by decide +kernel
theorem dL_isWell_62 : decode cL_isWell 62 = .ok (.aload_n 0, 1) := by decide +kernel
theorem dL_isWell_63 : decode cL_isWell 63 = .ok (.bipush 8, 2) := by decide +kernel
theorem dL_isWell_65 : decode cL_isWell 65 = .ok (.invokevirtual 21, 3) := by decide +kernel
theorem dL_isWell_68 : decode cL_isWell 68 = .ok (.aload_n 0, 1) := by decide +kernel
theorem dL_isWell_69 : decode cL_isWell 69 = .ok (.bipush 6, 2) := by decide +kernel
theorem dL_isWell_71 : decode cL_isWell 71 = .ok (.invokevirtual 21, 3) := by decide +kernel
theorem dL_isWell_74 : decode cL_isWell 74 = .ok (.aload_n 0, 1) := by decide +kernel
theorem dL_isWell_75 : decode cL_isWell 75 = .ok (.bipush 7, 2) := by decide +kernel
theorem dL_isWell_77 : decode cL_isWell 77 = .ok (.invokevirtual 21, 3) := by decide +kernel
theorem dL_isWell_80 : decode cL_isWell 80 = .ok (.isub, 1) := by decide +kernel
theorem dL_isWell_81 : decode cL_isWell 81 = .ok (.if_icmp .ne 17, 3) := by decide +kernel
theorem dL_isWell_84 : decode cL_isWell 84 = .ok (.aload_n 0, 1) := by decide +kernel
theorem dL_isWell_85 : decode cL_isWell 85 = .ok (.iload_n 1, 1) := by decide +kernel
theorem dL_isWell_86 : decode cL_isWell 86 = .ok (.invokevirtual 73, 3) := by decide +kernel
theorem dL_isWell_89 : decode cL_isWell 89 = .ok (.bipush (-5), 2) := by decide +kernel
theorem dL_isWell_91 : decode cL_isWell 91 = .ok (.if_icmp .ne 7, 3) := by decide +kernel
theorem dL_isWell_94 : decode cL_isWell 94 = .ok (.iconst 1, 1) := by decide +kernel
theorem dL_isWell_95 : decode cL_isWell 95 = .ok (.goto 4, 3) := by decide +kernel
theorem dL_isWell_98 : decode cL_isWell 98 = .ok (.iconst 0, 1) := by decide +kernel
theorem dL_isWell_99 : decode cL_isWell 99 = .ok (.istore 6, 2) := by decide +kernel
theorem dL_isWell_101 : decode cL_isWell 101 = .ok (.iconst 0, 1) := by decide +kernel
theorem dL_isWell_102 : decode cL_isWell 102 = .ok (.istore 7, 2) := by decide +kernel
theorem dL_isWell_104 : decode cL_isWell 104 = .ok (.iload 7, 2) := by decide +kernel
theorem dL_isWell_106 : decode cL_isWell 106 = .ok (.iload_n 1, 1) := by decide +kernel
theorem dL_isWell_107 : decode cL_isWell 107 = .ok (.if_icmp .ge 491, 3) := by decide +kernel
theorem dL_isWell_110 : decode cL_isWell 110 = .ok (.iload 6, 2) := by decide +kernel
theorem dL_isWell_112 : decode cL_isWell 112 = .ok (.ifCond .eq 486, 3) := by decide +kernel
theorem dL_isWell_115 : decode cL_isWell 115 = .ok (.aload_n 0, 1) := by decide +kernel
theorem dL_isWell_116 : decode cL_isWell 116 = .ok (.iload 7, 2) := by decide +kernel
theorem dL_isWell_118 : decode cL_isWell 118 = .ok (.invokevirtual 73, 3) := by decide +kernel
theorem dL_isWell_121 : decode cL_isWell 121 = .ok (.istore 8, 2) := by decide +kernel
theorem dL_isWell_123 : decode cL_isWell 123 = .ok (.aload_n 0, 1) := by decide +kernel
theorem dL_isWell_124 : decode cL_isWell 124 = .ok (.iload 8, 2) := by decide +kernel
theorem dL_isWell_126 : decode cL_isWell 126 = .ok (.iconst 3, 1) := by decide +kernel
theorem dL_isWell_127 : decode cL_isWell 127 = .ok (.invokevirtual 25, 3) := by decide +kernel
theorem dL_isWell_130 : decode cL_isWell 130 = .ok (.istore 9, 2) := by decide +kernel
theorem dL_isWell_132 : decode cL_isWell 132 = .ok (.aload_n 0, 1) := by decide +kernel
theorem dL_isWell_133 : decode cL_isWell 133 = .ok (.iload 8, 2) := by decide +kernel
theorem dL_isWell_135 : decode cL_isWell 135 = .ok (.iconst 4, 1) := by decide +kernel
theorem dL_isWell_136 : decode cL_isWell 136 = .ok (.invokevirtual 25, 3) := by decide +kernel
theorem dL_isWell_139 : decode cL_isWell 139 = .ok (.istore 10, 2) := by decide +kernel
theorem dL_isWell_141 : decode cL_isWell 141 = .ok (.iconst 1, 1) := by decide +kernel
theorem dL_isWell_142 : decode cL_isWell 142 = .ok (.istore 11, 2) := by decide +kernel
theorem dL_isWell_144 : decode cL_isWell 144 = .ok (.iconst 0, 1) := by decide +kernel
theorem dL_isWell_145 : decode cL_isWell 145 = .ok (.istore 12, 2) := by decide +kernel
theorem dL_isWell_147 : decode cL_isWell 147 = .ok (.aload_n 0, 1) := by decide +kernel
theorem dL_isWell_148 : decode cL_isWell 148 = .ok (.iload 8, 2) := by decide +kernel
theorem dL_isWell_150 : decode cL_isWell 150 = .ok (.iconst 0, 1) := by decide +kernel
theorem dL_isWell_151 : decode cL_isWell 151 = .ok (.invokevirtual 25, 3) := by decide +kernel
theorem dL_isWell_154 : decode cL_isWell 154 = .ok (.iload 7, 2) := by decide +kernel
theorem dL_isWell_156 : decode cL_isWell 156 = .ok (.if_icmp .ne 58, 3) := by decide +kernel
theorem dL_isWell_159 : decode cL_isWell 159 = .ok (.aload_n 0, 1) := by decide +kernel
theorem dL_isWell_160 : decode cL_isWell 160 = .ok (.iload 8, 2) := by decide +kernel
theorem dL_isWell_162 : decode cL_isWell 162 = .ok (.iconst 1, 1) := by decide +kernel
theorem dL_isWell_163 : decode cL_isWell 163 = .ok (.invokevirtual 25, 3) := by decide +kernel
theorem dL_isWell_166 : decode cL_isWell 166 = .ok (.iload 7, 2) := by decide +kernel
theorem dL_isWell_168 : decode cL_isWell 168 = .ok (.iconst 4, 1) := by decide +kernel
theorem dL_isWell_169 : decode cL_isWell 169 = .ok (.idiv, 1) := by decide +kernel
theorem dL_isWell_170 : decode cL_isWell 170 = .ok (.if_icmp .ne 44, 3) := by decide +kernel
theorem dL_isWell_173 : decode cL_isWell 173 = .ok (.iload 7, 2) := by decide +kernel
theorem dL_isWell_175 : decode cL_isWell 175 = .ok (.ifCond .eq 16, 3) := by decide +kernel
theorem dL_isWell_178 : decode cL_isWell 178 = .ok (.aload_n 0, 1) := by decide +kernel
theorem dL_isWell_179 : decode cL_isWell 179 = .ok (.iload 7, 2) := by decide +kernel
theorem dL_isWell_181 : decode cL_isWell 181 = .ok (.iconst 1, 1) := by decide +kernel
theorem dL_isWell_182 : decode cL_isWell 182 = .ok (.isub, 1) := by decide +kernel
theorem dL_isWell_183 : decode cL_isWell 183 = .ok (.invokevirtual 73, 3) := by decide +kernel
theorem dL_isWell_186 : decode cL_isWell 186 = .ok (.iload 8, 2) := by decide +kernel
theorem dL_isWell_188 : decode cL_isWell 188 = .ok (.if_icmp .ge 26, 3) := by decide +kernel
theorem dL_isWell_191 : decode cL_isWell 191 = .ok (.iload 9, 2) := by decide +kernel
theorem dL_isWell_193 : decode cL_isWell 193 = .ok (.ifCond .lt 21, 3) := by decide +kernel
theorem dL_isWell_196 : decode cL_isWell 196 = .ok (.iload 9, 2) := by decide +kernel
theorem dL_isWell_198 : decode cL_isWell 198 = .ok (.iload 10, 2) := by decide +kernel
theorem dL_isWell_200 : decode cL_isWell 200 = .ok (.iadd, 1) := by decide +kernel
theorem dL_isWell_201 : decode cL_isWell 201 = .ok (.aload_n 0, 1) := by decide +kernel
theorem dL_isWell_202 : decode cL_isWell 202 = .ok (.bipush 6, 2) := by decide +kernel
theorem dL_isWell_204 : decode cL_isWell 204 = .ok (.invokevirtual 21, 3) := by decide +kernel
theorem dL_isWell_207 : decode cL_isWell 207 = .ok (.if_icmp .gt 7, 3) := by decide +kernel
theorem dL_isWell_210 : decode cL_isWell 210 = .ok (.iconst 1, 1) := by decide +kernel
theorem dL_isWell_211 : decode cL_isWell 211 = .ok (.goto 4, 3) := by decide +kernel
theorem dL_isWell_214 : decode cL_isWell 214 = .ok (.iconst 0, 1) := by decide +kernel
theorem dL_isWell_215 : decode cL_isWell 215 = .ok (.istore 6, 2) := by decide +kernel
theorem dL_isWell_217 : decode cL_isWell 217 = .ok (.iconst 0, 1) := by decide +kernel
theorem dL_isWell_218 : decode cL_isWell 218 = .ok (.istore 13, 2) := by decide +kernel
theorem dL_isWell_220 : decode cL_isWell 220 = .ok (.iload 13, 2) := by decide +kernel
theorem dL_isWell_222 : decode cL_isWell 222 = .ok (.iload_n 1, 1) := by decide +kernel
theorem dL_isWell_223 : decode cL_isWell 223 = .ok (.if_icmp .ge 194, 3) := by decide +kernel
theorem dL_isWell_226 : decode cL_isWell 226 = .ok (.iload 6, 2) := by decide +kernel
theorem dL_isWell_228 : decode cL_isWell 228 = .ok (.ifCond .eq 189, 3) := by decide +kernel
theorem dL_isWell_231 : decode cL_isWell 231 = .ok (.aload_n 0, 1) := by decide +kernel
theorem dL_isWell_232 : decode cL_isWell 232 = .ok (.iload 13, 2) := by decide +kernel
theorem dL_isWell_234 : decode cL_isWell 234 = .ok (.invokevirtual 73, 3) := by decide +kernel
theorem dL_isWell_237 : decode cL_isWell 237 = .ok (.istore 14, 2) := by decide +kernel
theorem dL_isWell_239 : decode cL_isWell 239 = .ok (.aload_n 0, 1) := by decide +kernel
theorem dL_isWell_240 : decode cL_isWell 240 = .ok (.iload 14, 2) := by decide +kernel
theorem dL_isWell_242 : decode cL_isWell 242 = .ok (.iconst 3, 1) := by decide +kernel
theorem dL_isWell_243 : decode cL_isWell 243 = .ok (.invokevirtual 25, 3) := by decide +kernel
theorem dL_isWell_246 : decode cL_isWell 246 = .ok (.istore 15, 2) := by decide +kernel
theorem dL_isWell_248 : decode cL_isWell 248 = .ok (.iload 15, 2) := by decide +kernel
theorem dL_isWell_250 : decode cL_isWell 250 = .ok (.iload 9, 2) := by decide +kernel
theorem dL_isWell_252 : decode cL_isWell 252 = .ok (.if_icmp .ne 7, 3) := by decide +kernel
theorem dL_isWell_255 : decode cL_isWell 255 = .ok (.iconst 1, 1) := by decide +kernel
theorem dL_isWell_256 : decode cL_isWell 256 = .ok (.goto 4, 3) := by decide +kernel
theorem dL_isWell_259 : decode cL_isWell 259 = .ok (.iconst 0, 1) := by decide +kernel
theorem dL_isWell_260 : decode cL_isWell 260 = .ok (.istore 16, 2) := by decide +kernel
theorem dL_isWell_262 : decode cL_isWell 262 = .ok (.iload 11, 2) := by decide +kernel
theorem dL_isWell_264 : decode cL_isWell 264 = .ok (.ifCond .eq 19, 3) := by decide +kernel
theorem dL_isWell_267 : decode cL_isWell 267 = .ok (.iload 16, 2) := by decide +kernel
theorem dL_isWell_269 : decode cL_isWell 269 = .ok (.ifCond .eq 10, 3) := by decide +kernel
theorem dL_isWell_272 : decode cL_isWell 272 = .ok (.iload 13, 2) := by decide +kernel
theorem dL_isWell_274 : decode cL_isWell 274 = .ok (.iload 7, 2) := by decide +kernel
theorem dL_isWell_276 : decode cL_isWell 276 = .ok (.if_icmp .lt 7, 3) := by decide +kernel
theorem dL_isWell_279 : decode cL_isWell 279 = .ok (.iconst 1, 1) := by decide +kernel
theorem dL_isWell_280 : decode cL_isWell 280 = .ok (.goto 4, 3) := by decide +kernel
theorem dL_isWell_283 : decode cL_isWell 283 = .ok (.iconst 0, 1) := by decide +kernel
theorem dL_isWell_284 : decode cL_isWell 284 = .ok (.istore 11, 2) := by decide +kernel
theorem dL_isWell_286 : decode cL_isWell 286 = .ok (.iload 12, 2) := by decide +kernel
theorem dL_isWell_288 : decode cL_isWell 288 = .ok (.iload 16, 2) := by decide +kernel
theorem dL_isWell_290 : decode cL_isWell 290 = .ok (.ifCond .eq 18, 3) := by decide +kernel
theorem dL_isWell_293 : decode cL_isWell 293 = .ok (.aload_n 0, 1) := by decide +kernel
theorem dL_isWell_294 : decode cL_isWell 294 = .ok (.iload 14, 2) := by decide +kernel
theorem dL_isWell_296 : decode cL_isWell 296 = .ok (.iconst 2, 1) := by decide +kernel
theorem dL_isWell_297 : decode cL_isWell 297 = .ok (.invokevirtual 25, 3) := by decide +kernel
theorem dL_isWell_300 : decode cL_isWell 300 = .ok (.iconst 1, 1) := by decide +kernel
theorem dL_isWell_301 : decode cL_isWell 301 = .ok (.if_icmp .ne 7, 3) := by decide +kernel
theorem dL_isWell_304 : decode cL_isWell 304 = .ok (.iconst 1, 1) := by decide +kernel
theorem dL_isWell_305 : decode cL_isWell 305 = .ok (.goto 4, 3) := by decide +kernel
theorem dL_isWell_308 : decode cL_isWell 308 = .ok (.iconst 0, 1) := by decide +kernel
theorem dL_isWell_309 : decode cL_isWell 309 = .ok (.iadd, 1) := by decide +kernel
theorem dL_isWell_310 : decode cL_isWell 310 = .ok (.istore 12, 2) := by decide +kernel
theorem dL_isWell_312 : decode cL_isWell 312 = .ok (.iload 16, 2) := by decide +kernel
theorem dL_isWell_314 : decode cL_isWell 314 = .ok (.ifCond .eq 65, 3) := by decide +kernel
theorem dL_isWell_317 : decode cL_isWell 317 = .ok (.aload_n 0, 1) := by decide +kernel
theorem dL_isWell_318 : decode cL_isWell 318 = .ok (.iload 14, 2) := by decide +kernel
theorem dL_isWell_320 : decode cL_isWell 320 = .ok (.iconst 4, 1) := by decide +kernel
theorem dL_isWell_321 : decode cL_isWell 321 = .ok (.invokevirtual 25, 3) := by decide +kernel
theorem dL_isWell_324 : decode cL_isWell 324 = .ok (.iload 10, 2) := by decide +kernel
theorem dL_isWell_326 : decode cL_isWell 326 = .ok (.if_icmp .ne 49, 3) := by decide +kernel
theorem dL_isWell_329 : decode cL_isWell 329 = .ok (.aload_n 0, 1) := by decide +kernel
theorem dL_isWell_330 : decode cL_isWell 330 = .ok (.iload 14, 2) := by decide +kernel
theorem dL_isWell_332 : decode cL_isWell 332 = .ok (.iconst 5, 1) := by decide +kernel
theorem dL_isWell_333 : decode cL_isWell 333 = .ok (.invokevirtual 25, 3) := by decide +kernel
theorem dL_isWell_336 : decode cL_isWell 336 = .ok (.aload_n 0, 1) := by decide +kernel
theorem dL_isWell_337 : decode cL_isWell 337 = .ok (.iload 8, 2) := by decide +kernel
theorem dL_isWell_339 : decode cL_isWell 339 = .ok (.iconst 5, 1) := by decide +kernel
theorem dL_isWell_340 : decode cL_isWell 340 = .ok (.invokevirtual 25, 3) := by decide +kernel
theorem dL_isWell_343 : decode cL_isWell 343 = .ok (.if_icmp .ne 32, 3) := by decide +kernel
theorem dL_isWell_346 : decode cL_isWell 346 = .ok (.iload 13, 2) := by decide +kernel
theorem dL_isWell_348 : decode cL_isWell 348 = .ok (.iload 7, 2) := by decide +kernel
theorem dL_isWell_350 : decode cL_isWell 350 = .ok (.if_icmp .eq 21, 3) := by decide +kernel
theorem dL_isWell_353 : decode cL_isWell 353 = .ok (.aload_n 0, 1) := by decide +kernel
theorem dL_isWell_354 : decode cL_isWell 354 = .ok (.iload 14, 2) := by decide +kernel
theorem dL_isWell_356 : decode cL_isWell 356 = .ok (.iconst 2, 1) := by decide +kernel
theorem dL_isWell_357 : decode cL_isWell 357 = .ok (.invokevirtual 25, 3) := by decide +kernel
theorem dL_isWell_360 : decode cL_isWell 360 = .ok (.aload_n 0, 1) := by decide +kernel
theorem dL_isWell_361 : decode cL_isWell 361 = .ok (.iload 8, 2) := by decide +kernel
theorem dL_isWell_363 : decode cL_isWell 363 = .ok (.iconst 2, 1) := by decide +kernel
theorem dL_isWell_364 : decode cL_isWell 364 = .ok (.invokevirtual 25, 3) := by decide +kernel
theorem dL_isWell_367 : decode cL_isWell 367 = .ok (.iadd, 1) := by decide +kernel
theorem dL_isWell_368 : decode cL_isWell 368 = .ok (.ifCond .le 7, 3) := by decide +kernel
theorem dL_isWell_371 : decode cL_isWell 371 = .ok (.iconst 1, 1) := by decide +kernel
theorem dL_isWell_372 : decode cL_isWell 372 = .ok (.goto 37, 3) := by decide +kernel
theorem dL_isWell_375 : decode cL_isWell 375 = .ok (.iconst 0, 1) := by decide +kernel
theorem dL_isWell_376 : decode cL_isWell 376 = .ok (.goto 33, 3) := by decide +kernel
theorem dL_isWell_379 : decode cL_isWell 379 = .ok (.iload 15, 2) := by decide +kernel
theorem dL_isWell_381 : decode cL_isWell 381 = .ok (.iload 9, 2) := by decide +kernel
theorem dL_isWell_383 : decode cL_isWell 383 = .ok (.iload 10, 2) := by decide +kernel
theorem dL_isWell_385 : decode cL_isWell 385 = .ok (.iadd, 1) := by decide +kernel
theorem dL_isWell_386 : decode cL_isWell 386 = .ok (.if_icmp .ge 18, 3) := by decide +kernel
theorem dL_isWell_389 : decode cL_isWell 389 = .ok (.iload 15, 2) := by decide +kernel
theorem dL_isWell_391 : decode cL_isWell 391 = .ok (.aload_n 0, 1) := by decide +kernel
theorem dL_isWell_392 : decode cL_isWell 392 = .ok (.iload 14, 2) := by decide +kernel
theorem dL_isWell_394 : decode cL_isWell 394 = .ok (.iconst 4, 1) := by decide +kernel
theorem dL_isWell_395 : decode cL_isWell 395 = .ok (.invokevirtual 25, 3) := by decide +kernel
theorem dL_isWell_398 : decode cL_isWell 398 = .ok (.iadd, 1) := by decide +kernel
theorem dL_isWell_399 : decode cL_isWell 399 = .ok (.iload 9, 2) := by decide +kernel
theorem dL_isWell_401 : decode cL_isWell 401 = .ok (.if_icmp .gt 7, 3) := by decide +kernel
theorem dL_isWell_404 : decode cL_isWell 404 = .ok (.iconst 1, 1) := by decide +kernel
theorem dL_isWell_405 : decode cL_isWell 405 = .ok (.goto 4, 3) := by decide +kernel
theorem dL_isWell_408 : decode cL_isWell 408 = .ok (.iconst 0, 1) := by decide +kernel
theorem dL_isWell_409 : decode cL_isWell 409 = .ok (.istore 6, 2) := by decide +kernel
theorem dL_isWell_411 : decode cL_isWell 411 = .ok (.iinc 13 1, 3) := by decide +kernel
theorem dL_isWell_414 : decode cL_isWell 414 = .ok (.goto (-194), 3) := by decide +kernel
theorem dL_isWell_417 : decode cL_isWell 417 = .ok (.iload 4, 2) := by decide +kernel
theorem dL_isWell_419 : decode cL_isWell 419 = .ok (.iload 11, 2) := by decide +kernel
theorem dL_isWell_421 : decode cL_isWell 421 = .ok (.ifCond .eq 7, 3) := by decide +kernel
theorem dL_isWell_424 : decode cL_isWell 424 = .ok (.iconst 1, 1) := by decide +kernel
theorem dL_isWell_425 : decode cL_isWell 425 = .ok (.goto 4, 3) := by decide +kernel
theorem dL_isWell_428 : decode cL_isWell 428 = .ok (.iconst 0, 1) := by decide +kernel
theorem dL_isWell_429 : decode cL_isWell 429 = .ok (.iadd, 1) := by decide +kernel
theorem dL_isWell_430 : decode cL_isWell 430 = .ok (.istore 4, 2) := by decide +kernel
theorem dL_isWell_432 : decode cL_isWell 432 = .ok (.iload 5, 2) := by decide +kernel
theorem dL_isWell_434 : decode cL_isWell 434 = .ok (.iload 11, 2) := by decide +kernel
theorem dL_isWell_436 : decode cL_isWell 436 = .ok (.ifCond .eq 8, 3) := by decide +kernel
theorem dL_isWell_439 : decode cL_isWell 439 = .ok (.iload 10, 2) := by decide +kernel
theorem dL_isWell_441 : decode cL_isWell 441 = .ok (.goto 4, 3) := by decide +kernel
theorem dL_isWell_444 : decode cL_isWell 444 = .ok (.iconst 0, 1) := by decide +kernel
theorem dL_isWell_445 : decode cL_isWell 445 = .ok (.iadd, 1) := by decide +kernel
theorem dL_isWell_446 : decode cL_isWell 446 = .ok (.istore 5, 2) := by decide +kernel
theorem dL_isWell_448 : decode cL_isWell 448 = .ok (.iload_n 2, 1) := by decide +kernel
theorem dL_isWell_449 : decode cL_isWell 449 = .ok (.aload_n 0, 1) := by decide +kernel
theorem dL_isWell_450 : decode cL_isWell 450 = .ok (.iload 8, 2) := by decide +kernel
theorem dL_isWell_452 : decode cL_isWell 452 = .ok (.iconst 2, 1) := by decide +kernel
theorem dL_isWell_453 : decode cL_isWell 453 = .ok (.invokevirtual 25, 3) := by decide +kernel
theorem dL_isWell_456 : decode cL_isWell 456 = .ok (.iadd, 1) := by decide +kernel
theorem dL_isWell_457 : decode cL_isWell 457 = .ok (.istore_n 2, 1) := by decide +kernel
theorem dL_isWell_458 : decode cL_isWell 458 = .ok (.iload_n 3, 1) := by decide +kernel
theorem dL_isWell_459 : decode cL_isWell 459 = .ok (.aload_n 0, 1) := by decide +kernel
theorem dL_isWell_460 : decode cL_isWell 460 = .ok (.iload 8, 2) := by decide +kernel
theorem dL_isWell_462 : decode cL_isWell 462 = .ok (.bipush 8, 2) := by decide +kernel
theorem dL_isWell_464 : decode cL_isWell 464 = .ok (.invokevirtual 25, 3) := by decide +kernel
theorem dL_isWell_467 : decode cL_isWell 467 = .ok (.iadd, 1) := by decide +kernel
theorem dL_isWell_468 : decode cL_isWell 468 = .ok (.istore_n 3, 1) := by decide +kernel
theorem dL_isWell_469 : decode cL_isWell 469 = .ok (.aload_n 0, 1) := by decide +kernel
theorem dL_isWell_470 : decode cL_isWell 470 = .ok (.iload 8, 2) := by decide +kernel
theorem dL_isWell_472 : decode cL_isWell 472 = .ok (.bipush 7, 2) := by decide +kernel
theorem dL_isWell_474 : decode cL_isWell 474 = .ok (.invokevirtual 25, 3) := by decide +kernel
theorem dL_isWell_477 : decode cL_isWell 477 = .ok (.istore 13, 2) := by decide +kernel
theorem dL_isWell_479 : decode cL_isWell 479 = .ok (.iload 6, 2) := by decide +kernel
theorem dL_isWell_481 : decode cL_isWell 481 = .ok (.ifCond .eq 108, 3) := by decide +kernel
theorem dL_isWell_484 : decode cL_isWell 484 = .ok (.aload_n 0, 1) := by decide +kernel
theorem dL_isWell_485 : decode cL_isWell 485 = .ok (.iload 8, 2) := by decide +kernel
theorem dL_isWell_487 : decode cL_isWell 487 = .ok (.bipush 6, 2) := by decide +kernel
theorem dL_isWell_489 : decode cL_isWell 489 = .ok (.invokevirtual 25, 3) := by decide +kernel
theorem dL_isWell_492 : decode cL_isWell 492 = .ok (.iload 12, 2) := by decide +kernel
theorem dL_isWell_494 : decode cL_isWell 494 = .ok (.if_icmp .ne 95, 3) := by decide +kernel
theorem dL_isWell_497 : decode cL_isWell 497 = .ok (.aload_n 0, 1) := by decide +kernel
theorem dL_isWell_498 : decode cL_isWell 498 = .ok (.iload 9, 2) := by decide +kernel
theorem dL_isWell_500 : decode cL_isWell 500 = .ok (.invokevirtual 76, 3) := by decide +kernel
theorem dL_isWell_503 : decode cL_isWell 503 = .ok (.iload 8, 2) := by decide +kernel
theorem dL_isWell_505 : decode cL_isWell 505 = .ok (.if_icmp .gt 84, 3) := by decide +kernel
theorem dL_isWell_508 : decode cL_isWell 508 = .ok (.aload_n 0, 1) := by decide +kernel
theorem dL_isWell_509 : decode cL_isWell 509 = .ok (.iload 8, 2) := by decide +kernel
theorem dL_isWell_511 : decode cL_isWell 511 = .ok (.iconst 2, 1) := by decide +kernel
theorem dL_isWell_512 : decode cL_isWell 512 = .ok (.invokevirtual 25, 3) := by decide +kernel
theorem dL_isWell_515 : decode cL_isWell 515 = .ok (.ifCond .ne 24, 3) := by decide +kernel
theorem dL_isWell_518 : decode cL_isWell 518 = .ok (.iload 13, 2) := by decide +kernel
theorem dL_isWell_520 : decode cL_isWell 520 = .ok (.bipush (-5), 2) := by decide +kernel
theorem dL_isWell_522 : decode cL_isWell 522 = .ok (.if_icmp .ne 67, 3) := by decide +kernel
theorem dL_isWell_525 : decode cL_isWell 525 = .ok (.aload_n 0, 1) := by decide +kernel
theorem dL_isWell_526 : decode cL_isWell 526 = .ok (.iload 8, 2) := by decide +kernel
theorem dL_isWell_528 : decode cL_isWell 528 = .ok (.bipush 8, 2) := by decide +kernel
theorem dL_isWell_530 : decode cL_isWell 530 = .ok (.invokevirtual 25, 3) := by decide +kernel
theorem dL_isWell_533 : decode cL_isWell 533 = .ok (.ifCond .ne 56, 3) := by decide +kernel
theorem dL_isWell_536 : decode cL_isWell 536 = .ok (.goto 49, 3) := by decide +kernel
theorem dL_isWell_539 : decode cL_isWell 539 = .ok (.aload_n 0, 1) := by decide +kernel
theorem dL_isWell_540 : decode cL_isWell 540 = .ok (.iload 8, 2) := by decide +kernel
theorem dL_isWell_542 : decode cL_isWell 542 = .ok (.bipush 8, 2) := by decide +kernel
theorem dL_isWell_544 : decode cL_isWell 544 = .ok (.invokevirtual 25, 3) := by decide +kernel
theorem dL_isWell_547 : decode cL_isWell 547 = .ok (.ifCond .ne 7, 3) := by decide +kernel
theorem dL_isWell_550 : decode cL_isWell 550 = .ok (.iconst 1, 1) := by decide +kernel
theorem dL_isWell_551 : decode cL_isWell 551 = .ok (.goto 4, 3) := by decide +kernel
theorem dL_isWell_554 : decode cL_isWell 554 = .ok (.iconst 0, 1) := by decide +kernel
theorem dL_isWell_555 : decode cL_isWell 555 = .ok (.aload_n 0, 1) := by decide +kernel
theorem dL_isWell_556 : decode cL_isWell 556 = .ok (.iload 13, 2) := by decide +kernel
theorem dL_isWell_558 : decode cL_isWell 558 = .ok (.iconst 2, 1) := by decide +kernel
theorem dL_isWell_559 : decode cL_isWell 559 = .ok (.invokevirtual 25, 3) := by decide +kernel
theorem dL_isWell_562 : decode cL_isWell 562 = .ok (.ifCond .ne 19, 3) := by decide +kernel
theorem dL_isWell_565 : decode cL_isWell 565 = .ok (.aload_n 0, 1) := by decide +kernel
theorem dL_isWell_566 : decode cL_isWell 566 = .ok (.iload 13, 2) := by decide +kernel
theorem dL_isWell_568 : decode cL_isWell 568 = .ok (.iconst 3, 1) := by decide +kernel
theorem dL_isWell_569 : decode cL_isWell 569 = .ok (.invokevirtual 25, 3) := by decide +kernel
theorem dL_isWell_572 : decode cL_isWell 572 = .ok (.iload 9, 2) := by decide +kernel
theorem dL_isWell_574 : decode cL_isWell 574 = .ok (.if_icmp .ne 7, 3) := by decide +kernel
theorem dL_isWell_577 : decode cL_isWell 577 = .ok (.iconst 1, 1) := by decide +kernel
theorem dL_isWell_578 : decode cL_isWell 578 = .ok (.goto 4, 3) := by decide +kernel
theorem dL_isWell_581 : decode cL_isWell 581 = .ok (.iconst 0, 1) := by decide +kernel
theorem dL_isWell_582 : decode cL_isWell 582 = .ok (.if_icmp .ne 7, 3) := by decide +kernel
theorem dL_isWell_585 : decode cL_isWell 585 = .ok (.iconst 1, 1) := by decide +kernel
theorem dL_isWell_586 : decode cL_isWell 586 = .ok (.goto 4, 3) := by decide +kernel
theorem dL_isWell_589 : decode cL_isWell 589 = .ok (.iconst 0, 1) := by decide +kernel
theorem dL_isWell_590 : decode cL_isWell 590 = .ok (.istore 6, 2) := by decide +kernel
theorem dL_isWell_592 : decode cL_isWell 592 = .ok (.iinc 7 1, 3) := by decide +kernel
theorem dL_isWell_595 : decode cL_isWell 595 = .ok (.goto (-491), 3) := by decide +kernel
theorem dL_isWell_598 : decode cL_isWell 598 = .ok (.iload 6, 2) := by decide +kernel
theorem dL_isWell_600 : decode cL_isWell 600 = .ok (.ifCond .eq 58, 3) := by decide +kernel
theorem dL_isWell_603 : decode cL_isWell 603 = .ok (.iload_n 2, 1) := by decide +kernel
theorem dL_isWell_604 : decode cL_isWell 604 = .ok (.aload_n 0, 1) := by decide +kernel
theorem dL_isWell_605 : decode cL_isWell 605 = .ok (.iconst 2, 1) := by decide +kernel
theorem dL_isWell_606 : decode cL_isWell 606 = .ok (.invokevirtual 21, 3) := by decide +kernel
theorem dL_isWell_609 : decode cL_isWell 609 = .ok (.if_icmp .ne 49, 3) := by decide +kernel
theorem dL_isWell_612 : decode cL_isWell 612 = .ok (.iload_n 1, 1) := by decide +kernel
theorem dL_isWell_613 : decode cL_isWell 613 = .ok (.iload_n 2, 1) := by decide +kernel
theorem dL_isWell_614 : decode cL_isWell 614 = .ok (.isub, 1) := by decide +kernel
theorem dL_isWell_615 : decode cL_isWell 615 = .ok (.aload_n 0, 1) := by decide +kernel
theorem dL_isWell_616 : decode cL_isWell 616 = .ok (.iconst 1, 1) := by decide +kernel
theorem dL_isWell_617 : decode cL_isWell 617 = .ok (.invokevirtual 21, 3) := by decide +kernel
theorem dL_isWell_620 : decode cL_isWell 620 = .ok (.if_icmp .ne 38, 3) := by decide +kernel
theorem dL_isWell_623 : decode cL_isWell 623 = .ok (.iload_n 3, 1) := by decide +kernel
theorem dL_isWell_624 : decode cL_isWell 624 = .ok (.aload_n 0, 1) := by decide +kernel
theorem dL_isWell_625 : decode cL_isWell 625 = .ok (.iconst 3, 1) := by decide +kernel
theorem dL_isWell_626 : decode cL_isWell 626 = .ok (.invokevirtual 21, 3) := by decide +kernel
theorem dL_isWell_629 : decode cL_isWell 629 = .ok (.if_icmp .ne 29, 3) := by decide +kernel
theorem dL_isWell_632 : decode cL_isWell 632 = .ok (.iload 4, 2) := by decide +kernel
theorem dL_isWell_634 : decode cL_isWell 634 = .ok (.aload_n 0, 1) := by decide +kernel
theorem dL_isWell_635 : decode cL_isWell 635 = .ok (.bipush 10, 2) := by decide +kernel
theorem dL_isWell_637 : decode cL_isWell 637 = .ok (.invokevirtual 21, 3) := by decide +kernel
theorem dL_isWell_640 : decode cL_isWell 640 = .ok (.if_icmp .ne 18, 3) := by decide +kernel
theorem dL_isWell_643 : decode cL_isWell 643 = .ok (.iload 5, 2) := by decide +kernel
theorem dL_isWell_645 : decode cL_isWell 645 = .ok (.aload_n 0, 1) := by decide +kernel
theorem dL_isWell_646 : decode cL_isWell 646 = .ok (.bipush 7, 2) := by decide +kernel
theorem dL_isWell_648 : decode cL_isWell 648 = .ok (.invokevirtual 21, 3) := by decide +kernel
theorem dL_isWell_651 : decode cL_isWell 651 = .ok (.if_icmp .ne 7, 3) := by decide +kernel
theorem dL_isWell_654 : decode cL_isWell 654 = .ok (.iconst 1, 1) := by decide +kernel
theorem dL_isWell_655 : decode cL_isWell 655 = .ok (.goto 4, 3) := by decide +kernel
theorem dL_isWell_658 : decode cL_isWell 658 = .ok (.iconst 0, 1) := by decide +kernel
theorem dL_isWell_659 : decode cL_isWell 659 = .ok (.ireturn, 1) := by decide +kernel
theorem dL_law_0 : decode cL_law 0 = .ok (.new 12, 3) := by decide +kernel
theorem dL_law_3 : decode cL_law 3 = .ok (.dup, 1) := by decide +kernel
theorem dL_law_4 : decode cL_law 4 = .ok (.invokespecial 82, 3) := by decide +kernel
theorem dL_law_7 : decode cL_law 7 = .ok (.astore_n 1, 1) := by decide +kernel
theorem dL_law_8 : decode cL_law 8 = .ok (.new 12, 3) := by decide +kernel
theorem dL_law_11 : decode cL_law 11 = .ok (.dup, 1) := by decide +kernel
theorem dL_law_12 : decode cL_law 12 = .ok (.invokespecial 82, 3) := by decide +kernel
theorem dL_law_15 : decode cL_law 15 = .ok (.astore_n 2, 1) := by decide +kernel
theorem dL_law_16 : decode cL_law 16 = .ok (.iconst 1, 1) := by decide +kernel
theorem dL_law_17 : decode cL_law 17 = .ok (.istore_n 3, 1) := by decide +kernel
theorem dL_law_18 : decode cL_law 18 = .ok (.iconst 0, 1) := by decide +kernel
theorem dL_law_19 : decode cL_law 19 = .ok (.istore 4, 2) := by decide +kernel
theorem dL_law_21 : decode cL_law 21 = .ok (.iload 4, 2) := by decide +kernel
theorem dL_law_23 : decode cL_law 23 = .ok (.bipush 52, 2) := by decide +kernel
theorem dL_law_25 : decode cL_law 25 = .ok (.if_icmp .ge 57, 3) := by decide +kernel
theorem dL_law_28 : decode cL_law 28 = .ok (.iload_n 3, 1) := by decide +kernel
theorem dL_law_29 : decode cL_law 29 = .ok (.ifCond .eq 53, 3) := by decide +kernel
theorem dL_law_32 : decode cL_law 32 = .ok (.aload_n 1, 1) := by decide +kernel
theorem dL_law_33 : decode cL_law 33 = .ok (.aload_n 2, 1) := by decide +kernel
theorem dL_law_34 : decode cL_law 34 = .ok (.aload_n 0, 1) := by decide +kernel
theorem dL_law_35 : decode cL_law 35 = .ok (.iload 4, 2) := by decide +kernel
theorem dL_law_37 : decode cL_law 37 = .ok (.invokestatic 83, 3) := by decide +kernel
theorem dL_law_40 : decode cL_law 40 = .ok (.aload_n 0, 1) := by decide +kernel
theorem dL_law_41 : decode cL_law 41 = .ok (.iload 4, 2) := by decide +kernel
theorem dL_law_43 : decode cL_law 43 = .ok (.iconst 1, 1) := by decide +kernel
theorem dL_law_44 : decode cL_law 44 = .ok (.iadd, 1) := by decide +kernel
theorem dL_law_45 : decode cL_law 45 = .ok (.invokestatic 83, 3) := by decide +kernel
theorem dL_law_48 : decode cL_law 48 = .ok (.iconst 2, 1) := by decide +kernel
theorem dL_law_49 : decode cL_law 49 = .ok (.ishr, 1) := by decide +kernel
theorem dL_law_50 : decode cL_law 50 = .ok (.invokestatic 87, 3) := by decide +kernel
theorem dL_law_53 : decode cL_law 53 = .ok (.ifCond .eq 21, 3) := by decide +kernel
theorem dL_law_56 : decode cL_law 56 = .ok (.iload 4, 2) := by decide +kernel
theorem dL_law_58 : decode cL_law 58 = .ok (.iconst 3, 1) := by decide +kernel
theorem dL_law_59 : decode cL_law 59 = .ok (.irem, 1) := by decide +kernel
theorem dL_law_60 : decode cL_law 60 = .ok (.ifCond .gt 10, 3) := by decide +kernel
theorem dL_law_63 : decode cL_law 63 = .ok (.aload_n 1, 1) := by decide +kernel
theorem dL_law_64 : decode cL_law 64 = .ok (.invokestatic 91, 3) := by decide +kernel
theorem dL_law_67 : decode cL_law 67 = .ok (.ifCond .eq 7, 3) := by decide +kernel
theorem dL_law_70 : decode cL_law 70 = .ok (.iconst 1, 1) := by decide +kernel
theorem dL_law_71 : decode cL_law 71 = .ok (.goto 4, 3) := by decide +kernel
theorem dL_law_74 : decode cL_law 74 = .ok (.iconst 0, 1) := by decide +kernel
theorem dL_law_75 : decode cL_law 75 = .ok (.istore_n 3, 1) := by decide +kernel
theorem dL_law_76 : decode cL_law 76 = .ok (.iinc 4 1, 3) := by decide +kernel
theorem dL_law_79 : decode cL_law 79 = .ok (.goto (-58), 3) := by decide +kernel
theorem dL_law_82 : decode cL_law 82 = .ok (.iload_n 3, 1) := by decide +kernel
theorem dL_law_83 : decode cL_law 83 = .ok (.ifCond .eq 22, 3) := by decide +kernel
theorem dL_law_86 : decode cL_law 86 = .ok (.aload_n 1, 1) := by decide +kernel
theorem dL_law_87 : decode cL_law 87 = .ok (.invokestatic 91, 3) := by decide +kernel
theorem dL_law_90 : decode cL_law 90 = .ok (.ifCond .eq 15, 3) := by decide +kernel
theorem dL_law_93 : decode cL_law 93 = .ok (.aload_n 1, 1) := by decide +kernel
theorem dL_law_94 : decode cL_law 94 = .ok (.aload_n 2, 1) := by decide +kernel
theorem dL_law_95 : decode cL_law 95 = .ok (.invokestatic 95, 3) := by decide +kernel
theorem dL_law_98 : decode cL_law 98 = .ok (.ifCond .eq 7, 3) := by decide +kernel
theorem dL_law_101 : decode cL_law 101 = .ok (.iconst 1, 1) := by decide +kernel
theorem dL_law_102 : decode cL_law 102 = .ok (.goto 4, 3) := by decide +kernel
theorem dL_law_105 : decode cL_law 105 = .ok (.iconst 0, 1) := by decide +kernel
theorem dL_law_106 : decode cL_law 106 = .ok (.ireturn, 1) := by decide +kernel
end
section

/-! THE SMALL MACHINE: a memory is one function of ints by cell and place, and the one row of references; a judgement VV over it, rule by rule from the kit's rows -/
/-- the table's words that every method may carry along -/
def mm_tb : List Cond := lw_tbl.filter goodWord
theorem mm_in {w : Cond} (i : Nat) (h : lw_tbl[i]? = some w) (hg : goodWord w = true) : w ∈ mm_tb := List.mem_filter.mpr ⟨List.mem_of_getElem? h, hg⟩
theorem mm_inU {C : String} {T : u_T} {N : Nat} (h : ∀ w ∈ u_ws C T N, w ∈ lw_tbl) (hg : ∀ w ∈ u_ws C T N, goodWord w = true) : ∀ w ∈ u_ws C T N, w ∈ mm_tb := fun w hw => List.mem_filter.mpr ⟨h w hw, hg w hw⟩
abbrev Mem : Type := (Nat → Nat → Int) × (Nat → Option Nat)
abbrev inR (x : Int) : Prop := -2147483648 ≤ x ∧ x ≤ 2147483647
abbrev inL (x : Int) : Prop := -9223372036854775808 ≤ x ∧ x ≤ 9223372036854775807
def mwr (m : Mem) (c k : Nat) (v : Int) : Mem := (fun j => if j = c then fun q => if q = k then v else m.1 c q else m.1 j, m.2)
def mwq (m : Mem) (k : Nat) (v : Nat) : Mem := (m.1, va_up m.2 k (some v))
def mcp (m : Mem) (src sp dst dp n : Nat) : Mem := (fun j => if j = dst then va_cpy (m.1 src) (m.1 dst) sp dp n else m.1 j, m.2)
def mmR (m : Mem) : Prop := ∀ c k, inR (m.1 c k)
def mmCmp (x y : Int) : Int := if y < x then 1 else if x = y then 0 else -1
abbrev vi (x : Int) : Value := .int (Int32.ofInt x)
abbrev vl (x : Int) : Value := .long (Int64.ofInt x)
def mmSt (i : Nat) : List (Nat ⊕ (Nat × Nat)) := if i = 0 then [.inl 2, .inr (0, 24), .inr (0, 24), .inr (0, 24), .inr (0, 24), .inr (0, 24)] else []
/-- which cell is what: objects by their class, rows by their kind and length -/
def mmSh : List (Nat ⊕ (Nat × Nat)) :=
  [.inl 3] ++ (mmSt 0 ++ (mmSt 0 ++ (mmSt 0 ++ ([.inl 0, .inr (2, 4)] ++ (mmSt 0 ++ (mmSt 0 ++ (mmSt 0 ++ (mmSt 0 ++
  [.inl 1, .inr (1, 60), .inr (0, 12), .inr (0, 12), .inr (0, 12), .inr (0, 12)]))))))))
/-- an object's fields: a reference to the cell so far on, or an int -/
def mmOff : Nat → List (Option Nat)
  | 0 => [some 1, none]
  | 1 => [some 1, none, some 2, some 3, some 4, some 5, none, none]
  | 2 => [some 1, some 2, some 3, some 4, some 5, none, none, none, none, none]
  | _ => [some 1, some 7, some 13, none, some 19, some 45]
def mmK2 : Option (Nat ⊕ (Nat × Nat)) → Bool
  | some (.inr (2, _)) => false
  | _ => true
def mmKd : Option (Nat ⊕ (Nat × Nat)) → Bool
  | some (.inr (t, _)) => t == 0 || (t == 1 || t == 2)
  | _ => true
def mmFv (ad : Nat → Nat) (m : Mem) (i : Nat) (k : Nat) (o : Option Nat) : Value := match o with
  | some d => .ref (ad (i + d))
  | none => vi (m.1 i k)
def mmF (ad : Nat → Nat) (m : Mem) (i ci : Nat) : List Value := (mmOff ci).mapIdx (mmFv ad m i)
def mmRow (m : Mem) (i : Nat) : Nat → Int32 := fun k => Int32.ofInt (m.1 i k)
def mmCell (cy : ClassId × ClassId × ClassId) (ad : Nat → Nat) (m : Mem) (i : Nat) : va_E := match mmSh[i]? with
  | some (.inl ci) => .inr (ci, mmF ad m i ci)
  | some (.inr (0, n)) => .inl (cy.1, n, .inl (mmRow m i))
  | some (.inr (1, n)) => .inl (cy.2.1, n, .inl (mmRow m i))
  | some (.inr (_, n)) => .inl (cy.2.2, n, .inr (.inr (.inr (.inr (fun k => (m.2 k).map ad)))))
  | none => .inl (cy.1, 0, .inl (mmRow m i))
def mmW (cy : ClassId × ClassId × ClassId) (ad : Nat → Nat) (m : Mem) : va_W := (List.range 51).map fun i => (ad i, mmCell cy ad m i)
abbrev mmT (cy : ClassId × ClassId × ClassId) : List (ClassId × FieldType) := [(cy.1, .int), (cy.2.1, .char), (cy.2.2, .object RX2)]
def mmV (ad : Nat → Nat) (v : Value) : Value := match v with
  | .ref i => .ref (ad i)
  | w => w
theorem mmV_cat (ad : Nat → Nat) (v : Value) : (mmV ad v).category = v.category := by cases v <;> rfl
theorem mmV_cats (ad : Nat → Nat) (st : List Value) : ((st.map (mmV ad)).map fun v => v.category).sum = (st.map fun v => v.category).sum := by
  rw [List.map_map]
  exact congrArg List.sum (List.map_congr_left fun v _ => mmV_cat ad v)
theorem mmSh_len : mmSh.length = 51 := by decide +kernel
theorem mmSh_lt {i : Nat} {x : Nat ⊕ (Nat × Nat)} (h : mmSh[i]? = some x) : i < 51 := by
  have := (List.getElem?_eq_some_iff.mp h).1
  rw [mmSh_len] at this
  exact this
theorem mmW_at (cy : ClassId × ClassId × ClassId) (ad : Nat → Nat) (m : Mem) {i : Nat} (h : i < 51) : (mmW cy ad m)[i]? = some (ad i, mmCell cy ad m i) := by
  simp [mmW, List.getElem?_map, List.getElem?_range, h]
theorem mmW_len (cy : ClassId × ClassId × ClassId) (ad : Nat → Nat) (m : Mem) : (mmW cy ad m).length = 51 := by simp [mmW]
theorem mmW_set (cy : ClassId × ClassId × ClassId) (ad : Nat → Nat) (m m' : Mem) {i : Nat} (h : i < 51) {e : va_E} (he : mmCell cy ad m' i = e) (ho : ∀ j, j < 51 → j ≠ i → mmCell cy ad m' j = mmCell cy ad m j) : (mmW cy ad m).set i (ad i, e) = mmW cy ad m' := by
  apply List.ext_getElem?
  intro j
  by_cases hj : j = i
  · subst hj
    rw [List.getElem?_set_self (by rw [mmW_len]; exact h), mmW_at cy ad m' h, he]
  · rw [List.getElem?_set_ne (Ne.symm hj)]
    by_cases hl : j < 51
    · rw [mmW_at cy ad m hl, mmW_at cy ad m' hl, ho j hl hj]
    · rw [List.getElem?_eq_none (by rw [mmW_len]; omega), List.getElem?_eq_none (by rw [mmW_len]; omega)]
theorem mmCell_obj {cy : ClassId × ClassId × ClassId} {ad : Nat → Nat} {m : Mem} {i ci : Nat} (h : mmSh[i]? = some (.inl ci)) : mmCell cy ad m i = .inr (ci, mmF ad m i ci) := by simp only [mmCell, h]
theorem mmCell_int {cy : ClassId × ClassId × ClassId} {ad : Nat → Nat} {m : Mem} {i n : Nat} (h : mmSh[i]? = some (.inr (0, n))) : mmCell cy ad m i = .inl (cy.1, n, .inl (mmRow m i)) := by simp only [mmCell, h]
theorem mmCell_chr {cy : ClassId × ClassId × ClassId} {ad : Nat → Nat} {m : Mem} {i n : Nat} (h : mmSh[i]? = some (.inr (1, n))) : mmCell cy ad m i = .inl (cy.2.1, n, .inl (mmRow m i)) := by simp only [mmCell, h]
theorem mmCell_ref {cy : ClassId × ClassId × ClassId} {ad : Nat → Nat} {m : Mem} {i n : Nat} (h : mmSh[i]? = some (.inr (2, n))) : mmCell cy ad m i = .inl (cy.2.2, n, .inr (.inr (.inr (.inr (fun k => (m.2 k).map ad))))) := by simp only [mmCell, h]
theorem mmF_at {ad : Nat → Nat} {m : Mem} {i ci k : Nat} {o : Option Nat} (h : (mmOff ci)[k]? = some o) : (mmF ad m i ci)[k]? = some (mmFv ad m i k o) := by
  simp [mmF, List.getElem?_mapIdx, h]
/-- a cell that a write doesn't touch -/
theorem mmCell_same {cy : ClassId × ClassId × ClassId} {ad : Nat → Nat} {m m' : Mem} {j : Nat} (h1 : m'.1 j = m.1 j) (h2 : m'.2 = m.2) : mmCell cy ad m' j = mmCell cy ad m j := by
  have e1 : ∀ ci, mmF ad m' j ci = mmF ad m j ci := fun ci => by
    unfold mmF
    congr 1
    funext k o
    cases o <;> simp [mmFv, h1]
  have e2 : mmRow m' j = mmRow m j := by funext k; simp [mmRow, h1]
  unfold mmCell
  split <;> simp only [e1, e2, h2]
theorem mwr_ne {m : Mem} {c k j : Nat} {v : Int} (h : j ≠ c) : (mwr m c k v).1 j = m.1 j := by simp [mwr, h]
theorem mwr_self {m : Mem} {c k q : Nat} {v : Int} : (mwr m c k v).1 c q = if q = k then v else m.1 c q := by simp [mwr]
theorem mwr_R {m : Mem} {c k : Nat} {v : Int} (h : mmR m) (hv : inR v) : mmR (mwr m c k v) := by
  intro j q
  by_cases hj : j = c
  · subst hj
    rw [mwr_self]
    split
    · exact hv
    · exact h _ _
  · rw [mwr_ne hj]; exact h _ _
theorem mcp_R {m : Mem} {src sp dst dp n : Nat} (h : mmR m) : mmR (mcp m src sp dst dp n) := by
  intro j q
  unfold mcp va_cpy
  by_cases hj : j = dst
  · simp only [hj, if_pos]
    split
    · exact h _ _
    · exact h _ _
  · simp only [hj, if_false]
    exact h _ _
theorem mmF_set {ad : Nat → Nat} {m : Mem} {i ci k : Nat} {v : Int} (h : (mmOff ci)[k]? = some none) : (mmF ad m i ci).set k (vi v) = mmF ad (mwr m i k v) i ci := by
  have hl := (List.getElem?_eq_some_iff.mp h).1
  apply List.ext_getElem?
  intro j
  by_cases hj : j = k
  · subst hj
    rw [List.getElem?_set_self (by simpa [mmF] using hl), mmF_at h]
    simp [mmFv, mwr_self]
  · rw [List.getElem?_set_ne (Ne.symm hj)]
    cases ho : (mmOff ci)[j]? with
    | none =>
      have : (mmOff ci).length ≤ j := List.getElem?_eq_none_iff.mp ho
      rw [List.getElem?_eq_none (by simpa [mmF] using this), List.getElem?_eq_none (by simpa [mmF] using this)]
    | some o =>
      rw [mmF_at ho, mmF_at ho]
      cases o with
      | none => simp [mmFv, mwr_self, hj]
      | some d => rfl
theorem mmRow_wr {m : Mem} {i k : Nat} {v : Int} : upd (mmRow m i) k (Int32.ofInt v) = mmRow (mwr m i k v) i := by
  funext q
  by_cases hq : q = k
  · subst hq; simp [upd, mmRow, mwr_self]
  · simp [upd, mmRow, mwr_self, hq]
theorem mmRow_cp {m : Mem} {src sp dst dp n : Nat} : va_cpy (mmRow m src) (mmRow m dst) sp dp n = mmRow (mcp m src sp dst dp n) dst := by
  funext q
  simp only [va_cpy, mmRow, mcp, if_pos]
  split <;> rfl
theorem inR_lo {x : Int} (h : inR x) : -2 ^ 31 ≤ x ∧ x < 2 ^ 31 := by have := h.1; have := h.2; omega
theorem oi_lt {x y : Int} (hx : inR x) (hy : inR y) : Int32.ofInt x < Int32.ofInt y ↔ x < y := by
  rw [Int32.lt_iff_toInt_lt, Int32.toInt_ofInt_of_le (inR_lo hx).1 (inR_lo hx).2, Int32.toInt_ofInt_of_le (inR_lo hy).1 (inR_lo hy).2]
theorem oi_le {x y : Int} (hx : inR x) (hy : inR y) : Int32.ofInt x ≤ Int32.ofInt y ↔ x ≤ y := by
  rw [Int32.le_iff_toInt_le, Int32.toInt_ofInt_of_le (inR_lo hx).1 (inR_lo hx).2, Int32.toInt_ofInt_of_le (inR_lo hy).1 (inR_lo hy).2]
theorem oi_eq {x y : Int} (hx : inR x) (hy : inR y) : Int32.ofInt x = Int32.ofInt y ↔ x = y := by
  rw [← Int32.toInt_inj, Int32.toInt_ofInt_of_le (inR_lo hx).1 (inR_lo hx).2, Int32.toInt_ofInt_of_le (inR_lo hy).1 (inR_lo hy).2]
theorem inR0 : inR 0 := by decide
theorem oi_0 : (0 : Int32) = Int32.ofInt 0 := by decide
theorem oi_cl {x : Int} (h : inR x) : (Int32.ofInt x).toNatClampNeg = x.toNat := Int32.toNatClampNeg_ofInt_of_le (inR_lo h).1 (inR_lo h).2
theorem oi_in {x : Int} {n : Nat} (hx : inR x) (h : 0 ≤ x ∧ x < n) : vp_in (Int32.ofInt x) n := by
  unfold vp_in
  rw [oi_cl hx, oi_0, oi_lt hx inR0]
  omega
theorem ol_i2l {x : Int} (h : inR x) : (Int32.ofInt x).toInt64 = Int64.ofInt x := by
  rw [← Int32.ofInt_toInt (Int32.ofInt x), Int32.toInt_ofInt_of_le (inR_lo h).1 (inR_lo h).2, ← Int64.ofInt_int32ToInt, Int32.toInt_ofInt_of_le (inR_lo h).1 (inR_lo h).2]
theorem ol_t {x : Int} (h : inL x) : (Int64.ofInt x).toInt = x := Int64.toInt_ofInt_of_le (by have := h.1; omega) (by have := h.2; omega)
theorem ol_cmp {x y : Int} (hx : inL x) (hy : inL y) : lg_cmp (Int64.ofInt x) (Int64.ofInt y) = Int32.ofInt (mmCmp x y) := by
  unfold lg_cmp mmCmp
  simp only [gt_iff_lt, Int64.lt_iff_toInt_lt, ← Int64.toInt_inj, ol_t hx, ol_t hy]
  split
  · decide
  · split <;> decide
theorem mmCmp_R (x y : Int) : inR (mmCmp x y) := by
  unfold mmCmp
  split
  · decide
  · split <;> decide
theorem oi_div {x y : Int} (hx : inR x) (hy : inR y) (h : 0 ≤ x ∧ 0 < y) : Int32.ofInt x / Int32.ofInt y = Int32.ofInt (x / y) := by
  apply Int32.toInt_inj.mp
  have e1 := Int32.toInt_ofInt_of_le (inR_lo hx).1 (inR_lo hx).2
  have e2 := Int32.toInt_ofInt_of_le (inR_lo hy).1 (inR_lo hy).2
  have h1 : 0 ≤ x / y := Int.ediv_nonneg h.1 (by omega)
  have h2 : x / y ≤ x := Int.ediv_le_self _ h.1
  have hx2 := hx.2
  rw [lg_idiv_nonneg (by rw [e1]; exact h.1) (by rw [e2]; exact h.2), e1, e2, Int32.toInt_ofInt_of_le (by omega) (by omega)]
noncomputable def mmK {α : Type} (c : Prop) (X : Option α) : Option α := @ite (Option α) c (Classical.propDecidable c) X none
theorem mmK_p {α : Type} {c : Prop} {X : Option α} (h : c) : mmK c X = X := by unfold mmK; exact if_pos h
theorem mmK_n {α : Type} {c : Prop} {X : Option α} (h : ¬ c) : mmK c X = none := by unfold mmK; exact if_neg h
theorem mmK_e {α : Type} {c : Prop} {X : Option α} {r : α} (h : mmK c X = some r) : c ∧ X = some r := by
  by_cases hc : c
  · rw [mmK_p hc] at h; exact ⟨hc, h⟩
  · rw [mmK_n hc] at h; cases h
theorem mmI_t {α : Type} {c : Prop} [Decidable c] {X Y : Option α} {r : α} (hc : c) (h : (if c then X else Y) = some r) : X = some r := by rwa [if_pos hc] at h
theorem mmI_f {α : Type} {c : Prop} [Decidable c] {X Y : Option α} {r : α} (hc : ¬ c) (h : (if c then X else Y) = some r) : Y = some r := by rwa [if_neg hc] at h
theorem mmB_e {α β : Type} {X : Option α} {K : α → Option β} {r : β} (h : X.bind K = some r) : ∃ q, X = some q ∧ K q = some r := by
  cases X with
  | none => cases h
  | some q => exact ⟨q, rfl, h⟩
/-- the fuel of the loops -/
def mmFU : Nat := 1000
def mmG0 : State → (Nat → Prop) → (Nat → Nat) → Prop := fun _ _ _ => True
def mmRet (cc : ByteArray) (pc : Nat) (v : Option Value) : Prop := (∃ x : Int, v = some (vi x) ∧ decode cc pc = .ok (.ireturn, 1)) ∨ (v = none ∧ decode cc pc = .ok (.return_, 1))
/-- what stands through a method -/
def mmC (own : String) (cc : ByteArray) (nL : Nat) (R : Room) (G : State → (Nat → Prop) → (Nat → Nat) → Prop) (Po : Option Value → Mem → Prop) (p : Program) (l : Launch) (e : Env) (s : State) (mi : MethodId) (args : Array Value) (below : List Frame) (meth : Method) (c : Code) (cells slots : Nat) (Q : State → Prop) (D : va_G) (cy : ClassId × ClassId × ClassId) (ad : Nat → Nat) (A : Nat → Prop) : Prop :=
  p.tables.exec = Jvm.exec ∧ c.code = cc ∧ c.maxLocals = nL ∧ s.vm.findClass own = some mi.cls ∧ (∀ w ∈ mm_tb, w.before args s = true) ∧ (cells ≤ R.cells ∧ slots ≤ R.slots) ∧ (∀ q, s.heap.size ≤ q → A q) ∧ va_K D vwCl (mmT cy) s ∧ (∀ m, va_D A (mmW cy ad m)) ∧ G s A ad ∧
  (∀ (v : Option Value) (m' : Mem) (H' : Heap) (locs' : List Loc) (ls' : Array Slot) (pc' : Nat), Po v m' → mmR m' → mmRet cc pc' v → va_P D vwCl (mmW cy ad m') H' → va_S A s.heap H' locs' → W p l e R s mi args below meth c H' locs' cells slots Q (F0 mi pc' ls' (v.toList.map (mmV ad))))
def mmL (ad : Nat → Nat) (lv : List (Nat × Value)) : List (Nat × Value) := lv.map fun q => (q.1, mmV ad q.2)
def VV (own : String) (cc : ByteArray) (nL : Nat) (R : Room) (G : State → (Nat → Prop) → (Nat → Nat) → Prop) (Po : Option Value → Mem → Prop) (pc : Nat) (lv : List (Nat × Value)) (st : List Value) (m : Mem) : Prop :=
  ∀ ⦃p : Program⦄ ⦃l : Launch⦄ ⦃e : Env⦄ ⦃s : State⦄ ⦃mi : MethodId⦄ ⦃args : Array Value⦄ ⦃below : List Frame⦄ ⦃meth : Method⦄ ⦃c : Code⦄ ⦃cells slots : Nat⦄ ⦃Q : State → Prop⦄ ⦃D : va_G⦄ ⦃cy : ClassId × ClassId × ClassId⦄ ⦃ad : Nat → Nat⦄ ⦃A : Nat → Prop⦄,
    mmC own cc nL R G Po p l e s mi args below meth c cells slots Q D cy ad A → ∀ ⦃H : Heap⦄ ⦃locs : List Loc⦄ ⦃ls : Array Slot⦄, mmR m → va_P D vwCl (mmW cy ad m) H → va_S A s.heap H locs → lv_has ls nL (mmL ad lv) →
    W p l e R s mi args below meth c H locs cells slots Q (F0 mi pc ls (st.map (mmV ad)))
theorem mmL_at {ad : Nat → Nat} {lv : List (Nat × Value)} {k i : Nat} {v : Value} (h : lv[k]? = some (i, v)) : (mmL ad lv)[k]? = some (i, mmV ad v) := by
  simp [mmL, List.getElem?_map, h]
/-- the list of locals behind a store: in the order of their places -/
def mmIns (i : Nat) (v : Value) : List (Nat × Value) → List (Nat × Value)
  | [] => [(i, v)]
  | q :: r => if i < q.1 then (i, v) :: q :: r else if i = q.1 then (i, v) :: r else q :: mmIns i v r
theorem mmIns_mem {i : Nat} {v : Value} {lv : List (Nat × Value)} {q : Nat × Value} (h : q ∈ mmIns i v lv) : q = (i, v) ∨ q ∈ lv := by
  induction lv with
  | nil => exact Or.inl (List.mem_singleton.mp h)
  | cons a r ih =>
    unfold mmIns at h
    split at h
    · rcases List.mem_cons.mp h with h | h
      · exact Or.inl h
      · exact Or.inr h
    · split at h
      · rcases List.mem_cons.mp h with h | h
        · exact Or.inl h
        · exact Or.inr (List.mem_cons_of_mem _ h)
      · rcases List.mem_cons.mp h with h | h
        · exact Or.inr (by rw [h]; exact List.mem_cons_self)
        · rcases ih h with h | h
          · exact Or.inl h
          · exact Or.inr (List.mem_cons_of_mem _ h)
/-- places in order -/
def mmOrd : List (Nat × Value) → Bool
  | [] => true
  | q :: r => (r.all fun z => decide (q.1 < z.1)) && mmOrd r
def mmOne (lv : List (Nat × Value)) : Bool := lv.all fun q => q.2.category == 1
theorem mmIns_pl {i : Nat} {v : Value} {lv : List (Nat × Value)} (ho : mmOrd lv = true) {q : Nat × Value} (h : q ∈ mmIns i v lv) : q = (i, v) ∨ (q ∈ lv ∧ q.1 ≠ i) := by
  induction lv with
  | nil => exact Or.inl (List.mem_singleton.mp h)
  | cons a r ih =>
    simp only [mmOrd, Bool.and_eq_true, List.all_eq_true, decide_eq_true_eq] at ho
    unfold mmIns at h
    split at h
    · rcases List.mem_cons.mp h with h | h
      · exact Or.inl h
      · refine Or.inr ⟨h, ?_⟩
        rcases List.mem_cons.mp h with h | h
        · subst h; omega
        · have := ho.1 q h; omega
    · split at h
      · rcases List.mem_cons.mp h with h | h
        · exact Or.inl h
        · refine Or.inr ⟨List.mem_cons_of_mem _ h, ?_⟩
          have := ho.1 q h; omega
      · rcases List.mem_cons.mp h with h | h
        · subst h
          exact Or.inr ⟨List.mem_cons_self, fun z => by omega⟩
        · rcases ih ho.2 h with h | h
          · exact Or.inl h
          · exact Or.inr ⟨List.mem_cons_of_mem _ h.1, h.2⟩
theorem mmL_store {ad : Nat → Nat} {lv : List (Nat × Value)} {i nL : Nat} {v : Value} {ls : Array Slot} (ho : mmOrd lv = true) (h1 : mmOne lv = true)
    (h : lv_has ls nL ((i, mmV ad v) :: (mmL ad lv).filter (fun q => !(q.1 == i) && !(q.1 + 1 == i && q.2.category == 2)))) : lv_has ls nL (mmL ad (mmIns i v lv)) := by
  refine ⟨h.1, h.2.1, fun q hq => ?_⟩
  obtain ⟨z, hz, rfl⟩ := List.mem_map.mp hq
  rcases mmIns_pl ho hz with rfl | ⟨h2, h3⟩
  · exact h.2.2 _ List.mem_cons_self
  · refine h.2.2 _ (List.mem_cons_of_mem _ (List.mem_filter.mpr ⟨List.mem_map.mpr ⟨z, h2, rfl⟩, ?_⟩))
    have h4 := List.all_eq_true.mp h1 z h2
    simp only [beq_iff_eq] at h4
    simp [h3, mmV_cat, h4]
theorem mmL_pick {ad : Nat → Nat} {lv lv' : List (Nat × Value)} (ks : List Nat) (h : lv_pick lv ks = lv') : lv_pick (mmL ad lv) ks = mmL ad lv' := by
  subst h
  unfold lv_pick mmL
  rw [List.map_filterMap]
  congr 1
  funext k
  rw [List.getElem?_map]
section RULES
variable {own : String} {cc : ByteArray} {nL : Nat} {R : Room} {G : State → (Nat → Prop) → (Nat → Nat) → Prop} {Po : Option Value → Mem → Prop} {pc : Nat} {lv : List (Nat × Value)} {st : List Value} {m : Mem}
theorem V_iconst {n : Int} {v : Int} (hd : decode cc pc = .ok (.iconst n, 1)) (hv : n = v) (k : VV own cc nL R G Po (pc + 1) lv (vi v :: st) m) : VV own cc nL R G Po pc lv st m := by
  intro p l e s mi args below meth c cells slots Q D cy ad A C H locs ls hR hP hS hl
  subst hv
  exact lv_iconst C.1 C.2.1 hd rfl (k C hR hP hS hl)
theorem V_bipush {n : Int} {v : Int} (hd : decode cc pc = .ok (.bipush n, 2)) (hv : (Int8.ofInt n).toInt32 = Int32.ofInt v) (k : VV own cc nL R G Po (pc + 2) lv (vi v :: st) m) : VV own cc nL R G Po pc lv st m := by
  intro p l e s mi args below meth c cells slots Q D cy ad A C H locs ls hR hP hS hl
  exact lv_bipush C.1 C.2.1 hd hv (k C hR hP hS hl)
theorem V_sipush {n : Int} {v : Int} (hd : decode cc pc = .ok (.sipush n, 3)) (hv : (Int16.ofInt n).toInt32 = Int32.ofInt v) (k : VV own cc nL R G Po (pc + 3) lv (vi v :: st) m) : VV own cc nL R G Po pc lv st m := by
  intro p l e s mi args below meth c cells slots Q D cy ad A C H locs ls hR hP hS hl
  exact lv_sipush C.1 C.2.1 hd hv (k C hR hP hS hl)
theorem V_lconst {n : Fin 2} {v : Int} (hd : decode cc pc = .ok (.lconst n, 1)) (hv : Int64.ofNat (n : Nat) = Int64.ofInt v) (k : VV own cc nL R G Po (pc + 1) lv (vl v :: st) m) : VV own cc nL R G Po pc lv st m := by
  intro p l e s mi args below meth c cells slots Q D cy ad A C H locs ls hR hP hS hl
  exact lv_lconst C.1 C.2.1 hd hv (k C hR hP hS hl)
theorem V_ldc2 {index : Nat} {z : Int64} {v : Int} (hd : decode cc pc = .ok (.ldc2_w index, 3)) (hw : Jvm.Cond.constantLong own index z ∈ mm_tb) (hv : z = Int64.ofInt v) (k : VV own cc nL R G Po (pc + 3) lv (vl v :: st) m) : VV own cc nL R G Po pc lv st m := by
  intro p l e s mi args below meth c cells slots Q D cy ad A C H locs ls hR hP hS hl
  subst hv
  exact lv_ldc2 C.1 C.2.1 C.2.2.2.1 (C.2.2.2.2.1 _ hw) hd (k C hR hP hS hl)
theorem V_iload_n {k' : Fin 4} {x : Int} (j : Nat) (hd : decode cc pc = .ok (.iload_n k', 1)) (hk : lv[j]? = some ((k' : Nat), vi x)) (k : VV own cc nL R G Po (pc + 1) lv (vi x :: st) m) : VV own cc nL R G Po pc lv st m := by
  intro p l e s mi args below meth c cells slots Q D cy ad A C H locs ls hR hP hS hl
  exact lv_iload_n C.1 C.2.1 hd rfl (lv_at hl j (mmL_at hk)) (k C hR hP hS hl)
theorem V_iload {i : Nat} {x : Int} (j : Nat) (hd : decode cc pc = .ok (.iload i, 2)) (hk : lv[j]? = some (i, vi x)) (k : VV own cc nL R G Po (pc + 2) lv (vi x :: st) m) : VV own cc nL R G Po pc lv st m := by
  intro p l e s mi args below meth c cells slots Q D cy ad A C H locs ls hR hP hS hl
  exact lv_iload C.1 C.2.1 hd (lv_at hl j (mmL_at hk)) (k C hR hP hS hl)
theorem V_lload_n {k' : Fin 4} {x : Int} (j : Nat) (hd : decode cc pc = .ok (.lload_n k', 1)) (hk : lv[j]? = some ((k' : Nat), vl x)) (k : VV own cc nL R G Po (pc + 1) lv (vl x :: st) m) : VV own cc nL R G Po pc lv st m := by
  intro p l e s mi args below meth c cells slots Q D cy ad A C H locs ls hR hP hS hl
  exact lv_lload_n C.1 C.2.1 hd rfl (lv_at hl j (mmL_at hk)) (k C hR hP hS hl)
theorem V_lload {i : Nat} {x : Int} (j : Nat) (hd : decode cc pc = .ok (.lload i, 2)) (hk : lv[j]? = some (i, vl x)) (k : VV own cc nL R G Po (pc + 2) lv (vl x :: st) m) : VV own cc nL R G Po pc lv st m := by
  intro p l e s mi args below meth c cells slots Q D cy ad A C H locs ls hR hP hS hl
  exact lv_lload C.1 C.2.1 hd (lv_at hl j (mmL_at hk)) (k C hR hP hS hl)
theorem V_aload_n {k' : Fin 4} {x : Nat} (j : Nat) (hd : decode cc pc = .ok (.aload_n k', 1)) (hk : lv[j]? = some ((k' : Nat), .ref x)) (k : VV own cc nL R G Po (pc + 1) lv (.ref x :: st) m) : VV own cc nL R G Po pc lv st m := by
  intro p l e s mi args below meth c cells slots Q D cy ad A C H locs ls hR hP hS hl
  exact lv_aload_n C.1 C.2.1 hd rfl (lv_at hl j (mmL_at hk)) (k C hR hP hS hl)
theorem V_aload {i : Nat} {x : Nat} (j : Nat) (hd : decode cc pc = .ok (.aload i, 2)) (hk : lv[j]? = some (i, .ref x)) (k : VV own cc nL R G Po (pc + 2) lv (.ref x :: st) m) : VV own cc nL R G Po pc lv st m := by
  intro p l e s mi args below meth c cells slots Q D cy ad A C H locs ls hR hP hS hl
  exact lv_aload C.1 C.2.1 hd (lv_at hl j (mmL_at hk)) (k C hR hP hS hl)
theorem V_istore_n {k' : Fin 4} {i : Nat} {x : Int} {lv' : List (Nat × Value)} (hd : decode cc pc = .ok (.istore_n k', 1)) (hi : (k' : Nat) = i) (ho : (mmOrd lv && (mmOne lv && decide (i < nL))) = true) (hl' : mmIns i (vi x) lv = lv') (k : VV own cc nL R G Po (pc + 1) lv' st m) : VV own cc nL R G Po pc lv (vi x :: st) m := by
  intro p l e s mi args below meth c cells slots Q D cy ad A C H locs ls hR hP hS hl
  subst hl'
  simp only [Bool.and_eq_true, decide_eq_true_eq] at ho
  exact lv_istore_n C.1 C.2.1 hd hi hl ho.2.2 rfl (fun ls2 hl2 => k C hR hP hS (mmL_store ho.1 ho.2.1 hl2))
theorem V_istore {i : Nat} {x : Int} {lv' : List (Nat × Value)} (hd : decode cc pc = .ok (.istore i, 2)) (ho : (mmOrd lv && (mmOne lv && decide (i < nL))) = true) (hl' : mmIns i (vi x) lv = lv') (k : VV own cc nL R G Po (pc + 2) lv' st m) : VV own cc nL R G Po pc lv (vi x :: st) m := by
  intro p l e s mi args below meth c cells slots Q D cy ad A C H locs ls hR hP hS hl
  subst hl'
  simp only [Bool.and_eq_true, decide_eq_true_eq] at ho
  exact lv_istore C.1 C.2.1 hd hl ho.2.2 rfl (fun ls2 hl2 => k C hR hP hS (mmL_store ho.1 ho.2.1 hl2))
theorem V_astore_n {k' : Fin 4} {i : Nat} {x : Nat} {lv' : List (Nat × Value)} (hd : decode cc pc = .ok (.astore_n k', 1)) (hi : (k' : Nat) = i) (ho : (mmOrd lv && (mmOne lv && decide (i < nL))) = true) (hl' : mmIns i (.ref x) lv = lv') (k : VV own cc nL R G Po (pc + 1) lv' st m) : VV own cc nL R G Po pc lv (.ref x :: st) m := by
  intro p l e s mi args below meth c cells slots Q D cy ad A C H locs ls hR hP hS hl
  subst hl'
  simp only [Bool.and_eq_true, decide_eq_true_eq] at ho
  exact lv_astore_n C.1 C.2.1 hd hi hl ho.2.2 rfl (fun ls2 hl2 => k C hR hP hS (mmL_store ho.1 ho.2.1 hl2))
theorem V_astore {i : Nat} {x : Nat} {lv' : List (Nat × Value)} (hd : decode cc pc = .ok (.astore i, 2)) (ho : (mmOrd lv && (mmOne lv && decide (i < nL))) = true) (hl' : mmIns i (.ref x) lv = lv') (k : VV own cc nL R G Po (pc + 2) lv' st m) : VV own cc nL R G Po pc lv (.ref x :: st) m := by
  intro p l e s mi args below meth c cells slots Q D cy ad A C H locs ls hR hP hS hl
  subst hl'
  simp only [Bool.and_eq_true, decide_eq_true_eq] at ho
  exact lv_astore C.1 C.2.1 hd hl ho.2.2 rfl (fun ls2 hl2 => k C hR hP hS (mmL_store ho.1 ho.2.1 hl2))
theorem V_iinc {i : Nat} {n : Int} {x v : Int} {lv' : List (Nat × Value)} (j : Nat) (hd : decode cc pc = .ok (.iinc i n, 3)) (hk : lv[j]? = some (i, vi x)) (hv : x + n = v) (ho : (mmOrd lv && (mmOne lv && decide (i < nL))) = true) (hl' : mmIns i (vi v) lv = lv') (k : VV own cc nL R G Po (pc + 3) lv' st m) : VV own cc nL R G Po pc lv st m := by
  intro p l e s mi args below meth c cells slots Q D cy ad A C H locs ls hR hP hS hl
  subst hl' hv
  simp only [Bool.and_eq_true, decide_eq_true_eq] at ho
  exact lv_iinc C.1 C.2.1 hd hl (k := j) (v := Int32.ofInt (x + n)) (mmL_at hk) (by rw [Int32.ofInt_add]) ho.2.2 rfl (fun ls2 hl2 => k C hR hP hS (mmL_store (v := vi (x + n)) ho.1 ho.2.1 hl2))
theorem V_sub {lv' : List (Nat × Value)} (ks : List Nat) (hl' : lv_pick lv ks = lv') (k : VV own cc nL R G Po pc lv' st m) : VV own cc nL R G Po pc lv st m := by
  intro p l e s mi args below meth c cells slots Q D cy ad A C H locs ls hR hP hS hl
  exact k C hR hP hS (lv_sub hl ks (mmL_pick ks hl'))
theorem V_iadd {x y : Int} (hd : decode cc pc = .ok (.iadd, 1)) (k : VV own cc nL R G Po (pc + 1) lv (vi (x + y) :: st) m) : VV own cc nL R G Po pc lv (vi y :: vi x :: st) m := by
  intro p l e s mi args below meth c cells slots Q D cy ad A C H locs ls hR hP hS hl
  refine lv_iadd C.1 C.2.1 hd ?_
  rw [← Int32.ofInt_add]
  exact k C hR hP hS hl
theorem V_isub {x y : Int} (hd : decode cc pc = .ok (.isub, 1)) (k : VV own cc nL R G Po (pc + 1) lv (vi (x - y) :: st) m) : VV own cc nL R G Po pc lv (vi y :: vi x :: st) m := by
  intro p l e s mi args below meth c cells slots Q D cy ad A C H locs ls hR hP hS hl
  refine lv_isub C.1 C.2.1 hd ?_
  rw [← Int32.ofInt_sub]
  exact k C hR hP hS hl
theorem V_imul {x y : Int} (hd : decode cc pc = .ok (.imul, 1)) (k : VV own cc nL R G Po (pc + 1) lv (vi (x * y) :: st) m) : VV own cc nL R G Po pc lv (vi y :: vi x :: st) m := by
  intro p l e s mi args below meth c cells slots Q D cy ad A C H locs ls hR hP hS hl
  refine lv_imul C.1 C.2.1 hd ?_
  rw [← Int32.ofInt_mul]
  exact k C hR hP hS hl
theorem V_lsub {x y : Int} (hd : decode cc pc = .ok (.lsub, 1)) (k : VV own cc nL R G Po (pc + 1) lv (vl (x - y) :: st) m) : VV own cc nL R G Po pc lv (vl y :: vl x :: st) m := by
  intro p l e s mi args below meth c cells slots Q D cy ad A C H locs ls hR hP hS hl
  refine lv_lsub C.1 C.2.1 hd ?_
  rw [← Int64.ofInt_sub]
  exact k C hR hP hS hl
theorem V_idiv {x y : Int} (hd : decode cc pc = .ok (.idiv, 1)) (hx : inR x) (hy : inR y) (h : 0 ≤ x ∧ 0 < y) (k : VV own cc nL R G Po (pc + 1) lv (vi (x / y) :: st) m) : VV own cc nL R G Po pc lv (vi y :: vi x :: st) m := by
  intro p l e s mi args below meth c cells slots Q D cy ad A C H locs ls hR hP hS hl
  refine lv_idiv C.1 C.2.1 hd (by rw [oi_0, oi_eq hy inR0]; omega) ?_
  rw [oi_div hx hy h]
  exact k C hR hP hS hl
theorem V_i2l {x : Int} (hd : decode cc pc = .ok (.i2l, 1)) (hx : inR x) (k : VV own cc nL R G Po (pc + 1) lv (vl x :: st) m) : VV own cc nL R G Po pc lv (vi x :: st) m := by
  intro p l e s mi args below meth c cells slots Q D cy ad A C H locs ls hR hP hS hl
  exact lv_i2l C.1 C.2.1 hd (ol_i2l hx) (k C hR hP hS hl)
theorem V_lcmp {x y : Int} (hd : decode cc pc = .ok (.lcmp, 1)) (hx : inL x) (hy : inL y) (k : VV own cc nL R G Po (pc + 1) lv (vi (mmCmp x y) :: st) m) : VV own cc nL R G Po pc lv (vl y :: vl x :: st) m := by
  intro p l e s mi args below meth c cells slots Q D cy ad A C H locs ls hR hP hS hl
  refine W.lcmp C.1 C.2.1 hd ?_
  rw [ol_cmp hx hy]
  exact k C hR hP hS hl
theorem V_dupi {x : Int} (hd : decode cc pc = .ok (.dup, 1)) (k : VV own cc nL R G Po (pc + 1) lv (vi x :: vi x :: st) m) : VV own cc nL R G Po pc lv (vi x :: st) m := by
  intro p l e s mi args below meth c cells slots Q D cy ad A C H locs ls hR hP hS hl
  exact lv_dup C.1 C.2.1 hd rfl (k C hR hP hS hl)
theorem V_dupa {x : Nat} (hd : decode cc pc = .ok (.dup, 1)) (k : VV own cc nL R G Po (pc + 1) lv (.ref x :: .ref x :: st) m) : VV own cc nL R G Po pc lv (.ref x :: st) m := by
  intro p l e s mi args below meth c cells slots Q D cy ad A C H locs ls hR hP hS hl
  exact lv_dup C.1 C.2.1 hd rfl (k C hR hP hS hl)
theorem V_dup2 {x : Int} {a : Nat} (hd : decode cc pc = .ok (.dup2, 1)) (k : VV own cc nL R G Po (pc + 1) lv (vi x :: .ref a :: vi x :: .ref a :: st) m) : VV own cc nL R G Po pc lv (vi x :: .ref a :: st) m := by
  intro p l e s mi args below meth c cells slots Q D cy ad A C H locs ls hR hP hS hl
  exact lv_dup2_11 C.1 C.2.1 hd rfl rfl (k C hR hP hS hl)
theorem V_popi {x : Int} (hd : decode cc pc = .ok (.pop, 1)) (k : VV own cc nL R G Po (pc + 1) lv st m) : VV own cc nL R G Po pc lv (vi x :: st) m := by
  intro p l e s mi args below meth c cells slots Q D cy ad A C H locs ls hR hP hS hl
  exact lv_pop C.1 C.2.1 hd rfl (k C hR hP hS hl)
theorem V_goto {off : Int} (tgt : Nat) (hd : decode cc pc = .ok (.goto off, 3)) (ht : (pc : Int) + off = (tgt : Int)) (k : VV own cc nL R G Po tgt lv st m) : VV own cc nL R G Po pc lv st m := by
  intro p l e s mi args below meth c cells slots Q D cy ad A C H locs ls hR hP hS hl
  exact lv_goto C.1 C.2.1 hd ht (k C hR hP hS hl)
theorem V_ifnull {x : Nat} {off : Int} (hd : decode cc pc = .ok (.ifnull off, 3)) (k : VV own cc nL R G Po (pc + 3) lv st m) : VV own cc nL R G Po pc lv (.ref x :: st) m := by
  intro p l e s mi args below meth c cells slots Q D cy ad A C H locs ls hR hP hS hl
  exact lv_ifnull C.1 C.2.1 hd (k C hR hP hS hl)
theorem V_ifnonnull {x : Nat} {off : Int} (tgt : Nat) (hd : decode cc pc = .ok (.ifnonnull off, 3)) (ht : (pc : Int) + off = (tgt : Int)) (k : VV own cc nL R G Po tgt lv st m) : VV own cc nL R G Po pc lv (.ref x :: st) m := by
  intro p l e s mi args below meth c cells slots Q D cy ad A C H locs ls hR hP hS hl
  exact lv_ifnonnull C.1 C.2.1 hd ht (k C hR hP hS hl)
theorem V_icmp_eq {x y : Int} {off : Int} (tgt : Nat) (hd : decode cc pc = .ok (.if_icmp .eq off, 3)) (ht : (pc : Int) + off = (tgt : Int)) (hx : inR x) (hy : inR y) (kt : x = y → VV own cc nL R G Po tgt lv st m) (kf : ¬ x = y → VV own cc nL R G Po (pc + 3) lv st m) : VV own cc nL R G Po pc lv (vi y :: vi x :: st) m := by
  intro p l e s mi args below meth c cells slots Q D cy ad A C H locs ls hR hP hS hl
  exact lv_icmp_eq C.1 C.2.1 hd ht (fun z => kt ((oi_eq hx hy).mp z) C hR hP hS hl) (fun z => kf (fun q => z ((oi_eq hx hy).mpr q)) C hR hP hS hl)
theorem V_if_eq {x : Int} {off : Int} (tgt : Nat) (hd : decode cc pc = .ok (.ifCond .eq off, 3)) (ht : (pc : Int) + off = (tgt : Int)) (hx : inR x) (kt : x = 0 → VV own cc nL R G Po tgt lv st m) (kf : ¬ x = 0 → VV own cc nL R G Po (pc + 3) lv st m) : VV own cc nL R G Po pc lv (vi x :: st) m := by
  intro p l e s mi args below meth c cells slots Q D cy ad A C H locs ls hR hP hS hl
  exact lv_if_eq C.1 C.2.1 hd ht (fun z => kt ((oi_eq hx inR0).mp z) C hR hP hS hl) (fun z => kf (fun q => z ((oi_eq hx inR0).mpr q)) C hR hP hS hl)
theorem V_icmp_ne {x y : Int} {off : Int} (tgt : Nat) (hd : decode cc pc = .ok (.if_icmp .ne off, 3)) (ht : (pc : Int) + off = (tgt : Int)) (hx : inR x) (hy : inR y) (kt : ¬ x = y → VV own cc nL R G Po tgt lv st m) (kf : x = y → VV own cc nL R G Po (pc + 3) lv st m) : VV own cc nL R G Po pc lv (vi y :: vi x :: st) m := by
  intro p l e s mi args below meth c cells slots Q D cy ad A C H locs ls hR hP hS hl
  exact lv_icmp_ne C.1 C.2.1 hd ht (fun z => kt (fun q => z ((oi_eq hx hy).mpr q)) C hR hP hS hl) (fun z => kf ((oi_eq hx hy).mp (z)) C hR hP hS hl)
theorem V_if_ne {x : Int} {off : Int} (tgt : Nat) (hd : decode cc pc = .ok (.ifCond .ne off, 3)) (ht : (pc : Int) + off = (tgt : Int)) (hx : inR x) (kt : ¬ x = 0 → VV own cc nL R G Po tgt lv st m) (kf : x = 0 → VV own cc nL R G Po (pc + 3) lv st m) : VV own cc nL R G Po pc lv (vi x :: st) m := by
  intro p l e s mi args below meth c cells slots Q D cy ad A C H locs ls hR hP hS hl
  exact lv_if_ne C.1 C.2.1 hd ht (fun z => kt (fun q => z ((oi_eq hx inR0).mpr q)) C hR hP hS hl) (fun z => kf ((oi_eq hx inR0).mp (z)) C hR hP hS hl)
theorem V_icmp_lt {x y : Int} {off : Int} (tgt : Nat) (hd : decode cc pc = .ok (.if_icmp .lt off, 3)) (ht : (pc : Int) + off = (tgt : Int)) (hx : inR x) (hy : inR y) (kt : x < y → VV own cc nL R G Po tgt lv st m) (kf : ¬ x < y → VV own cc nL R G Po (pc + 3) lv st m) : VV own cc nL R G Po pc lv (vi y :: vi x :: st) m := by
  intro p l e s mi args below meth c cells slots Q D cy ad A C H locs ls hR hP hS hl
  exact lv_icmp_lt C.1 C.2.1 hd ht (fun z => kt ((oi_lt hx hy).mp z) C hR hP hS hl) (fun z => kf (fun q => z ((oi_lt hx hy).mpr q)) C hR hP hS hl)
theorem V_if_lt {x : Int} {off : Int} (tgt : Nat) (hd : decode cc pc = .ok (.ifCond .lt off, 3)) (ht : (pc : Int) + off = (tgt : Int)) (hx : inR x) (kt : x < 0 → VV own cc nL R G Po tgt lv st m) (kf : ¬ x < 0 → VV own cc nL R G Po (pc + 3) lv st m) : VV own cc nL R G Po pc lv (vi x :: st) m := by
  intro p l e s mi args below meth c cells slots Q D cy ad A C H locs ls hR hP hS hl
  exact lv_if_lt C.1 C.2.1 hd ht (fun z => kt ((oi_lt hx inR0).mp z) C hR hP hS hl) (fun z => kf (fun q => z ((oi_lt hx inR0).mpr q)) C hR hP hS hl)
theorem V_icmp_ge {x y : Int} {off : Int} (tgt : Nat) (hd : decode cc pc = .ok (.if_icmp .ge off, 3)) (ht : (pc : Int) + off = (tgt : Int)) (hx : inR x) (hy : inR y) (kt : y ≤ x → VV own cc nL R G Po tgt lv st m) (kf : ¬ y ≤ x → VV own cc nL R G Po (pc + 3) lv st m) : VV own cc nL R G Po pc lv (vi y :: vi x :: st) m := by
  intro p l e s mi args below meth c cells slots Q D cy ad A C H locs ls hR hP hS hl
  exact lv_icmp_ge C.1 C.2.1 hd ht (fun z => kt ((oi_le hy hx).mp z) C hR hP hS hl) (fun z => kf (fun q => z ((oi_le hy hx).mpr q)) C hR hP hS hl)
theorem V_if_ge {x : Int} {off : Int} (tgt : Nat) (hd : decode cc pc = .ok (.ifCond .ge off, 3)) (ht : (pc : Int) + off = (tgt : Int)) (hx : inR x) (kt : 0 ≤ x → VV own cc nL R G Po tgt lv st m) (kf : ¬ 0 ≤ x → VV own cc nL R G Po (pc + 3) lv st m) : VV own cc nL R G Po pc lv (vi x :: st) m := by
  intro p l e s mi args below meth c cells slots Q D cy ad A C H locs ls hR hP hS hl
  exact lv_if_ge C.1 C.2.1 hd ht (fun z => kt ((oi_le inR0 hx).mp z) C hR hP hS hl) (fun z => kf (fun q => z ((oi_le inR0 hx).mpr q)) C hR hP hS hl)
theorem V_icmp_gt {x y : Int} {off : Int} (tgt : Nat) (hd : decode cc pc = .ok (.if_icmp .gt off, 3)) (ht : (pc : Int) + off = (tgt : Int)) (hx : inR x) (hy : inR y) (kt : y < x → VV own cc nL R G Po tgt lv st m) (kf : ¬ y < x → VV own cc nL R G Po (pc + 3) lv st m) : VV own cc nL R G Po pc lv (vi y :: vi x :: st) m := by
  intro p l e s mi args below meth c cells slots Q D cy ad A C H locs ls hR hP hS hl
  exact lv_icmp_gt C.1 C.2.1 hd ht (fun z => kt ((oi_lt hy hx).mp z) C hR hP hS hl) (fun z => kf (fun q => z ((oi_lt hy hx).mpr q)) C hR hP hS hl)
theorem V_if_gt {x : Int} {off : Int} (tgt : Nat) (hd : decode cc pc = .ok (.ifCond .gt off, 3)) (ht : (pc : Int) + off = (tgt : Int)) (hx : inR x) (kt : 0 < x → VV own cc nL R G Po tgt lv st m) (kf : ¬ 0 < x → VV own cc nL R G Po (pc + 3) lv st m) : VV own cc nL R G Po pc lv (vi x :: st) m := by
  intro p l e s mi args below meth c cells slots Q D cy ad A C H locs ls hR hP hS hl
  exact lv_if_gt C.1 C.2.1 hd ht (fun z => kt ((oi_lt inR0 hx).mp z) C hR hP hS hl) (fun z => kf (fun q => z ((oi_lt inR0 hx).mpr q)) C hR hP hS hl)
theorem V_icmp_le {x y : Int} {off : Int} (tgt : Nat) (hd : decode cc pc = .ok (.if_icmp .le off, 3)) (ht : (pc : Int) + off = (tgt : Int)) (hx : inR x) (hy : inR y) (kt : x ≤ y → VV own cc nL R G Po tgt lv st m) (kf : ¬ x ≤ y → VV own cc nL R G Po (pc + 3) lv st m) : VV own cc nL R G Po pc lv (vi y :: vi x :: st) m := by
  intro p l e s mi args below meth c cells slots Q D cy ad A C H locs ls hR hP hS hl
  exact lv_icmp_le C.1 C.2.1 hd ht (fun z => kt ((oi_le hx hy).mp z) C hR hP hS hl) (fun z => kf (fun q => z ((oi_le hx hy).mpr q)) C hR hP hS hl)
theorem V_if_le {x : Int} {off : Int} (tgt : Nat) (hd : decode cc pc = .ok (.ifCond .le off, 3)) (ht : (pc : Int) + off = (tgt : Int)) (hx : inR x) (kt : x ≤ 0 → VV own cc nL R G Po tgt lv st m) (kf : ¬ x ≤ 0 → VV own cc nL R G Po (pc + 3) lv st m) : VV own cc nL R G Po pc lv (vi x :: st) m := by
  intro p l e s mi args below meth c cells slots Q D cy ad A C H locs ls hR hP hS hl
  exact lv_if_le C.1 C.2.1 hd ht (fun z => kt ((oi_le hx inR0).mp z) C hR hP hS hl) (fun z => kf (fun q => z ((oi_le hx inR0).mpr q)) C hR hP hS hl)
theorem V_tableOut {dflt lo hi : Int} {offs : Array Int} {len : Nat} {x : Int} (tgt : Nat) (hd : decode cc pc = .ok (.tableswitch dflt lo hi offs, len)) (hx : inR x) (h : x < lo ∨ hi < x) (ht : (pc : Int) + dflt = (tgt : Int)) (k : VV own cc nL R G Po tgt lv st m) : VV own cc nL R G Po pc lv (vi x :: st) m := by
  intro p l e s mi args below meth c cells slots Q D cy ad A C H locs ls hR hP hS hl
  exact lv_tableOut C.1 C.2.1 hd (by rw [Int32.toInt_ofInt_of_le (inR_lo hx).1 (inR_lo hx).2]; exact h) ht (k C hR hP hS hl)
theorem V_tableIn {dflt lo hi : Int} {offs : Array Int} {len : Nat} {x : Int} {off : Int} (v : Int) (tgt : Nat) (hd : decode cc pc = .ok (.tableswitch dflt lo hi offs, len)) (hx : x = v) (hv : inR v) (h : lo ≤ v ∧ v ≤ hi) (ho : offs[(v - lo).toNat]? = some off) (ht : (pc : Int) + off = (tgt : Int)) (k : VV own cc nL R G Po tgt lv st m) : VV own cc nL R G Po pc lv (vi x :: st) m := by
  intro p l e s mi args below meth c cells slots Q D cy ad A C H locs ls hR hP hS hl
  subst hx
  have e := Int32.toInt_ofInt_of_le (inR_lo hv).1 (inR_lo hv).2
  exact lv_tableIn C.1 C.2.1 hd (by rw [e]; omega) (by rw [e]; omega) (by rw [e]; exact ho) ht (k C hR hP hS hl)
theorem V_lookup {dflt : Int} {ps : Array (Int × Int)} {len : Nat} {x : Int} {off : Int} (tgt : Nat) (hd : decode cc pc = .ok (.lookupswitch dflt ps, len)) (hx : inR x) (hp : (ps.toList.zip (ps.toList.drop 1)).all (fun (a, next) => a.1 < next.1) = true) (ho : Op.lookupswitch.offset ps.toList dflt x = off) (ht : (pc : Int) + off = (tgt : Int)) (k : VV own cc nL R G Po tgt lv st m) : VV own cc nL R G Po pc lv (vi x :: st) m := by
  intro p l e s mi args below meth c cells slots Q D cy ad A C H locs ls hR hP hS hl
  exact lv_lookup C.1 C.2.1 hd hp (by rw [Int32.toInt_ofInt_of_le (inR_lo hx).1 (inR_lo hx).2]; exact ho) ht (k C hR hP hS hl)
theorem V_geti {index ci k N : Nat} {T : u_T} {Cn : String} {o : Nat} (hd : decode cc pc = .ok (.getfield index, 3)) (hin : ∀ w ∈ u_ws Cn T N, w ∈ mm_tb) (hw : Cond.fieldLink own index (T k).1 (T k).2.1 (T k).2.2.1 ∈ mm_tb) (hc : vwCl[ci]? = some (Cn, T, N)) (hk : k < N) (hf : (mmOff ci)[k]? = some none) (hs : mmSh[o]? = some (.inl ci)) {v : Int} (hv : m.1 o k = v) (kk : inR v → VV own cc nL R G Po (pc + 3) lv (vi v :: st) m) : VV own cc nL R G Po pc lv (.ref o :: st) m := by
  intro p l e s mi args below meth c cells slots Q D cy ad A C H locs ls hR hP hS hl
  subst hv
  exact va_get (D := D) (ci := ci) C.1 C.2.1 C.2.2.2.2.1 hin C.2.2.2.1 C.2.2.2.2.2.2.2.1 hP o ((mmW_at cy ad m (mmSh_lt hs)).trans (by rw [mmCell_obj hs])) hc k hk (C.2.2.2.2.1 _ hw) (fun _ h9 => h9) (mmF_at hf) hd (kk (hR o k) C hR hP hS hl)
theorem V_geta {index ci k N d : Nat} {T : u_T} {Cn : String} {o : Nat} (hd : decode cc pc = .ok (.getfield index, 3)) (hin : ∀ w ∈ u_ws Cn T N, w ∈ mm_tb) (hw : Cond.fieldLink own index (T k).1 (T k).2.1 (T k).2.2.1 ∈ mm_tb) (hc : vwCl[ci]? = some (Cn, T, N)) (hk : k < N) (hf : (mmOff ci)[k]? = some (some d)) (hs : mmSh[o]? = some (.inl ci)) {o' : Nat} (ho : o + d = o') (kk : VV own cc nL R G Po (pc + 3) lv (.ref o' :: st) m) : VV own cc nL R G Po pc lv (.ref o :: st) m := by
  intro p l e s mi args below meth c cells slots Q D cy ad A C H locs ls hR hP hS hl
  exact va_get (D := D) (ci := ci) C.1 C.2.1 C.2.2.2.2.1 hin C.2.2.2.1 C.2.2.2.2.2.2.2.1 hP o ((mmW_at cy ad m (mmSh_lt hs)).trans (by rw [mmCell_obj hs])) hc k hk (C.2.2.2.2.1 _ hw) (fun _ h9 => h9) (mmF_at hf) hd (by subst ho; exact kk C hR hP hS hl)
theorem V_put {index ci k N : Nat} {T : u_T} {Cn : String} {o : Nat} {x : Int} {ty : FieldType} (ty0 : Nat → FieldType) (hd : decode cc pc = .ok (.putfield index, 3)) (hin : ∀ w ∈ u_ws Cn T N, w ∈ mm_tb) (hty : ∀ k, k < N → parseFieldDescriptor (T k).2.2.1 = some (ty0 k)) (hnm : ∀ a, a < N → ∀ b, b < N → a ≠ b → (T a).2.1 ≠ (T b).2.1) (hw : Cond.fieldLink own index (T k).1 (T k).2.1 (T k).2.2.1 ∈ mm_tb) (hc : vwCl[ci]? = some (Cn, T, N)) (hk : k < N) (hf : (mmOff ci)[k]? = some none) (hs : mmSh[o]? = some (.inl ci)) (hfin : (T k).2.2.2 = false) (hpd : parseFieldDescriptor (T k).2.2.1 = some ty) (hn : narrow ty (vi x) = vi x) (hfit : fits ty (vi x) = true) (hx : inR x) (kk : VV own cc nL R G Po (pc + 3) lv st (mwr m o k x)) : VV own cc nL R G Po pc lv (vi x :: .ref o :: st) m := by
  intro p l e s mi args below meth c cells slots Q D cy ad A C H locs ls hR hP hS hl
  have he := (mmW_at cy ad m (mmSh_lt hs)).trans (by rw [mmCell_obj hs])
  refine va_put (D := D) (ci := ci) C.1 C.2.1 C.2.2.2.2.1 hin ty0 hty hnm C.2.2.2.1 C.2.2.2.2.2.2.2.1 hP (C.2.2.2.2.2.2.2.2.1 m) hS o he hc k hk (C.2.2.2.2.1 _ hw) (fun _ h9 => h9) hfin hpd hn hfit (by have := (List.getElem?_eq_some_iff.mp hf).1; simpa [mmF] using this) hd (fun H1 locs1 hP1 _ hS1 => ?_)
  rw [show mmV ad (vi x) = vi x from rfl, mmF_set hf, mmW_set cy ad m (mwr m o k x) (mmSh_lt hs) (mmCell_obj hs) (fun j _ hj => mmCell_same (mwr_ne hj) rfl)] at hP1
  exact kk C (mwr_R hR hx) hP1 hS1 hl
theorem V_iald {n a : Nat} {i : Int} (hd : decode cc pc = .ok (.iaload, 1)) (hs : mmSh[a]? = some (.inr (0, n))) (hi : inR i) (hin : 0 ≤ i ∧ i < n) {j : Nat} (hj : i.toNat = j) {v : Int} (hv : m.1 a j = v) (kk : inR v → VV own cc nL R G Po (pc + 1) lv (vi v :: st) m) : VV own cc nL R G Po pc lv (vi i :: .ref a :: st) m := by
  intro p l e s mi args below meth c cells slots Q D cy ad A C H locs ls hR hP hS hl
  subst hj hv
  refine va_iald C.1 C.2.1 C.2.2.2.2.2.2.2.1 hP a 0 ((mmW_at cy ad m (mmSh_lt hs)).trans (by rw [mmCell_int hs])) rfl (oi_in hi hin) hd ?_
  rw [oi_cl hi]
  exact kk (hR a i.toNat) C hR hP hS hl
theorem V_cald {n a : Nat} {i : Int} (hd : decode cc pc = .ok (.caload, 1)) (hs : mmSh[a]? = some (.inr (1, n))) (hi : inR i) (hin : 0 ≤ i ∧ i < n) {j : Nat} (hj : i.toNat = j) {v : Int} (hv : m.1 a j = v) (kk : inR v → VV own cc nL R G Po (pc + 1) lv (vi v :: st) m) : VV own cc nL R G Po pc lv (vi i :: .ref a :: st) m := by
  intro p l e s mi args below meth c cells slots Q D cy ad A C H locs ls hR hP hS hl
  subst hj hv
  refine va_cald C.1 C.2.1 C.2.2.2.2.2.2.2.1 hP a 1 ((mmW_at cy ad m (mmSh_lt hs)).trans (by rw [mmCell_chr hs])) rfl (oi_in hi hin) hd ?_
  rw [oi_cl hi]
  exact kk (hR a i.toNat) C hR hP hS hl
theorem V_iast {n a : Nat} {i x : Int} (hd : decode cc pc = .ok (.iastore, 1)) (hs : mmSh[a]? = some (.inr (0, n))) (hi : inR i) (hx : inR x) (hin : 0 ≤ i ∧ i < n) {j : Nat} (hj : i.toNat = j) (kk : VV own cc nL R G Po (pc + 1) lv st (mwr m a j x)) : VV own cc nL R G Po pc lv (vi x :: vi i :: .ref a :: st) m := by
  intro p l e s mi args below meth c cells slots Q D cy ad A C H locs ls hR hP hS hl
  subst hj
  refine va_iast C.1 C.2.1 C.2.2.2.2.2.2.2.1 hP (C.2.2.2.2.2.2.2.2.1 m) hS a 0 ((mmW_at cy ad m (mmSh_lt hs)).trans (by rw [mmCell_int hs])) rfl (oi_in hi hin) hd (fun H1 locs1 hP1 _ hS1 => ?_)
  rw [oi_cl hi, mmRow_wr, mmW_set cy ad m (mwr m a i.toNat x) (mmSh_lt hs) (mmCell_int hs) (fun j _ hj => mmCell_same (mwr_ne hj) rfl)] at hP1
  exact kk C (mwr_R hR hx) hP1 hS1 hl
theorem V_cast {n a : Nat} {i x : Int} (hd : decode cc pc = .ok (.castore, 1)) (hs : mmSh[a]? = some (.inr (1, n))) (hi : inR i) (hx : inR x) (hin : 0 ≤ i ∧ i < n) (hc : 0 ≤ x ∧ x ≤ 65535) {j : Nat} (hj : i.toNat = j) (kk : VV own cc nL R G Po (pc + 1) lv st (mwr m a j x)) : VV own cc nL R G Po pc lv (vi x :: vi i :: .ref a :: st) m := by
  intro p l e s mi args below meth c cells slots Q D cy ad A C H locs ls hR hP hS hl
  subst hj
  have e := Int32.toInt_ofInt_of_le (inR_lo hx).1 (inR_lo hx).2
  have hn : vp_nar .char (Int32.ofInt x) = Int32.ofInt x := by
    show (Int32.ofInt x).toUInt32.toUInt16.toUInt32.toInt32 = _
    exact lg_i2c_small (by rw [e]; exact hc.1) (by rw [e]; omega)
  refine va_cast C.1 C.2.1 C.2.2.2.2.2.2.2.1 hP (C.2.2.2.2.2.2.2.2.1 m) hS a 1 ((mmW_at cy ad m (mmSh_lt hs)).trans (by rw [mmCell_chr hs])) rfl (oi_in hi hin) hd (fun H1 locs1 hP1 _ hS1 => ?_)
  rw [hn, oi_cl hi, mmRow_wr, mmW_set cy ad m (mwr m a i.toNat x) (mmSh_lt hs) (mmCell_chr hs) (fun j _ hj => mmCell_same (mwr_ne hj) rfl)] at hP1
  exact kk C (mwr_R hR hx) hP1 hS1 hl
theorem V_aald {n a q : Nat} {i : Int} (hd : decode cc pc = .ok (.aaload, 1)) (hs : mmSh[a]? = some (.inr (2, n))) (hi : inR i) (hin : 0 ≤ i ∧ i < n) {j : Nat} (hj : i.toNat = j) (hq : m.2 j = some q) (kk : VV own cc nL R G Po (pc + 1) lv (.ref q :: st) m) : VV own cc nL R G Po pc lv (vi i :: .ref a :: st) m := by
  intro p l e s mi args below meth c cells slots Q D cy ad A C H locs ls hR hP hS hl
  subst hj
  refine va_aldq C.1 C.2.1 C.2.2.2.2.2.2.2.1 hP a 2 ((mmW_at cy ad m (mmSh_lt hs)).trans (by rw [mmCell_ref hs])) rfl (oi_in hi hin) hd ?_
  rw [oi_cl hi, hq]
  exact kk C hR hP hS hl
/-- the one row of references is at the cell 20 -/
theorem V_aast {q : Nat} {i : Int} (hd : decode cc pc = .ok (.aastore, 1)) (hi : inR i) (hin : 0 ≤ i ∧ i < 4) (hs : mmSh[q]? = some (.inl 2)) {j : Nat} (hj : i.toNat = j) (kk : VV own cc nL R G Po (pc + 1) lv st (mwq m j q)) : VV own cc nL R G Po pc lv (.ref q :: vi i :: .ref 20 :: st) m := by
  intro p l e s mi args below meth c cells slots Q D cy ad A C H locs ls hR hP hS hl
  subst hj
  have h20 : mmSh[20]? = some (.inr (2, 4)) := by decide +kernel
  refine va_astq C.1 C.2.1 C.2.2.2.2.2.2.2.1 hP (C.2.2.2.2.2.2.2.2.1 m) hS 20 2 q 2 (r := (RX2, TX2, 10)) ((mmW_at cy ad m (mmSh_lt h20)).trans (by rw [mmCell_ref h20])) rfl ((mmW_at cy ad m (mmSh_lt hs)).trans (by rw [mmCell_obj hs])) rfl (oi_in hi hin) hd (fun H1 locs1 hP1 _ hS1 => ?_)
  have e : va_up (fun k => (m.2 k).map ad) i.toNat (some (ad q)) = fun k => ((mwq m i.toNat q).2 k).map ad := by
    funext k
    by_cases hk : k = i.toNat
    · simp [va_up, mwq, hk]
    · simp [va_up, mwq, hk]
  have h51 : ∀ j, j < 51 → j ≠ 20 → ∀ n, mmSh[j]? ≠ some (.inr (2, n)) := by
    intro j hj hne n hn
    have h2 : ∀ j, j < 51 → j ≠ 20 → mmK2 mmSh[j]? = true := by decide +kernel
    have h3 := h2 j hj hne
    rw [hn] at h3
    cases h3
  rw [oi_cl hi, e, mmW_set cy ad m (mwq m i.toNat q) (mmSh_lt h20) (mmCell_ref h20) (fun j hj hne => ?_)] at hP1
  · exact kk C hR hP1 hS1 hl
  · have hh := h51 j hj hne
    have h3 : ∀ j, j < 51 → ∀ t n, mmSh[j]? = some (.inr (t, n)) → t = 0 ∨ t = 1 ∨ t = 2 := by
      intro j hj t n hn
      have h4 : ∀ j, j < 51 → mmKd mmSh[j]? = true := by decide +kernel
      have h5 := h4 j hj
      rw [hn] at h5
      simpa [mmKd, or_assoc] using h5
    cases hz : mmSh[j]? with
    | none => exact absurd hz (by rw [List.getElem?_eq_some_iff.mpr ⟨by rw [mmSh_len]; exact hj, rfl⟩]; exact fun h => by cases h)
    | some z =>
      cases z with
      | inl ci => rw [mmCell_obj hz, mmCell_obj hz]; rfl
      | inr tn =>
        obtain ⟨t, n⟩ := tn
        rcases h3 j hj t n hz with rfl | rfl | rfl
        · rw [mmCell_int hz, mmCell_int hz]; rfl
        · rw [mmCell_chr hz, mmCell_chr hz]; rfl
        · exact absurd hz (hh n)
theorem V_ret {v : Option Value} (hr : mmRet cc pc v) (hq : Po v m) : VV own cc nL R G Po pc lv v.toList m := by
  intro p l e s mi args below meth c cells slots Q D cy ad A C H locs ls hR hP hS hl
  exact C.2.2.2.2.2.2.2.2.2.2 v m H locs ls pc hq hR hr hP hS
theorem V_reti {x : Int} (hd : decode cc pc = .ok (.ireturn, 1)) (hq : Po (some (vi x)) m) : VV own cc nL R G Po pc lv [vi x] m := V_ret (v := some (vi x)) (Or.inl ⟨x, rfl, hd⟩) hq
theorem V_retv (hd : decode cc pc = .ok (.return_, 1)) (hq : Po none m) : VV own cc nL R G Po pc lv [] m := V_ret (v := none) (Or.inr ⟨rfl, hd⟩) hq
/-- an exact contract over the whole memory: an int, or nothing, is answered -/
def mmPre (D : va_G) (cy : ClassId × ClassId × ClassId) (ad : Nat → Nat) (as : List Value) (m : Mem) (sz : Nat) : Array Value → State → Prop := va_Pc (as.map (mmV ad)) (fun U => U.heap.size = sz ∧ va_P D vwCl (mmW cy ad m) U.heap ∧ va_K D vwCl (mmT cy) U ∧ va_D (fun _ => True) (mmW cy ad m))
def mmWs (y : MethodName) (cc : ByteArray) (nL : Nat) (ret : Option FieldType) : List Cond := Cond.code y cc nL ret :: mm_tb
def CTi (y : MethodName) (cc : ByteArray) (nL : Nat) (ret : Option FieldType) (rm : Room) (as : List Value) (m : Mem) (r : Int × Mem) : Prop := mmR m → ∀ (l : Launch) (D : va_G) (cy : ClassId × ClassId × ClassId) (ad : Nat → Nat) (sz : Nat),
  Met l y (mmWs y cc nL ret) rm (mmPre D cy ad as m sz) (va_Qi (fun (r2 : Int32) (_ : Unit) => r2 = Int32.ofInt r.1 ∧ inR r.1 ∧ mmR r.2) (fun _ t => va_P D vwCl (mmW cy ad r.2) t.heap) (va_A (mmW cy ad m) sz)) 0 0 (va_A (mmW cy ad m) sz)
def CTv (y : MethodName) (cc : ByteArray) (nL : Nat) (rm : Room) (as : List Value) (m : Mem) (m' : Mem) : Prop := mmR m → ∀ (l : Launch) (D : va_G) (cy : ClassId × ClassId × ClassId) (ad : Nat → Nat) (sz : Nat),
  Met l y (mmWs y cc nL none) rm (mmPre D cy ad as m sz) (va_Qv (fun (_ : Unit) => mmR m') (fun _ t => va_P D vwCl (mmW cy ad m') t.heap) (va_A (mmW cy ad m) sz)) 0 0 (va_A (mmW cy ad m) sz)
theorem mmA_in {cy : ClassId × ClassId × ClassId} {ad : Nat → Nat} {m : Mem} {A : Nat → Prop} {H0 H : Heap} {locs : List Loc} (hD : va_D A (mmW cy ad m)) (hS : va_S A H0 H locs) (hA : ∀ q, H0.size ≤ q → A q) : ∀ q, va_A (mmW cy ad m) H.size q → A q := by
  intro q h
  rcases h with ⟨k, e, h⟩ | h
  · exact hD.2 k (q, e) h
  · exact hA q (Nat.le_trans hS.1 h)
theorem mmBlind (D : va_G) (cy : ClassId × ClassId × ClassId) (ad : Nat → Nat) (as : List Value) (m : Mem) (sz : Nat) : FrameBlind (mmPre D cy ad as m sz) := fun a U g mk q => by
  obtain ⟨q0, q1, qP, qK, qD⟩ := q
  exact ⟨q0, q1, qP, va_K.moved (u := U) (U := U.calling g mk a) (Vm.Alike.refl U.vm) qK, qD⟩
theorem mm_ok {w : Cond} (h : w ∈ mm_tb) : (w.onTables && w.keeps) = true ∨ ∃ ty, w = .arrayClass ty := good_of_word (List.mem_filter.mp h).2
theorem mmGV {own Cn : String} {index : Nat} {y : MethodName} {cc : ByteArray} {nL : Nat} {ret : Option FieldType} (gl : Cond.methodLink own index y ∈ mm_tb) (gi : Cond.instanceMethod y ∈ mm_tb) (gs : Cond.selects Cn y y ∈ mm_tb) (gt : Cond.initialized Cn ∈ mm_tb) (gc : Cond.code y cc nL ret ∈ mm_tb) : GoodIn mm_tb (wsV own index Cn y (mmWs y cc nL ret)) := by
  intro w hw
  have hm : w ∈ mm_tb := by
    simp only [wsV, mmWs, List.cons_append, List.nil_append, List.mem_cons] at hw
    rcases hw with rfl | rfl | rfl | rfl | rfl | hw <;> assumption
  exact ⟨hm, mm_ok hm⟩
theorem mmGS {own : String} {index : Nat} {y : MethodName} {cc : ByteArray} {nL : Nat} {ret : Option FieldType} (gl : Cond.methodLink own index y ∈ mm_tb) (gi : Cond.static y ∈ mm_tb) (gt : Cond.initialized y.cls ∈ mm_tb) (gc : Cond.code y cc nL ret ∈ mm_tb) : GoodIn mm_tb (va_wsS own index y (mmWs y cc nL ret)) := by
  intro w hw
  have hm : w ∈ mm_tb := by
    simp only [va_wsS, mmWs, List.cons_append, List.nil_append, List.mem_cons] at hw
    rcases hw with rfl | rfl | rfl | rfl | hw <;> assumption
  exact ⟨hm, mm_ok hm⟩
theorem V_callV {y : MethodName} {rm : Room} {as st0 : List Value} {r : Int × Mem} {bytes : ByteArray} {maxL index ci : Nat} {ret : Option FieldType} {Cn : String} {q : vw_C} {o : Nat} (n : Nat)
    (hd : decode cc pc = .ok (.invokevirtual index, 3)) (hM : CTi y bytes maxL ret rm (.ref o :: as) m r) (gl : Cond.methodLink own index y ∈ mm_tb) (gi : Cond.instanceMethod y ∈ mm_tb) (gs : Cond.selects Cn y y ∈ mm_tb) (gt : Cond.initialized Cn ∈ mm_tb) (gc : Cond.code y bytes maxL ret ∈ mm_tb)
    (hy : y.cls = Cn ∧ y.cls ≠ "java/lang/invoke/MethodHandle" ∧ y.cls ≠ "java/lang/invoke/VarHandle" ∧ (parseMethodDescriptor y.desc).map (fun d => d.parameters.length) = some n)
    (hrm : rm.cells = 0 ∧ rm.slots = 0 ∧ rm.frames + 1 ≤ R.frames ∧ 8 + (maxL + 11) + rm.locals ≤ R.locals) (hs : mmSh[o]? = some (.inl ci)) (hc : vwCl[ci]? = some q) (hq : q.1 = Cn) (hn : as.length = n)
    (hst : st0 = as.reverse ++ .ref o :: st) (hcat : (st.map fun v => v.category).sum ≤ 8) (kk : inR r.1 → VV own cc nL R G Po (pc + 3) lv (vi r.1 :: st) r.2) : VV own cc nL R G Po pc lv st0 m := by
  intro p l e s mi args below meth c cells slots Q D cy ad A C H locs ls hR hP hS hl
  subst hst
  obtain ⟨hx, hb, hml, hown, hts, hcs, hA, hK, hD, hG, hfin⟩ := id C
  have hFc := mmA_in (hD m) hS hA
  have he := (mmW_at cy ad m (mmSh_lt hs)).trans (by rw [mmCell_obj hs])
  have hrun := va_runV (As := as.map (mmV ad)) (rest := st.map (mmV ad)) (b := ad o) (C := Cn) (H := H) (locs := locs) (cells := cells) (slots := slots) (p := p) (e := e) (below := below) (meth := meth) (R := R) (g := F0 mi pc ls ((as.reverse ++ Value.ref o :: st).map (mmV ad))) ⟨hx, hb, hml, hown, hts⟩ (hM hR l D cy ad H.size) (cwV n hts (mmGV gl gi gs gt gc) rfl hrm.1 hrm.2.1 hy ⟨hrm.2.2.1, hrm.2.2.2⟩)
    ⟨mmBlind D cy ad _ m H.size, by rw [← hq]; exact va_recv hK hP hc he, fun U hU hW => ⟨rfl, by rw [hU], by rw [hU]; exact hP, va_K.moved hW.alike hK, (hD m).weaken (fun _ _ _ _ => trivial)⟩⟩
    rfl (by rw [List.length_map]; exact hn) hl.1 (by simp [mmV]) (lv_room (by rw [mmV_cats]; exact hcat)) hd ⟨by omega, by omega⟩
  refine va_calli hrun hS (fun q _ h => hFc q h) hFc (fun r1 u t H1 locs1 ht hvm hpo hB hz1 hk1 hS1 => ?_)
  obtain ⟨rfl, hr1, hr2⟩ := hpo
  rw [ht] at hB
  exact kk hr1 C hr2 hB hS1 hl
theorem V_callVv {y : MethodName} {rm : Room} {as st0 : List Value} {m' : Mem} {bytes : ByteArray} {maxL index ci : Nat} {Cn : String} {q : vw_C} {o : Nat} (n : Nat)
    (hd : decode cc pc = .ok (.invokevirtual index, 3)) (hM : CTv y bytes maxL rm (.ref o :: as) m m') (gl : Cond.methodLink own index y ∈ mm_tb) (gi : Cond.instanceMethod y ∈ mm_tb) (gs : Cond.selects Cn y y ∈ mm_tb) (gt : Cond.initialized Cn ∈ mm_tb) (gc : Cond.code y bytes maxL none ∈ mm_tb)
    (hy : y.cls = Cn ∧ y.cls ≠ "java/lang/invoke/MethodHandle" ∧ y.cls ≠ "java/lang/invoke/VarHandle" ∧ (parseMethodDescriptor y.desc).map (fun d => d.parameters.length) = some n)
    (hrm : rm.cells = 0 ∧ rm.slots = 0 ∧ rm.frames + 1 ≤ R.frames ∧ 8 + (maxL + 11) + rm.locals ≤ R.locals) (hs : mmSh[o]? = some (.inl ci)) (hc : vwCl[ci]? = some q) (hq : q.1 = Cn) (hn : as.length = n)
    (hst : st0 = as.reverse ++ .ref o :: st) (hcat : (st.map fun v => v.category).sum ≤ 8) (kk : VV own cc nL R G Po (pc + 3) lv st m') : VV own cc nL R G Po pc lv st0 m := by
  intro p l e s mi args below meth c cells slots Q D cy ad A C H locs ls hR hP hS hl
  subst hst
  obtain ⟨hx, hb, hml, hown, hts, hcs, hA, hK, hD, hG, hfin⟩ := id C
  have hFc := mmA_in (hD m) hS hA
  have he := (mmW_at cy ad m (mmSh_lt hs)).trans (by rw [mmCell_obj hs])
  have hrun := va_runV (As := as.map (mmV ad)) (rest := st.map (mmV ad)) (b := ad o) (C := Cn) (H := H) (locs := locs) (cells := cells) (slots := slots) (p := p) (e := e) (below := below) (meth := meth) (R := R) (g := F0 mi pc ls ((as.reverse ++ Value.ref o :: st).map (mmV ad))) ⟨hx, hb, hml, hown, hts⟩ (hM hR l D cy ad H.size) (cwV n hts (mmGV gl gi gs gt gc) rfl hrm.1 hrm.2.1 hy ⟨hrm.2.2.1, hrm.2.2.2⟩)
    ⟨mmBlind D cy ad _ m H.size, by rw [← hq]; exact va_recv hK hP hc he, fun U hU hW => ⟨rfl, by rw [hU], by rw [hU]; exact hP, va_K.moved hW.alike hK, (hD m).weaken (fun _ _ _ _ => trivial)⟩⟩
    rfl (by rw [List.length_map]; exact hn) hl.1 (by simp [mmV]) (lv_room (by rw [mmV_cats]; exact hcat)) hd ⟨by omega, by omega⟩
  refine va_callv hrun hS (fun q _ h => hFc q h) hFc (fun u t H1 locs1 ht hvm hpo hB hz1 hk1 hS1 => ?_)
  rw [ht] at hB
  exact kk C hpo hB hS1 hl
theorem V_callS {y : MethodName} {rm : Room} {as st0 : List Value} {r : Int × Mem} {bytes : ByteArray} {maxL index : Nat} {ret : Option FieldType} (n : Nat)
    (hd : decode cc pc = .ok (.invokestatic index, 3)) (hM : CTi y bytes maxL ret rm as m r) (gl : Cond.methodLink own index y ∈ mm_tb) (gi : Cond.static y ∈ mm_tb) (gt : Cond.initialized y.cls ∈ mm_tb) (gc : Cond.code y bytes maxL ret ∈ mm_tb)
    (hy : y.cls ≠ "java/lang/invoke/MethodHandle" ∧ y.cls ≠ "java/lang/invoke/VarHandle" ∧ (parseMethodDescriptor y.desc).map (fun d => d.parameters.length) = some n)
    (hrm : rm.cells = 0 ∧ rm.slots = 0 ∧ rm.frames + 1 ≤ R.frames ∧ 8 + (maxL + 11) + rm.locals ≤ R.locals) (hn : as.length = n)
    (hst : st0 = as.reverse ++ st) (hcat : (st.map fun v => v.category).sum ≤ 8) (kk : inR r.1 → VV own cc nL R G Po (pc + 3) lv (vi r.1 :: st) r.2) : VV own cc nL R G Po pc lv st0 m := by
  intro p l e s mi args below meth c cells slots Q D cy ad A C H locs ls hR hP hS hl
  subst hst
  obtain ⟨hx, hb, hml, hown, hts, hcs, hA, hK, hD, hG, hfin⟩ := id C
  have hFc := mmA_in (hD m) hS hA
  have hrun := va_runS (As := as.map (mmV ad)) (rest := st.map (mmV ad)) (H := H) (locs := locs) (cells := cells) (slots := slots) (p := p) (e := e) (below := below) (meth := meth) (R := R) (g := F0 mi pc ls ((as.reverse ++ st).map (mmV ad))) ⟨hx, hb, hml, hown, hts⟩ (hM hR l D cy ad H.size) (va_cwS n hts (mmGS gl gi gt gc) rfl hrm.1 hrm.2.1 hy ⟨hrm.2.2.1, hrm.2.2.2⟩)
    ⟨mmBlind D cy ad _ m H.size, fun U hU hW => ⟨rfl, by rw [hU], by rw [hU]; exact hP, va_K.moved hW.alike hK, (hD m).weaken (fun _ _ _ _ => trivial)⟩⟩
    rfl (by rw [List.length_map]; exact hn) hl.1 (by simp) (lv_room (by rw [mmV_cats]; exact hcat)) hd ⟨by omega, by omega⟩
  refine va_calli hrun hS (fun q _ h => hFc q h) hFc (fun r1 u t H1 locs1 ht hvm hpo hB hz1 hk1 hS1 => ?_)
  obtain ⟨rfl, hr1, hr2⟩ := hpo
  rw [ht] at hB
  exact kk hr1 C hr2 hB hS1 hl
theorem V_max {index : Nat} {x y : Int} (hd : decode cc pc = .ok (.invokestatic index, 3)) (hl1 : Cond.methodLink own index Lib.Math.max.name ∈ mm_tb) (hl2 : Cond.static Lib.Math.max.name ∈ mm_tb) (hl3 : Cond.initialized "java/lang/Math" ∈ mm_tb) (hl4 : Cond.code Lib.Math.max.name Lib.Math.max.code 2 (some .int) ∈ mm_tb) (hx : inR x) (hy : inR y) (hrm : 1 ≤ R.frames ∧ 21 ≤ R.locals) (hcat : (st.map fun v => v.category).sum ≤ 8) (kk : VV own cc nL R G Po (pc + 3) lv (vi (max x y) :: st) m) : VV own cc nL R G Po pc lv (vi y :: vi x :: st) m := by
  intro p l e s mi args below meth c cells slots Q D cy ad A C H locs ls hR hP hS hl
  refine va_mmax C.1 C.2.1 (C.2.2.1.trans hl.1.symm) C.2.2.2.1 (C.2.2.2.2.1 _ hl1) (C.2.2.2.2.1 _ hl2) (C.2.2.2.2.1 _ hl3) (C.2.2.2.2.1 _ hl4) hrm.1 (by rw [mmV_cats]; omega) C.2.2.2.2.2.1.1 C.2.2.2.2.2.1.2 hd ?_
  have e : (if Int32.ofInt x < Int32.ofInt y then Int32.ofInt y else Int32.ofInt x) = Int32.ofInt (max x y) := by
    by_cases h : x < y
    · rw [show max x y = y by omega, if_pos ((oi_lt hx hy).mpr h)]
    · rw [show max x y = x by omega, if_neg (fun z => h ((oi_lt hx hy).mp z))]
  rw [e]
  exact kk C hR hP hS hl
theorem V_min {index : Nat} {x y : Int} (hd : decode cc pc = .ok (.invokestatic index, 3)) (hl1 : Cond.methodLink own index Lib.Math.min.name ∈ mm_tb) (hl2 : Cond.static Lib.Math.min.name ∈ mm_tb) (hl3 : Cond.initialized "java/lang/Math" ∈ mm_tb) (hl4 : Cond.code Lib.Math.min.name Lib.Math.min.code 2 (some .int) ∈ mm_tb) (hx : inR x) (hy : inR y) (hrm : 1 ≤ R.frames ∧ 21 ≤ R.locals) (hcat : (st.map fun v => v.category).sum ≤ 8) (kk : VV own cc nL R G Po (pc + 3) lv (vi (min x y) :: st) m) : VV own cc nL R G Po pc lv (vi y :: vi x :: st) m := by
  intro p l e s mi args below meth c cells slots Q D cy ad A C H locs ls hR hP hS hl
  refine va_mmin C.1 C.2.1 (C.2.2.1.trans hl.1.symm) C.2.2.2.1 (C.2.2.2.2.1 _ hl1) (C.2.2.2.2.1 _ hl2) (C.2.2.2.2.1 _ hl3) (C.2.2.2.2.1 _ hl4) hrm.1 (by rw [mmV_cats]; omega) C.2.2.2.2.2.1.1 C.2.2.2.2.2.1.2 hd ?_
  have e : (if Int32.ofInt y < Int32.ofInt x then Int32.ofInt y else Int32.ofInt x) = Int32.ofInt (min x y) := by
    by_cases h : y < x
    · rw [show min x y = y by omega, if_pos ((oi_lt hy hx).mpr h)]
    · rw [show min x y = x by omega, if_neg (fun z => h ((oi_lt hy hx).mp z))]
  rw [e]
  exact kk C hR hP hS hl
theorem V_copy {index : Nat} {a0 a n0 n1 : Nat} {sp dp n : Int} (hd : decode cc pc = .ok (.invokestatic index, 3)) (hl1 : Cond.methodLink own index arraycopyName ∈ mm_tb) (hl2 : Cond.native arraycopyName ∈ mm_tb) (hl3 : Cond.static arraycopyName ∈ mm_tb) (hl4 : Cond.initialized "java/lang/System" ∈ mm_tb) (hs0 : mmSh[a0]? = some (.inr (0, n0))) (hs1 : mmSh[a]? = some (.inr (0, n1))) (h1 : inR sp) (h2 : inR dp) (h3 : inR n) (h4 : 0 ≤ sp ∧ 0 ≤ dp ∧ 0 ≤ n ∧ sp + n ≤ n0 ∧ dp + n ≤ n1) (hrm : 1 ≤ R.frames ∧ nativeFrameWords "java/lang/System" "arraycopy" 5 + 19 ≤ R.locals) (hcat : (st.map fun v => v.category).sum ≤ 8) {js jd jn : Nat} (hjs : sp.toNat = js) (hjd : dp.toNat = jd) (hjn : n.toNat = jn) (kk : VV own cc nL R G Po (pc + 3) lv st (mcp m a0 js a jd jn)) : VV own cc nL R G Po pc lv (vi n :: vi dp :: .ref a :: vi sp :: .ref a0 :: st) m := by
  intro p l e s mi args below meth c cells slots Q D cy ad A C H locs ls hR hP hS hl
  subst hjs hjd hjn
  have nn : ∀ z : Int, inR z → 0 ≤ z → ¬ Int32.ofInt z < 0 := fun z hz h => by rw [oi_0, oi_lt hz inR0]; omega
  refine va_copyi C.1 C.2.1 (C.2.2.1.trans hl.1.symm) C.2.2.2.1 (C.2.2.2.2.1 _ hl1) (C.2.2.2.2.1 _ hl2) (C.2.2.2.2.1 _ hl3) (C.2.2.2.2.1 _ hl4) C.2.2.2.2.2.2.2.1 hP (C.2.2.2.2.2.2.2.2.1 m) hS a0 a 0 0 ((mmW_at cy ad m (mmSh_lt hs0)).trans (by rw [mmCell_int hs0])) ((mmW_at cy ad m (mmSh_lt hs1)).trans (by rw [mmCell_int hs1])) rfl rfl rfl (nn _ h1 h4.1) (nn _ h2 h4.2.1) (nn _ h3 h4.2.2.1) (by rw [oi_cl h1, oi_cl h3]; omega) (by rw [oi_cl h2, oi_cl h3]; omega) (fun _ _ => rfl) hrm.1 (by rw [mmV_cats]; omega) hd (fun H1 locs1 hP1 _ hS1 => ?_)
  rw [oi_cl h1, oi_cl h2, oi_cl h3, mmRow_cp, mmW_set cy ad m (mcp m a0 sp.toNat a dp.toNat n.toNat) (mmSh_lt hs1) (mmCell_int hs1) (fun j _ hj => mmCell_same (by simp [mcp, hj]) rfl)] at hP1
  exact kk C (mcp_R hR) hP1 hS1 hl
end RULES

/-- a contract out of a judgement at the entry -/
theorem mm_narZ {x : Int} (h : x = 0 ∨ x = 1) : narrow .boolean (vi x) = vi x := by rcases h with rfl | rfl <;> decide +kernel
def mmPi (r : Int × Mem) : Option Value → Mem → Prop := fun v m' => v = some (vi r.1) ∧ m' = r.2 ∧ inR r.1
def mmPz (r : Int × Mem) : Option Value → Mem → Prop := fun v m' => v = some (vi r.1) ∧ m' = r.2 ∧ (r.1 = 0 ∨ r.1 = 1)
def mmPv (r : Mem) : Option Value → Mem → Prop := fun v m' => v = none ∧ m' = r
theorem mm_args (ad : Nat → Nat) (as : List Value) : ∀ i, lv_args i (as.map (mmV ad)) = mmL ad (lv_args i as) := by
  induction as with
  | nil => intro i; rfl
  | cons a t ih =>
    intro i
    simp only [List.map_cons, lv_args, mmL, mmV_cat]
    rw [ih]
    rfl
theorem mm_slots (ad : Nat → Nat) (as : List Value) : (lg_sl (as.map (mmV ad))).length = (lg_sl as).length := by
  induction as with
  | nil => rfl
  | cons a t ih =>
    simp only [lg_sl, List.map_cons, List.flatMap_cons, List.length_append, mmV_cat] at ih ⊢
    rw [ih]
    split <;> rfl
theorem CT_i {y : MethodName} {rm : Room} {as : List Value} {m : Mem} {r : Int × Mem} {cc : ByteArray} {nL : Nat} {own : String} (hy : plainName y.cls = true) (hown : y.cls = own) (hn : (lg_sl as).length ≤ nL) (h : VV own cc nL rm mmG0 (mmPi r) 0 (lv_args 0 as) [] m) : CTi y cc nL (some .int) rm as m r := by
  intro hmR l D cy ad sz
  refine Met.ofW (cc := cc) (maxL := nL) (ret := some .int) hy rfl ?_
  intro p e s mi args below meth c s₁ B hml hv
  obtain ⟨rfl, hsz, hP, hK, hD0⟩ := hv
  subst hsz hown
  have hD : ∀ m2, va_D (va_A (mmW cy ad m) s.heap.size) (mmW cy ad m2) := fun m2 => ⟨fun i j p q hi hj hpq => by
      have hi2 := (List.getElem?_eq_some_iff.mp hi).1
      have hj2 := (List.getElem?_eq_some_iff.mp hj).1
      rw [mmW_len] at hi2 hj2
      rw [mmW_at cy ad m2 hi2] at hi
      rw [mmW_at cy ad m2 hj2] at hj
      cases hi; cases hj
      exact hD0.1 i j _ _ (mmW_at cy ad m hi2) (mmW_at cy ad m hj2) hpq, fun k q hk => by
      have hk2 := (List.getElem?_eq_some_iff.mp hk).1
      rw [mmW_len] at hk2
      rw [mmW_at cy ad m2 hk2] at hk
      cases hk
      exact Or.inl ⟨k, _, mmW_at cy ad m hk2⟩⟩
  rw [lg_entry_eq]
  refine h (ad := ad) (cy := cy) (D := D) (A := va_A (mmW cy ad m) s.heap.size) ⟨B.exec, B.bytes, hml, findClass_of_methodNamed B.named, fun w hw => atoms_spec (ws := mmWs y cc nL (some .int)) B.pre w (List.mem_cons_of_mem _ hw), ⟨Nat.zero_le _, Nat.zero_le _⟩, fun q hq => Or.inr hq, hK, hD, trivial, ?_⟩ hmR hP va_S.rf ?_
  · intro v m' H' locs' ls' pc' hpo hR' hret hP' hS'
    obtain ⟨rfl, rfl, hr⟩ := hpo
    rcases hret with ⟨x, hx, hdg⟩ | ⟨hx, _⟩
    · exact W.iret B.exec B.bytes B.returns (fun t ht hW => ⟨⟨_, (), rfl, ⟨rfl, hr, hR'⟩, by show va_P _ _ _ _; rw [ht]; exact hP'⟩, hS'.F ht⟩) hS'.2.2 hdg B.notSynchronized
    · cases hx
  · have := lv_entry (as.map (mmV ad)) (n := nL) (by rw [mm_slots]; exact hn)
    rw [mm_args] at this
    exact this
theorem CT_z {y : MethodName} {rm : Room} {as : List Value} {m : Mem} {r : Int × Mem} {cc : ByteArray} {nL : Nat} {own : String} (hy : plainName y.cls = true) (hown : y.cls = own) (hn : (lg_sl as).length ≤ nL) (h : VV own cc nL rm mmG0 (mmPz r) 0 (lv_args 0 as) [] m) : CTi y cc nL (some .boolean) rm as m r := by
  intro hmR l D cy ad sz
  refine Met.ofW (cc := cc) (maxL := nL) (ret := some .boolean) hy rfl ?_
  intro p e s mi args below meth c s₁ B hml hv
  obtain ⟨rfl, hsz, hP, hK, hD0⟩ := hv
  subst hsz hown
  have hD : ∀ m2, va_D (va_A (mmW cy ad m) s.heap.size) (mmW cy ad m2) := fun m2 => ⟨fun i j p q hi hj hpq => by
      have hi2 := (List.getElem?_eq_some_iff.mp hi).1
      have hj2 := (List.getElem?_eq_some_iff.mp hj).1
      rw [mmW_len] at hi2 hj2
      rw [mmW_at cy ad m2 hi2] at hi
      rw [mmW_at cy ad m2 hj2] at hj
      cases hi; cases hj
      exact hD0.1 i j _ _ (mmW_at cy ad m hi2) (mmW_at cy ad m hj2) hpq, fun k q hk => by
      have hk2 := (List.getElem?_eq_some_iff.mp hk).1
      rw [mmW_len] at hk2
      rw [mmW_at cy ad m2 hk2] at hk
      cases hk
      exact Or.inl ⟨k, _, mmW_at cy ad m hk2⟩⟩
  rw [lg_entry_eq]
  refine h (ad := ad) (cy := cy) (D := D) (A := va_A (mmW cy ad m) s.heap.size) ⟨B.exec, B.bytes, hml, findClass_of_methodNamed B.named, fun w hw => atoms_spec (ws := mmWs y cc nL (some .boolean)) B.pre w (List.mem_cons_of_mem _ hw), ⟨Nat.zero_le _, Nat.zero_le _⟩, fun q hq => Or.inr hq, hK, hD, trivial, ?_⟩ hmR hP va_S.rf ?_
  · intro v m' H' locs' ls' pc' hpo hR' hret hP' hS'
    obtain ⟨rfl, rfl, hr⟩ := hpo
    rcases hret with ⟨x, hx, hdg⟩ | ⟨hx, _⟩
    · exact W.zret B.exec B.bytes B.returns (mm_narZ hr) (fun t ht hW => ⟨⟨_, (), rfl, ⟨rfl, by rcases hr with hr | hr <;> rw [hr] <;> decide, hR'⟩, by show va_P _ _ _ _; rw [ht]; exact hP'⟩, hS'.F ht⟩) hS'.2.2 hdg B.notSynchronized
    · cases hx
  · have := lv_entry (as.map (mmV ad)) (n := nL) (by rw [mm_slots]; exact hn)
    rw [mm_args] at this
    exact this
theorem CT_v {y : MethodName} {rm : Room} {as : List Value} {m : Mem} {r : Mem} {cc : ByteArray} {nL : Nat} {own : String} (hy : plainName y.cls = true) (hown : y.cls = own) (hn : (lg_sl as).length ≤ nL) (h : VV own cc nL rm mmG0 (mmPv r) 0 (lv_args 0 as) [] m) : CTv y cc nL rm as m r := by
  intro hmR l D cy ad sz
  refine Met.ofW (cc := cc) (maxL := nL) (ret := none) hy rfl ?_
  intro p e s mi args below meth c s₁ B hml hv
  obtain ⟨rfl, hsz, hP, hK, hD0⟩ := hv
  subst hsz hown
  have hD : ∀ m2, va_D (va_A (mmW cy ad m) s.heap.size) (mmW cy ad m2) := fun m2 => ⟨fun i j p q hi hj hpq => by
      have hi2 := (List.getElem?_eq_some_iff.mp hi).1
      have hj2 := (List.getElem?_eq_some_iff.mp hj).1
      rw [mmW_len] at hi2 hj2
      rw [mmW_at cy ad m2 hi2] at hi
      rw [mmW_at cy ad m2 hj2] at hj
      cases hi; cases hj
      exact hD0.1 i j _ _ (mmW_at cy ad m hi2) (mmW_at cy ad m hj2) hpq, fun k q hk => by
      have hk2 := (List.getElem?_eq_some_iff.mp hk).1
      rw [mmW_len] at hk2
      rw [mmW_at cy ad m2 hk2] at hk
      cases hk
      exact Or.inl ⟨k, _, mmW_at cy ad m hk2⟩⟩
  rw [lg_entry_eq]
  refine h (ad := ad) (cy := cy) (D := D) (A := va_A (mmW cy ad m) s.heap.size) ⟨B.exec, B.bytes, hml, findClass_of_methodNamed B.named, fun w hw => atoms_spec (ws := mmWs y cc nL none) B.pre w (List.mem_cons_of_mem _ hw), ⟨Nat.zero_le _, Nat.zero_le _⟩, fun q hq => Or.inr hq, hK, hD, trivial, ?_⟩ hmR hP va_S.rf ?_
  · intro v m' H' locs' ls' pc' hpo hR' hret hP' hS'
    obtain ⟨rfl, rfl⟩ := hpo
    rcases hret with ⟨x, hx, _⟩ | ⟨hx, hdg⟩
    · cases hx
    · exact W.vret B.exec B.bytes B.returns (fun t ht hW => ⟨⟨(), rfl, hR', by show va_P _ _ _ _; rw [ht]; exact hP'⟩, hS'.F ht⟩) hS'.2.2 hdg B.notSynchronized
  · have := lv_entry (as.map (mmV ad)) (n := nL) (by rw [mm_slots]; exact hn)
    rw [mm_args] at this
    exact this
end
section
theorem iuX0 : ∀ w ∈ u_ws RX0 TX0 2, w ∈ mm_tb := mm_inU inX0 (by decide +kernel)
theorem iuX1 : ∀ w ∈ u_ws RX1 TX1 8, w ∈ mm_tb := mm_inU inX1 (by decide +kernel)
theorem iuX2 : ∀ w ∈ u_ws RX2 TX2 10, w ∈ mm_tb := mm_inU inX2 (by decide +kernel)
theorem iuX3 : ∀ w ∈ u_ws RX3 TX3 6, w ∈ mm_tb := mm_inU inX3 (by decide +kernel)
theorem mmS1 {o : Nat} (h : mmSh[o]? = some (.inl 2)) : mmSh[o + 1]? = some (.inr (0, 24)) := by
  have hh : ∀ o, o < 51 → mmSh[o]? = some (.inl 2) → mmSh[o + 1]? = some (.inr (0, 24)) := by decide +kernel
  exact hh o (mmSh_lt h) h
theorem mmS2 {o : Nat} (h : mmSh[o]? = some (.inl 2)) : mmSh[o + 2]? = some (.inr (0, 24)) := by
  have hh : ∀ o, o < 51 → mmSh[o]? = some (.inl 2) → mmSh[o + 2]? = some (.inr (0, 24)) := by decide +kernel
  exact hh o (mmSh_lt h) h
theorem mmS3 {o : Nat} (h : mmSh[o]? = some (.inl 2)) : mmSh[o + 3]? = some (.inr (0, 24)) := by
  have hh : ∀ o, o < 51 → mmSh[o]? = some (.inl 2) → mmSh[o + 3]? = some (.inr (0, 24)) := by decide +kernel
  exact hh o (mmSh_lt h) h
theorem mmS4 {o : Nat} (h : mmSh[o]? = some (.inl 2)) : mmSh[o + 4]? = some (.inr (0, 24)) := by
  have hh : ∀ o, o < 51 → mmSh[o]? = some (.inl 2) → mmSh[o + 4]? = some (.inr (0, 24)) := by decide +kernel
  exact hh o (mmSh_lt h) h
theorem mmS5 {o : Nat} (h : mmSh[o]? = some (.inl 2)) : mmSh[o + 5]? = some (.inr (0, 24)) := by
  have hh : ∀ o, o < 51 → mmSh[o]? = some (.inl 2) → mmSh[o + 5]? = some (.inr (0, 24)) := by decide +kernel
  exact hh o (mmSh_lt h) h
theorem sh_0 : mmSh[0]? = some (.inl 3) := by decide +kernel
theorem sh_1 : mmSh[1]? = some (.inl 2) := by decide +kernel
theorem sh_7 : mmSh[7]? = some (.inl 2) := by decide +kernel
theorem sh_19 : mmSh[19]? = some (.inl 0) := by decide +kernel
theorem sh_20 : mmSh[20]? = some (.inr (2, 4)) := by decide +kernel
theorem sh_45 : mmSh[45]? = some (.inl 1) := by decide +kernel
theorem sh_46 : mmSh[46]? = some (.inr (1, 60)) := by decide +kernel
theorem sh_47 : mmSh[47]? = some (.inr (0, 12)) := by decide +kernel
theorem sh_48 : mmSh[48]? = some (.inr (0, 12)) := by decide +kernel
theorem sh_49 : mmSh[49]? = some (.inr (0, 12)) := by decide +kernel
theorem sh_50 : mmSh[50]? = some (.inr (0, 12)) := by decide +kernel
theorem ir_0 : inR 0 := by decide
theorem ir_1 : inR 1 := by decide
theorem ir_10 : inR 10 := by decide
theorem ir_100 : inR 100 := by decide
theorem ir_1000 : inR 1000 := by decide
theorem ir_12 : inR 12 := by decide
theorem ir_2 : inR 2 := by decide
theorem ir_24 : inR 24 := by decide
theorem ir_26 : inR 26 := by decide
theorem ir_3 : inR 3 := by decide
theorem ir_4 : inR 4 := by decide
theorem ir_40 : inR 40 := by decide
theorem ir_44 : inR 44 := by decide
theorem ir_48 : inR 48 := by decide
theorem ir_57 : inR 57 := by decide
theorem ir_59 : inR 59 := by decide
theorem ir_6 : inR 6 := by decide
theorem ir_60 : inR 60 := by decide
theorem ir_61 : inR 61 := by decide
theorem ir_62 : inR 62 := by decide
theorem ir_65 : inR 65 := by decide
theorem ir_676 : inR 676 := by decide
theorem ir_90 : inR 90 := by decide
theorem ir_9999 : inR 9999 := by decide
theorem ir_m1 : inR (-1) := by decide
theorem ir_m100 : inR (-100) := by decide
theorem ir_m2 : inR (-2) := by decide
theorem ir_m3 : inR (-3) := by decide
theorem ir_m5 : inR (-5) := by decide
theorem ir_m6 : inR (-6) := by decide
theorem ir_m7 : inR (-7) := by decide
theorem inRL {x : Int} (h : inR x) : inL x := by have := h.1; have := h.2; constructor <;> omega
theorem inR_max {x y : Int} (hx : inR x) (hy : inR y) : inR (max x y) := by have := hx.1; have := hx.2; have := hy.1; have := hy.2; constructor <;> omega
theorem inR_min {x y : Int} (hx : inR x) (hy : inR y) : inR (min x y) := by have := hx.1; have := hx.2; have := hy.1; have := hy.2; constructor <;> omega
theorem fl_X0_17 : Cond.fieldLink RX0 17 (TX0 1).1 (TX0 1).2.1 (TX0 1).2.2.1 ∈ mm_tb := mm_in 97 (by decide +kernel) (by decide +kernel)
theorem fl_X0_11 : Cond.fieldLink RX0 11 (TX0 0).1 (TX0 0).2.1 (TX0 0).2.2.1 ∈ mm_tb := mm_in 96 (by decide +kernel) (by decide +kernel)
theorem fl_X2_9 : Cond.fieldLink RX2 9 (TX2 0).1 (TX2 0).2.1 (TX2 0).2.2.1 ∈ mm_tb := mm_in 55 (by decide +kernel) (by decide +kernel)
theorem ml_X2_43 : Cond.methodLink RX2 43 arraycopyName ∈ mm_tb := mm_in 241 (by decide +kernel) (by decide +kernel)
theorem na_copy : Cond.native arraycopyName ∈ mm_tb := mm_in 243 (by decide +kernel) (by decide +kernel)
theorem st_copy : Cond.static arraycopyName ∈ mm_tb := mm_in 242 (by decide +kernel) (by decide +kernel)
theorem it_System : Cond.initialized "java/lang/System" ∈ mm_tb := mm_in 39 (by decide +kernel) (by decide +kernel)
theorem fl_X2_15 : Cond.fieldLink RX2 15 (TX2 1).1 (TX2 1).2.1 (TX2 1).2.2.1 ∈ mm_tb := mm_in 56 (by decide +kernel) (by decide +kernel)
theorem fl_X2_18 : Cond.fieldLink RX2 18 (TX2 2).1 (TX2 2).2.1 (TX2 2).2.2.1 ∈ mm_tb := mm_in 57 (by decide +kernel) (by decide +kernel)
theorem fl_X2_21 : Cond.fieldLink RX2 21 (TX2 3).1 (TX2 3).2.1 (TX2 3).2.2.1 ∈ mm_tb := mm_in 58 (by decide +kernel) (by decide +kernel)
theorem fl_X2_24 : Cond.fieldLink RX2 24 (TX2 4).1 (TX2 4).2.1 (TX2 4).2.2.1 ∈ mm_tb := mm_in 59 (by decide +kernel) (by decide +kernel)
theorem fl_X2_27 : Cond.fieldLink RX2 27 (TX2 5).1 (TX2 5).2.1 (TX2 5).2.2.1 ∈ mm_tb := mm_in 60 (by decide +kernel) (by decide +kernel)
theorem fl_X2_31 : Cond.fieldLink RX2 31 (TX2 6).1 (TX2 6).2.1 (TX2 6).2.2.1 ∈ mm_tb := mm_in 61 (by decide +kernel) (by decide +kernel)
theorem fl_X2_34 : Cond.fieldLink RX2 34 (TX2 7).1 (TX2 7).2.1 (TX2 7).2.2.1 ∈ mm_tb := mm_in 62 (by decide +kernel) (by decide +kernel)
theorem fl_X2_37 : Cond.fieldLink RX2 37 (TX2 8).1 (TX2 8).2.1 (TX2 8).2.2.1 ∈ mm_tb := mm_in 63 (by decide +kernel) (by decide +kernel)
theorem fl_X2_40 : Cond.fieldLink RX2 40 (TX2 9).1 (TX2 9).2.1 (TX2 9).2.2.1 ∈ mm_tb := mm_in 64 (by decide +kernel) (by decide +kernel)
theorem ml_X0_25 : Cond.methodLink RX0 25 yX2_copyFrom ∈ mm_tb := mm_in 300 (by decide +kernel) (by decide +kernel)
theorem cd_X2_copyFrom : Cond.code yX2_copyFrom cX2_copyFrom 2 none ∈ mm_tb := mm_in 240 (by decide +kernel) (by decide +kernel)
theorem im_X2_copyFrom : Cond.instanceMethod yX2_copyFrom ∈ mm_tb := mm_in 238 (by decide +kernel) (by decide +kernel)
theorem sl_X2_copyFrom : Cond.selects RX2 yX2_copyFrom yX2_copyFrom ∈ mm_tb := mm_in 239 (by decide +kernel) (by decide +kernel)
theorem it_X2 : Cond.initialized RX2 ∈ mm_tb := mm_in 36 (by decide +kernel) (by decide +kernel)
theorem ml_X0_22 : Cond.methodLink RX0 22 yX0_dropOldest ∈ mm_tb := mm_in 296 (by decide +kernel) (by decide +kernel)
theorem cd_X0_dropOldest : Cond.code yX0_dropOldest cX0_dropOldest 3 none ∈ mm_tb := mm_in 299 (by decide +kernel) (by decide +kernel)
theorem im_X0_dropOldest : Cond.instanceMethod yX0_dropOldest ∈ mm_tb := mm_in 298 (by decide +kernel) (by decide +kernel)
theorem sl_X0_dropOldest : Cond.selects RX0 yX0_dropOldest yX0_dropOldest ∈ mm_tb := mm_in 19 (by decide +kernel) (by decide +kernel)
theorem it_X0 : Cond.initialized RX0 ∈ mm_tb := mm_in 37 (by decide +kernel) (by decide +kernel)
theorem fl_X1_15 : Cond.fieldLink RX1 15 (TX1 1).1 (TX1 1).2.1 (TX1 1).2.2.1 ∈ mm_tb := mm_in 110 (by decide +kernel) (by decide +kernel)
theorem fl_X1_9 : Cond.fieldLink RX1 9 (TX1 0).1 (TX1 0).2.1 (TX1 0).2.2.1 ∈ mm_tb := mm_in 109 (by decide +kernel) (by decide +kernel)
theorem fl_X1_35 : Cond.fieldLink RX1 35 (TX1 7).1 (TX1 7).2.1 (TX1 7).2.2.1 ∈ mm_tb := mm_in 116 (by decide +kernel) (by decide +kernel)
theorem ml_X1_77 : Cond.methodLink RX1 77 yX1_next ∈ mm_tb := mm_in 346 (by decide +kernel) (by decide +kernel)
theorem cd_X1_next : Cond.code yX1_next cX1_next 1 (some .int) ∈ mm_tb := mm_in 349 (by decide +kernel) (by decide +kernel)
theorem im_X1_next : Cond.instanceMethod yX1_next ∈ mm_tb := mm_in 348 (by decide +kernel) (by decide +kernel)
theorem sl_X1_next : Cond.selects RX1 yX1_next yX1_next ∈ mm_tb := mm_in 23 (by decide +kernel) (by decide +kernel)
theorem it_X1 : Cond.initialized RX1 ∈ mm_tb := mm_in 38 (by decide +kernel) (by decide +kernel)
theorem ml_X1_74 : Cond.methodLink RX1 74 yX1_readLetter ∈ mm_tb := mm_in 342 (by decide +kernel) (by decide +kernel)
theorem cd_X1_readLetter : Cond.code yX1_readLetter cX1_readLetter 2 (some .int) ∈ mm_tb := mm_in 345 (by decide +kernel) (by decide +kernel)
theorem im_X1_readLetter : Cond.instanceMethod yX1_readLetter ∈ mm_tb := mm_in 344 (by decide +kernel) (by decide +kernel)
theorem sl_X1_readLetter : Cond.selects RX1 yX1_readLetter yX1_readLetter ∈ mm_tb := mm_in 22 (by decide +kernel) (by decide +kernel)
theorem ml_X1_80 : Cond.methodLink RX1 80 yX1_nextDigit ∈ mm_tb := mm_in 362 (by decide +kernel) (by decide +kernel)
theorem cd_X1_nextDigit : Cond.code yX1_nextDigit cX1_nextDigit 2 (some .int) ∈ mm_tb := mm_in 365 (by decide +kernel) (by decide +kernel)
theorem im_X1_nextDigit : Cond.instanceMethod yX1_nextDigit ∈ mm_tb := mm_in 364 (by decide +kernel) (by decide +kernel)
theorem sl_X1_nextDigit : Cond.selects RX1 yX1_nextDigit yX1_nextDigit ∈ mm_tb := mm_in 27 (by decide +kernel) (by decide +kernel)
theorem fl_X1_32 : Cond.fieldLink RX1 32 (TX1 6).1 (TX1 6).2.1 (TX1 6).2.2.1 ∈ mm_tb := mm_in 115 (by decide +kernel) (by decide +kernel)
theorem fl_X1_19 : Cond.fieldLink RX1 19 (TX1 2).1 (TX1 2).2.1 (TX1 2).2.2.1 ∈ mm_tb := mm_in 111 (by decide +kernel) (by decide +kernel)
theorem fl_X1_23 : Cond.fieldLink RX1 23 (TX1 3).1 (TX1 3).2.1 (TX1 3).2.2.1 ∈ mm_tb := mm_in 112 (by decide +kernel) (by decide +kernel)
theorem fl_X1_26 : Cond.fieldLink RX1 26 (TX1 4).1 (TX1 4).2.1 (TX1 4).2.2.1 ∈ mm_tb := mm_in 113 (by decide +kernel) (by decide +kernel)
theorem fl_X1_29 : Cond.fieldLink RX1 29 (TX1 5).1 (TX1 5).2.1 (TX1 5).2.2.1 ∈ mm_tb := mm_in 114 (by decide +kernel) (by decide +kernel)
theorem ml_X1_67 : Cond.methodLink RX1 67 yX1_readNumber ∈ mm_tb := mm_in 358 (by decide +kernel) (by decide +kernel)
theorem cd_X1_readNumber : Cond.code yX1_readNumber cX1_readNumber 6 (some .int) ∈ mm_tb := mm_in 361 (by decide +kernel) (by decide +kernel)
theorem im_X1_readNumber : Cond.instanceMethod yX1_readNumber ∈ mm_tb := mm_in 360 (by decide +kernel) (by decide +kernel)
theorem sl_X1_readNumber : Cond.selects RX1 yX1_readNumber yX1_readNumber ∈ mm_tb := mm_in 26 (by decide +kernel) (by decide +kernel)
theorem ml_X1_42 : Cond.methodLink RX1 42 yX1_takes ∈ mm_tb := mm_in 350 (by decide +kernel) (by decide +kernel)
theorem cd_X1_takes : Cond.code yX1_takes cX1_takes 2 (some .boolean) ∈ mm_tb := mm_in 353 (by decide +kernel) (by decide +kernel)
theorem im_X1_takes : Cond.instanceMethod yX1_takes ∈ mm_tb := mm_in 352 (by decide +kernel) (by decide +kernel)
theorem sl_X1_takes : Cond.selects RX1 yX1_takes yX1_takes ∈ mm_tb := mm_in 24 (by decide +kernel) (by decide +kernel)
theorem ml_X1_70 : Cond.methodLink RX1 70 yX1_noteAddition ∈ mm_tb := mm_in 366 (by decide +kernel) (by decide +kernel)
theorem cd_X1_noteAddition : Cond.code yX1_noteAddition cX1_noteAddition 5 (some .boolean) ∈ mm_tb := mm_in 369 (by decide +kernel) (by decide +kernel)
theorem im_X1_noteAddition : Cond.instanceMethod yX1_noteAddition ∈ mm_tb := mm_in 368 (by decide +kernel) (by decide +kernel)
theorem sl_X1_noteAddition : Cond.selects RX1 yX1_noteAddition yX1_noteAddition ∈ mm_tb := mm_in 28 (by decide +kernel) (by decide +kernel)
theorem ml_X1_56 : Cond.methodLink RX1 56 yX1_readName ∈ mm_tb := mm_in 338 (by decide +kernel) (by decide +kernel)
theorem cd_X1_readName : Cond.code yX1_readName cX1_readName 3 (some .int) ∈ mm_tb := mm_in 341 (by decide +kernel) (by decide +kernel)
theorem im_X1_readName : Cond.instanceMethod yX1_readName ∈ mm_tb := mm_in 340 (by decide +kernel) (by decide +kernel)
theorem sl_X1_readName : Cond.selects RX1 yX1_readName yX1_readName ∈ mm_tb := mm_in 21 (by decide +kernel) (by decide +kernel)
theorem ml_X1_64 : Cond.methodLink RX1 64 yX1_readAlias ∈ mm_tb := mm_in 370 (by decide +kernel) (by decide +kernel)
theorem cd_X1_readAlias : Cond.code yX1_readAlias cX1_readAlias 3 (some .boolean) ∈ mm_tb := mm_in 373 (by decide +kernel) (by decide +kernel)
theorem im_X1_readAlias : Cond.instanceMethod yX1_readAlias ∈ mm_tb := mm_in 372 (by decide +kernel) (by decide +kernel)
theorem sl_X1_readAlias : Cond.selects RX1 yX1_readAlias yX1_readAlias ∈ mm_tb := mm_in 29 (by decide +kernel) (by decide +kernel)
theorem ml_X1_60 : Cond.methodLink RX1 60 yX1_readMember ∈ mm_tb := mm_in 354 (by decide +kernel) (by decide +kernel)
theorem cd_X1_readMember : Cond.code yX1_readMember cX1_readMember 4 (some .boolean) ∈ mm_tb := mm_in 357 (by decide +kernel) (by decide +kernel)
theorem im_X1_readMember : Cond.instanceMethod yX1_readMember ∈ mm_tb := mm_in 356 (by decide +kernel) (by decide +kernel)
theorem sl_X1_readMember : Cond.selects RX1 yX1_readMember yX1_readMember ∈ mm_tb := mm_in 25 (by decide +kernel) (by decide +kernel)
theorem ml_X1_38 : Cond.methodLink RX1 38 yX1_readAddition ∈ mm_tb := mm_in 334 (by decide +kernel) (by decide +kernel)
theorem cd_X1_readAddition : Cond.code yX1_readAddition cX1_readAddition 2 (some .boolean) ∈ mm_tb := mm_in 337 (by decide +kernel) (by decide +kernel)
theorem im_X1_readAddition : Cond.instanceMethod yX1_readAddition ∈ mm_tb := mm_in 336 (by decide +kernel) (by decide +kernel)
theorem sl_X1_readAddition : Cond.selects RX1 yX1_readAddition yX1_readAddition ∈ mm_tb := mm_in 20 (by decide +kernel) (by decide +kernel)
theorem ml_X2_114 : Cond.methodLink RX2 114 Lib.Math.max.name ∈ mm_tb := mm_in 281 (by decide +kernel) (by decide +kernel)
theorem st_max : Cond.static Lib.Math.max.name ∈ mm_tb := mm_in 282 (by decide +kernel) (by decide +kernel)
theorem it_Math : Cond.initialized "java/lang/Math" ∈ mm_tb := mm_in 40 (by decide +kernel) (by decide +kernel)
theorem cd_max : Cond.code Lib.Math.max.name Lib.Math.max.code 2 (some .int) ∈ mm_tb := mm_in 283 (by decide +kernel) (by decide +kernel)
theorem ml_X2_63 : Cond.methodLink RX2 63 yX2_isRank ∈ mm_tb := mm_in 189 (by decide +kernel) (by decide +kernel)
theorem cd_X2_isRank : Cond.code yX2_isRank cX2_isRank 2 (some .boolean) ∈ mm_tb := mm_in 192 (by decide +kernel) (by decide +kernel)
theorem im_X2_isRank : Cond.instanceMethod yX2_isRank ∈ mm_tb := mm_in 191 (by decide +kernel) (by decide +kernel)
theorem sl_X2_isRank : Cond.selects RX2 yX2_isRank yX2_isRank ∈ mm_tb := mm_in 2 (by decide +kernel) (by decide +kernel)
theorem ml_X2_66 : Cond.methodLink RX2 66 yX2_isDirectoryFull ∈ mm_tb := mm_in 257 (by decide +kernel) (by decide +kernel)
theorem cd_X2_isDirectoryFull : Cond.code yX2_isDirectoryFull cX2_isDirectoryFull 1 (some .boolean) ∈ mm_tb := mm_in 260 (by decide +kernel) (by decide +kernel)
theorem im_X2_isDirectoryFull : Cond.instanceMethod yX2_isDirectoryFull ∈ mm_tb := mm_in 259 (by decide +kernel) (by decide +kernel)
theorem sl_X2_isDirectoryFull : Cond.selects RX2 yX2_isDirectoryFull yX2_isDirectoryFull ∈ mm_tb := mm_in 11 (by decide +kernel) (by decide +kernel)
theorem ml_X2_123 : Cond.methodLink RX2 123 yX2_namesBelow ∈ mm_tb := mm_in 273 (by decide +kernel) (by decide +kernel)
theorem cd_X2_namesBelow : Cond.code yX2_namesBelow cX2_namesBelow 4 (some .int) ∈ mm_tb := mm_in 276 (by decide +kernel) (by decide +kernel)
theorem im_X2_namesBelow : Cond.instanceMethod yX2_namesBelow ∈ mm_tb := mm_in 275 (by decide +kernel) (by decide +kernel)
theorem sl_X2_namesBelow : Cond.selects RX2 yX2_namesBelow yX2_namesBelow ∈ mm_tb := mm_in 15 (by decide +kernel) (by decide +kernel)
theorem ml_X2_138 : Cond.methodLink RX2 138 yX2_moveEntries ∈ mm_tb := mm_in 277 (by decide +kernel) (by decide +kernel)
theorem cd_X2_moveEntries : Cond.code yX2_moveEntries cX2_moveEntries 4 none ∈ mm_tb := mm_in 280 (by decide +kernel) (by decide +kernel)
theorem im_X2_moveEntries : Cond.instanceMethod yX2_moveEntries ∈ mm_tb := mm_in 279 (by decide +kernel) (by decide +kernel)
theorem sl_X2_moveEntries : Cond.selects RX2 yX2_moveEntries yX2_moveEntries ∈ mm_tb := mm_in 16 (by decide +kernel) (by decide +kernel)
theorem ml_X2_83 : Cond.methodLink RX2 83 yX2_setEntry ∈ mm_tb := mm_in 284 (by decide +kernel) (by decide +kernel)
theorem cd_X2_setEntry : Cond.code yX2_setEntry cX2_setEntry 7 none ∈ mm_tb := mm_in 287 (by decide +kernel) (by decide +kernel)
theorem im_X2_setEntry : Cond.instanceMethod yX2_setEntry ∈ mm_tb := mm_in 286 (by decide +kernel) (by decide +kernel)
theorem sl_X2_setEntry : Cond.selects RX2 yX2_setEntry yX2_setEntry ∈ mm_tb := mm_in 17 (by decide +kernel) (by decide +kernel)
theorem ml_X2_49 : Cond.methodLink RX2 49 yX2_isName ∈ mm_tb := mm_in 248 (by decide +kernel) (by decide +kernel)
theorem cd_X2_isName : Cond.code yX2_isName cX2_isName 1 (some .boolean) ∈ mm_tb := mm_in 250 (by decide +kernel) (by decide +kernel)
theorem st_X2_isName : Cond.static yX2_isName ∈ mm_tb := mm_in 249 (by decide +kernel) (by decide +kernel)
theorem ml_X2_53 : Cond.methodLink RX2 53 yX2_isLength ∈ mm_tb := mm_in 251 (by decide +kernel) (by decide +kernel)
theorem cd_X2_isLength : Cond.code yX2_isLength cX2_isLength 1 (some .boolean) ∈ mm_tb := mm_in 253 (by decide +kernel) (by decide +kernel)
theorem st_X2_isLength : Cond.static yX2_isLength ∈ mm_tb := mm_in 252 (by decide +kernel) (by decide +kernel)
theorem ml_X2_56 : Cond.methodLink RX2 56 yX2_isMark ∈ mm_tb := mm_in 254 (by decide +kernel) (by decide +kernel)
theorem cd_X2_isMark : Cond.code yX2_isMark cX2_isMark 1 (some .boolean) ∈ mm_tb := mm_in 256 (by decide +kernel) (by decide +kernel)
theorem st_X2_isMark : Cond.static yX2_isMark ∈ mm_tb := mm_in 255 (by decide +kernel) (by decide +kernel)
theorem ml_X2_59 : Cond.methodLink RX2 59 yX2_rankOf ∈ mm_tb := mm_in 201 (by decide +kernel) (by decide +kernel)
theorem cd_X2_rankOf : Cond.code yX2_rankOf cX2_rankOf 3 (some .int) ∈ mm_tb := mm_in 204 (by decide +kernel) (by decide +kernel)
theorem im_X2_rankOf : Cond.instanceMethod yX2_rankOf ∈ mm_tb := mm_in 203 (by decide +kernel) (by decide +kernel)
theorem sl_X2_rankOf : Cond.selects RX2 yX2_rankOf yX2_rankOf ∈ mm_tb := mm_in 5 (by decide +kernel) (by decide +kernel)
theorem ml_X2_70 : Cond.methodLink RX2 70 yX2_hasRoom ∈ mm_tb := mm_in 261 (by decide +kernel) (by decide +kernel)
theorem cd_X2_hasRoom : Cond.code yX2_hasRoom cX2_hasRoom 2 (some .boolean) ∈ mm_tb := mm_in 264 (by decide +kernel) (by decide +kernel)
theorem im_X2_hasRoom : Cond.instanceMethod yX2_hasRoom ∈ mm_tb := mm_in 263 (by decide +kernel) (by decide +kernel)
theorem sl_X2_hasRoom : Cond.selects RX2 yX2_hasRoom yX2_hasRoom ∈ mm_tb := mm_in 12 (by decide +kernel) (by decide +kernel)
theorem ml_X2_73 : Cond.methodLink RX2 73 yX2_layText ∈ mm_tb := mm_in 265 (by decide +kernel) (by decide +kernel)
theorem cd_X2_layText : Cond.code yX2_layText cX2_layText 3 (some .int) ∈ mm_tb := mm_in 268 (by decide +kernel) (by decide +kernel)
theorem im_X2_layText : Cond.instanceMethod yX2_layText ∈ mm_tb := mm_in 267 (by decide +kernel) (by decide +kernel)
theorem sl_X2_layText : Cond.selects RX2 yX2_layText yX2_layText ∈ mm_tb := mm_in 13 (by decide +kernel) (by decide +kernel)
theorem ml_X2_76 : Cond.methodLink RX2 76 yX2_insertEntry ∈ mm_tb := mm_in 269 (by decide +kernel) (by decide +kernel)
theorem cd_X2_insertEntry : Cond.code yX2_insertEntry cX2_insertEntry 7 (some .int) ∈ mm_tb := mm_in 272 (by decide +kernel) (by decide +kernel)
theorem im_X2_insertEntry : Cond.instanceMethod yX2_insertEntry ∈ mm_tb := mm_in 271 (by decide +kernel) (by decide +kernel)
theorem sl_X2_insertEntry : Cond.selects RX2 yX2_insertEntry yX2_insertEntry ∈ mm_tb := mm_in 14 (by decide +kernel) (by decide +kernel)
theorem ml_X2_80 : Cond.methodLink RX2 80 yX2_isMember ∈ mm_tb := mm_in 185 (by decide +kernel) (by decide +kernel)
theorem cd_X2_isMember : Cond.code yX2_isMember cX2_isMember 2 (some .boolean) ∈ mm_tb := mm_in 188 (by decide +kernel) (by decide +kernel)
theorem im_X2_isMember : Cond.instanceMethod yX2_isMember ∈ mm_tb := mm_in 187 (by decide +kernel) (by decide +kernel)
theorem sl_X2_isMember : Cond.selects RX2 yX2_isMember yX2_isMember ∈ mm_tb := mm_in 1 (by decide +kernel) (by decide +kernel)
theorem ml_X1_52 : Cond.methodLink RX1 52 yX2_giveAlias ∈ mm_tb := mm_in 379 (by decide +kernel) (by decide +kernel)
theorem cd_X2_giveAlias : Cond.code yX2_giveAlias cX2_giveAlias 6 (some .int) ∈ mm_tb := mm_in 382 (by decide +kernel) (by decide +kernel)
theorem im_X2_giveAlias : Cond.instanceMethod yX2_giveAlias ∈ mm_tb := mm_in 380 (by decide +kernel) (by decide +kernel)
theorem sl_X2_giveAlias : Cond.selects RX2 yX2_giveAlias yX2_giveAlias ∈ mm_tb := mm_in 381 (by decide +kernel) (by decide +kernel)
theorem ml_X1_46 : Cond.methodLink RX1 46 yX2_addMember ∈ mm_tb := mm_in 378 (by decide +kernel) (by decide +kernel)
theorem cd_X2_addMember : Cond.code yX2_addMember cX2_addMember 5 (some .int) ∈ mm_tb := mm_in 247 (by decide +kernel) (by decide +kernel)
theorem im_X2_addMember : Cond.instanceMethod yX2_addMember ∈ mm_tb := mm_in 245 (by decide +kernel) (by decide +kernel)
theorem sl_X2_addMember : Cond.selects RX2 yX2_addMember yX2_addMember ∈ mm_tb := mm_in 246 (by decide +kernel) (by decide +kernel)
theorem ml_X2_87 : Cond.methodLink RX2 87 yX2_takeOut ∈ mm_tb := mm_in 407 (by decide +kernel) (by decide +kernel)
theorem cd_X2_takeOut : Cond.code yX2_takeOut cX2_takeOut 2 none ∈ mm_tb := mm_in 410 (by decide +kernel) (by decide +kernel)
theorem im_X2_takeOut : Cond.instanceMethod yX2_takeOut ∈ mm_tb := mm_in 409 (by decide +kernel) (by decide +kernel)
theorem sl_X2_takeOut : Cond.selects RX2 yX2_takeOut yX2_takeOut ∈ mm_tb := mm_in 30 (by decide +kernel) (by decide +kernel)
theorem ml_X2_91 : Cond.methodLink RX2 91 yX2_tellAliases ∈ mm_tb := mm_in 419 (by decide +kernel) (by decide +kernel)
theorem cd_X2_tellAliases : Cond.code yX2_tellAliases cX2_tellAliases 4 none ∈ mm_tb := mm_in 422 (by decide +kernel) (by decide +kernel)
theorem im_X2_tellAliases : Cond.instanceMethod yX2_tellAliases ∈ mm_tb := mm_in 421 (by decide +kernel) (by decide +kernel)
theorem sl_X2_tellAliases : Cond.selects RX2 yX2_tellAliases yX2_tellAliases ∈ mm_tb := mm_in 31 (by decide +kernel) (by decide +kernel)
theorem ml_X2_135 : Cond.methodLink RX2 135 yX2_isFirstOfText ∈ mm_tb := mm_in 209 (by decide +kernel) (by decide +kernel)
theorem cd_X2_isFirstOfText : Cond.code yX2_isFirstOfText cX2_isFirstOfText 3 (some .boolean) ∈ mm_tb := mm_in 212 (by decide +kernel) (by decide +kernel)
theorem im_X2_isFirstOfText : Cond.instanceMethod yX2_isFirstOfText ∈ mm_tb := mm_in 211 (by decide +kernel) (by decide +kernel)
theorem sl_X2_isFirstOfText : Cond.selects RX2 yX2_isFirstOfText yX2_isFirstOfText ∈ mm_tb := mm_in 7 (by decide +kernel) (by decide +kernel)
theorem ml_X2_120 : Cond.methodLink RX2 120 yX2_livingUnits ∈ mm_tb := mm_in 205 (by decide +kernel) (by decide +kernel)
theorem cd_X2_livingUnits : Cond.code yX2_livingUnits cX2_livingUnits 3 (some .int) ∈ mm_tb := mm_in 208 (by decide +kernel) (by decide +kernel)
theorem im_X2_livingUnits : Cond.instanceMethod yX2_livingUnits ∈ mm_tb := mm_in 207 (by decide +kernel) (by decide +kernel)
theorem sl_X2_livingUnits : Cond.selects RX2 yX2_livingUnits yX2_livingUnits ∈ mm_tb := mm_in 6 (by decide +kernel) (by decide +kernel)
theorem ml_X2_142 : Cond.methodLink RX2 142 yX2_moveText ∈ mm_tb := mm_in 440 (by decide +kernel) (by decide +kernel)
theorem cd_X2_moveText : Cond.code yX2_moveText cX2_moveText 5 (some .int) ∈ mm_tb := mm_in 443 (by decide +kernel) (by decide +kernel)
theorem im_X2_moveText : Cond.instanceMethod yX2_moveText ∈ mm_tb := mm_in 442 (by decide +kernel) (by decide +kernel)
theorem sl_X2_moveText : Cond.selects RX2 yX2_moveText yX2_moveText ∈ mm_tb := mm_in 33 (by decide +kernel) (by decide +kernel)
theorem ml_X2_95 : Cond.methodLink RX2 95 yX2_deadUnits ∈ mm_tb := mm_in 213 (by decide +kernel) (by decide +kernel)
theorem cd_X2_deadUnits : Cond.code yX2_deadUnits cX2_deadUnits 1 (some .int) ∈ mm_tb := mm_in 216 (by decide +kernel) (by decide +kernel)
theorem im_X2_deadUnits : Cond.instanceMethod yX2_deadUnits ∈ mm_tb := mm_in 215 (by decide +kernel) (by decide +kernel)
theorem sl_X2_deadUnits : Cond.selects RX2 yX2_deadUnits yX2_deadUnits ∈ mm_tb := mm_in 8 (by decide +kernel) (by decide +kernel)
theorem ml_X2_99 : Cond.methodLink RX2 99 yX2_closeUp ∈ mm_tb := mm_in 436 (by decide +kernel) (by decide +kernel)
theorem cd_X2_closeUp : Cond.code yX2_closeUp cX2_closeUp 3 (some .int) ∈ mm_tb := mm_in 439 (by decide +kernel) (by decide +kernel)
theorem im_X2_closeUp : Cond.instanceMethod yX2_closeUp ∈ mm_tb := mm_in 438 (by decide +kernel) (by decide +kernel)
theorem sl_X2_closeUp : Cond.selects RX2 yX2_closeUp yX2_closeUp ∈ mm_tb := mm_in 32 (by decide +kernel) (by decide +kernel)
theorem ml_X2_102 : Cond.methodLink RX2 102 yX2_aliasesOf ∈ mm_tb := mm_in 229 (by decide +kernel) (by decide +kernel)
theorem cd_X2_aliasesOf : Cond.code yX2_aliasesOf cX2_aliasesOf 4 (some .int) ∈ mm_tb := mm_in 232 (by decide +kernel) (by decide +kernel)
theorem im_X2_aliasesOf : Cond.instanceMethod yX2_aliasesOf ∈ mm_tb := mm_in 231 (by decide +kernel) (by decide +kernel)
theorem sl_X2_aliasesOf : Cond.selects RX2 yX2_aliasesOf yX2_aliasesOf ∈ mm_tb := mm_in 10 (by decide +kernel) (by decide +kernel)
theorem ml_X2_105 : Cond.methodLink RX2 105 yX2_isLost ∈ mm_tb := mm_in 197 (by decide +kernel) (by decide +kernel)
theorem cd_X2_isLost : Cond.code yX2_isLost cX2_isLost 3 (some .boolean) ∈ mm_tb := mm_in 200 (by decide +kernel) (by decide +kernel)
theorem im_X2_isLost : Cond.instanceMethod yX2_isLost ∈ mm_tb := mm_in 199 (by decide +kernel) (by decide +kernel)
theorem sl_X2_isLost : Cond.selects RX2 yX2_isLost yX2_isLost ∈ mm_tb := mm_in 4 (by decide +kernel) (by decide +kernel)
theorem ml_X2_117 : Cond.methodLink RX2 117 yX2_tellName ∈ mm_tb := mm_in 487 (by decide +kernel) (by decide +kernel)
theorem cd_X2_tellName : Cond.code yX2_tellName cX2_tellName 2 (some .int) ∈ mm_tb := mm_in 470 (by decide +kernel) (by decide +kernel)
theorem im_X2_tellName : Cond.instanceMethod yX2_tellName ∈ mm_tb := mm_in 468 (by decide +kernel) (by decide +kernel)
theorem sl_X2_tellName : Cond.selects RX2 yX2_tellName yX2_tellName ∈ mm_tb := mm_in 469 (by decide +kernel) (by decide +kernel)
theorem ml_X2_126 : Cond.methodLink RX2 126 yX2_aliases ∈ mm_tb := mm_in 181 (by decide +kernel) (by decide +kernel)
theorem cd_X2_aliases : Cond.code yX2_aliases cX2_aliases 3 (some .int) ∈ mm_tb := mm_in 184 (by decide +kernel) (by decide +kernel)
theorem im_X2_aliases : Cond.instanceMethod yX2_aliases ∈ mm_tb := mm_in 183 (by decide +kernel) (by decide +kernel)
theorem sl_X2_aliases : Cond.selects RX2 yX2_aliases yX2_aliases ∈ mm_tb := mm_in 0 (by decide +kernel) (by decide +kernel)
theorem ml_X2_129 : Cond.methodLink RX2 129 yX2_lostAliases ∈ mm_tb := mm_in 193 (by decide +kernel) (by decide +kernel)
theorem cd_X2_lostAliases : Cond.code yX2_lostAliases cX2_lostAliases 3 (some .int) ∈ mm_tb := mm_in 196 (by decide +kernel) (by decide +kernel)
theorem im_X2_lostAliases : Cond.instanceMethod yX2_lostAliases ∈ mm_tb := mm_in 195 (by decide +kernel) (by decide +kernel)
theorem sl_X2_lostAliases : Cond.selects RX2 yX2_lostAliases yX2_lostAliases ∈ mm_tb := mm_in 3 (by decide +kernel) (by decide +kernel)
theorem ml_X2_132 : Cond.methodLink RX2 132 yX2_livingTexts ∈ mm_tb := mm_in 217 (by decide +kernel) (by decide +kernel)
theorem cd_X2_livingTexts : Cond.code yX2_livingTexts cX2_livingTexts 3 (some .int) ∈ mm_tb := mm_in 220 (by decide +kernel) (by decide +kernel)
theorem im_X2_livingTexts : Cond.instanceMethod yX2_livingTexts ∈ mm_tb := mm_in 219 (by decide +kernel) (by decide +kernel)
theorem sl_X2_livingTexts : Cond.selects RX2 yX2_livingTexts yX2_livingTexts ∈ mm_tb := mm_in 9 (by decide +kernel) (by decide +kernel)
theorem fl_X3_29 : Cond.fieldLink RX3 29 (TX3 4).1 (TX3 4).2.1 (TX3 4).2.2.1 ∈ mm_tb := mm_in 139 (by decide +kernel) (by decide +kernel)
theorem fl_X3_12 : Cond.fieldLink RX3 12 (TX3 0).1 (TX3 0).2.1 (TX3 0).2.2.1 ∈ mm_tb := mm_in 135 (by decide +kernel) (by decide +kernel)
theorem ml_X3_118 : Cond.methodLink RX3 118 yX0_keepState ∈ mm_tb := mm_in 292 (by decide +kernel) (by decide +kernel)
theorem cd_X0_keepState : Cond.code yX0_keepState cX0_keepState 3 none ∈ mm_tb := mm_in 295 (by decide +kernel) (by decide +kernel)
theorem im_X0_keepState : Cond.instanceMethod yX0_keepState ∈ mm_tb := mm_in 293 (by decide +kernel) (by decide +kernel)
theorem sl_X0_keepState : Cond.selects RX0 yX0_keepState yX0_keepState ∈ mm_tb := mm_in 294 (by decide +kernel) (by decide +kernel)
theorem fl_X3_16 : Cond.fieldLink RX3 16 (TX3 1).1 (TX3 1).2.1 (TX3 1).2.2.1 ∈ mm_tb := mm_in 136 (by decide +kernel) (by decide +kernel)
theorem ml_X3_40 : Cond.methodLink RX3 40 yX2_copyFrom ∈ mm_tb := mm_in 237 (by decide +kernel) (by decide +kernel)
theorem ml_X3_44 : Cond.methodLink RX3 44 yX2_addMember ∈ mm_tb := mm_in 244 (by decide +kernel) (by decide +kernel)
theorem ml_X3_48 : Cond.methodLink RX3 48 yX3_settle ∈ mm_tb := mm_in 288 (by decide +kernel) (by decide +kernel)
theorem cd_X3_settle : Cond.code yX3_settle cX3_settle 2 (some .int) ∈ mm_tb := mm_in 291 (by decide +kernel) (by decide +kernel)
theorem im_X3_settle : Cond.instanceMethod yX3_settle ∈ mm_tb := mm_in 290 (by decide +kernel) (by decide +kernel)
theorem sl_X3_settle : Cond.selects RX3 yX3_settle yX3_settle ∈ mm_tb := mm_in 18 (by decide +kernel) (by decide +kernel)
theorem it_X3 : Cond.initialized RX3 ∈ mm_tb := mm_in 35 (by decide +kernel) (by decide +kernel)
theorem ml_X3_52 : Cond.methodLink RX3 52 yX2_replaceText ∈ mm_tb := mm_in 395 (by decide +kernel) (by decide +kernel)
theorem cd_X2_replaceText : Cond.code yX2_replaceText cX2_replaceText 6 (some .int) ∈ mm_tb := mm_in 398 (by decide +kernel) (by decide +kernel)
theorem im_X2_replaceText : Cond.instanceMethod yX2_replaceText ∈ mm_tb := mm_in 396 (by decide +kernel) (by decide +kernel)
theorem sl_X2_replaceText : Cond.selects RX2 yX2_replaceText yX2_replaceText ∈ mm_tb := mm_in 397 (by decide +kernel) (by decide +kernel)
theorem ml_X3_55 : Cond.methodLink RX3 55 yX2_removeEntry ∈ mm_tb := mm_in 403 (by decide +kernel) (by decide +kernel)
theorem cd_X2_removeEntry : Cond.code yX2_removeEntry cX2_removeEntry 3 (some .int) ∈ mm_tb := mm_in 406 (by decide +kernel) (by decide +kernel)
theorem im_X2_removeEntry : Cond.instanceMethod yX2_removeEntry ∈ mm_tb := mm_in 404 (by decide +kernel) (by decide +kernel)
theorem sl_X2_removeEntry : Cond.selects RX2 yX2_removeEntry yX2_removeEntry ∈ mm_tb := mm_in 405 (by decide +kernel) (by decide +kernel)
theorem ml_X3_58 : Cond.methodLink RX3 58 yX2_renameEntry ∈ mm_tb := mm_in 415 (by decide +kernel) (by decide +kernel)
theorem cd_X2_renameEntry : Cond.code yX2_renameEntry cX2_renameEntry 9 (some .int) ∈ mm_tb := mm_in 418 (by decide +kernel) (by decide +kernel)
theorem im_X2_renameEntry : Cond.instanceMethod yX2_renameEntry ∈ mm_tb := mm_in 416 (by decide +kernel) (by decide +kernel)
theorem sl_X2_renameEntry : Cond.selects RX2 yX2_renameEntry yX2_renameEntry ∈ mm_tb := mm_in 417 (by decide +kernel) (by decide +kernel)
theorem ml_X3_62 : Cond.methodLink RX3 62 yX2_giveAlias ∈ mm_tb := mm_in 427 (by decide +kernel) (by decide +kernel)
theorem fl_X3_36 : Cond.fieldLink RX3 36 (TX3 5).1 (TX3 5).2.1 (TX3 5).2.2.1 ∈ mm_tb := mm_in 140 (by decide +kernel) (by decide +kernel)
theorem ml_X3_65 : Cond.methodLink RX3 65 yX1_readAdditions ∈ mm_tb := mm_in 330 (by decide +kernel) (by decide +kernel)
theorem cd_X1_readAdditions : Cond.code yX1_readAdditions cX1_readAdditions 2 (some .int) ∈ mm_tb := mm_in 333 (by decide +kernel) (by decide +kernel)
theorem im_X1_readAdditions : Cond.instanceMethod yX1_readAdditions ∈ mm_tb := mm_in 331 (by decide +kernel) (by decide +kernel)
theorem sl_X1_readAdditions : Cond.selects RX1 yX1_readAdditions yX1_readAdditions ∈ mm_tb := mm_in 332 (by decide +kernel) (by decide +kernel)
theorem ml_X3_69 : Cond.methodLink RX3 69 yX1_makeAdditions ∈ mm_tb := mm_in 374 (by decide +kernel) (by decide +kernel)
theorem cd_X1_makeAdditions : Cond.code yX1_makeAdditions cX1_makeAdditions 4 (some .int) ∈ mm_tb := mm_in 377 (by decide +kernel) (by decide +kernel)
theorem im_X1_makeAdditions : Cond.instanceMethod yX1_makeAdditions ∈ mm_tb := mm_in 375 (by decide +kernel) (by decide +kernel)
theorem sl_X1_makeAdditions : Cond.selects RX1 yX1_makeAdditions yX1_makeAdditions ∈ mm_tb := mm_in 376 (by decide +kernel) (by decide +kernel)
theorem ml_X3_73 : Cond.methodLink RX3 73 yX2_giveBackDeadRoom ∈ mm_tb := mm_in 432 (by decide +kernel) (by decide +kernel)
theorem cd_X2_giveBackDeadRoom : Cond.code yX2_giveBackDeadRoom cX2_giveBackDeadRoom 1 (some .int) ∈ mm_tb := mm_in 435 (by decide +kernel) (by decide +kernel)
theorem im_X2_giveBackDeadRoom : Cond.instanceMethod yX2_giveBackDeadRoom ∈ mm_tb := mm_in 433 (by decide +kernel) (by decide +kernel)
theorem sl_X2_giveBackDeadRoom : Cond.selects RX2 yX2_giveBackDeadRoom yX2_giveBackDeadRoom ∈ mm_tb := mm_in 434 (by decide +kernel) (by decide +kernel)
theorem ml_X3_76 : Cond.methodLink RX3 76 yX2_changeBlocks ∈ mm_tb := mm_in 448 (by decide +kernel) (by decide +kernel)
theorem cd_X2_changeBlocks : Cond.code yX2_changeBlocks cX2_changeBlocks 3 (some .int) ∈ mm_tb := mm_in 451 (by decide +kernel) (by decide +kernel)
theorem im_X2_changeBlocks : Cond.instanceMethod yX2_changeBlocks ∈ mm_tb := mm_in 449 (by decide +kernel) (by decide +kernel)
theorem sl_X2_changeBlocks : Cond.selects RX2 yX2_changeBlocks yX2_changeBlocks ∈ mm_tb := mm_in 450 (by decide +kernel) (by decide +kernel)
theorem ml_X3_79 : Cond.methodLink RX3 79 yX1_append ∈ mm_tb := mm_in 319 (by decide +kernel) (by decide +kernel)
theorem cd_X1_append : Cond.code yX1_append cX1_append 2 (some .int) ∈ mm_tb := mm_in 322 (by decide +kernel) (by decide +kernel)
theorem im_X1_append : Cond.instanceMethod yX1_append ∈ mm_tb := mm_in 320 (by decide +kernel) (by decide +kernel)
theorem sl_X1_append : Cond.selects RX1 yX1_append yX1_append ∈ mm_tb := mm_in 321 (by decide +kernel) (by decide +kernel)
theorem ml_X3_83 : Cond.methodLink RX3 83 yX1_empty ∈ mm_tb := mm_in 308 (by decide +kernel) (by decide +kernel)
theorem cd_X1_empty : Cond.code yX1_empty cX1_empty 2 (some .int) ∈ mm_tb := mm_in 311 (by decide +kernel) (by decide +kernel)
theorem im_X1_empty : Cond.instanceMethod yX1_empty ∈ mm_tb := mm_in 309 (by decide +kernel) (by decide +kernel)
theorem sl_X1_empty : Cond.selects RX1 yX1_empty yX1_empty ∈ mm_tb := mm_in 310 (by decide +kernel) (by decide +kernel)
theorem ml_X3_86 : Cond.methodLink RX3 86 yX0_giveLatestTo ∈ mm_tb := mm_in 456 (by decide +kernel) (by decide +kernel)
theorem cd_X0_giveLatestTo : Cond.code yX0_giveLatestTo cX0_giveLatestTo 3 (some .boolean) ∈ mm_tb := mm_in 459 (by decide +kernel) (by decide +kernel)
theorem im_X0_giveLatestTo : Cond.instanceMethod yX0_giveLatestTo ∈ mm_tb := mm_in 457 (by decide +kernel) (by decide +kernel)
theorem sl_X0_giveLatestTo : Cond.selects RX0 yX0_giveLatestTo yX0_giveLatestTo ∈ mm_tb := mm_in 458 (by decide +kernel) (by decide +kernel)
theorem ml_X3_90 : Cond.methodLink RX3 90 yX0_size ∈ mm_tb := mm_in 169 (by decide +kernel) (by decide +kernel)
theorem cd_X0_size : Cond.code yX0_size cX0_size 1 (some .int) ∈ mm_tb := mm_in 172 (by decide +kernel) (by decide +kernel)
theorem im_X0_size : Cond.instanceMethod yX0_size ∈ mm_tb := mm_in 170 (by decide +kernel) (by decide +kernel)
theorem sl_X0_size : Cond.selects RX0 yX0_size yX0_size ∈ mm_tb := mm_in 171 (by decide +kernel) (by decide +kernel)
theorem ml_X3_94 : Cond.methodLink RX3 94 yX2_tellEntry ∈ mm_tb := mm_in 225 (by decide +kernel) (by decide +kernel)
theorem cd_X2_tellEntry : Cond.code yX2_tellEntry cX2_tellEntry 4 (some .int) ∈ mm_tb := mm_in 228 (by decide +kernel) (by decide +kernel)
theorem im_X2_tellEntry : Cond.instanceMethod yX2_tellEntry ∈ mm_tb := mm_in 226 (by decide +kernel) (by decide +kernel)
theorem sl_X2_tellEntry : Cond.selects RX2 yX2_tellEntry yX2_tellEntry ∈ mm_tb := mm_in 227 (by decide +kernel) (by decide +kernel)
theorem ml_X3_97 : Cond.methodLink RX3 97 yX2_tellName ∈ mm_tb := mm_in 467 (by decide +kernel) (by decide +kernel)
theorem ml_X3_103 : Cond.methodLink RX3 103 yX2_tellUnit ∈ mm_tb := mm_in 475 (by decide +kernel) (by decide +kernel)
theorem cd_X2_tellUnit : Cond.code yX2_tellUnit cX2_tellUnit 3 (some .int) ∈ mm_tb := mm_in 478 (by decide +kernel) (by decide +kernel)
theorem im_X2_tellUnit : Cond.instanceMethod yX2_tellUnit ∈ mm_tb := mm_in 476 (by decide +kernel) (by decide +kernel)
theorem sl_X2_tellUnit : Cond.selects RX2 yX2_tellUnit yX2_tellUnit ∈ mm_tb := mm_in 477 (by decide +kernel) (by decide +kernel)
theorem ml_X3_106 : Cond.methodLink RX3 106 yX2_tellFit ∈ mm_tb := mm_in 387 (by decide +kernel) (by decide +kernel)
theorem cd_X2_tellFit : Cond.code yX2_tellFit cX2_tellFit 2 (some .int) ∈ mm_tb := mm_in 390 (by decide +kernel) (by decide +kernel)
theorem im_X2_tellFit : Cond.instanceMethod yX2_tellFit ∈ mm_tb := mm_in 388 (by decide +kernel) (by decide +kernel)
theorem sl_X2_tellFit : Cond.selects RX2 yX2_tellFit yX2_tellFit ∈ mm_tb := mm_in 389 (by decide +kernel) (by decide +kernel)
theorem ml_X3_109 : Cond.methodLink RX3 109 yX2_tellBeginning ∈ mm_tb := mm_in 483 (by decide +kernel) (by decide +kernel)
theorem cd_X2_tellBeginning : Cond.code yX2_tellBeginning cX2_tellBeginning 5 (some .int) ∈ mm_tb := mm_in 486 (by decide +kernel) (by decide +kernel)
theorem im_X2_tellBeginning : Cond.instanceMethod yX2_tellBeginning ∈ mm_tb := mm_in 484 (by decide +kernel) (by decide +kernel)
theorem sl_X2_tellBeginning : Cond.selects RX2 yX2_tellBeginning yX2_tellBeginning ∈ mm_tb := mm_in 485 (by decide +kernel) (by decide +kernel)
theorem ml_X3_112 : Cond.methodLink RX3 112 yX1_length ∈ mm_tb := mm_in 173 (by decide +kernel) (by decide +kernel)
theorem cd_X1_length : Cond.code yX1_length cX1_length 1 (some .int) ∈ mm_tb := mm_in 176 (by decide +kernel) (by decide +kernel)
theorem im_X1_length : Cond.instanceMethod yX1_length ∈ mm_tb := mm_in 174 (by decide +kernel) (by decide +kernel)
theorem sl_X1_length : Cond.selects RX1 yX1_length yX1_length ∈ mm_tb := mm_in 175 (by decide +kernel) (by decide +kernel)
theorem ml_X3_115 : Cond.methodLink RX3 115 yX2_tellCount ∈ mm_tb := mm_in 177 (by decide +kernel) (by decide +kernel)
theorem cd_X2_tellCount : Cond.code yX2_tellCount cX2_tellCount 2 (some .int) ∈ mm_tb := mm_in 180 (by decide +kernel) (by decide +kernel)
theorem im_X2_tellCount : Cond.instanceMethod yX2_tellCount ∈ mm_tb := mm_in 178 (by decide +kernel) (by decide +kernel)
theorem sl_X2_tellCount : Cond.selects RX2 yX2_tellCount yX2_tellCount ∈ mm_tb := mm_in 179 (by decide +kernel) (by decide +kernel)
end
section
abbrev rm_X0_size : Room := { frames := 0, cells := 0, slots := 0, locals := 0 }
noncomputable def f_X0_size (m : Mem) : Option (Int × Mem) :=
  some ((m.1 19 1), m)
set_option maxRecDepth 100000 in
set_option maxHeartbeats 4000000 in
theorem ok_X0_size {r : Int × Mem} : ∀ (m : Mem), f_X0_size m = some r → VV RX0 cX0_size 1 rm_X0_size mmG0 (mmPi r) 0 [(0, .ref 19)] [] m := by
  intro m E
  unfold f_X0_size at E
  refine V_aload_n 0 dX0_size_0 rfl ?_
  refine V_geti (ci := 0) (k := 1) (N := 2) (T := TX0) (v := (m.1 19 1)) dX0_size_1 iuX0 fl_X0_17 rfl (by decide) rfl sh_19 rfl (fun hv1 => ?_)
  obtain rfl := Option.some.inj E
  exact V_reti dX0_size_4 ⟨rfl, rfl, hv1⟩
theorem ct_X0_size {m : Mem} {r : Int × Mem} (E : f_X0_size m = some r) : CTi yX0_size cX0_size 1 (some .int) rm_X0_size [.ref 19] m r := CT_i (by decide +kernel) rfl (Nat.le_of_ble_eq_true rfl) (ok_X0_size  _  E)
theorem hy_X0_size : yX0_size.cls = RX0 ∧ yX0_size.cls ≠ "java/lang/invoke/MethodHandle" ∧ yX0_size.cls ≠ "java/lang/invoke/VarHandle" ∧ (parseMethodDescriptor yX0_size.desc).map (fun d => d.parameters.length) = some 0 := by decide +kernel
abbrev rm_X0_dropOldest : Room := { frames := 0, cells := 0, slots := 0, locals := 0 }
noncomputable def f_X0_dropOldest_L9 : Nat → Nat → Int → Mem → Option (Mem)
  | 0, _, _, _ => none
  | n + 1, l1, l2, m =>
    if 4 ≤ l2 then
(some (mwr (mwq m 3 l1) 19 1 3))
else
(mmK (inR (l2 - 1)) (mmK (0 ≤ l2 ∧ l2 < 4) ((m.2 (l2).toNat).bind (fun q7 => mmK (mmSh[q7]? = some (.inl 2)) (mmK (0 ≤ (l2 - 1) ∧ (l2 - 1) < 4) (mmK (inR (l2 + 1)) (f_X0_dropOldest_L9 n l1 (l2 + 1) (mwq m ((l2 - 1)).toNat q7))))))))
set_option maxRecDepth 100000 in
set_option maxHeartbeats 4000000 in
theorem ok_X0_dropOldest_L9 {r : Mem} : ∀ (n : Nat), ∀ (l1 : Nat) (l2 : Int) (m : Mem), mmSh[l1]? = some (.inl 2) → inR l2 → f_X0_dropOldest_L9 n l1 l2 m = some r → VV RX0 cX0_dropOldest 3 rm_X0_dropOldest mmG0 (mmPv r) 9 [(0, .ref 19), (1, .ref l1), (2, vi l2)] [] m := by
  intro n
  induction n with
  | zero =>
    intro l1 l2 m hs1 hr2 E
    cases E
  | succ n ih =>
    intro l1 l2 m hs1 hr2 E
    rw [f_X0_dropOldest_L9] at E
    refine V_iload_n 2 dX0_dropOldest_9 rfl ?_
    refine V_iconst dX0_dropOldest_10 rfl ?_
    refine V_icmp_ge 34 dX0_dropOldest_11 (by decide) hr2 ir_4 (fun c3 => ?_) (fun c3 => ?_)
    · replace E := mmI_t c3 E
      refine V_aload_n 0 dX0_dropOldest_34 rfl ?_
      refine V_geta (ci := 0) (k := 0) (N := 2) (T := TX0) (o' := 20) dX0_dropOldest_35 iuX0 fl_X0_11 rfl (by decide) rfl sh_19 rfl ?_
      refine V_iconst dX0_dropOldest_38 rfl ?_
      refine V_aload_n 1 dX0_dropOldest_39 rfl ?_
      refine V_aast (j := 3) dX0_dropOldest_40 ir_3 (by decide) hs1 rfl ?_
      refine V_aload_n 0 dX0_dropOldest_41 rfl ?_
      refine V_iconst dX0_dropOldest_42 rfl ?_
      refine V_put (ci := 0) (k := 1) (N := 2) (T := TX0) (x := 3) (ty := .int) tyX0 dX0_dropOldest_43 iuX0 tyX0_ok nmX0 fl_X0_17 rfl (by decide) rfl sh_19 rfl (by decide +kernel) rfl rfl ir_3 ?_
      obtain rfl := Option.some.inj E
      exact V_retv dX0_dropOldest_46 ⟨rfl, rfl⟩
    · replace E := mmI_f c3 E
      refine V_aload_n 0 dX0_dropOldest_14 rfl ?_
      refine V_geta (ci := 0) (k := 0) (N := 2) (T := TX0) (o' := 20) dX0_dropOldest_15 iuX0 fl_X0_11 rfl (by decide) rfl sh_19 rfl ?_
      refine V_iload_n 2 dX0_dropOldest_18 rfl ?_
      refine V_iconst dX0_dropOldest_19 rfl ?_
      obtain ⟨hv5, E⟩ := mmK_e E
      refine V_isub dX0_dropOldest_20 ?_
      refine V_aload_n 0 dX0_dropOldest_21 rfl ?_
      refine V_geta (ci := 0) (k := 0) (N := 2) (T := TX0) (o' := 20) dX0_dropOldest_22 iuX0 fl_X0_11 rfl (by decide) rfl sh_19 rfl ?_
      refine V_iload_n 2 dX0_dropOldest_25 rfl ?_
      obtain ⟨hv6, E⟩ := mmK_e E
      obtain ⟨q7, hq7, E⟩ := mmB_e E
      obtain ⟨hsq7, E⟩ := mmK_e E
      refine V_aald (n := 4) (j := (l2).toNat) dX0_dropOldest_26 sh_20 hr2 hv6 rfl hq7 ?_
      obtain ⟨hv8, E⟩ := mmK_e E
      refine V_aast (j := ((l2 - 1)).toNat) dX0_dropOldest_27 hv5 hv8 hsq7 rfl ?_
      obtain ⟨hv9, E⟩ := mmK_e E
      refine V_iinc (v := (l2 + 1)) (lv' := [(0, .ref 19), (1, .ref l1), (2, vi (l2 + 1))]) 2 dX0_dropOldest_28 rfl rfl rfl rfl ?_
      refine V_goto 9 dX0_dropOldest_31 (by decide) ?_
      exact ih _ _ _ hs1 hv9 E
noncomputable def f_X0_dropOldest (m : Mem) : Option (Mem) :=
  (m.2 0).bind (fun q2 => mmK (mmSh[q2]? = some (.inl 2)) (f_X0_dropOldest_L9 mmFU q2 1 m))
set_option maxRecDepth 100000 in
set_option maxHeartbeats 4000000 in
theorem ok_X0_dropOldest {r : Mem} : ∀ (m : Mem), f_X0_dropOldest m = some r → VV RX0 cX0_dropOldest 3 rm_X0_dropOldest mmG0 (mmPv r) 0 [(0, .ref 19)] [] m := by
  intro m E
  unfold f_X0_dropOldest at E
  refine V_aload_n 0 dX0_dropOldest_0 rfl ?_
  refine V_geta (ci := 0) (k := 0) (N := 2) (T := TX0) (o' := 20) dX0_dropOldest_1 iuX0 fl_X0_11 rfl (by decide) rfl sh_19 rfl ?_
  refine V_iconst dX0_dropOldest_4 rfl ?_
  obtain ⟨q2, hq2, E⟩ := mmB_e E
  obtain ⟨hsq2, E⟩ := mmK_e E
  refine V_aald (n := 4) (j := 0) dX0_dropOldest_5 sh_20 ir_0 (by decide) rfl hq2 ?_
  refine V_astore_n (i := 1) (lv' := [(0, .ref 19), (1, .ref q2)]) dX0_dropOldest_6 rfl rfl rfl ?_
  refine V_iconst dX0_dropOldest_7 rfl ?_
  refine V_istore_n (i := 2) (lv' := [(0, .ref 19), (1, .ref q2), (2, vi 1)]) dX0_dropOldest_8 rfl rfl rfl ?_
  exact ok_X0_dropOldest_L9 mmFU _ _ _ hsq2 ir_1 E
theorem ct_X0_dropOldest {m : Mem} {r : Mem} (E : f_X0_dropOldest m = some r) : CTv yX0_dropOldest cX0_dropOldest 3 rm_X0_dropOldest [.ref 19] m r := CT_v (by decide +kernel) rfl (Nat.le_of_ble_eq_true rfl) (ok_X0_dropOldest  _  E)
theorem hy_X0_dropOldest : yX0_dropOldest.cls = RX0 ∧ yX0_dropOldest.cls ≠ "java/lang/invoke/MethodHandle" ∧ yX0_dropOldest.cls ≠ "java/lang/invoke/VarHandle" ∧ (parseMethodDescriptor yX0_dropOldest.desc).map (fun d => d.parameters.length) = some 0 := by decide +kernel
abbrev rm_X2_copyFrom : Room := { frames := 1, cells := 0, slots := 0, locals := 26 }
noncomputable def f_X2_copyFrom (l0 : Nat) (l1 : Nat) (m : Mem) : Option (Mem) :=
  some (mwr (mwr (mwr (mwr (mwr (mcp (mcp (mcp (mcp (mcp m (l1 + 1) 0 (l0 + 1) 0 24) (l1 + 2) 0 (l0 + 2) 0 24) (l1 + 3) 0 (l0 + 3) 0 24) (l1 + 4) 0 (l0 + 4) 0 24) (l1 + 5) 0 (l0 + 5) 0 24) l0 5 ((mcp (mcp (mcp (mcp (mcp m (l1 + 1) 0 (l0 + 1) 0 24) (l1 + 2) 0 (l0 + 2) 0 24) (l1 + 3) 0 (l0 + 3) 0 24) (l1 + 4) 0 (l0 + 4) 0 24) (l1 + 5) 0 (l0 + 5) 0 24).1 l1 5)) l0 6 ((mwr (mcp (mcp (mcp (mcp (mcp m (l1 + 1) 0 (l0 + 1) 0 24) (l1 + 2) 0 (l0 + 2) 0 24) (l1 + 3) 0 (l0 + 3) 0 24) (l1 + 4) 0 (l0 + 4) 0 24) (l1 + 5) 0 (l0 + 5) 0 24) l0 5 ((mcp (mcp (mcp (mcp (mcp m (l1 + 1) 0 (l0 + 1) 0 24) (l1 + 2) 0 (l0 + 2) 0 24) (l1 + 3) 0 (l0 + 3) 0 24) (l1 + 4) 0 (l0 + 4) 0 24) (l1 + 5) 0 (l0 + 5) 0 24).1 l1 5)).1 l1 6)) l0 7 ((mwr (mwr (mcp (mcp (mcp (mcp (mcp m (l1 + 1) 0 (l0 + 1) 0 24) (l1 + 2) 0 (l0 + 2) 0 24) (l1 + 3) 0 (l0 + 3) 0 24) (l1 + 4) 0 (l0 + 4) 0 24) (l1 + 5) 0 (l0 + 5) 0 24) l0 5 ((mcp (mcp (mcp (mcp (mcp m (l1 + 1) 0 (l0 + 1) 0 24) (l1 + 2) 0 (l0 + 2) 0 24) (l1 + 3) 0 (l0 + 3) 0 24) (l1 + 4) 0 (l0 + 4) 0 24) (l1 + 5) 0 (l0 + 5) 0 24).1 l1 5)) l0 6 ((mwr (mcp (mcp (mcp (mcp (mcp m (l1 + 1) 0 (l0 + 1) 0 24) (l1 + 2) 0 (l0 + 2) 0 24) (l1 + 3) 0 (l0 + 3) 0 24) (l1 + 4) 0 (l0 + 4) 0 24) (l1 + 5) 0 (l0 + 5) 0 24) l0 5 ((mcp (mcp (mcp (mcp (mcp m (l1 + 1) 0 (l0 + 1) 0 24) (l1 + 2) 0 (l0 + 2) 0 24) (l1 + 3) 0 (l0 + 3) 0 24) (l1 + 4) 0 (l0 + 4) 0 24) (l1 + 5) 0 (l0 + 5) 0 24).1 l1 5)).1 l1 6)).1 l1 7)) l0 8 ((mwr (mwr (mwr (mcp (mcp (mcp (mcp (mcp m (l1 + 1) 0 (l0 + 1) 0 24) (l1 + 2) 0 (l0 + 2) 0 24) (l1 + 3) 0 (l0 + 3) 0 24) (l1 + 4) 0 (l0 + 4) 0 24) (l1 + 5) 0 (l0 + 5) 0 24) l0 5 ((mcp (mcp (mcp (mcp (mcp m (l1 + 1) 0 (l0 + 1) 0 24) (l1 + 2) 0 (l0 + 2) 0 24) (l1 + 3) 0 (l0 + 3) 0 24) (l1 + 4) 0 (l0 + 4) 0 24) (l1 + 5) 0 (l0 + 5) 0 24).1 l1 5)) l0 6 ((mwr (mcp (mcp (mcp (mcp (mcp m (l1 + 1) 0 (l0 + 1) 0 24) (l1 + 2) 0 (l0 + 2) 0 24) (l1 + 3) 0 (l0 + 3) 0 24) (l1 + 4) 0 (l0 + 4) 0 24) (l1 + 5) 0 (l0 + 5) 0 24) l0 5 ((mcp (mcp (mcp (mcp (mcp m (l1 + 1) 0 (l0 + 1) 0 24) (l1 + 2) 0 (l0 + 2) 0 24) (l1 + 3) 0 (l0 + 3) 0 24) (l1 + 4) 0 (l0 + 4) 0 24) (l1 + 5) 0 (l0 + 5) 0 24).1 l1 5)).1 l1 6)) l0 7 ((mwr (mwr (mcp (mcp (mcp (mcp (mcp m (l1 + 1) 0 (l0 + 1) 0 24) (l1 + 2) 0 (l0 + 2) 0 24) (l1 + 3) 0 (l0 + 3) 0 24) (l1 + 4) 0 (l0 + 4) 0 24) (l1 + 5) 0 (l0 + 5) 0 24) l0 5 ((mcp (mcp (mcp (mcp (mcp m (l1 + 1) 0 (l0 + 1) 0 24) (l1 + 2) 0 (l0 + 2) 0 24) (l1 + 3) 0 (l0 + 3) 0 24) (l1 + 4) 0 (l0 + 4) 0 24) (l1 + 5) 0 (l0 + 5) 0 24).1 l1 5)) l0 6 ((mwr (mcp (mcp (mcp (mcp (mcp m (l1 + 1) 0 (l0 + 1) 0 24) (l1 + 2) 0 (l0 + 2) 0 24) (l1 + 3) 0 (l0 + 3) 0 24) (l1 + 4) 0 (l0 + 4) 0 24) (l1 + 5) 0 (l0 + 5) 0 24) l0 5 ((mcp (mcp (mcp (mcp (mcp m (l1 + 1) 0 (l0 + 1) 0 24) (l1 + 2) 0 (l0 + 2) 0 24) (l1 + 3) 0 (l0 + 3) 0 24) (l1 + 4) 0 (l0 + 4) 0 24) (l1 + 5) 0 (l0 + 5) 0 24).1 l1 5)).1 l1 6)).1 l1 7)).1 l1 8)) l0 9 ((mwr (mwr (mwr (mwr (mcp (mcp (mcp (mcp (mcp m (l1 + 1) 0 (l0 + 1) 0 24) (l1 + 2) 0 (l0 + 2) 0 24) (l1 + 3) 0 (l0 + 3) 0 24) (l1 + 4) 0 (l0 + 4) 0 24) (l1 + 5) 0 (l0 + 5) 0 24) l0 5 ((mcp (mcp (mcp (mcp (mcp m (l1 + 1) 0 (l0 + 1) 0 24) (l1 + 2) 0 (l0 + 2) 0 24) (l1 + 3) 0 (l0 + 3) 0 24) (l1 + 4) 0 (l0 + 4) 0 24) (l1 + 5) 0 (l0 + 5) 0 24).1 l1 5)) l0 6 ((mwr (mcp (mcp (mcp (mcp (mcp m (l1 + 1) 0 (l0 + 1) 0 24) (l1 + 2) 0 (l0 + 2) 0 24) (l1 + 3) 0 (l0 + 3) 0 24) (l1 + 4) 0 (l0 + 4) 0 24) (l1 + 5) 0 (l0 + 5) 0 24) l0 5 ((mcp (mcp (mcp (mcp (mcp m (l1 + 1) 0 (l0 + 1) 0 24) (l1 + 2) 0 (l0 + 2) 0 24) (l1 + 3) 0 (l0 + 3) 0 24) (l1 + 4) 0 (l0 + 4) 0 24) (l1 + 5) 0 (l0 + 5) 0 24).1 l1 5)).1 l1 6)) l0 7 ((mwr (mwr (mcp (mcp (mcp (mcp (mcp m (l1 + 1) 0 (l0 + 1) 0 24) (l1 + 2) 0 (l0 + 2) 0 24) (l1 + 3) 0 (l0 + 3) 0 24) (l1 + 4) 0 (l0 + 4) 0 24) (l1 + 5) 0 (l0 + 5) 0 24) l0 5 ((mcp (mcp (mcp (mcp (mcp m (l1 + 1) 0 (l0 + 1) 0 24) (l1 + 2) 0 (l0 + 2) 0 24) (l1 + 3) 0 (l0 + 3) 0 24) (l1 + 4) 0 (l0 + 4) 0 24) (l1 + 5) 0 (l0 + 5) 0 24).1 l1 5)) l0 6 ((mwr (mcp (mcp (mcp (mcp (mcp m (l1 + 1) 0 (l0 + 1) 0 24) (l1 + 2) 0 (l0 + 2) 0 24) (l1 + 3) 0 (l0 + 3) 0 24) (l1 + 4) 0 (l0 + 4) 0 24) (l1 + 5) 0 (l0 + 5) 0 24) l0 5 ((mcp (mcp (mcp (mcp (mcp m (l1 + 1) 0 (l0 + 1) 0 24) (l1 + 2) 0 (l0 + 2) 0 24) (l1 + 3) 0 (l0 + 3) 0 24) (l1 + 4) 0 (l0 + 4) 0 24) (l1 + 5) 0 (l0 + 5) 0 24).1 l1 5)).1 l1 6)).1 l1 7)) l0 8 ((mwr (mwr (mwr (mcp (mcp (mcp (mcp (mcp m (l1 + 1) 0 (l0 + 1) 0 24) (l1 + 2) 0 (l0 + 2) 0 24) (l1 + 3) 0 (l0 + 3) 0 24) (l1 + 4) 0 (l0 + 4) 0 24) (l1 + 5) 0 (l0 + 5) 0 24) l0 5 ((mcp (mcp (mcp (mcp (mcp m (l1 + 1) 0 (l0 + 1) 0 24) (l1 + 2) 0 (l0 + 2) 0 24) (l1 + 3) 0 (l0 + 3) 0 24) (l1 + 4) 0 (l0 + 4) 0 24) (l1 + 5) 0 (l0 + 5) 0 24).1 l1 5)) l0 6 ((mwr (mcp (mcp (mcp (mcp (mcp m (l1 + 1) 0 (l0 + 1) 0 24) (l1 + 2) 0 (l0 + 2) 0 24) (l1 + 3) 0 (l0 + 3) 0 24) (l1 + 4) 0 (l0 + 4) 0 24) (l1 + 5) 0 (l0 + 5) 0 24) l0 5 ((mcp (mcp (mcp (mcp (mcp m (l1 + 1) 0 (l0 + 1) 0 24) (l1 + 2) 0 (l0 + 2) 0 24) (l1 + 3) 0 (l0 + 3) 0 24) (l1 + 4) 0 (l0 + 4) 0 24) (l1 + 5) 0 (l0 + 5) 0 24).1 l1 5)).1 l1 6)) l0 7 ((mwr (mwr (mcp (mcp (mcp (mcp (mcp m (l1 + 1) 0 (l0 + 1) 0 24) (l1 + 2) 0 (l0 + 2) 0 24) (l1 + 3) 0 (l0 + 3) 0 24) (l1 + 4) 0 (l0 + 4) 0 24) (l1 + 5) 0 (l0 + 5) 0 24) l0 5 ((mcp (mcp (mcp (mcp (mcp m (l1 + 1) 0 (l0 + 1) 0 24) (l1 + 2) 0 (l0 + 2) 0 24) (l1 + 3) 0 (l0 + 3) 0 24) (l1 + 4) 0 (l0 + 4) 0 24) (l1 + 5) 0 (l0 + 5) 0 24).1 l1 5)) l0 6 ((mwr (mcp (mcp (mcp (mcp (mcp m (l1 + 1) 0 (l0 + 1) 0 24) (l1 + 2) 0 (l0 + 2) 0 24) (l1 + 3) 0 (l0 + 3) 0 24) (l1 + 4) 0 (l0 + 4) 0 24) (l1 + 5) 0 (l0 + 5) 0 24) l0 5 ((mcp (mcp (mcp (mcp (mcp m (l1 + 1) 0 (l0 + 1) 0 24) (l1 + 2) 0 (l0 + 2) 0 24) (l1 + 3) 0 (l0 + 3) 0 24) (l1 + 4) 0 (l0 + 4) 0 24) (l1 + 5) 0 (l0 + 5) 0 24).1 l1 5)).1 l1 6)).1 l1 7)).1 l1 8)).1 l1 9))
set_option maxRecDepth 100000 in
set_option maxHeartbeats 4000000 in
theorem ok_X2_copyFrom {r : Mem} : ∀ (l0 : Nat) (l1 : Nat) (m : Mem), mmSh[l0]? = some (.inl 2) → mmSh[l1]? = some (.inl 2) → f_X2_copyFrom l0 l1 m = some r → VV RX2 cX2_copyFrom 2 rm_X2_copyFrom mmG0 (mmPv r) 0 [(0, .ref l0), (1, .ref l1)] [] m := by
  intro l0 l1 m hs0 hs1 E
  unfold f_X2_copyFrom at E
  refine V_aload_n 1 dX2_copyFrom_0 rfl ?_
  refine V_geta (ci := 2) (k := 0) (N := 10) (T := TX2) (o' := (l1 + 1)) dX2_copyFrom_1 iuX2 fl_X2_9 rfl (by decide) rfl hs1 rfl ?_
  refine V_iconst dX2_copyFrom_4 rfl ?_
  refine V_aload_n 0 dX2_copyFrom_5 rfl ?_
  refine V_geta (ci := 2) (k := 0) (N := 10) (T := TX2) (o' := (l0 + 1)) dX2_copyFrom_6 iuX2 fl_X2_9 rfl (by decide) rfl hs0 rfl ?_
  refine V_iconst dX2_copyFrom_9 rfl ?_
  refine V_bipush (v := 24) dX2_copyFrom_10 (by decide) ?_
  refine V_copy (n0 := 24) (n1 := 24) (js := 0) (jd := 0) (jn := 24) dX2_copyFrom_12 ml_X2_43 na_copy st_copy it_System (mmS1 hs1) (mmS1 hs0) ir_0 ir_0 ir_24 (by decide) ⟨by decide, by decide⟩ (Nat.le_of_ble_eq_true rfl) rfl rfl rfl ?_
  refine V_aload_n 1 dX2_copyFrom_15 rfl ?_
  refine V_geta (ci := 2) (k := 1) (N := 10) (T := TX2) (o' := (l1 + 2)) dX2_copyFrom_16 iuX2 fl_X2_15 rfl (by decide) rfl hs1 rfl ?_
  refine V_iconst dX2_copyFrom_19 rfl ?_
  refine V_aload_n 0 dX2_copyFrom_20 rfl ?_
  refine V_geta (ci := 2) (k := 1) (N := 10) (T := TX2) (o' := (l0 + 2)) dX2_copyFrom_21 iuX2 fl_X2_15 rfl (by decide) rfl hs0 rfl ?_
  refine V_iconst dX2_copyFrom_24 rfl ?_
  refine V_bipush (v := 24) dX2_copyFrom_25 (by decide) ?_
  refine V_copy (n0 := 24) (n1 := 24) (js := 0) (jd := 0) (jn := 24) dX2_copyFrom_27 ml_X2_43 na_copy st_copy it_System (mmS2 hs1) (mmS2 hs0) ir_0 ir_0 ir_24 (by decide) ⟨by decide, by decide⟩ (Nat.le_of_ble_eq_true rfl) rfl rfl rfl ?_
  refine V_aload_n 1 dX2_copyFrom_30 rfl ?_
  refine V_geta (ci := 2) (k := 2) (N := 10) (T := TX2) (o' := (l1 + 3)) dX2_copyFrom_31 iuX2 fl_X2_18 rfl (by decide) rfl hs1 rfl ?_
  refine V_iconst dX2_copyFrom_34 rfl ?_
  refine V_aload_n 0 dX2_copyFrom_35 rfl ?_
  refine V_geta (ci := 2) (k := 2) (N := 10) (T := TX2) (o' := (l0 + 3)) dX2_copyFrom_36 iuX2 fl_X2_18 rfl (by decide) rfl hs0 rfl ?_
  refine V_iconst dX2_copyFrom_39 rfl ?_
  refine V_bipush (v := 24) dX2_copyFrom_40 (by decide) ?_
  refine V_copy (n0 := 24) (n1 := 24) (js := 0) (jd := 0) (jn := 24) dX2_copyFrom_42 ml_X2_43 na_copy st_copy it_System (mmS3 hs1) (mmS3 hs0) ir_0 ir_0 ir_24 (by decide) ⟨by decide, by decide⟩ (Nat.le_of_ble_eq_true rfl) rfl rfl rfl ?_
  refine V_aload_n 1 dX2_copyFrom_45 rfl ?_
  refine V_geta (ci := 2) (k := 3) (N := 10) (T := TX2) (o' := (l1 + 4)) dX2_copyFrom_46 iuX2 fl_X2_21 rfl (by decide) rfl hs1 rfl ?_
  refine V_iconst dX2_copyFrom_49 rfl ?_
  refine V_aload_n 0 dX2_copyFrom_50 rfl ?_
  refine V_geta (ci := 2) (k := 3) (N := 10) (T := TX2) (o' := (l0 + 4)) dX2_copyFrom_51 iuX2 fl_X2_21 rfl (by decide) rfl hs0 rfl ?_
  refine V_iconst dX2_copyFrom_54 rfl ?_
  refine V_bipush (v := 24) dX2_copyFrom_55 (by decide) ?_
  refine V_copy (n0 := 24) (n1 := 24) (js := 0) (jd := 0) (jn := 24) dX2_copyFrom_57 ml_X2_43 na_copy st_copy it_System (mmS4 hs1) (mmS4 hs0) ir_0 ir_0 ir_24 (by decide) ⟨by decide, by decide⟩ (Nat.le_of_ble_eq_true rfl) rfl rfl rfl ?_
  refine V_aload_n 1 dX2_copyFrom_60 rfl ?_
  refine V_geta (ci := 2) (k := 4) (N := 10) (T := TX2) (o' := (l1 + 5)) dX2_copyFrom_61 iuX2 fl_X2_24 rfl (by decide) rfl hs1 rfl ?_
  refine V_iconst dX2_copyFrom_64 rfl ?_
  refine V_aload_n 0 dX2_copyFrom_65 rfl ?_
  refine V_geta (ci := 2) (k := 4) (N := 10) (T := TX2) (o' := (l0 + 5)) dX2_copyFrom_66 iuX2 fl_X2_24 rfl (by decide) rfl hs0 rfl ?_
  refine V_iconst dX2_copyFrom_69 rfl ?_
  refine V_bipush (v := 24) dX2_copyFrom_70 (by decide) ?_
  refine V_copy (n0 := 24) (n1 := 24) (js := 0) (jd := 0) (jn := 24) dX2_copyFrom_72 ml_X2_43 na_copy st_copy it_System (mmS5 hs1) (mmS5 hs0) ir_0 ir_0 ir_24 (by decide) ⟨by decide, by decide⟩ (Nat.le_of_ble_eq_true rfl) rfl rfl rfl ?_
  refine V_aload_n 0 dX2_copyFrom_75 rfl ?_
  refine V_aload_n 1 dX2_copyFrom_76 rfl ?_
  refine V_geti (ci := 2) (k := 5) (N := 10) (T := TX2) (v := ((mcp (mcp (mcp (mcp (mcp m (l1 + 1) 0 (l0 + 1) 0 24) (l1 + 2) 0 (l0 + 2) 0 24) (l1 + 3) 0 (l0 + 3) 0 24) (l1 + 4) 0 (l0 + 4) 0 24) (l1 + 5) 0 (l0 + 5) 0 24).1 l1 5)) dX2_copyFrom_77 iuX2 fl_X2_27 rfl (by decide) rfl hs1 (by first | rfl | simp [mwr]) (fun hv6 => ?_)
  refine V_put (ci := 2) (k := 5) (N := 10) (T := TX2) (x := ((mcp (mcp (mcp (mcp (mcp m (l1 + 1) 0 (l0 + 1) 0 24) (l1 + 2) 0 (l0 + 2) 0 24) (l1 + 3) 0 (l0 + 3) 0 24) (l1 + 4) 0 (l0 + 4) 0 24) (l1 + 5) 0 (l0 + 5) 0 24).1 l1 5)) (ty := .int) tyX2 dX2_copyFrom_80 iuX2 tyX2_ok nmX2 fl_X2_27 rfl (by decide) rfl hs0 rfl (by decide +kernel) rfl rfl hv6 ?_
  refine V_aload_n 0 dX2_copyFrom_83 rfl ?_
  refine V_aload_n 1 dX2_copyFrom_84 rfl ?_
  refine V_geti (ci := 2) (k := 6) (N := 10) (T := TX2) (v := ((mwr (mcp (mcp (mcp (mcp (mcp m (l1 + 1) 0 (l0 + 1) 0 24) (l1 + 2) 0 (l0 + 2) 0 24) (l1 + 3) 0 (l0 + 3) 0 24) (l1 + 4) 0 (l0 + 4) 0 24) (l1 + 5) 0 (l0 + 5) 0 24) l0 5 ((mcp (mcp (mcp (mcp (mcp m (l1 + 1) 0 (l0 + 1) 0 24) (l1 + 2) 0 (l0 + 2) 0 24) (l1 + 3) 0 (l0 + 3) 0 24) (l1 + 4) 0 (l0 + 4) 0 24) (l1 + 5) 0 (l0 + 5) 0 24).1 l1 5)).1 l1 6)) dX2_copyFrom_85 iuX2 fl_X2_31 rfl (by decide) rfl hs1 (by first | rfl | simp [mwr]) (fun hv7 => ?_)
  refine V_put (ci := 2) (k := 6) (N := 10) (T := TX2) (x := ((mwr (mcp (mcp (mcp (mcp (mcp m (l1 + 1) 0 (l0 + 1) 0 24) (l1 + 2) 0 (l0 + 2) 0 24) (l1 + 3) 0 (l0 + 3) 0 24) (l1 + 4) 0 (l0 + 4) 0 24) (l1 + 5) 0 (l0 + 5) 0 24) l0 5 ((mcp (mcp (mcp (mcp (mcp m (l1 + 1) 0 (l0 + 1) 0 24) (l1 + 2) 0 (l0 + 2) 0 24) (l1 + 3) 0 (l0 + 3) 0 24) (l1 + 4) 0 (l0 + 4) 0 24) (l1 + 5) 0 (l0 + 5) 0 24).1 l1 5)).1 l1 6)) (ty := .int) tyX2 dX2_copyFrom_88 iuX2 tyX2_ok nmX2 fl_X2_31 rfl (by decide) rfl hs0 rfl (by decide +kernel) rfl rfl hv7 ?_
  refine V_aload_n 0 dX2_copyFrom_91 rfl ?_
  refine V_aload_n 1 dX2_copyFrom_92 rfl ?_
  refine V_geti (ci := 2) (k := 7) (N := 10) (T := TX2) (v := ((mwr (mwr (mcp (mcp (mcp (mcp (mcp m (l1 + 1) 0 (l0 + 1) 0 24) (l1 + 2) 0 (l0 + 2) 0 24) (l1 + 3) 0 (l0 + 3) 0 24) (l1 + 4) 0 (l0 + 4) 0 24) (l1 + 5) 0 (l0 + 5) 0 24) l0 5 ((mcp (mcp (mcp (mcp (mcp m (l1 + 1) 0 (l0 + 1) 0 24) (l1 + 2) 0 (l0 + 2) 0 24) (l1 + 3) 0 (l0 + 3) 0 24) (l1 + 4) 0 (l0 + 4) 0 24) (l1 + 5) 0 (l0 + 5) 0 24).1 l1 5)) l0 6 ((mwr (mcp (mcp (mcp (mcp (mcp m (l1 + 1) 0 (l0 + 1) 0 24) (l1 + 2) 0 (l0 + 2) 0 24) (l1 + 3) 0 (l0 + 3) 0 24) (l1 + 4) 0 (l0 + 4) 0 24) (l1 + 5) 0 (l0 + 5) 0 24) l0 5 ((mcp (mcp (mcp (mcp (mcp m (l1 + 1) 0 (l0 + 1) 0 24) (l1 + 2) 0 (l0 + 2) 0 24) (l1 + 3) 0 (l0 + 3) 0 24) (l1 + 4) 0 (l0 + 4) 0 24) (l1 + 5) 0 (l0 + 5) 0 24).1 l1 5)).1 l1 6)).1 l1 7)) dX2_copyFrom_93 iuX2 fl_X2_34 rfl (by decide) rfl hs1 (by first | rfl | simp [mwr]) (fun hv8 => ?_)
  refine V_put (ci := 2) (k := 7) (N := 10) (T := TX2) (x := ((mwr (mwr (mcp (mcp (mcp (mcp (mcp m (l1 + 1) 0 (l0 + 1) 0 24) (l1 + 2) 0 (l0 + 2) 0 24) (l1 + 3) 0 (l0 + 3) 0 24) (l1 + 4) 0 (l0 + 4) 0 24) (l1 + 5) 0 (l0 + 5) 0 24) l0 5 ((mcp (mcp (mcp (mcp (mcp m (l1 + 1) 0 (l0 + 1) 0 24) (l1 + 2) 0 (l0 + 2) 0 24) (l1 + 3) 0 (l0 + 3) 0 24) (l1 + 4) 0 (l0 + 4) 0 24) (l1 + 5) 0 (l0 + 5) 0 24).1 l1 5)) l0 6 ((mwr (mcp (mcp (mcp (mcp (mcp m (l1 + 1) 0 (l0 + 1) 0 24) (l1 + 2) 0 (l0 + 2) 0 24) (l1 + 3) 0 (l0 + 3) 0 24) (l1 + 4) 0 (l0 + 4) 0 24) (l1 + 5) 0 (l0 + 5) 0 24) l0 5 ((mcp (mcp (mcp (mcp (mcp m (l1 + 1) 0 (l0 + 1) 0 24) (l1 + 2) 0 (l0 + 2) 0 24) (l1 + 3) 0 (l0 + 3) 0 24) (l1 + 4) 0 (l0 + 4) 0 24) (l1 + 5) 0 (l0 + 5) 0 24).1 l1 5)).1 l1 6)).1 l1 7)) (ty := .int) tyX2 dX2_copyFrom_96 iuX2 tyX2_ok nmX2 fl_X2_34 rfl (by decide) rfl hs0 rfl (by decide +kernel) rfl rfl hv8 ?_
  refine V_aload_n 0 dX2_copyFrom_99 rfl ?_
  refine V_aload_n 1 dX2_copyFrom_100 rfl ?_
  refine V_geti (ci := 2) (k := 8) (N := 10) (T := TX2) (v := ((mwr (mwr (mwr (mcp (mcp (mcp (mcp (mcp m (l1 + 1) 0 (l0 + 1) 0 24) (l1 + 2) 0 (l0 + 2) 0 24) (l1 + 3) 0 (l0 + 3) 0 24) (l1 + 4) 0 (l0 + 4) 0 24) (l1 + 5) 0 (l0 + 5) 0 24) l0 5 ((mcp (mcp (mcp (mcp (mcp m (l1 + 1) 0 (l0 + 1) 0 24) (l1 + 2) 0 (l0 + 2) 0 24) (l1 + 3) 0 (l0 + 3) 0 24) (l1 + 4) 0 (l0 + 4) 0 24) (l1 + 5) 0 (l0 + 5) 0 24).1 l1 5)) l0 6 ((mwr (mcp (mcp (mcp (mcp (mcp m (l1 + 1) 0 (l0 + 1) 0 24) (l1 + 2) 0 (l0 + 2) 0 24) (l1 + 3) 0 (l0 + 3) 0 24) (l1 + 4) 0 (l0 + 4) 0 24) (l1 + 5) 0 (l0 + 5) 0 24) l0 5 ((mcp (mcp (mcp (mcp (mcp m (l1 + 1) 0 (l0 + 1) 0 24) (l1 + 2) 0 (l0 + 2) 0 24) (l1 + 3) 0 (l0 + 3) 0 24) (l1 + 4) 0 (l0 + 4) 0 24) (l1 + 5) 0 (l0 + 5) 0 24).1 l1 5)).1 l1 6)) l0 7 ((mwr (mwr (mcp (mcp (mcp (mcp (mcp m (l1 + 1) 0 (l0 + 1) 0 24) (l1 + 2) 0 (l0 + 2) 0 24) (l1 + 3) 0 (l0 + 3) 0 24) (l1 + 4) 0 (l0 + 4) 0 24) (l1 + 5) 0 (l0 + 5) 0 24) l0 5 ((mcp (mcp (mcp (mcp (mcp m (l1 + 1) 0 (l0 + 1) 0 24) (l1 + 2) 0 (l0 + 2) 0 24) (l1 + 3) 0 (l0 + 3) 0 24) (l1 + 4) 0 (l0 + 4) 0 24) (l1 + 5) 0 (l0 + 5) 0 24).1 l1 5)) l0 6 ((mwr (mcp (mcp (mcp (mcp (mcp m (l1 + 1) 0 (l0 + 1) 0 24) (l1 + 2) 0 (l0 + 2) 0 24) (l1 + 3) 0 (l0 + 3) 0 24) (l1 + 4) 0 (l0 + 4) 0 24) (l1 + 5) 0 (l0 + 5) 0 24) l0 5 ((mcp (mcp (mcp (mcp (mcp m (l1 + 1) 0 (l0 + 1) 0 24) (l1 + 2) 0 (l0 + 2) 0 24) (l1 + 3) 0 (l0 + 3) 0 24) (l1 + 4) 0 (l0 + 4) 0 24) (l1 + 5) 0 (l0 + 5) 0 24).1 l1 5)).1 l1 6)).1 l1 7)).1 l1 8)) dX2_copyFrom_101 iuX2 fl_X2_37 rfl (by decide) rfl hs1 (by first | rfl | simp [mwr]) (fun hv9 => ?_)
  refine V_put (ci := 2) (k := 8) (N := 10) (T := TX2) (x := ((mwr (mwr (mwr (mcp (mcp (mcp (mcp (mcp m (l1 + 1) 0 (l0 + 1) 0 24) (l1 + 2) 0 (l0 + 2) 0 24) (l1 + 3) 0 (l0 + 3) 0 24) (l1 + 4) 0 (l0 + 4) 0 24) (l1 + 5) 0 (l0 + 5) 0 24) l0 5 ((mcp (mcp (mcp (mcp (mcp m (l1 + 1) 0 (l0 + 1) 0 24) (l1 + 2) 0 (l0 + 2) 0 24) (l1 + 3) 0 (l0 + 3) 0 24) (l1 + 4) 0 (l0 + 4) 0 24) (l1 + 5) 0 (l0 + 5) 0 24).1 l1 5)) l0 6 ((mwr (mcp (mcp (mcp (mcp (mcp m (l1 + 1) 0 (l0 + 1) 0 24) (l1 + 2) 0 (l0 + 2) 0 24) (l1 + 3) 0 (l0 + 3) 0 24) (l1 + 4) 0 (l0 + 4) 0 24) (l1 + 5) 0 (l0 + 5) 0 24) l0 5 ((mcp (mcp (mcp (mcp (mcp m (l1 + 1) 0 (l0 + 1) 0 24) (l1 + 2) 0 (l0 + 2) 0 24) (l1 + 3) 0 (l0 + 3) 0 24) (l1 + 4) 0 (l0 + 4) 0 24) (l1 + 5) 0 (l0 + 5) 0 24).1 l1 5)).1 l1 6)) l0 7 ((mwr (mwr (mcp (mcp (mcp (mcp (mcp m (l1 + 1) 0 (l0 + 1) 0 24) (l1 + 2) 0 (l0 + 2) 0 24) (l1 + 3) 0 (l0 + 3) 0 24) (l1 + 4) 0 (l0 + 4) 0 24) (l1 + 5) 0 (l0 + 5) 0 24) l0 5 ((mcp (mcp (mcp (mcp (mcp m (l1 + 1) 0 (l0 + 1) 0 24) (l1 + 2) 0 (l0 + 2) 0 24) (l1 + 3) 0 (l0 + 3) 0 24) (l1 + 4) 0 (l0 + 4) 0 24) (l1 + 5) 0 (l0 + 5) 0 24).1 l1 5)) l0 6 ((mwr (mcp (mcp (mcp (mcp (mcp m (l1 + 1) 0 (l0 + 1) 0 24) (l1 + 2) 0 (l0 + 2) 0 24) (l1 + 3) 0 (l0 + 3) 0 24) (l1 + 4) 0 (l0 + 4) 0 24) (l1 + 5) 0 (l0 + 5) 0 24) l0 5 ((mcp (mcp (mcp (mcp (mcp m (l1 + 1) 0 (l0 + 1) 0 24) (l1 + 2) 0 (l0 + 2) 0 24) (l1 + 3) 0 (l0 + 3) 0 24) (l1 + 4) 0 (l0 + 4) 0 24) (l1 + 5) 0 (l0 + 5) 0 24).1 l1 5)).1 l1 6)).1 l1 7)).1 l1 8)) (ty := .int) tyX2 dX2_copyFrom_104 iuX2 tyX2_ok nmX2 fl_X2_37 rfl (by decide) rfl hs0 rfl (by decide +kernel) rfl rfl hv9 ?_
  refine V_aload_n 0 dX2_copyFrom_107 rfl ?_
  refine V_aload_n 1 dX2_copyFrom_108 rfl ?_
  refine V_geti (ci := 2) (k := 9) (N := 10) (T := TX2) (v := ((mwr (mwr (mwr (mwr (mcp (mcp (mcp (mcp (mcp m (l1 + 1) 0 (l0 + 1) 0 24) (l1 + 2) 0 (l0 + 2) 0 24) (l1 + 3) 0 (l0 + 3) 0 24) (l1 + 4) 0 (l0 + 4) 0 24) (l1 + 5) 0 (l0 + 5) 0 24) l0 5 ((mcp (mcp (mcp (mcp (mcp m (l1 + 1) 0 (l0 + 1) 0 24) (l1 + 2) 0 (l0 + 2) 0 24) (l1 + 3) 0 (l0 + 3) 0 24) (l1 + 4) 0 (l0 + 4) 0 24) (l1 + 5) 0 (l0 + 5) 0 24).1 l1 5)) l0 6 ((mwr (mcp (mcp (mcp (mcp (mcp m (l1 + 1) 0 (l0 + 1) 0 24) (l1 + 2) 0 (l0 + 2) 0 24) (l1 + 3) 0 (l0 + 3) 0 24) (l1 + 4) 0 (l0 + 4) 0 24) (l1 + 5) 0 (l0 + 5) 0 24) l0 5 ((mcp (mcp (mcp (mcp (mcp m (l1 + 1) 0 (l0 + 1) 0 24) (l1 + 2) 0 (l0 + 2) 0 24) (l1 + 3) 0 (l0 + 3) 0 24) (l1 + 4) 0 (l0 + 4) 0 24) (l1 + 5) 0 (l0 + 5) 0 24).1 l1 5)).1 l1 6)) l0 7 ((mwr (mwr (mcp (mcp (mcp (mcp (mcp m (l1 + 1) 0 (l0 + 1) 0 24) (l1 + 2) 0 (l0 + 2) 0 24) (l1 + 3) 0 (l0 + 3) 0 24) (l1 + 4) 0 (l0 + 4) 0 24) (l1 + 5) 0 (l0 + 5) 0 24) l0 5 ((mcp (mcp (mcp (mcp (mcp m (l1 + 1) 0 (l0 + 1) 0 24) (l1 + 2) 0 (l0 + 2) 0 24) (l1 + 3) 0 (l0 + 3) 0 24) (l1 + 4) 0 (l0 + 4) 0 24) (l1 + 5) 0 (l0 + 5) 0 24).1 l1 5)) l0 6 ((mwr (mcp (mcp (mcp (mcp (mcp m (l1 + 1) 0 (l0 + 1) 0 24) (l1 + 2) 0 (l0 + 2) 0 24) (l1 + 3) 0 (l0 + 3) 0 24) (l1 + 4) 0 (l0 + 4) 0 24) (l1 + 5) 0 (l0 + 5) 0 24) l0 5 ((mcp (mcp (mcp (mcp (mcp m (l1 + 1) 0 (l0 + 1) 0 24) (l1 + 2) 0 (l0 + 2) 0 24) (l1 + 3) 0 (l0 + 3) 0 24) (l1 + 4) 0 (l0 + 4) 0 24) (l1 + 5) 0 (l0 + 5) 0 24).1 l1 5)).1 l1 6)).1 l1 7)) l0 8 ((mwr (mwr (mwr (mcp (mcp (mcp (mcp (mcp m (l1 + 1) 0 (l0 + 1) 0 24) (l1 + 2) 0 (l0 + 2) 0 24) (l1 + 3) 0 (l0 + 3) 0 24) (l1 + 4) 0 (l0 + 4) 0 24) (l1 + 5) 0 (l0 + 5) 0 24) l0 5 ((mcp (mcp (mcp (mcp (mcp m (l1 + 1) 0 (l0 + 1) 0 24) (l1 + 2) 0 (l0 + 2) 0 24) (l1 + 3) 0 (l0 + 3) 0 24) (l1 + 4) 0 (l0 + 4) 0 24) (l1 + 5) 0 (l0 + 5) 0 24).1 l1 5)) l0 6 ((mwr (mcp (mcp (mcp (mcp (mcp m (l1 + 1) 0 (l0 + 1) 0 24) (l1 + 2) 0 (l0 + 2) 0 24) (l1 + 3) 0 (l0 + 3) 0 24) (l1 + 4) 0 (l0 + 4) 0 24) (l1 + 5) 0 (l0 + 5) 0 24) l0 5 ((mcp (mcp (mcp (mcp (mcp m (l1 + 1) 0 (l0 + 1) 0 24) (l1 + 2) 0 (l0 + 2) 0 24) (l1 + 3) 0 (l0 + 3) 0 24) (l1 + 4) 0 (l0 + 4) 0 24) (l1 + 5) 0 (l0 + 5) 0 24).1 l1 5)).1 l1 6)) l0 7 ((mwr (mwr (mcp (mcp (mcp (mcp (mcp m (l1 + 1) 0 (l0 + 1) 0 24) (l1 + 2) 0 (l0 + 2) 0 24) (l1 + 3) 0 (l0 + 3) 0 24) (l1 + 4) 0 (l0 + 4) 0 24) (l1 + 5) 0 (l0 + 5) 0 24) l0 5 ((mcp (mcp (mcp (mcp (mcp m (l1 + 1) 0 (l0 + 1) 0 24) (l1 + 2) 0 (l0 + 2) 0 24) (l1 + 3) 0 (l0 + 3) 0 24) (l1 + 4) 0 (l0 + 4) 0 24) (l1 + 5) 0 (l0 + 5) 0 24).1 l1 5)) l0 6 ((mwr (mcp (mcp (mcp (mcp (mcp m (l1 + 1) 0 (l0 + 1) 0 24) (l1 + 2) 0 (l0 + 2) 0 24) (l1 + 3) 0 (l0 + 3) 0 24) (l1 + 4) 0 (l0 + 4) 0 24) (l1 + 5) 0 (l0 + 5) 0 24) l0 5 ((mcp (mcp (mcp (mcp (mcp m (l1 + 1) 0 (l0 + 1) 0 24) (l1 + 2) 0 (l0 + 2) 0 24) (l1 + 3) 0 (l0 + 3) 0 24) (l1 + 4) 0 (l0 + 4) 0 24) (l1 + 5) 0 (l0 + 5) 0 24).1 l1 5)).1 l1 6)).1 l1 7)).1 l1 8)).1 l1 9)) dX2_copyFrom_109 iuX2 fl_X2_40 rfl (by decide) rfl hs1 (by first | rfl | simp [mwr]) (fun hv10 => ?_)
  refine V_put (ci := 2) (k := 9) (N := 10) (T := TX2) (x := ((mwr (mwr (mwr (mwr (mcp (mcp (mcp (mcp (mcp m (l1 + 1) 0 (l0 + 1) 0 24) (l1 + 2) 0 (l0 + 2) 0 24) (l1 + 3) 0 (l0 + 3) 0 24) (l1 + 4) 0 (l0 + 4) 0 24) (l1 + 5) 0 (l0 + 5) 0 24) l0 5 ((mcp (mcp (mcp (mcp (mcp m (l1 + 1) 0 (l0 + 1) 0 24) (l1 + 2) 0 (l0 + 2) 0 24) (l1 + 3) 0 (l0 + 3) 0 24) (l1 + 4) 0 (l0 + 4) 0 24) (l1 + 5) 0 (l0 + 5) 0 24).1 l1 5)) l0 6 ((mwr (mcp (mcp (mcp (mcp (mcp m (l1 + 1) 0 (l0 + 1) 0 24) (l1 + 2) 0 (l0 + 2) 0 24) (l1 + 3) 0 (l0 + 3) 0 24) (l1 + 4) 0 (l0 + 4) 0 24) (l1 + 5) 0 (l0 + 5) 0 24) l0 5 ((mcp (mcp (mcp (mcp (mcp m (l1 + 1) 0 (l0 + 1) 0 24) (l1 + 2) 0 (l0 + 2) 0 24) (l1 + 3) 0 (l0 + 3) 0 24) (l1 + 4) 0 (l0 + 4) 0 24) (l1 + 5) 0 (l0 + 5) 0 24).1 l1 5)).1 l1 6)) l0 7 ((mwr (mwr (mcp (mcp (mcp (mcp (mcp m (l1 + 1) 0 (l0 + 1) 0 24) (l1 + 2) 0 (l0 + 2) 0 24) (l1 + 3) 0 (l0 + 3) 0 24) (l1 + 4) 0 (l0 + 4) 0 24) (l1 + 5) 0 (l0 + 5) 0 24) l0 5 ((mcp (mcp (mcp (mcp (mcp m (l1 + 1) 0 (l0 + 1) 0 24) (l1 + 2) 0 (l0 + 2) 0 24) (l1 + 3) 0 (l0 + 3) 0 24) (l1 + 4) 0 (l0 + 4) 0 24) (l1 + 5) 0 (l0 + 5) 0 24).1 l1 5)) l0 6 ((mwr (mcp (mcp (mcp (mcp (mcp m (l1 + 1) 0 (l0 + 1) 0 24) (l1 + 2) 0 (l0 + 2) 0 24) (l1 + 3) 0 (l0 + 3) 0 24) (l1 + 4) 0 (l0 + 4) 0 24) (l1 + 5) 0 (l0 + 5) 0 24) l0 5 ((mcp (mcp (mcp (mcp (mcp m (l1 + 1) 0 (l0 + 1) 0 24) (l1 + 2) 0 (l0 + 2) 0 24) (l1 + 3) 0 (l0 + 3) 0 24) (l1 + 4) 0 (l0 + 4) 0 24) (l1 + 5) 0 (l0 + 5) 0 24).1 l1 5)).1 l1 6)).1 l1 7)) l0 8 ((mwr (mwr (mwr (mcp (mcp (mcp (mcp (mcp m (l1 + 1) 0 (l0 + 1) 0 24) (l1 + 2) 0 (l0 + 2) 0 24) (l1 + 3) 0 (l0 + 3) 0 24) (l1 + 4) 0 (l0 + 4) 0 24) (l1 + 5) 0 (l0 + 5) 0 24) l0 5 ((mcp (mcp (mcp (mcp (mcp m (l1 + 1) 0 (l0 + 1) 0 24) (l1 + 2) 0 (l0 + 2) 0 24) (l1 + 3) 0 (l0 + 3) 0 24) (l1 + 4) 0 (l0 + 4) 0 24) (l1 + 5) 0 (l0 + 5) 0 24).1 l1 5)) l0 6 ((mwr (mcp (mcp (mcp (mcp (mcp m (l1 + 1) 0 (l0 + 1) 0 24) (l1 + 2) 0 (l0 + 2) 0 24) (l1 + 3) 0 (l0 + 3) 0 24) (l1 + 4) 0 (l0 + 4) 0 24) (l1 + 5) 0 (l0 + 5) 0 24) l0 5 ((mcp (mcp (mcp (mcp (mcp m (l1 + 1) 0 (l0 + 1) 0 24) (l1 + 2) 0 (l0 + 2) 0 24) (l1 + 3) 0 (l0 + 3) 0 24) (l1 + 4) 0 (l0 + 4) 0 24) (l1 + 5) 0 (l0 + 5) 0 24).1 l1 5)).1 l1 6)) l0 7 ((mwr (mwr (mcp (mcp (mcp (mcp (mcp m (l1 + 1) 0 (l0 + 1) 0 24) (l1 + 2) 0 (l0 + 2) 0 24) (l1 + 3) 0 (l0 + 3) 0 24) (l1 + 4) 0 (l0 + 4) 0 24) (l1 + 5) 0 (l0 + 5) 0 24) l0 5 ((mcp (mcp (mcp (mcp (mcp m (l1 + 1) 0 (l0 + 1) 0 24) (l1 + 2) 0 (l0 + 2) 0 24) (l1 + 3) 0 (l0 + 3) 0 24) (l1 + 4) 0 (l0 + 4) 0 24) (l1 + 5) 0 (l0 + 5) 0 24).1 l1 5)) l0 6 ((mwr (mcp (mcp (mcp (mcp (mcp m (l1 + 1) 0 (l0 + 1) 0 24) (l1 + 2) 0 (l0 + 2) 0 24) (l1 + 3) 0 (l0 + 3) 0 24) (l1 + 4) 0 (l0 + 4) 0 24) (l1 + 5) 0 (l0 + 5) 0 24) l0 5 ((mcp (mcp (mcp (mcp (mcp m (l1 + 1) 0 (l0 + 1) 0 24) (l1 + 2) 0 (l0 + 2) 0 24) (l1 + 3) 0 (l0 + 3) 0 24) (l1 + 4) 0 (l0 + 4) 0 24) (l1 + 5) 0 (l0 + 5) 0 24).1 l1 5)).1 l1 6)).1 l1 7)).1 l1 8)).1 l1 9)) (ty := .int) tyX2 dX2_copyFrom_112 iuX2 tyX2_ok nmX2 fl_X2_40 rfl (by decide) rfl hs0 rfl (by decide +kernel) rfl rfl hv10 ?_
  obtain rfl := Option.some.inj E
  exact V_retv dX2_copyFrom_115 ⟨rfl, rfl⟩
theorem ct_X2_copyFrom {l0 : Nat} {l1 : Nat} {m : Mem} {r : Mem} (hs0 : mmSh[l0]? = some (.inl 2)) (hs1 : mmSh[l1]? = some (.inl 2)) (E : f_X2_copyFrom l0 l1 m = some r) : CTv yX2_copyFrom cX2_copyFrom 2 rm_X2_copyFrom [.ref l0, .ref l1] m r := CT_v (by decide +kernel) rfl (Nat.le_of_ble_eq_true rfl) (ok_X2_copyFrom _ _ _ hs0 hs1 E)
theorem hy_X2_copyFrom : yX2_copyFrom.cls = RX2 ∧ yX2_copyFrom.cls ≠ "java/lang/invoke/MethodHandle" ∧ yX2_copyFrom.cls ≠ "java/lang/invoke/VarHandle" ∧ (parseMethodDescriptor yX2_copyFrom.desc).map (fun d => d.parameters.length) = some 1 := by decide +kernel
abbrev rm_X0_keepState : Room := { frames := 2, cells := 0, slots := 0, locals := 47 }
noncomputable def f_X0_keepState_L12 (l1 : Nat) (m : Mem) : Option (Mem) :=
  mmK (0 ≤ (m.1 19 1) ∧ (m.1 19 1) < 4) ((m.2 ((m.1 19 1)).toNat).bind (fun q5 => mmK (mmSh[q5]? = some (.inl 2)) ((f_X2_copyFrom q5 l1 m).bind (fun q6 => mmK (inR ((q6.1 19 1) + 1)) (some (mwr q6 19 1 ((q6.1 19 1) + 1)))))))
set_option maxRecDepth 100000 in
set_option maxHeartbeats 4000000 in
theorem ok_X0_keepState_L12 {r : Mem} : ∀ (l1 : Nat) (m : Mem), mmSh[l1]? = some (.inl 2) → f_X0_keepState_L12 l1 m = some r → VV RX0 cX0_keepState 3 rm_X0_keepState mmG0 (mmPv r) 12 [(0, .ref 19), (1, .ref l1)] [] m := by
  intro l1 m hs1 E
  unfold f_X0_keepState_L12 at E
  refine V_aload_n 0 dX0_keepState_12 rfl ?_
  refine V_geta (ci := 0) (k := 0) (N := 2) (T := TX0) (o' := 20) dX0_keepState_13 iuX0 fl_X0_11 rfl (by decide) rfl sh_19 rfl ?_
  refine V_aload_n 0 dX0_keepState_16 rfl ?_
  refine V_geti (ci := 0) (k := 1) (N := 2) (T := TX0) (v := (m.1 19 1)) dX0_keepState_17 iuX0 fl_X0_17 rfl (by decide) rfl sh_19 rfl (fun hv3 => ?_)
  obtain ⟨hv4, E⟩ := mmK_e E
  obtain ⟨q5, hq5, E⟩ := mmB_e E
  obtain ⟨hsq5, E⟩ := mmK_e E
  refine V_aald (n := 4) (j := ((m.1 19 1)).toNat) dX0_keepState_20 sh_20 hv3 hv4 rfl hq5 ?_
  refine V_astore_n (i := 2) (lv' := [(0, .ref 19), (1, .ref l1), (2, .ref q5)]) dX0_keepState_21 rfl rfl rfl ?_
  refine V_aload_n 2 dX0_keepState_22 rfl ?_
  refine V_ifnull dX0_keepState_23 ?_
  refine V_aload_n 2 dX0_keepState_26 rfl ?_
  refine V_aload_n 1 dX0_keepState_27 rfl ?_
  obtain ⟨q6, hq6, E⟩ := mmB_e E
  refine V_callVv (ci := 2) (q := (RX2, TX2, 10)) (Cn := RX2) (st := []) 1 dX0_keepState_28 (ct_X2_copyFrom hsq5 hs1 hq6) ml_X0_25 im_X2_copyFrom sl_X2_copyFrom it_X2 cd_X2_copyFrom hy_X2_copyFrom ⟨rfl, rfl, by decide, by decide⟩ hsq5 rfl rfl rfl rfl (Nat.le_of_ble_eq_true rfl) ?_
  refine V_aload_n 0 dX0_keepState_31 rfl ?_
  refine V_dupa dX0_keepState_32 ?_
  refine V_geti (ci := 0) (k := 1) (N := 2) (T := TX0) (v := (q6.1 19 1)) dX0_keepState_33 iuX0 fl_X0_17 rfl (by decide) rfl sh_19 rfl (fun hv8 => ?_)
  refine V_iconst dX0_keepState_36 rfl ?_
  obtain ⟨hv9, E⟩ := mmK_e E
  refine V_iadd dX0_keepState_37 ?_
  refine V_put (ci := 0) (k := 1) (N := 2) (T := TX0) (x := ((q6.1 19 1) + 1)) (ty := .int) tyX0 dX0_keepState_38 iuX0 tyX0_ok nmX0 fl_X0_17 rfl (by decide) rfl sh_19 rfl (by decide +kernel) rfl rfl hv9 ?_
  obtain rfl := Option.some.inj E
  exact V_retv dX0_keepState_41 ⟨rfl, rfl⟩
noncomputable def f_X0_keepState (l1 : Nat) (m : Mem) : Option (Mem) :=
  if (m.1 19 1) < 4 then
(f_X0_keepState_L12 l1 m)
else
((f_X0_dropOldest m).bind (fun q10 => f_X0_keepState_L12 l1 q10))
set_option maxRecDepth 100000 in
set_option maxHeartbeats 4000000 in
theorem ok_X0_keepState {r : Mem} : ∀ (l1 : Nat) (m : Mem), mmSh[l1]? = some (.inl 2) → f_X0_keepState l1 m = some r → VV RX0 cX0_keepState 3 rm_X0_keepState mmG0 (mmPv r) 0 [(0, .ref 19), (1, .ref l1)] [] m := by
  intro l1 m hs1 E
  unfold f_X0_keepState at E
  refine V_aload_n 0 dX0_keepState_0 rfl ?_
  refine V_geti (ci := 0) (k := 1) (N := 2) (T := TX0) (v := (m.1 19 1)) dX0_keepState_1 iuX0 fl_X0_17 rfl (by decide) rfl sh_19 rfl (fun hv1 => ?_)
  refine V_iconst dX0_keepState_4 rfl ?_
  refine V_icmp_lt 12 dX0_keepState_5 (by decide) hv1 ir_4 (fun c2 => ?_) (fun c2 => ?_)
  · replace E := mmI_t c2 E
    exact ok_X0_keepState_L12 _ _ hs1 E
  · replace E := mmI_f c2 E
    refine V_aload_n 0 dX0_keepState_8 rfl ?_
    obtain ⟨q10, hq10, E⟩ := mmB_e E
    refine V_callVv (ci := 0) (q := (RX0, TX0, 2)) (Cn := RX0) (st := []) 0 dX0_keepState_9 (ct_X0_dropOldest hq10) ml_X0_22 im_X0_dropOldest sl_X0_dropOldest it_X0 cd_X0_dropOldest hy_X0_dropOldest ⟨rfl, rfl, by decide, by decide⟩ sh_19 rfl rfl rfl rfl (Nat.le_of_ble_eq_true rfl) ?_
    exact ok_X0_keepState_L12 _ _ hs1 E
theorem ct_X0_keepState {l1 : Nat} {m : Mem} {r : Mem} (hs1 : mmSh[l1]? = some (.inl 2)) (E : f_X0_keepState l1 m = some r) : CTv yX0_keepState cX0_keepState 3 rm_X0_keepState [.ref 19, .ref l1] m r := CT_v (by decide +kernel) rfl (Nat.le_of_ble_eq_true rfl) (ok_X0_keepState _ _ hs1 E)
theorem hy_X0_keepState : yX0_keepState.cls = RX0 ∧ yX0_keepState.cls ≠ "java/lang/invoke/MethodHandle" ∧ yX0_keepState.cls ≠ "java/lang/invoke/VarHandle" ∧ (parseMethodDescriptor yX0_keepState.desc).map (fun d => d.parameters.length) = some 1 := by decide +kernel
abbrev rm_X0_giveLatestTo : Room := { frames := 2, cells := 0, slots := 0, locals := 47 }
noncomputable def f_X0_giveLatestTo (l1 : Nat) (m : Mem) : Option (Int × Mem) :=
  if (m.1 19 1) ≤ 0 then
(some (0, m))
else
(if (m.1 19 1) ≤ 4 then
(mmK (inR ((m.1 19 1) - 1)) (mmK (0 ≤ ((m.1 19 1) - 1) ∧ ((m.1 19 1) - 1) < 4) ((m.2 (((m.1 19 1) - 1)).toNat).bind (fun q8 => mmK (mmSh[q8]? = some (.inl 2)) ((f_X2_copyFrom l1 q8 m).bind (fun q9 => mmK (inR ((q9.1 19 1) - 1)) (some (1, (mwr q9 19 1 ((q9.1 19 1) - 1))))))))))
else
(some (0, m)))
set_option maxRecDepth 100000 in
set_option maxHeartbeats 4000000 in
theorem ok_X0_giveLatestTo {r : Int × Mem} : ∀ (l1 : Nat) (m : Mem), mmSh[l1]? = some (.inl 2) → f_X0_giveLatestTo l1 m = some r → VV RX0 cX0_giveLatestTo 3 rm_X0_giveLatestTo mmG0 (mmPz r) 0 [(0, .ref 19), (1, .ref l1)] [] m := by
  intro l1 m hs1 E
  unfold f_X0_giveLatestTo at E
  refine V_aload_n 0 dX0_giveLatestTo_0 rfl ?_
  refine V_geti (ci := 0) (k := 1) (N := 2) (T := TX0) (v := (m.1 19 1)) dX0_giveLatestTo_1 iuX0 fl_X0_17 rfl (by decide) rfl sh_19 rfl (fun hv1 => ?_)
  refine V_if_le 15 dX0_giveLatestTo_4 (by decide) hv1 (fun c2 => ?_) (fun c2 => ?_)
  · replace E := mmI_t c2 E
    refine V_iconst dX0_giveLatestTo_15 rfl ?_
    obtain rfl := Option.some.inj E
    exact V_reti dX0_giveLatestTo_16 ⟨rfl, rfl, (Or.inl rfl)⟩
  · replace E := mmI_f c2 E
    refine V_aload_n 0 dX0_giveLatestTo_7 rfl ?_
    refine V_geti (ci := 0) (k := 1) (N := 2) (T := TX0) (v := (m.1 19 1)) dX0_giveLatestTo_8 iuX0 fl_X0_17 rfl (by decide) rfl sh_19 rfl (fun hv3 => ?_)
    refine V_iconst dX0_giveLatestTo_11 rfl ?_
    refine V_icmp_le 17 dX0_giveLatestTo_12 (by decide) hv3 ir_4 (fun c4 => ?_) (fun c4 => ?_)
    · replace E := mmI_t c4 E
      refine V_aload_n 0 dX0_giveLatestTo_17 rfl ?_
      refine V_geta (ci := 0) (k := 0) (N := 2) (T := TX0) (o' := 20) dX0_giveLatestTo_18 iuX0 fl_X0_11 rfl (by decide) rfl sh_19 rfl ?_
      refine V_aload_n 0 dX0_giveLatestTo_21 rfl ?_
      refine V_geti (ci := 0) (k := 1) (N := 2) (T := TX0) (v := (m.1 19 1)) dX0_giveLatestTo_22 iuX0 fl_X0_17 rfl (by decide) rfl sh_19 rfl (fun hv5 => ?_)
      refine V_iconst dX0_giveLatestTo_25 rfl ?_
      obtain ⟨hv6, E⟩ := mmK_e E
      refine V_isub dX0_giveLatestTo_26 ?_
      obtain ⟨hv7, E⟩ := mmK_e E
      obtain ⟨q8, hq8, E⟩ := mmB_e E
      obtain ⟨hsq8, E⟩ := mmK_e E
      refine V_aald (n := 4) (j := (((m.1 19 1) - 1)).toNat) dX0_giveLatestTo_27 sh_20 hv6 hv7 rfl hq8 ?_
      refine V_astore_n (i := 2) (lv' := [(0, .ref 19), (1, .ref l1), (2, .ref q8)]) dX0_giveLatestTo_28 rfl rfl rfl ?_
      refine V_aload_n 2 dX0_giveLatestTo_29 rfl ?_
      refine V_ifnonnull 35 dX0_giveLatestTo_30 (by decide) ?_
      refine V_aload_n 1 dX0_giveLatestTo_35 rfl ?_
      refine V_aload_n 2 dX0_giveLatestTo_36 rfl ?_
      obtain ⟨q9, hq9, E⟩ := mmB_e E
      refine V_callVv (ci := 2) (q := (RX2, TX2, 10)) (Cn := RX2) (st := []) 1 dX0_giveLatestTo_37 (ct_X2_copyFrom hs1 hsq8 hq9) ml_X0_25 im_X2_copyFrom sl_X2_copyFrom it_X2 cd_X2_copyFrom hy_X2_copyFrom ⟨rfl, rfl, by decide, by decide⟩ hs1 rfl rfl rfl rfl (Nat.le_of_ble_eq_true rfl) ?_
      refine V_aload_n 0 dX0_giveLatestTo_40 rfl ?_
      refine V_dupa dX0_giveLatestTo_41 ?_
      refine V_geti (ci := 0) (k := 1) (N := 2) (T := TX0) (v := (q9.1 19 1)) dX0_giveLatestTo_42 iuX0 fl_X0_17 rfl (by decide) rfl sh_19 rfl (fun hv11 => ?_)
      refine V_iconst dX0_giveLatestTo_45 rfl ?_
      obtain ⟨hv12, E⟩ := mmK_e E
      refine V_isub dX0_giveLatestTo_46 ?_
      refine V_put (ci := 0) (k := 1) (N := 2) (T := TX0) (x := ((q9.1 19 1) - 1)) (ty := .int) tyX0 dX0_giveLatestTo_47 iuX0 tyX0_ok nmX0 fl_X0_17 rfl (by decide) rfl sh_19 rfl (by decide +kernel) rfl rfl hv12 ?_
      refine V_iconst dX0_giveLatestTo_50 rfl ?_
      obtain rfl := Option.some.inj E
      exact V_reti dX0_giveLatestTo_51 ⟨rfl, rfl, (Or.inr rfl)⟩
    · replace E := mmI_f c4 E
      refine V_iconst dX0_giveLatestTo_15 rfl ?_
      obtain rfl := Option.some.inj E
      exact V_reti dX0_giveLatestTo_16 ⟨rfl, rfl, (Or.inl rfl)⟩
theorem ct_X0_giveLatestTo {l1 : Nat} {m : Mem} {r : Int × Mem} (hs1 : mmSh[l1]? = some (.inl 2)) (E : f_X0_giveLatestTo l1 m = some r) : CTi yX0_giveLatestTo cX0_giveLatestTo 3 (some .boolean) rm_X0_giveLatestTo [.ref 19, .ref l1] m r := CT_z (by decide +kernel) rfl (Nat.le_of_ble_eq_true rfl) (ok_X0_giveLatestTo _ _ hs1 E)
theorem hy_X0_giveLatestTo : yX0_giveLatestTo.cls = RX0 ∧ yX0_giveLatestTo.cls ≠ "java/lang/invoke/MethodHandle" ∧ yX0_giveLatestTo.cls ≠ "java/lang/invoke/VarHandle" ∧ (parseMethodDescriptor yX0_giveLatestTo.desc).map (fun d => d.parameters.length) = some 1 := by decide +kernel
abbrev rm_X1_length : Room := { frames := 0, cells := 0, slots := 0, locals := 0 }
noncomputable def f_X1_length (m : Mem) : Option (Int × Mem) :=
  some ((m.1 45 1), m)
set_option maxRecDepth 100000 in
set_option maxHeartbeats 4000000 in
theorem ok_X1_length {r : Int × Mem} : ∀ (m : Mem), f_X1_length m = some r → VV RX1 cX1_length 1 rm_X1_length mmG0 (mmPi r) 0 [(0, .ref 45)] [] m := by
  intro m E
  unfold f_X1_length at E
  refine V_aload_n 0 dX1_length_0 rfl ?_
  refine V_geti (ci := 1) (k := 1) (N := 8) (T := TX1) (v := (m.1 45 1)) dX1_length_1 iuX1 fl_X1_15 rfl (by decide) rfl sh_45 rfl (fun hv1 => ?_)
  obtain rfl := Option.some.inj E
  exact V_reti dX1_length_4 ⟨rfl, rfl, hv1⟩
theorem ct_X1_length {m : Mem} {r : Int × Mem} (E : f_X1_length m = some r) : CTi yX1_length cX1_length 1 (some .int) rm_X1_length [.ref 45] m r := CT_i (by decide +kernel) rfl (Nat.le_of_ble_eq_true rfl) (ok_X1_length  _  E)
theorem hy_X1_length : yX1_length.cls = RX1 ∧ yX1_length.cls ≠ "java/lang/invoke/MethodHandle" ∧ yX1_length.cls ≠ "java/lang/invoke/VarHandle" ∧ (parseMethodDescriptor yX1_length.desc).map (fun d => d.parameters.length) = some 0 := by decide +kernel
abbrev rm_X1_append : Room := { frames := 0, cells := 0, slots := 0, locals := 0 }
noncomputable def f_X1_append (l1 : Int) (m : Mem) : Option (Int × Mem) :=
  if (m.1 45 1) < 60 then
(mmK (0 ≤ (m.1 45 1) ∧ (m.1 45 1) < 60) (mmK (0 ≤ l1 ∧ l1 ≤ 65535) (mmK (inR ((m.1 45 1) + 1)) (some (((m.1 45 1) + 1), (mwr (mwr m 46 ((m.1 45 1)).toNat l1) 45 1 ((m.1 45 1) + 1)))))))
else
(some ((-3), m))
set_option maxRecDepth 100000 in
set_option maxHeartbeats 4000000 in
theorem ok_X1_append {r : Int × Mem} : ∀ (l1 : Int) (m : Mem), inR l1 → f_X1_append l1 m = some r → VV RX1 cX1_append 2 rm_X1_append mmG0 (mmPi r) 0 [(0, .ref 45), (1, vi l1)] [] m := by
  intro l1 m hr1 E
  unfold f_X1_append at E
  refine V_aload_n 0 dX1_append_0 rfl ?_
  refine V_geti (ci := 1) (k := 1) (N := 8) (T := TX1) (v := (m.1 45 1)) dX1_append_1 iuX1 fl_X1_15 rfl (by decide) rfl sh_45 rfl (fun hv1 => ?_)
  refine V_bipush (v := 60) dX1_append_4 (by decide) ?_
  refine V_icmp_lt 12 dX1_append_6 (by decide) hv1 ir_60 (fun c2 => ?_) (fun c2 => ?_)
  · replace E := mmI_t c2 E
    refine V_aload_n 0 dX1_append_12 rfl ?_
    refine V_geta (ci := 1) (k := 0) (N := 8) (T := TX1) (o' := 46) dX1_append_13 iuX1 fl_X1_9 rfl (by decide) rfl sh_45 rfl ?_
    refine V_aload_n 0 dX1_append_16 rfl ?_
    refine V_geti (ci := 1) (k := 1) (N := 8) (T := TX1) (v := (m.1 45 1)) dX1_append_17 iuX1 fl_X1_15 rfl (by decide) rfl sh_45 rfl (fun hv3 => ?_)
    refine V_iload_n 1 dX1_append_20 rfl ?_
    obtain ⟨hv4, E⟩ := mmK_e E
    obtain ⟨hv5, E⟩ := mmK_e E
    refine V_cast (n := 60) (j := ((m.1 45 1)).toNat) dX1_append_21 sh_46 hv3 hr1 hv4 hv5 rfl ?_
    refine V_aload_n 0 dX1_append_22 rfl ?_
    refine V_dupa dX1_append_23 ?_
    refine V_geti (ci := 1) (k := 1) (N := 8) (T := TX1) (v := (m.1 45 1)) dX1_append_24 iuX1 fl_X1_15 rfl (by decide) rfl sh_45 rfl (fun hv6 => ?_)
    refine V_iconst dX1_append_27 rfl ?_
    obtain ⟨hv7, E⟩ := mmK_e E
    refine V_iadd dX1_append_28 ?_
    refine V_put (ci := 1) (k := 1) (N := 8) (T := TX1) (x := ((m.1 45 1) + 1)) (ty := .int) tyX1 dX1_append_29 iuX1 tyX1_ok nmX1 fl_X1_15 rfl (by decide) rfl sh_45 rfl (by decide +kernel) rfl rfl hv7 ?_
    refine V_aload_n 0 dX1_append_32 rfl ?_
    refine V_geti (ci := 1) (k := 1) (N := 8) (T := TX1) (v := ((m.1 45 1) + 1)) dX1_append_33 iuX1 fl_X1_15 rfl (by decide) rfl sh_45 rfl (fun hv8 => ?_)
    obtain rfl := Option.some.inj E
    exact V_reti dX1_append_36 ⟨rfl, rfl, hv8⟩
  · replace E := mmI_f c2 E
    refine V_bipush (v := (-3)) dX1_append_9 (by decide) ?_
    obtain rfl := Option.some.inj E
    exact V_reti dX1_append_11 ⟨rfl, rfl, ir_m3⟩
theorem ct_X1_append {l1 : Int} {m : Mem} {r : Int × Mem} (hr1 : inR l1) (E : f_X1_append l1 m = some r) : CTi yX1_append cX1_append 2 (some .int) rm_X1_append [.ref 45, vi l1] m r := CT_i (by decide +kernel) rfl (Nat.le_of_ble_eq_true rfl) (ok_X1_append _ _ hr1 E)
theorem hy_X1_append : yX1_append.cls = RX1 ∧ yX1_append.cls ≠ "java/lang/invoke/MethodHandle" ∧ yX1_append.cls ≠ "java/lang/invoke/VarHandle" ∧ (parseMethodDescriptor yX1_append.desc).map (fun d => d.parameters.length) = some 1 := by decide +kernel
abbrev rm_X1_empty : Room := { frames := 0, cells := 0, slots := 0, locals := 0 }
noncomputable def f_X1_empty (m : Mem) : Option (Int × Mem) :=
  some ((m.1 45 1), (mwr m 45 1 0))
set_option maxRecDepth 100000 in
set_option maxHeartbeats 4000000 in
theorem ok_X1_empty {r : Int × Mem} : ∀ (m : Mem), f_X1_empty m = some r → VV RX1 cX1_empty 2 rm_X1_empty mmG0 (mmPi r) 0 [(0, .ref 45)] [] m := by
  intro m E
  unfold f_X1_empty at E
  refine V_aload_n 0 dX1_empty_0 rfl ?_
  refine V_geti (ci := 1) (k := 1) (N := 8) (T := TX1) (v := (m.1 45 1)) dX1_empty_1 iuX1 fl_X1_15 rfl (by decide) rfl sh_45 rfl (fun hv1 => ?_)
  refine V_istore_n (i := 1) (lv' := [(0, .ref 45), (1, vi (m.1 45 1))]) dX1_empty_4 rfl rfl rfl ?_
  refine V_aload_n 0 dX1_empty_5 rfl ?_
  refine V_iconst dX1_empty_6 rfl ?_
  refine V_put (ci := 1) (k := 1) (N := 8) (T := TX1) (x := 0) (ty := .int) tyX1 dX1_empty_7 iuX1 tyX1_ok nmX1 fl_X1_15 rfl (by decide) rfl sh_45 rfl (by decide +kernel) rfl rfl ir_0 ?_
  refine V_iload_n 1 dX1_empty_10 rfl ?_
  obtain rfl := Option.some.inj E
  exact V_reti dX1_empty_11 ⟨rfl, rfl, hv1⟩
theorem ct_X1_empty {m : Mem} {r : Int × Mem} (E : f_X1_empty m = some r) : CTi yX1_empty cX1_empty 2 (some .int) rm_X1_empty [.ref 45] m r := CT_i (by decide +kernel) rfl (Nat.le_of_ble_eq_true rfl) (ok_X1_empty  _  E)
theorem hy_X1_empty : yX1_empty.cls = RX1 ∧ yX1_empty.cls ≠ "java/lang/invoke/MethodHandle" ∧ yX1_empty.cls ≠ "java/lang/invoke/VarHandle" ∧ (parseMethodDescriptor yX1_empty.desc).map (fun d => d.parameters.length) = some 0 := by decide +kernel
abbrev rm_X1_next : Room := { frames := 0, cells := 0, slots := 0, locals := 0 }
noncomputable def f_X1_next (m : Mem) : Option (Int × Mem) :=
  if (m.1 45 7) < 0 then
(some ((-1), m))
else
(if (m.1 45 1) ≤ (m.1 45 7) then
(some ((-1), m))
else
(mmK (0 ≤ (m.1 45 7) ∧ (m.1 45 7) < 60) (some ((m.1 46 ((m.1 45 7)).toNat), m))))
set_option maxRecDepth 100000 in
set_option maxHeartbeats 4000000 in
theorem ok_X1_next {r : Int × Mem} : ∀ (m : Mem), f_X1_next m = some r → VV RX1 cX1_next 1 rm_X1_next mmG0 (mmPi r) 0 [(0, .ref 45)] [] m := by
  intro m E
  unfold f_X1_next at E
  refine V_aload_n 0 dX1_next_0 rfl ?_
  refine V_geti (ci := 1) (k := 7) (N := 8) (T := TX1) (v := (m.1 45 7)) dX1_next_1 iuX1 fl_X1_35 rfl (by decide) rfl sh_45 rfl (fun hv1 => ?_)
  refine V_if_lt 30 dX1_next_4 (by decide) hv1 (fun c2 => ?_) (fun c2 => ?_)
  · replace E := mmI_t c2 E
    refine V_iconst dX1_next_30 rfl ?_
    obtain rfl := Option.some.inj E
    exact V_reti dX1_next_31 ⟨rfl, rfl, ir_m1⟩
  · replace E := mmI_f c2 E
    refine V_aload_n 0 dX1_next_7 rfl ?_
    refine V_geti (ci := 1) (k := 7) (N := 8) (T := TX1) (v := (m.1 45 7)) dX1_next_8 iuX1 fl_X1_35 rfl (by decide) rfl sh_45 rfl (fun hv3 => ?_)
    refine V_aload_n 0 dX1_next_11 rfl ?_
    refine V_geti (ci := 1) (k := 1) (N := 8) (T := TX1) (v := (m.1 45 1)) dX1_next_12 iuX1 fl_X1_15 rfl (by decide) rfl sh_45 rfl (fun hv4 => ?_)
    refine V_icmp_ge 30 dX1_next_15 (by decide) hv3 hv4 (fun c5 => ?_) (fun c5 => ?_)
    · replace E := mmI_t c5 E
      refine V_iconst dX1_next_30 rfl ?_
      obtain rfl := Option.some.inj E
      exact V_reti dX1_next_31 ⟨rfl, rfl, ir_m1⟩
    · replace E := mmI_f c5 E
      refine V_aload_n 0 dX1_next_18 rfl ?_
      refine V_geta (ci := 1) (k := 0) (N := 8) (T := TX1) (o' := 46) dX1_next_19 iuX1 fl_X1_9 rfl (by decide) rfl sh_45 rfl ?_
      refine V_aload_n 0 dX1_next_22 rfl ?_
      refine V_geti (ci := 1) (k := 7) (N := 8) (T := TX1) (v := (m.1 45 7)) dX1_next_23 iuX1 fl_X1_35 rfl (by decide) rfl sh_45 rfl (fun hv6 => ?_)
      obtain ⟨hv7, E⟩ := mmK_e E
      refine V_cald (n := 60) (j := ((m.1 45 7)).toNat) (v := (m.1 46 ((m.1 45 7)).toNat)) dX1_next_26 sh_46 hv6 hv7 rfl rfl (fun hv8 => ?_)
      refine V_goto 31 dX1_next_27 (by decide) ?_
      obtain rfl := Option.some.inj E
      exact V_reti dX1_next_31 ⟨rfl, rfl, hv8⟩
theorem ct_X1_next {m : Mem} {r : Int × Mem} (E : f_X1_next m = some r) : CTi yX1_next cX1_next 1 (some .int) rm_X1_next [.ref 45] m r := CT_i (by decide +kernel) rfl (Nat.le_of_ble_eq_true rfl) (ok_X1_next  _  E)
theorem hy_X1_next : yX1_next.cls = RX1 ∧ yX1_next.cls ≠ "java/lang/invoke/MethodHandle" ∧ yX1_next.cls ≠ "java/lang/invoke/VarHandle" ∧ (parseMethodDescriptor yX1_next.desc).map (fun d => d.parameters.length) = some 0 := by decide +kernel
abbrev rm_X1_readLetter : Room := { frames := 1, cells := 0, slots := 0, locals := 20 }
noncomputable def f_X1_readLetter (m : Mem) : Option (Int × Mem) :=
  (f_X1_next m).bind (fun q1 => if q1.1 < 65 then
(some ((-1), q1.2))
else
(if q1.1 ≤ 90 then
(mmK (inR ((q1.2.1 45 7) + 1)) (mmK (inR (q1.1 - 65)) (some ((q1.1 - 65), (mwr q1.2 45 7 ((q1.2.1 45 7) + 1))))))
else
(some ((-1), q1.2))))
set_option maxRecDepth 100000 in
set_option maxHeartbeats 4000000 in
theorem ok_X1_readLetter {r : Int × Mem} : ∀ (m : Mem), f_X1_readLetter m = some r → VV RX1 cX1_readLetter 2 rm_X1_readLetter mmG0 (mmPi r) 0 [(0, .ref 45)] [] m := by
  intro m E
  unfold f_X1_readLetter at E
  refine V_aload_n 0 dX1_readLetter_0 rfl ?_
  obtain ⟨q1, hq1, E⟩ := mmB_e E
  refine V_callV (ci := 1) (q := (RX1, TX1, 8)) (Cn := RX1) (st := []) 0 dX1_readLetter_1 (ct_X1_next hq1) ml_X1_77 im_X1_next sl_X1_next it_X1 cd_X1_next hy_X1_next ⟨rfl, rfl, by decide, by decide⟩ sh_45 rfl rfl rfl rfl (Nat.le_of_ble_eq_true rfl) (fun hv2 => ?_)
  refine V_istore_n (i := 1) (lv' := [(0, .ref 45), (1, vi q1.1)]) dX1_readLetter_4 rfl rfl rfl ?_
  refine V_iload_n 1 dX1_readLetter_5 rfl ?_
  refine V_bipush (v := 65) dX1_readLetter_6 (by decide) ?_
  refine V_icmp_lt 17 dX1_readLetter_8 (by decide) hv2 ir_65 (fun c3 => ?_) (fun c3 => ?_)
  · replace E := mmI_t c3 E
    refine V_iconst dX1_readLetter_17 rfl ?_
    obtain rfl := Option.some.inj E
    exact V_reti dX1_readLetter_18 ⟨rfl, rfl, ir_m1⟩
  · replace E := mmI_f c3 E
    refine V_iload_n 1 dX1_readLetter_11 rfl ?_
    refine V_bipush (v := 90) dX1_readLetter_12 (by decide) ?_
    refine V_icmp_le 19 dX1_readLetter_14 (by decide) hv2 ir_90 (fun c4 => ?_) (fun c4 => ?_)
    · replace E := mmI_t c4 E
      refine V_aload_n 0 dX1_readLetter_19 rfl ?_
      refine V_dupa dX1_readLetter_20 ?_
      refine V_geti (ci := 1) (k := 7) (N := 8) (T := TX1) (v := (q1.2.1 45 7)) dX1_readLetter_21 iuX1 fl_X1_35 rfl (by decide) rfl sh_45 rfl (fun hv5 => ?_)
      refine V_iconst dX1_readLetter_24 rfl ?_
      obtain ⟨hv6, E⟩ := mmK_e E
      refine V_iadd dX1_readLetter_25 ?_
      refine V_put (ci := 1) (k := 7) (N := 8) (T := TX1) (x := ((q1.2.1 45 7) + 1)) (ty := .int) tyX1 dX1_readLetter_26 iuX1 tyX1_ok nmX1 fl_X1_35 rfl (by decide) rfl sh_45 rfl (by decide +kernel) rfl rfl hv6 ?_
      refine V_iload_n 1 dX1_readLetter_29 rfl ?_
      refine V_bipush (v := 65) dX1_readLetter_30 (by decide) ?_
      obtain ⟨hv7, E⟩ := mmK_e E
      refine V_isub dX1_readLetter_32 ?_
      obtain rfl := Option.some.inj E
      exact V_reti dX1_readLetter_33 ⟨rfl, rfl, hv7⟩
    · replace E := mmI_f c4 E
      refine V_iconst dX1_readLetter_17 rfl ?_
      obtain rfl := Option.some.inj E
      exact V_reti dX1_readLetter_18 ⟨rfl, rfl, ir_m1⟩
theorem ct_X1_readLetter {m : Mem} {r : Int × Mem} (E : f_X1_readLetter m = some r) : CTi yX1_readLetter cX1_readLetter 2 (some .int) rm_X1_readLetter [.ref 45] m r := CT_i (by decide +kernel) rfl (Nat.le_of_ble_eq_true rfl) (ok_X1_readLetter  _  E)
theorem hy_X1_readLetter : yX1_readLetter.cls = RX1 ∧ yX1_readLetter.cls ≠ "java/lang/invoke/MethodHandle" ∧ yX1_readLetter.cls ≠ "java/lang/invoke/VarHandle" ∧ (parseMethodDescriptor yX1_readLetter.desc).map (fun d => d.parameters.length) = some 0 := by decide +kernel
abbrev rm_X1_readName : Room := { frames := 2, cells := 0, slots := 0, locals := 41 }
noncomputable def f_X1_readName (m : Mem) : Option (Int × Mem) :=
  (f_X1_readLetter m).bind (fun q1 => if q1.1 = (-1) then
(some ((-1), q1.2))
else
((f_X1_readLetter q1.2).bind (fun q4 => if q4.1 = (-1) then
(some ((-1), q4.2))
else
(mmK (inR (q1.1 * 26)) (mmK (inR ((q1.1 * 26) + q4.1)) (some (((q1.1 * 26) + q4.1), q4.2)))))))
set_option maxRecDepth 100000 in
set_option maxHeartbeats 4000000 in
theorem ok_X1_readName {r : Int × Mem} : ∀ (m : Mem), f_X1_readName m = some r → VV RX1 cX1_readName 3 rm_X1_readName mmG0 (mmPi r) 0 [(0, .ref 45)] [] m := by
  intro m E
  unfold f_X1_readName at E
  refine V_aload_n 0 dX1_readName_0 rfl ?_
  obtain ⟨q1, hq1, E⟩ := mmB_e E
  refine V_callV (ci := 1) (q := (RX1, TX1, 8)) (Cn := RX1) (st := []) 0 dX1_readName_1 (ct_X1_readLetter hq1) ml_X1_74 im_X1_readLetter sl_X1_readLetter it_X1 cd_X1_readLetter hy_X1_readLetter ⟨rfl, rfl, by decide, by decide⟩ sh_45 rfl rfl rfl rfl (Nat.le_of_ble_eq_true rfl) (fun hv2 => ?_)
  refine V_istore_n (i := 1) (lv' := [(0, .ref 45), (1, vi q1.1)]) dX1_readName_4 rfl rfl rfl ?_
  refine V_iload_n 1 dX1_readName_5 rfl ?_
  refine V_iconst dX1_readName_6 rfl ?_
  refine V_icmp_ne 12 dX1_readName_7 (by decide) hv2 ir_m1 (fun c3 => ?_) (fun c3 => ?_)
  · replace E := mmI_f c3 E
    refine V_aload_n 0 dX1_readName_12 rfl ?_
    obtain ⟨q4, hq4, E⟩ := mmB_e E
    refine V_callV (ci := 1) (q := (RX1, TX1, 8)) (Cn := RX1) (st := []) 0 dX1_readName_13 (ct_X1_readLetter hq4) ml_X1_74 im_X1_readLetter sl_X1_readLetter it_X1 cd_X1_readLetter hy_X1_readLetter ⟨rfl, rfl, by decide, by decide⟩ sh_45 rfl rfl rfl rfl (Nat.le_of_ble_eq_true rfl) (fun hv5 => ?_)
    refine V_istore_n (i := 2) (lv' := [(0, .ref 45), (1, vi q1.1), (2, vi q4.1)]) dX1_readName_16 rfl rfl rfl ?_
    refine V_iload_n 2 dX1_readName_17 rfl ?_
    refine V_iconst dX1_readName_18 rfl ?_
    refine V_icmp_ne 24 dX1_readName_19 (by decide) hv5 ir_m1 (fun c6 => ?_) (fun c6 => ?_)
    · replace E := mmI_f c6 E
      refine V_iload_n 1 dX1_readName_24 rfl ?_
      refine V_bipush (v := 26) dX1_readName_25 (by decide) ?_
      obtain ⟨hv7, E⟩ := mmK_e E
      refine V_imul dX1_readName_27 ?_
      refine V_iload_n 2 dX1_readName_28 rfl ?_
      obtain ⟨hv8, E⟩ := mmK_e E
      refine V_iadd dX1_readName_29 ?_
      obtain rfl := Option.some.inj E
      exact V_reti dX1_readName_30 ⟨rfl, rfl, hv8⟩
    · replace E := mmI_t c6 E
      refine V_iconst dX1_readName_22 rfl ?_
      obtain rfl := Option.some.inj E
      exact V_reti dX1_readName_23 ⟨rfl, rfl, ir_m1⟩
  · replace E := mmI_t c3 E
    refine V_iconst dX1_readName_10 rfl ?_
    obtain rfl := Option.some.inj E
    exact V_reti dX1_readName_11 ⟨rfl, rfl, ir_m1⟩
theorem ct_X1_readName {m : Mem} {r : Int × Mem} (E : f_X1_readName m = some r) : CTi yX1_readName cX1_readName 3 (some .int) rm_X1_readName [.ref 45] m r := CT_i (by decide +kernel) rfl (Nat.le_of_ble_eq_true rfl) (ok_X1_readName  _  E)
theorem hy_X1_readName : yX1_readName.cls = RX1 ∧ yX1_readName.cls ≠ "java/lang/invoke/MethodHandle" ∧ yX1_readName.cls ≠ "java/lang/invoke/VarHandle" ∧ (parseMethodDescriptor yX1_readName.desc).map (fun d => d.parameters.length) = some 0 := by decide +kernel
abbrev rm_X1_takes : Room := { frames := 1, cells := 0, slots := 0, locals := 20 }
noncomputable def f_X1_takes (l1 : Int) (m : Mem) : Option (Int × Mem) :=
  (f_X1_next m).bind (fun q1 => if q1.1 = l1 then
(mmK (inR ((q1.2.1 45 7) + 1)) (some (1, (mwr q1.2 45 7 ((q1.2.1 45 7) + 1)))))
else
(some (0, q1.2)))
set_option maxRecDepth 100000 in
set_option maxHeartbeats 4000000 in
theorem ok_X1_takes {r : Int × Mem} : ∀ (l1 : Int) (m : Mem), inR l1 → f_X1_takes l1 m = some r → VV RX1 cX1_takes 2 rm_X1_takes mmG0 (mmPz r) 0 [(0, .ref 45), (1, vi l1)] [] m := by
  intro l1 m hr1 E
  unfold f_X1_takes at E
  refine V_aload_n 0 dX1_takes_0 rfl ?_
  obtain ⟨q1, hq1, E⟩ := mmB_e E
  refine V_callV (ci := 1) (q := (RX1, TX1, 8)) (Cn := RX1) (st := []) 0 dX1_takes_1 (ct_X1_next hq1) ml_X1_77 im_X1_next sl_X1_next it_X1 cd_X1_next hy_X1_next ⟨rfl, rfl, by decide, by decide⟩ sh_45 rfl rfl rfl rfl (Nat.le_of_ble_eq_true rfl) (fun hv2 => ?_)
  refine V_iload_n 1 dX1_takes_4 rfl ?_
  refine V_icmp_eq 10 dX1_takes_5 (by decide) hv2 hr1 (fun c3 => ?_) (fun c3 => ?_)
  · replace E := mmI_t c3 E
    refine V_aload_n 0 dX1_takes_10 rfl ?_
    refine V_dupa dX1_takes_11 ?_
    refine V_geti (ci := 1) (k := 7) (N := 8) (T := TX1) (v := (q1.2.1 45 7)) dX1_takes_12 iuX1 fl_X1_35 rfl (by decide) rfl sh_45 rfl (fun hv4 => ?_)
    refine V_iconst dX1_takes_15 rfl ?_
    obtain ⟨hv5, E⟩ := mmK_e E
    refine V_iadd dX1_takes_16 ?_
    refine V_put (ci := 1) (k := 7) (N := 8) (T := TX1) (x := ((q1.2.1 45 7) + 1)) (ty := .int) tyX1 dX1_takes_17 iuX1 tyX1_ok nmX1 fl_X1_35 rfl (by decide) rfl sh_45 rfl (by decide +kernel) rfl rfl hv5 ?_
    refine V_iconst dX1_takes_20 rfl ?_
    obtain rfl := Option.some.inj E
    exact V_reti dX1_takes_21 ⟨rfl, rfl, (Or.inr rfl)⟩
  · replace E := mmI_f c3 E
    refine V_iconst dX1_takes_8 rfl ?_
    obtain rfl := Option.some.inj E
    exact V_reti dX1_takes_9 ⟨rfl, rfl, (Or.inl rfl)⟩
theorem ct_X1_takes {l1 : Int} {m : Mem} {r : Int × Mem} (hr1 : inR l1) (E : f_X1_takes l1 m = some r) : CTi yX1_takes cX1_takes 2 (some .boolean) rm_X1_takes [.ref 45, vi l1] m r := CT_z (by decide +kernel) rfl (Nat.le_of_ble_eq_true rfl) (ok_X1_takes _ _ hr1 E)
theorem hy_X1_takes : yX1_takes.cls = RX1 ∧ yX1_takes.cls ≠ "java/lang/invoke/MethodHandle" ∧ yX1_takes.cls ≠ "java/lang/invoke/VarHandle" ∧ (parseMethodDescriptor yX1_takes.desc).map (fun d => d.parameters.length) = some 1 := by decide +kernel
abbrev rm_X1_nextDigit : Room := { frames := 1, cells := 0, slots := 0, locals := 20 }
noncomputable def f_X1_nextDigit (m : Mem) : Option (Int × Mem) :=
  (f_X1_next m).bind (fun q1 => if q1.1 < 48 then
(some ((-1), q1.2))
else
(if 57 < q1.1 then
(some ((-1), q1.2))
else
(mmK (inR (q1.1 - 48)) (some ((q1.1 - 48), q1.2)))))
set_option maxRecDepth 100000 in
set_option maxHeartbeats 4000000 in
theorem ok_X1_nextDigit {r : Int × Mem} : ∀ (m : Mem), f_X1_nextDigit m = some r → VV RX1 cX1_nextDigit 2 rm_X1_nextDigit mmG0 (mmPi r) 0 [(0, .ref 45)] [] m := by
  intro m E
  unfold f_X1_nextDigit at E
  refine V_aload_n 0 dX1_nextDigit_0 rfl ?_
  obtain ⟨q1, hq1, E⟩ := mmB_e E
  refine V_callV (ci := 1) (q := (RX1, TX1, 8)) (Cn := RX1) (st := []) 0 dX1_nextDigit_1 (ct_X1_next hq1) ml_X1_77 im_X1_next sl_X1_next it_X1 cd_X1_next hy_X1_next ⟨rfl, rfl, by decide, by decide⟩ sh_45 rfl rfl rfl rfl (Nat.le_of_ble_eq_true rfl) (fun hv2 => ?_)
  refine V_istore_n (i := 1) (lv' := [(0, .ref 45), (1, vi q1.1)]) dX1_nextDigit_4 rfl rfl rfl ?_
  refine V_iload_n 1 dX1_nextDigit_5 rfl ?_
  refine V_bipush (v := 48) dX1_nextDigit_6 (by decide) ?_
  refine V_icmp_lt 24 dX1_nextDigit_8 (by decide) hv2 ir_48 (fun c3 => ?_) (fun c3 => ?_)
  · replace E := mmI_t c3 E
    refine V_iconst dX1_nextDigit_24 rfl ?_
    obtain rfl := Option.some.inj E
    exact V_reti dX1_nextDigit_25 ⟨rfl, rfl, ir_m1⟩
  · replace E := mmI_f c3 E
    refine V_iload_n 1 dX1_nextDigit_11 rfl ?_
    refine V_bipush (v := 57) dX1_nextDigit_12 (by decide) ?_
    refine V_icmp_gt 24 dX1_nextDigit_14 (by decide) hv2 ir_57 (fun c4 => ?_) (fun c4 => ?_)
    · replace E := mmI_t c4 E
      refine V_iconst dX1_nextDigit_24 rfl ?_
      obtain rfl := Option.some.inj E
      exact V_reti dX1_nextDigit_25 ⟨rfl, rfl, ir_m1⟩
    · replace E := mmI_f c4 E
      refine V_iload_n 1 dX1_nextDigit_17 rfl ?_
      refine V_bipush (v := 48) dX1_nextDigit_18 (by decide) ?_
      obtain ⟨hv5, E⟩ := mmK_e E
      refine V_isub dX1_nextDigit_20 ?_
      refine V_goto 25 dX1_nextDigit_21 (by decide) ?_
      obtain rfl := Option.some.inj E
      exact V_reti dX1_nextDigit_25 ⟨rfl, rfl, hv5⟩
theorem ct_X1_nextDigit {m : Mem} {r : Int × Mem} (E : f_X1_nextDigit m = some r) : CTi yX1_nextDigit cX1_nextDigit 2 (some .int) rm_X1_nextDigit [.ref 45] m r := CT_i (by decide +kernel) rfl (Nat.le_of_ble_eq_true rfl) (ok_X1_nextDigit  _  E)
theorem hy_X1_nextDigit : yX1_nextDigit.cls = RX1 ∧ yX1_nextDigit.cls ≠ "java/lang/invoke/MethodHandle" ∧ yX1_nextDigit.cls ≠ "java/lang/invoke/VarHandle" ∧ (parseMethodDescriptor yX1_nextDigit.desc).map (fun d => d.parameters.length) = some 0 := by decide +kernel
abbrev rm_X1_readNumber : Room := { frames := 2, cells := 0, slots := 0, locals := 41 }
noncomputable def f_X1_readNumber_L25 : Nat → Int → Int → Int → Mem → Option (Int × Mem)
  | 0, _, _, _, _ => none
  | n + 1, l2, l3, l4, m =>
    if 4 ≤ l4 then
(some (l3, m))
else
((f_X1_nextDigit m).bind (fun q7 => if l3 = 0 then
(some (l3, q7.2))
else
(if q7.1 = (-1) then
(some (l3, q7.2))
else
(mmK (inR (l3 * 10)) (mmK (inR ((l3 * 10) + q7.1)) (if ((l3 * 10) + q7.1) ≤ l2 then
(mmK (inR (l3 * 10)) (mmK (inR ((l3 * 10) + q7.1)) (mmK (inR ((q7.2.1 45 7) + 1)) (mmK (inR (l4 + 1)) (f_X1_readNumber_L25 n l2 ((l3 * 10) + q7.1) (l4 + 1) (mwr q7.2 45 7 ((q7.2.1 45 7) + 1)))))))
else
(some (l3, q7.2))))))))
set_option maxRecDepth 100000 in
set_option maxHeartbeats 4000000 in
theorem ok_X1_readNumber_L25 {r : Int × Mem} : ∀ (n : Nat), ∀ (l2 : Int) (l3 : Int) (l4 : Int) (m : Mem), inR l2 → inR l3 → inR l4 → f_X1_readNumber_L25 n l2 l3 l4 m = some r → VV RX1 cX1_readNumber 6 rm_X1_readNumber mmG0 (mmPi r) 25 [(0, .ref 45), (2, vi l2), (3, vi l3), (4, vi l4)] [] m := by
  intro n
  induction n with
  | zero =>
    intro l2 l3 l4 m hr2 hr3 hr4 E
    cases E
  | succ n ih =>
    intro l2 l3 l4 m hr2 hr3 hr4 E
    rw [f_X1_readNumber_L25] at E
    refine V_iload 3 dX1_readNumber_25 rfl ?_
    refine V_iconst dX1_readNumber_27 rfl ?_
    refine V_icmp_ge 84 dX1_readNumber_28 (by decide) hr4 ir_4 (fun c6 => ?_) (fun c6 => ?_)
    · replace E := mmI_t c6 E
      refine V_iload_n 2 dX1_readNumber_84 rfl ?_
      obtain rfl := Option.some.inj E
      exact V_reti dX1_readNumber_85 ⟨rfl, rfl, hr3⟩
    · replace E := mmI_f c6 E
      refine V_aload_n 0 dX1_readNumber_31 rfl ?_
      obtain ⟨q7, hq7, E⟩ := mmB_e E
      refine V_callV (ci := 1) (q := (RX1, TX1, 8)) (Cn := RX1) (st := []) 0 dX1_readNumber_32 (ct_X1_nextDigit hq7) ml_X1_80 im_X1_nextDigit sl_X1_nextDigit it_X1 cd_X1_nextDigit hy_X1_nextDigit ⟨rfl, rfl, by decide, by decide⟩ sh_45 rfl rfl rfl rfl (Nat.le_of_ble_eq_true rfl) (fun hv8 => ?_)
      refine V_istore (lv' := [(0, .ref 45), (2, vi l2), (3, vi l3), (4, vi l4), (5, vi q7.1)]) dX1_readNumber_35 rfl rfl ?_
      refine V_iload_n 2 dX1_readNumber_37 rfl ?_
      refine V_if_eq 58 dX1_readNumber_38 (by decide) hr3 (fun c9 => ?_) (fun c9 => ?_)
      · replace E := mmI_t c9 E
        refine V_iload_n 2 dX1_readNumber_58 rfl ?_
        obtain rfl := Option.some.inj E
        exact V_reti dX1_readNumber_59 ⟨rfl, rfl, hr3⟩
      · replace E := mmI_f c9 E
        refine V_iload 4 dX1_readNumber_41 rfl ?_
        refine V_iconst dX1_readNumber_43 rfl ?_
        refine V_icmp_eq 58 dX1_readNumber_44 (by decide) hv8 ir_m1 (fun c10 => ?_) (fun c10 => ?_)
        · replace E := mmI_t c10 E
          refine V_iload_n 2 dX1_readNumber_58 rfl ?_
          obtain rfl := Option.some.inj E
          exact V_reti dX1_readNumber_59 ⟨rfl, rfl, hr3⟩
        · replace E := mmI_f c10 E
          refine V_iload_n 2 dX1_readNumber_47 rfl ?_
          refine V_bipush (v := 10) dX1_readNumber_48 (by decide) ?_
          obtain ⟨hv11, E⟩ := mmK_e E
          refine V_imul dX1_readNumber_50 ?_
          refine V_iload 4 dX1_readNumber_51 rfl ?_
          obtain ⟨hv12, E⟩ := mmK_e E
          refine V_iadd dX1_readNumber_53 ?_
          refine V_iload_n 1 dX1_readNumber_54 rfl ?_
          refine V_icmp_le 60 dX1_readNumber_55 (by decide) hv12 hr2 (fun c13 => ?_) (fun c13 => ?_)
          · replace E := mmI_t c13 E
            refine V_iload_n 2 dX1_readNumber_60 rfl ?_
            refine V_bipush (v := 10) dX1_readNumber_61 (by decide) ?_
            obtain ⟨hv14, E⟩ := mmK_e E
            refine V_imul dX1_readNumber_63 ?_
            refine V_iload 4 dX1_readNumber_64 rfl ?_
            obtain ⟨hv15, E⟩ := mmK_e E
            refine V_iadd dX1_readNumber_66 ?_
            refine V_istore_n (i := 3) (lv' := [(0, .ref 45), (2, vi l2), (3, vi ((l3 * 10) + q7.1)), (4, vi l4), (5, vi q7.1)]) dX1_readNumber_67 rfl rfl rfl ?_
            refine V_aload_n 0 dX1_readNumber_68 rfl ?_
            refine V_dupa dX1_readNumber_69 ?_
            refine V_geti (ci := 1) (k := 7) (N := 8) (T := TX1) (v := (q7.2.1 45 7)) dX1_readNumber_70 iuX1 fl_X1_35 rfl (by decide) rfl sh_45 rfl (fun hv16 => ?_)
            refine V_iconst dX1_readNumber_73 rfl ?_
            obtain ⟨hv17, E⟩ := mmK_e E
            refine V_iadd dX1_readNumber_74 ?_
            refine V_put (ci := 1) (k := 7) (N := 8) (T := TX1) (x := ((q7.2.1 45 7) + 1)) (ty := .int) tyX1 dX1_readNumber_75 iuX1 tyX1_ok nmX1 fl_X1_35 rfl (by decide) rfl sh_45 rfl (by decide +kernel) rfl rfl hv17 ?_
            obtain ⟨hv18, E⟩ := mmK_e E
            refine V_iinc (v := (l4 + 1)) (lv' := [(0, .ref 45), (2, vi l2), (3, vi ((l3 * 10) + q7.1)), (4, vi (l4 + 1)), (5, vi q7.1)]) 3 dX1_readNumber_78 rfl rfl rfl rfl ?_
            refine V_goto 25 dX1_readNumber_81 (by decide) ?_
            refine V_sub [0, 1, 2, 3] rfl ?_
            exact ih _ _ _ _ hr2 hv15 hv18 E
          · replace E := mmI_f c13 E
            refine V_iload_n 2 dX1_readNumber_58 rfl ?_
            obtain rfl := Option.some.inj E
            exact V_reti dX1_readNumber_59 ⟨rfl, rfl, hr3⟩
noncomputable def f_X1_readNumber (l1 : Int) (l2 : Int) (m : Mem) : Option (Int × Mem) :=
  (f_X1_nextDigit m).bind (fun q1 => if l1 ≤ q1.1 then
(mmK (inR ((q1.2.1 45 7) + 1)) (f_X1_readNumber_L25 mmFU l2 q1.1 1 (mwr q1.2 45 7 ((q1.2.1 45 7) + 1))))
else
(some ((-1), q1.2)))
set_option maxRecDepth 100000 in
set_option maxHeartbeats 4000000 in
theorem ok_X1_readNumber {r : Int × Mem} : ∀ (l1 : Int) (l2 : Int) (m : Mem), inR l1 → inR l2 → f_X1_readNumber l1 l2 m = some r → VV RX1 cX1_readNumber 6 rm_X1_readNumber mmG0 (mmPi r) 0 [(0, .ref 45), (1, vi l1), (2, vi l2)] [] m := by
  intro l1 l2 m hr1 hr2 E
  unfold f_X1_readNumber at E
  refine V_aload_n 0 dX1_readNumber_0 rfl ?_
  obtain ⟨q1, hq1, E⟩ := mmB_e E
  refine V_callV (ci := 1) (q := (RX1, TX1, 8)) (Cn := RX1) (st := []) 0 dX1_readNumber_1 (ct_X1_nextDigit hq1) ml_X1_80 im_X1_nextDigit sl_X1_nextDigit it_X1 cd_X1_nextDigit hy_X1_nextDigit ⟨rfl, rfl, by decide, by decide⟩ sh_45 rfl rfl rfl rfl (Nat.le_of_ble_eq_true rfl) (fun hv2 => ?_)
  refine V_istore_n (i := 3) (lv' := [(0, .ref 45), (1, vi l1), (2, vi l2), (3, vi q1.1)]) dX1_readNumber_4 rfl rfl rfl ?_
  refine V_iload_n 3 dX1_readNumber_5 rfl ?_
  refine V_iload_n 1 dX1_readNumber_6 rfl ?_
  refine V_icmp_ge 12 dX1_readNumber_7 (by decide) hv2 hr1 (fun c3 => ?_) (fun c3 => ?_)
  · replace E := mmI_t c3 E
    refine V_aload_n 0 dX1_readNumber_12 rfl ?_
    refine V_dupa dX1_readNumber_13 ?_
    refine V_geti (ci := 1) (k := 7) (N := 8) (T := TX1) (v := (q1.2.1 45 7)) dX1_readNumber_14 iuX1 fl_X1_35 rfl (by decide) rfl sh_45 rfl (fun hv4 => ?_)
    refine V_iconst dX1_readNumber_17 rfl ?_
    obtain ⟨hv5, E⟩ := mmK_e E
    refine V_iadd dX1_readNumber_18 ?_
    refine V_put (ci := 1) (k := 7) (N := 8) (T := TX1) (x := ((q1.2.1 45 7) + 1)) (ty := .int) tyX1 dX1_readNumber_19 iuX1 tyX1_ok nmX1 fl_X1_35 rfl (by decide) rfl sh_45 rfl (by decide +kernel) rfl rfl hv5 ?_
    refine V_iconst dX1_readNumber_22 rfl ?_
    refine V_istore (lv' := [(0, .ref 45), (1, vi l1), (2, vi l2), (3, vi q1.1), (4, vi 1)]) dX1_readNumber_23 rfl rfl ?_
    refine V_sub [0, 2, 3, 4] rfl ?_
    exact ok_X1_readNumber_L25 mmFU _ _ _ _ hr2 hv2 ir_1 E
  · replace E := mmI_f c3 E
    refine V_iconst dX1_readNumber_10 rfl ?_
    obtain rfl := Option.some.inj E
    exact V_reti dX1_readNumber_11 ⟨rfl, rfl, ir_m1⟩
theorem ct_X1_readNumber {l1 : Int} {l2 : Int} {m : Mem} {r : Int × Mem} (hr1 : inR l1) (hr2 : inR l2) (E : f_X1_readNumber l1 l2 m = some r) : CTi yX1_readNumber cX1_readNumber 6 (some .int) rm_X1_readNumber [.ref 45, vi l1, vi l2] m r := CT_i (by decide +kernel) rfl (Nat.le_of_ble_eq_true rfl) (ok_X1_readNumber _ _ _ hr1 hr2 E)
theorem hy_X1_readNumber : yX1_readNumber.cls = RX1 ∧ yX1_readNumber.cls ≠ "java/lang/invoke/MethodHandle" ∧ yX1_readNumber.cls ≠ "java/lang/invoke/VarHandle" ∧ (parseMethodDescriptor yX1_readNumber.desc).map (fun d => d.parameters.length) = some 2 := by decide +kernel
end
section
abbrev rm_X1_noteAddition : Room := { frames := 0, cells := 0, slots := 0, locals := 0 }
noncomputable def f_X1_noteAddition (l1 : Int) (l2 : Int) (l3 : Int) (l4 : Int) (m : Mem) : Option (Int × Mem) :=
  if (m.1 45 6) < 12 then
(mmK (0 ≤ (m.1 45 6) ∧ (m.1 45 6) < 12) (mmK (0 ≤ (m.1 45 6) ∧ (m.1 45 6) < 12) (mmK (0 ≤ (m.1 45 6) ∧ (m.1 45 6) < 12) (mmK (0 ≤ (m.1 45 6) ∧ (m.1 45 6) < 12) (mmK (inR ((m.1 45 6) + 1)) (some (1, (mwr (mwr (mwr (mwr (mwr m 47 ((m.1 45 6)).toNat l1) 48 ((m.1 45 6)).toNat l2) 49 ((m.1 45 6)).toNat l3) 50 ((m.1 45 6)).toNat l4) 45 6 ((m.1 45 6) + 1)))))))))
else
(some (0, m))
set_option maxRecDepth 100000 in
set_option maxHeartbeats 4000000 in
theorem ok_X1_noteAddition {r : Int × Mem} : ∀ (l1 : Int) (l2 : Int) (l3 : Int) (l4 : Int) (m : Mem), inR l1 → inR l2 → inR l3 → inR l4 → f_X1_noteAddition l1 l2 l3 l4 m = some r → VV RX1 cX1_noteAddition 5 rm_X1_noteAddition mmG0 (mmPz r) 0 [(0, .ref 45), (1, vi l1), (2, vi l2), (3, vi l3), (4, vi l4)] [] m := by
  intro l1 l2 l3 l4 m hr1 hr2 hr3 hr4 E
  unfold f_X1_noteAddition at E
  refine V_aload_n 0 dX1_noteAddition_0 rfl ?_
  refine V_geti (ci := 1) (k := 6) (N := 8) (T := TX1) (v := (m.1 45 6)) dX1_noteAddition_1 iuX1 fl_X1_32 rfl (by decide) rfl sh_45 rfl (fun hv1 => ?_)
  refine V_bipush (v := 12) dX1_noteAddition_4 (by decide) ?_
  refine V_icmp_lt 11 dX1_noteAddition_6 (by decide) hv1 ir_12 (fun c2 => ?_) (fun c2 => ?_)
  · replace E := mmI_t c2 E
    refine V_aload_n 0 dX1_noteAddition_11 rfl ?_
    refine V_geta (ci := 1) (k := 2) (N := 8) (T := TX1) (o' := 47) dX1_noteAddition_12 iuX1 fl_X1_19 rfl (by decide) rfl sh_45 rfl ?_
    refine V_aload_n 0 dX1_noteAddition_15 rfl ?_
    refine V_geti (ci := 1) (k := 6) (N := 8) (T := TX1) (v := (m.1 45 6)) dX1_noteAddition_16 iuX1 fl_X1_32 rfl (by decide) rfl sh_45 rfl (fun hv3 => ?_)
    refine V_iload_n 1 dX1_noteAddition_19 rfl ?_
    obtain ⟨hv4, E⟩ := mmK_e E
    refine V_iast (n := 12) (j := ((m.1 45 6)).toNat) dX1_noteAddition_20 sh_47 hv3 hr1 hv4 rfl ?_
    refine V_aload_n 0 dX1_noteAddition_21 rfl ?_
    refine V_geta (ci := 1) (k := 3) (N := 8) (T := TX1) (o' := 48) dX1_noteAddition_22 iuX1 fl_X1_23 rfl (by decide) rfl sh_45 rfl ?_
    refine V_aload_n 0 dX1_noteAddition_25 rfl ?_
    refine V_geti (ci := 1) (k := 6) (N := 8) (T := TX1) (v := (m.1 45 6)) dX1_noteAddition_26 iuX1 fl_X1_32 rfl (by decide) rfl sh_45 rfl (fun hv5 => ?_)
    refine V_iload_n 2 dX1_noteAddition_29 rfl ?_
    obtain ⟨hv6, E⟩ := mmK_e E
    refine V_iast (n := 12) (j := ((m.1 45 6)).toNat) dX1_noteAddition_30 sh_48 hv5 hr2 hv6 rfl ?_
    refine V_aload_n 0 dX1_noteAddition_31 rfl ?_
    refine V_geta (ci := 1) (k := 4) (N := 8) (T := TX1) (o' := 49) dX1_noteAddition_32 iuX1 fl_X1_26 rfl (by decide) rfl sh_45 rfl ?_
    refine V_aload_n 0 dX1_noteAddition_35 rfl ?_
    refine V_geti (ci := 1) (k := 6) (N := 8) (T := TX1) (v := (m.1 45 6)) dX1_noteAddition_36 iuX1 fl_X1_32 rfl (by decide) rfl sh_45 rfl (fun hv7 => ?_)
    refine V_iload_n 3 dX1_noteAddition_39 rfl ?_
    obtain ⟨hv8, E⟩ := mmK_e E
    refine V_iast (n := 12) (j := ((m.1 45 6)).toNat) dX1_noteAddition_40 sh_49 hv7 hr3 hv8 rfl ?_
    refine V_aload_n 0 dX1_noteAddition_41 rfl ?_
    refine V_geta (ci := 1) (k := 5) (N := 8) (T := TX1) (o' := 50) dX1_noteAddition_42 iuX1 fl_X1_29 rfl (by decide) rfl sh_45 rfl ?_
    refine V_aload_n 0 dX1_noteAddition_45 rfl ?_
    refine V_geti (ci := 1) (k := 6) (N := 8) (T := TX1) (v := (m.1 45 6)) dX1_noteAddition_46 iuX1 fl_X1_32 rfl (by decide) rfl sh_45 rfl (fun hv9 => ?_)
    refine V_iload 4 dX1_noteAddition_49 rfl ?_
    obtain ⟨hv10, E⟩ := mmK_e E
    refine V_iast (n := 12) (j := ((m.1 45 6)).toNat) dX1_noteAddition_51 sh_50 hv9 hr4 hv10 rfl ?_
    refine V_aload_n 0 dX1_noteAddition_52 rfl ?_
    refine V_dupa dX1_noteAddition_53 ?_
    refine V_geti (ci := 1) (k := 6) (N := 8) (T := TX1) (v := (m.1 45 6)) dX1_noteAddition_54 iuX1 fl_X1_32 rfl (by decide) rfl sh_45 rfl (fun hv11 => ?_)
    refine V_iconst dX1_noteAddition_57 rfl ?_
    obtain ⟨hv12, E⟩ := mmK_e E
    refine V_iadd dX1_noteAddition_58 ?_
    refine V_put (ci := 1) (k := 6) (N := 8) (T := TX1) (x := ((m.1 45 6) + 1)) (ty := .int) tyX1 dX1_noteAddition_59 iuX1 tyX1_ok nmX1 fl_X1_32 rfl (by decide) rfl sh_45 rfl (by decide +kernel) rfl rfl hv12 ?_
    refine V_iconst dX1_noteAddition_62 rfl ?_
    obtain rfl := Option.some.inj E
    exact V_reti dX1_noteAddition_63 ⟨rfl, rfl, (Or.inr rfl)⟩
  · replace E := mmI_f c2 E
    refine V_iconst dX1_noteAddition_9 rfl ?_
    obtain rfl := Option.some.inj E
    exact V_reti dX1_noteAddition_10 ⟨rfl, rfl, (Or.inl rfl)⟩
theorem ct_X1_noteAddition {l1 : Int} {l2 : Int} {l3 : Int} {l4 : Int} {m : Mem} {r : Int × Mem} (hr1 : inR l1) (hr2 : inR l2) (hr3 : inR l3) (hr4 : inR l4) (E : f_X1_noteAddition l1 l2 l3 l4 m = some r) : CTi yX1_noteAddition cX1_noteAddition 5 (some .boolean) rm_X1_noteAddition [.ref 45, vi l1, vi l2, vi l3, vi l4] m r := CT_z (by decide +kernel) rfl (Nat.le_of_ble_eq_true rfl) (ok_X1_noteAddition _ _ _ _ _ hr1 hr2 hr3 hr4 E)
theorem hy_X1_noteAddition : yX1_noteAddition.cls = RX1 ∧ yX1_noteAddition.cls ≠ "java/lang/invoke/MethodHandle" ∧ yX1_noteAddition.cls ≠ "java/lang/invoke/VarHandle" ∧ (parseMethodDescriptor yX1_noteAddition.desc).map (fun d => d.parameters.length) = some 4 := by decide +kernel
abbrev rm_X1_readMember : Room := { frames := 3, cells := 0, slots := 0, locals := 66 }
noncomputable def f_X1_readMember_L35 (l1 : Int) (l2 : Int) (l3 : Int) (m : Mem) : Option (Int × Mem) :=
  if l3 = (-1) then
(some (0, m))
else
((f_X1_noteAddition l1 (-5) l2 l3 m).bind (fun q8 => if q8.1 = 0 then
(some (0, q8.2))
else
(some (1, q8.2))))
set_option maxRecDepth 100000 in
set_option maxHeartbeats 4000000 in
theorem ok_X1_readMember_L35 {r : Int × Mem} : ∀ (l1 : Int) (l2 : Int) (l3 : Int) (m : Mem), inR l1 → inR l2 → inR l3 → f_X1_readMember_L35 l1 l2 l3 m = some r → VV RX1 cX1_readMember 4 rm_X1_readMember mmG0 (mmPz r) 35 [(0, .ref 45), (1, vi l1), (2, vi l2), (3, vi l3)] [] m := by
  intro l1 l2 l3 m hr1 hr2 hr3 E
  unfold f_X1_readMember_L35 at E
  refine V_iload_n 3 dX1_readMember_35 rfl ?_
  refine V_iconst dX1_readMember_36 rfl ?_
  refine V_icmp_eq 56 dX1_readMember_37 (by decide) hr3 ir_m1 (fun c7 => ?_) (fun c7 => ?_)
  · replace E := mmI_t c7 E
    refine V_iconst dX1_readMember_56 rfl ?_
    obtain rfl := Option.some.inj E
    exact V_reti dX1_readMember_57 ⟨rfl, rfl, (Or.inl rfl)⟩
  · replace E := mmI_f c7 E
    refine V_aload_n 0 dX1_readMember_40 rfl ?_
    refine V_iload_n 1 dX1_readMember_41 rfl ?_
    refine V_bipush (v := (-5)) dX1_readMember_42 (by decide) ?_
    refine V_iload_n 2 dX1_readMember_44 rfl ?_
    refine V_iload_n 3 dX1_readMember_45 rfl ?_
    obtain ⟨q8, hq8, E⟩ := mmB_e E
    refine V_callV (ci := 1) (q := (RX1, TX1, 8)) (Cn := RX1) (st := []) 4 dX1_readMember_46 (ct_X1_noteAddition hr1 ir_m5 hr2 hr3 hq8) ml_X1_70 im_X1_noteAddition sl_X1_noteAddition it_X1 cd_X1_noteAddition hy_X1_noteAddition ⟨rfl, rfl, by decide, by decide⟩ sh_45 rfl rfl rfl rfl (Nat.le_of_ble_eq_true rfl) (fun hv9 => ?_)
    refine V_if_eq 56 dX1_readMember_49 (by decide) hv9 (fun c10 => ?_) (fun c10 => ?_)
    · replace E := mmI_t c10 E
      refine V_iconst dX1_readMember_56 rfl ?_
      obtain rfl := Option.some.inj E
      exact V_reti dX1_readMember_57 ⟨rfl, rfl, (Or.inl rfl)⟩
    · replace E := mmI_f c10 E
      refine V_iconst dX1_readMember_52 rfl ?_
      refine V_goto 57 dX1_readMember_53 (by decide) ?_
      obtain rfl := Option.some.inj E
      exact V_reti dX1_readMember_57 ⟨rfl, rfl, (Or.inr rfl)⟩
noncomputable def f_X1_readMember (l1 : Int) (m : Mem) : Option (Int × Mem) :=
  (f_X1_readNumber 1 40 m).bind (fun q1 => if q1.1 = (-1) then
(some (0, q1.2))
else
((f_X1_takes 44 q1.2).bind (fun q4 => if q4.1 = 0 then
(f_X1_readMember_L35 l1 q1.1 0 q4.2)
else
((f_X1_readNumber 0 9999 q4.2).bind (fun q11 => f_X1_readMember_L35 l1 q1.1 q11.1 q11.2)))))
set_option maxRecDepth 100000 in
set_option maxHeartbeats 4000000 in
theorem ok_X1_readMember {r : Int × Mem} : ∀ (l1 : Int) (m : Mem), inR l1 → f_X1_readMember l1 m = some r → VV RX1 cX1_readMember 4 rm_X1_readMember mmG0 (mmPz r) 0 [(0, .ref 45), (1, vi l1)] [] m := by
  intro l1 m hr1 E
  unfold f_X1_readMember at E
  refine V_aload_n 0 dX1_readMember_0 rfl ?_
  refine V_iconst dX1_readMember_1 rfl ?_
  refine V_bipush (v := 40) dX1_readMember_2 (by decide) ?_
  obtain ⟨q1, hq1, E⟩ := mmB_e E
  refine V_callV (ci := 1) (q := (RX1, TX1, 8)) (Cn := RX1) (st := []) 2 dX1_readMember_4 (ct_X1_readNumber ir_1 ir_40 hq1) ml_X1_67 im_X1_readNumber sl_X1_readNumber it_X1 cd_X1_readNumber hy_X1_readNumber ⟨rfl, rfl, by decide, by decide⟩ sh_45 rfl rfl rfl rfl (Nat.le_of_ble_eq_true rfl) (fun hv2 => ?_)
  refine V_istore_n (i := 2) (lv' := [(0, .ref 45), (1, vi l1), (2, vi q1.1)]) dX1_readMember_7 rfl rfl rfl ?_
  refine V_iload_n 2 dX1_readMember_8 rfl ?_
  refine V_iconst dX1_readMember_9 rfl ?_
  refine V_icmp_ne 15 dX1_readMember_10 (by decide) hv2 ir_m1 (fun c3 => ?_) (fun c3 => ?_)
  · replace E := mmI_f c3 E
    refine V_iconst dX1_readMember_15 rfl ?_
    refine V_istore_n (i := 3) (lv' := [(0, .ref 45), (1, vi l1), (2, vi q1.1), (3, vi 0)]) dX1_readMember_16 rfl rfl rfl ?_
    refine V_aload_n 0 dX1_readMember_17 rfl ?_
    refine V_bipush (v := 44) dX1_readMember_18 (by decide) ?_
    obtain ⟨q4, hq4, E⟩ := mmB_e E
    refine V_callV (ci := 1) (q := (RX1, TX1, 8)) (Cn := RX1) (st := []) 1 dX1_readMember_20 (ct_X1_takes ir_44 hq4) ml_X1_42 im_X1_takes sl_X1_takes it_X1 cd_X1_takes hy_X1_takes ⟨rfl, rfl, by decide, by decide⟩ sh_45 rfl rfl rfl rfl (Nat.le_of_ble_eq_true rfl) (fun hv5 => ?_)
    refine V_if_eq 35 dX1_readMember_23 (by decide) hv5 (fun c6 => ?_) (fun c6 => ?_)
    · replace E := mmI_t c6 E
      exact ok_X1_readMember_L35 _ _ _ _ hr1 hv2 ir_0 E
    · replace E := mmI_f c6 E
      refine V_aload_n 0 dX1_readMember_26 rfl ?_
      refine V_iconst dX1_readMember_27 rfl ?_
      refine V_sipush (v := 9999) dX1_readMember_28 (by decide) ?_
      obtain ⟨q11, hq11, E⟩ := mmB_e E
      refine V_callV (ci := 1) (q := (RX1, TX1, 8)) (Cn := RX1) (st := []) 2 dX1_readMember_31 (ct_X1_readNumber ir_0 ir_9999 hq11) ml_X1_67 im_X1_readNumber sl_X1_readNumber it_X1 cd_X1_readNumber hy_X1_readNumber ⟨rfl, rfl, by decide, by decide⟩ sh_45 rfl rfl rfl rfl (Nat.le_of_ble_eq_true rfl) (fun hv12 => ?_)
      refine V_istore_n (i := 3) (lv' := [(0, .ref 45), (1, vi l1), (2, vi q1.1), (3, vi q11.1)]) dX1_readMember_34 rfl rfl rfl ?_
      exact ok_X1_readMember_L35 _ _ _ _ hr1 hv2 hv12 E
  · replace E := mmI_t c3 E
    refine V_iconst dX1_readMember_13 rfl ?_
    obtain rfl := Option.some.inj E
    exact V_reti dX1_readMember_14 ⟨rfl, rfl, (Or.inl rfl)⟩
theorem ct_X1_readMember {l1 : Int} {m : Mem} {r : Int × Mem} (hr1 : inR l1) (E : f_X1_readMember l1 m = some r) : CTi yX1_readMember cX1_readMember 4 (some .boolean) rm_X1_readMember [.ref 45, vi l1] m r := CT_z (by decide +kernel) rfl (Nat.le_of_ble_eq_true rfl) (ok_X1_readMember _ _ hr1 E)
theorem hy_X1_readMember : yX1_readMember.cls = RX1 ∧ yX1_readMember.cls ≠ "java/lang/invoke/MethodHandle" ∧ yX1_readMember.cls ≠ "java/lang/invoke/VarHandle" ∧ (parseMethodDescriptor yX1_readMember.desc).map (fun d => d.parameters.length) = some 1 := by decide +kernel
abbrev rm_X1_readAlias : Room := { frames := 3, cells := 0, slots := 0, locals := 63 }
noncomputable def f_X1_readAlias (l1 : Int) (m : Mem) : Option (Int × Mem) :=
  (f_X1_readName m).bind (fun q1 => if q1.1 = (-1) then
(some (0, q1.2))
else
((f_X1_noteAddition l1 q1.1 0 0 q1.2).bind (fun q4 => if q4.1 = 0 then
(some (0, q4.2))
else
(some (1, q4.2)))))
set_option maxRecDepth 100000 in
set_option maxHeartbeats 4000000 in
theorem ok_X1_readAlias {r : Int × Mem} : ∀ (l1 : Int) (m : Mem), inR l1 → f_X1_readAlias l1 m = some r → VV RX1 cX1_readAlias 3 rm_X1_readAlias mmG0 (mmPz r) 0 [(0, .ref 45), (1, vi l1)] [] m := by
  intro l1 m hr1 E
  unfold f_X1_readAlias at E
  refine V_aload_n 0 dX1_readAlias_0 rfl ?_
  obtain ⟨q1, hq1, E⟩ := mmB_e E
  refine V_callV (ci := 1) (q := (RX1, TX1, 8)) (Cn := RX1) (st := []) 0 dX1_readAlias_1 (ct_X1_readName hq1) ml_X1_56 im_X1_readName sl_X1_readName it_X1 cd_X1_readName hy_X1_readName ⟨rfl, rfl, by decide, by decide⟩ sh_45 rfl rfl rfl rfl (Nat.le_of_ble_eq_true rfl) (fun hv2 => ?_)
  refine V_istore_n (i := 2) (lv' := [(0, .ref 45), (1, vi l1), (2, vi q1.1)]) dX1_readAlias_4 rfl rfl rfl ?_
  refine V_iload_n 2 dX1_readAlias_5 rfl ?_
  refine V_iconst dX1_readAlias_6 rfl ?_
  refine V_icmp_eq 25 dX1_readAlias_7 (by decide) hv2 ir_m1 (fun c3 => ?_) (fun c3 => ?_)
  · replace E := mmI_t c3 E
    refine V_iconst dX1_readAlias_25 rfl ?_
    obtain rfl := Option.some.inj E
    exact V_reti dX1_readAlias_26 ⟨rfl, rfl, (Or.inl rfl)⟩
  · replace E := mmI_f c3 E
    refine V_aload_n 0 dX1_readAlias_10 rfl ?_
    refine V_iload_n 1 dX1_readAlias_11 rfl ?_
    refine V_iload_n 2 dX1_readAlias_12 rfl ?_
    refine V_iconst dX1_readAlias_13 rfl ?_
    refine V_iconst dX1_readAlias_14 rfl ?_
    obtain ⟨q4, hq4, E⟩ := mmB_e E
    refine V_callV (ci := 1) (q := (RX1, TX1, 8)) (Cn := RX1) (st := []) 4 dX1_readAlias_15 (ct_X1_noteAddition hr1 hv2 ir_0 ir_0 hq4) ml_X1_70 im_X1_noteAddition sl_X1_noteAddition it_X1 cd_X1_noteAddition hy_X1_noteAddition ⟨rfl, rfl, by decide, by decide⟩ sh_45 rfl rfl rfl rfl (Nat.le_of_ble_eq_true rfl) (fun hv5 => ?_)
    refine V_if_eq 25 dX1_readAlias_18 (by decide) hv5 (fun c6 => ?_) (fun c6 => ?_)
    · replace E := mmI_t c6 E
      refine V_iconst dX1_readAlias_25 rfl ?_
      obtain rfl := Option.some.inj E
      exact V_reti dX1_readAlias_26 ⟨rfl, rfl, (Or.inl rfl)⟩
    · replace E := mmI_f c6 E
      refine V_iconst dX1_readAlias_21 rfl ?_
      refine V_goto 26 dX1_readAlias_22 (by decide) ?_
      obtain rfl := Option.some.inj E
      exact V_reti dX1_readAlias_26 ⟨rfl, rfl, (Or.inr rfl)⟩
theorem ct_X1_readAlias {l1 : Int} {m : Mem} {r : Int × Mem} (hr1 : inR l1) (E : f_X1_readAlias l1 m = some r) : CTi yX1_readAlias cX1_readAlias 3 (some .boolean) rm_X1_readAlias [.ref 45, vi l1] m r := CT_z (by decide +kernel) rfl (Nat.le_of_ble_eq_true rfl) (ok_X1_readAlias _ _ hr1 E)
theorem hy_X1_readAlias : yX1_readAlias.cls = RX1 ∧ yX1_readAlias.cls ≠ "java/lang/invoke/MethodHandle" ∧ yX1_readAlias.cls ≠ "java/lang/invoke/VarHandle" ∧ (parseMethodDescriptor yX1_readAlias.desc).map (fun d => d.parameters.length) = some 1 := by decide +kernel
abbrev rm_X1_readAddition : Room := { frames := 4, cells := 0, slots := 0, locals := 89 }
noncomputable def f_X1_readAddition (m : Mem) : Option (Int × Mem) :=
  (f_X1_readName m).bind (fun q1 => if q1.1 = (-1) then
(some (0, q1.2))
else
((f_X1_takes 61 q1.2).bind (fun q4 => if q4.1 = 0 then
((f_X1_takes 62 q4.2).bind (fun q7 => if q7.1 = 0 then
(some (0, q7.2))
else
((f_X1_readAlias q1.1 q7.2).bind (fun q10 => if q10.1 = 0 then
(some (0, q10.2))
else
(some (1, q10.2))))))
else
((f_X1_readMember q1.1 q4.2).bind (fun q13 => mmK (q13.1 = 0 ∨ q13.1 = 1) (some (q13.1, q13.2)))))))
set_option maxRecDepth 100000 in
set_option maxHeartbeats 4000000 in
theorem ok_X1_readAddition {r : Int × Mem} : ∀ (m : Mem), f_X1_readAddition m = some r → VV RX1 cX1_readAddition 2 rm_X1_readAddition mmG0 (mmPz r) 0 [(0, .ref 45)] [] m := by
  intro m E
  unfold f_X1_readAddition at E
  refine V_aload_n 0 dX1_readAddition_0 rfl ?_
  obtain ⟨q1, hq1, E⟩ := mmB_e E
  refine V_callV (ci := 1) (q := (RX1, TX1, 8)) (Cn := RX1) (st := []) 0 dX1_readAddition_1 (ct_X1_readName hq1) ml_X1_56 im_X1_readName sl_X1_readName it_X1 cd_X1_readName hy_X1_readName ⟨rfl, rfl, by decide, by decide⟩ sh_45 rfl rfl rfl rfl (Nat.le_of_ble_eq_true rfl) (fun hv2 => ?_)
  refine V_istore_n (i := 1) (lv' := [(0, .ref 45), (1, vi q1.1)]) dX1_readAddition_4 rfl rfl rfl ?_
  refine V_iload_n 1 dX1_readAddition_5 rfl ?_
  refine V_iconst dX1_readAddition_6 rfl ?_
  refine V_icmp_ne 12 dX1_readAddition_7 (by decide) hv2 ir_m1 (fun c3 => ?_) (fun c3 => ?_)
  · replace E := mmI_f c3 E
    refine V_aload_n 0 dX1_readAddition_12 rfl ?_
    refine V_bipush (v := 61) dX1_readAddition_13 (by decide) ?_
    obtain ⟨q4, hq4, E⟩ := mmB_e E
    refine V_callV (ci := 1) (q := (RX1, TX1, 8)) (Cn := RX1) (st := []) 1 dX1_readAddition_15 (ct_X1_takes ir_61 hq4) ml_X1_42 im_X1_takes sl_X1_takes it_X1 cd_X1_takes hy_X1_takes ⟨rfl, rfl, by decide, by decide⟩ sh_45 rfl rfl rfl rfl (Nat.le_of_ble_eq_true rfl) (fun hv5 => ?_)
    refine V_if_eq 27 dX1_readAddition_18 (by decide) hv5 (fun c6 => ?_) (fun c6 => ?_)
    · replace E := mmI_t c6 E
      refine V_aload_n 0 dX1_readAddition_27 rfl ?_
      refine V_bipush (v := 62) dX1_readAddition_28 (by decide) ?_
      obtain ⟨q7, hq7, E⟩ := mmB_e E
      refine V_callV (ci := 1) (q := (RX1, TX1, 8)) (Cn := RX1) (st := []) 1 dX1_readAddition_30 (ct_X1_takes ir_62 hq7) ml_X1_42 im_X1_takes sl_X1_takes it_X1 cd_X1_takes hy_X1_takes ⟨rfl, rfl, by decide, by decide⟩ sh_45 rfl rfl rfl rfl (Nat.le_of_ble_eq_true rfl) (fun hv8 => ?_)
      refine V_if_eq 48 dX1_readAddition_33 (by decide) hv8 (fun c9 => ?_) (fun c9 => ?_)
      · replace E := mmI_t c9 E
        refine V_iconst dX1_readAddition_48 rfl ?_
        obtain rfl := Option.some.inj E
        exact V_reti dX1_readAddition_49 ⟨rfl, rfl, (Or.inl rfl)⟩
      · replace E := mmI_f c9 E
        refine V_aload_n 0 dX1_readAddition_36 rfl ?_
        refine V_iload_n 1 dX1_readAddition_37 rfl ?_
        obtain ⟨q10, hq10, E⟩ := mmB_e E
        refine V_callV (ci := 1) (q := (RX1, TX1, 8)) (Cn := RX1) (st := []) 1 dX1_readAddition_38 (ct_X1_readAlias hv2 hq10) ml_X1_64 im_X1_readAlias sl_X1_readAlias it_X1 cd_X1_readAlias hy_X1_readAlias ⟨rfl, rfl, by decide, by decide⟩ sh_45 rfl rfl rfl rfl (Nat.le_of_ble_eq_true rfl) (fun hv11 => ?_)
        refine V_if_eq 48 dX1_readAddition_41 (by decide) hv11 (fun c12 => ?_) (fun c12 => ?_)
        · replace E := mmI_t c12 E
          refine V_iconst dX1_readAddition_48 rfl ?_
          obtain rfl := Option.some.inj E
          exact V_reti dX1_readAddition_49 ⟨rfl, rfl, (Or.inl rfl)⟩
        · replace E := mmI_f c12 E
          refine V_iconst dX1_readAddition_44 rfl ?_
          refine V_goto 49 dX1_readAddition_45 (by decide) ?_
          obtain rfl := Option.some.inj E
          exact V_reti dX1_readAddition_49 ⟨rfl, rfl, (Or.inr rfl)⟩
    · replace E := mmI_f c6 E
      refine V_aload_n 0 dX1_readAddition_21 rfl ?_
      refine V_iload_n 1 dX1_readAddition_22 rfl ?_
      obtain ⟨q13, hq13, E⟩ := mmB_e E
      refine V_callV (ci := 1) (q := (RX1, TX1, 8)) (Cn := RX1) (st := []) 1 dX1_readAddition_23 (ct_X1_readMember hv2 hq13) ml_X1_60 im_X1_readMember sl_X1_readMember it_X1 cd_X1_readMember hy_X1_readMember ⟨rfl, rfl, by decide, by decide⟩ sh_45 rfl rfl rfl rfl (Nat.le_of_ble_eq_true rfl) (fun hv14 => ?_)
      obtain ⟨hz15, E⟩ := mmK_e E
      obtain rfl := Option.some.inj E
      exact V_reti dX1_readAddition_26 ⟨rfl, rfl, hz15⟩
  · replace E := mmI_t c3 E
    refine V_iconst dX1_readAddition_10 rfl ?_
    obtain rfl := Option.some.inj E
    exact V_reti dX1_readAddition_11 ⟨rfl, rfl, (Or.inl rfl)⟩
theorem ct_X1_readAddition {m : Mem} {r : Int × Mem} (E : f_X1_readAddition m = some r) : CTi yX1_readAddition cX1_readAddition 2 (some .boolean) rm_X1_readAddition [.ref 45] m r := CT_z (by decide +kernel) rfl (Nat.le_of_ble_eq_true rfl) (ok_X1_readAddition  _  E)
theorem hy_X1_readAddition : yX1_readAddition.cls = RX1 ∧ yX1_readAddition.cls ≠ "java/lang/invoke/MethodHandle" ∧ yX1_readAddition.cls ≠ "java/lang/invoke/VarHandle" ∧ (parseMethodDescriptor yX1_readAddition.desc).map (fun d => d.parameters.length) = some 0 := by decide +kernel
abbrev rm_X1_readAdditions : Room := { frames := 5, cells := 0, slots := 0, locals := 110 }
noncomputable def f_X1_readAdditions_L12 : Nat → Int → Mem → Option (Int × Mem)
  | 0, _, _ => none
  | n + 1, l1, m =>
    if 12 < l1 then
(some ((m.1 45 7), m))
else
((f_X1_readAddition m).bind (fun q3 => if q3.1 = 0 then
(some ((q3.2.1 45 7), q3.2))
else
(if (q3.2.1 45 7) < (q3.2.1 45 1) then
((f_X1_takes 59 q3.2).bind (fun q9 => if q9.1 = 0 then
(some ((q9.2.1 45 7), q9.2))
else
(mmK (inR (l1 + 1)) (f_X1_readAdditions_L12 n (l1 + 1) q9.2))))
else
(some ((-1), q3.2)))))
set_option maxRecDepth 100000 in
set_option maxHeartbeats 4000000 in
theorem ok_X1_readAdditions_L12 {r : Int × Mem} : ∀ (n : Nat), ∀ (l1 : Int) (m : Mem), inR l1 → f_X1_readAdditions_L12 n l1 m = some r → VV RX1 cX1_readAdditions 2 rm_X1_readAdditions mmG0 (mmPi r) 12 [(0, .ref 45), (1, vi l1)] [] m := by
  intro n
  induction n with
  | zero =>
    intro l1 m hr1 E
    cases E
  | succ n ih =>
    intro l1 m hr1 E
    rw [f_X1_readAdditions_L12] at E
    refine V_iload_n 1 dX1_readAdditions_12 rfl ?_
    refine V_bipush (v := 12) dX1_readAdditions_13 (by decide) ?_
    refine V_icmp_gt 63 dX1_readAdditions_15 (by decide) hr1 ir_12 (fun c1 => ?_) (fun c1 => ?_)
    · replace E := mmI_t c1 E
      refine V_aload_n 0 dX1_readAdditions_63 rfl ?_
      refine V_geti (ci := 1) (k := 7) (N := 8) (T := TX1) (v := (m.1 45 7)) dX1_readAdditions_64 iuX1 fl_X1_35 rfl (by decide) rfl sh_45 rfl (fun hv2 => ?_)
      obtain rfl := Option.some.inj E
      exact V_reti dX1_readAdditions_67 ⟨rfl, rfl, hv2⟩
    · replace E := mmI_f c1 E
      refine V_aload_n 0 dX1_readAdditions_18 rfl ?_
      obtain ⟨q3, hq3, E⟩ := mmB_e E
      refine V_callV (ci := 1) (q := (RX1, TX1, 8)) (Cn := RX1) (st := []) 0 dX1_readAdditions_19 (ct_X1_readAddition hq3) ml_X1_38 im_X1_readAddition sl_X1_readAddition it_X1 cd_X1_readAddition hy_X1_readAddition ⟨rfl, rfl, by decide, by decide⟩ sh_45 rfl rfl rfl rfl (Nat.le_of_ble_eq_true rfl) (fun hv4 => ?_)
      refine V_if_ne 30 dX1_readAdditions_22 (by decide) hv4 (fun c5 => ?_) (fun c5 => ?_)
      · replace E := mmI_f c5 E
        refine V_aload_n 0 dX1_readAdditions_30 rfl ?_
        refine V_geti (ci := 1) (k := 7) (N := 8) (T := TX1) (v := (q3.2.1 45 7)) dX1_readAdditions_31 iuX1 fl_X1_35 rfl (by decide) rfl sh_45 rfl (fun hv6 => ?_)
        refine V_aload_n 0 dX1_readAdditions_34 rfl ?_
        refine V_geti (ci := 1) (k := 1) (N := 8) (T := TX1) (v := (q3.2.1 45 1)) dX1_readAdditions_35 iuX1 fl_X1_15 rfl (by decide) rfl sh_45 rfl (fun hv7 => ?_)
        refine V_icmp_lt 43 dX1_readAdditions_38 (by decide) hv6 hv7 (fun c8 => ?_) (fun c8 => ?_)
        · replace E := mmI_t c8 E
          refine V_aload_n 0 dX1_readAdditions_43 rfl ?_
          refine V_bipush (v := 59) dX1_readAdditions_44 (by decide) ?_
          obtain ⟨q9, hq9, E⟩ := mmB_e E
          refine V_callV (ci := 1) (q := (RX1, TX1, 8)) (Cn := RX1) (st := []) 1 dX1_readAdditions_46 (ct_X1_takes ir_59 hq9) ml_X1_42 im_X1_takes sl_X1_takes it_X1 cd_X1_takes hy_X1_takes ⟨rfl, rfl, by decide, by decide⟩ sh_45 rfl rfl rfl rfl (Nat.le_of_ble_eq_true rfl) (fun hv10 => ?_)
          refine V_if_ne 57 dX1_readAdditions_49 (by decide) hv10 (fun c11 => ?_) (fun c11 => ?_)
          · replace E := mmI_f c11 E
            obtain ⟨hv12, E⟩ := mmK_e E
            refine V_iinc (v := (l1 + 1)) (lv' := [(0, .ref 45), (1, vi (l1 + 1))]) 1 dX1_readAdditions_57 rfl rfl rfl rfl ?_
            refine V_goto 12 dX1_readAdditions_60 (by decide) ?_
            exact ih _ _ hv12 E
          · replace E := mmI_t c11 E
            refine V_aload_n 0 dX1_readAdditions_52 rfl ?_
            refine V_geti (ci := 1) (k := 7) (N := 8) (T := TX1) (v := (q9.2.1 45 7)) dX1_readAdditions_53 iuX1 fl_X1_35 rfl (by decide) rfl sh_45 rfl (fun hv13 => ?_)
            obtain rfl := Option.some.inj E
            exact V_reti dX1_readAdditions_56 ⟨rfl, rfl, hv13⟩
        · replace E := mmI_f c8 E
          refine V_iconst dX1_readAdditions_41 rfl ?_
          obtain rfl := Option.some.inj E
          exact V_reti dX1_readAdditions_42 ⟨rfl, rfl, ir_m1⟩
      · replace E := mmI_t c5 E
        refine V_aload_n 0 dX1_readAdditions_25 rfl ?_
        refine V_geti (ci := 1) (k := 7) (N := 8) (T := TX1) (v := (q3.2.1 45 7)) dX1_readAdditions_26 iuX1 fl_X1_35 rfl (by decide) rfl sh_45 rfl (fun hv14 => ?_)
        obtain rfl := Option.some.inj E
        exact V_reti dX1_readAdditions_29 ⟨rfl, rfl, hv14⟩
noncomputable def f_X1_readAdditions (m : Mem) : Option (Int × Mem) :=
  f_X1_readAdditions_L12 mmFU 0 (mwr (mwr m 45 6 0) 45 7 0)
set_option maxRecDepth 100000 in
set_option maxHeartbeats 4000000 in
theorem ok_X1_readAdditions {r : Int × Mem} : ∀ (m : Mem), f_X1_readAdditions m = some r → VV RX1 cX1_readAdditions 2 rm_X1_readAdditions mmG0 (mmPi r) 0 [(0, .ref 45)] [] m := by
  intro m E
  unfold f_X1_readAdditions at E
  refine V_aload_n 0 dX1_readAdditions_0 rfl ?_
  refine V_iconst dX1_readAdditions_1 rfl ?_
  refine V_put (ci := 1) (k := 6) (N := 8) (T := TX1) (x := 0) (ty := .int) tyX1 dX1_readAdditions_2 iuX1 tyX1_ok nmX1 fl_X1_32 rfl (by decide) rfl sh_45 rfl (by decide +kernel) rfl rfl ir_0 ?_
  refine V_aload_n 0 dX1_readAdditions_5 rfl ?_
  refine V_iconst dX1_readAdditions_6 rfl ?_
  refine V_put (ci := 1) (k := 7) (N := 8) (T := TX1) (x := 0) (ty := .int) tyX1 dX1_readAdditions_7 iuX1 tyX1_ok nmX1 fl_X1_35 rfl (by decide) rfl sh_45 rfl (by decide +kernel) rfl rfl ir_0 ?_
  refine V_iconst dX1_readAdditions_10 rfl ?_
  refine V_istore_n (i := 1) (lv' := [(0, .ref 45), (1, vi 0)]) dX1_readAdditions_11 rfl rfl rfl ?_
  exact ok_X1_readAdditions_L12 mmFU _ _ ir_0 E
theorem ct_X1_readAdditions {m : Mem} {r : Int × Mem} (E : f_X1_readAdditions m = some r) : CTi yX1_readAdditions cX1_readAdditions 2 (some .int) rm_X1_readAdditions [.ref 45] m r := CT_i (by decide +kernel) rfl (Nat.le_of_ble_eq_true rfl) (ok_X1_readAdditions  _  E)
theorem hy_X1_readAdditions : yX1_readAdditions.cls = RX1 ∧ yX1_readAdditions.cls ≠ "java/lang/invoke/MethodHandle" ∧ yX1_readAdditions.cls ≠ "java/lang/invoke/VarHandle" ∧ (parseMethodDescriptor yX1_readAdditions.desc).map (fun d => d.parameters.length) = some 0 := by decide +kernel
abbrev rm_X2_isName : Room := { frames := 0, cells := 0, slots := 0, locals := 0 }
noncomputable def f_X2_isName (l0 : Int) (m : Mem) : Option (Int × Mem) :=
  if l0 < 0 then
(some (0, m))
else
(if 676 ≤ l0 then
(some (0, m))
else
(some (1, m)))
set_option maxRecDepth 100000 in
set_option maxHeartbeats 4000000 in
theorem ok_X2_isName {r : Int × Mem} : ∀ (l0 : Int) (m : Mem), inR l0 → f_X2_isName l0 m = some r → VV RX2 cX2_isName 1 rm_X2_isName mmG0 (mmPz r) 0 [(0, vi l0)] [] m := by
  intro l0 m hr0 E
  unfold f_X2_isName at E
  refine V_iload_n 0 dX2_isName_0 rfl ?_
  refine V_if_lt 15 dX2_isName_1 (by decide) hr0 (fun c1 => ?_) (fun c1 => ?_)
  · replace E := mmI_t c1 E
    refine V_iconst dX2_isName_15 rfl ?_
    obtain rfl := Option.some.inj E
    exact V_reti dX2_isName_16 ⟨rfl, rfl, (Or.inl rfl)⟩
  · replace E := mmI_f c1 E
    refine V_iload_n 0 dX2_isName_4 rfl ?_
    refine V_sipush (v := 676) dX2_isName_5 (by decide) ?_
    refine V_icmp_ge 15 dX2_isName_8 (by decide) hr0 ir_676 (fun c2 => ?_) (fun c2 => ?_)
    · replace E := mmI_t c2 E
      refine V_iconst dX2_isName_15 rfl ?_
      obtain rfl := Option.some.inj E
      exact V_reti dX2_isName_16 ⟨rfl, rfl, (Or.inl rfl)⟩
    · replace E := mmI_f c2 E
      refine V_iconst dX2_isName_11 rfl ?_
      refine V_goto 16 dX2_isName_12 (by decide) ?_
      obtain rfl := Option.some.inj E
      exact V_reti dX2_isName_16 ⟨rfl, rfl, (Or.inr rfl)⟩
theorem ct_X2_isName {l0 : Int} {m : Mem} {r : Int × Mem} (hr0 : inR l0) (E : f_X2_isName l0 m = some r) : CTi yX2_isName cX2_isName 1 (some .boolean) rm_X2_isName [vi l0] m r := CT_z (by decide +kernel) rfl (Nat.le_of_ble_eq_true rfl) (ok_X2_isName _ _ hr0 E)
theorem hz_X2_isName : yX2_isName.cls ≠ "java/lang/invoke/MethodHandle" ∧ yX2_isName.cls ≠ "java/lang/invoke/VarHandle" ∧ (parseMethodDescriptor yX2_isName.desc).map (fun d => d.parameters.length) = some 1 := by decide +kernel
abbrev rm_X2_isLength : Room := { frames := 0, cells := 0, slots := 0, locals := 0 }
noncomputable def f_X2_isLength (l0 : Int) (m : Mem) : Option (Int × Mem) :=
  if l0 < 1 then
(some (0, m))
else
(if 40 < l0 then
(some (0, m))
else
(some (1, m)))
set_option maxRecDepth 100000 in
set_option maxHeartbeats 4000000 in
theorem ok_X2_isLength {r : Int × Mem} : ∀ (l0 : Int) (m : Mem), inR l0 → f_X2_isLength l0 m = some r → VV RX2 cX2_isLength 1 rm_X2_isLength mmG0 (mmPz r) 0 [(0, vi l0)] [] m := by
  intro l0 m hr0 E
  unfold f_X2_isLength at E
  refine V_iload_n 0 dX2_isLength_0 rfl ?_
  refine V_iconst dX2_isLength_1 rfl ?_
  refine V_icmp_lt 15 dX2_isLength_2 (by decide) hr0 ir_1 (fun c1 => ?_) (fun c1 => ?_)
  · replace E := mmI_t c1 E
    refine V_iconst dX2_isLength_15 rfl ?_
    obtain rfl := Option.some.inj E
    exact V_reti dX2_isLength_16 ⟨rfl, rfl, (Or.inl rfl)⟩
  · replace E := mmI_f c1 E
    refine V_iload_n 0 dX2_isLength_5 rfl ?_
    refine V_bipush (v := 40) dX2_isLength_6 (by decide) ?_
    refine V_icmp_gt 15 dX2_isLength_8 (by decide) hr0 ir_40 (fun c2 => ?_) (fun c2 => ?_)
    · replace E := mmI_t c2 E
      refine V_iconst dX2_isLength_15 rfl ?_
      obtain rfl := Option.some.inj E
      exact V_reti dX2_isLength_16 ⟨rfl, rfl, (Or.inl rfl)⟩
    · replace E := mmI_f c2 E
      refine V_iconst dX2_isLength_11 rfl ?_
      refine V_goto 16 dX2_isLength_12 (by decide) ?_
      obtain rfl := Option.some.inj E
      exact V_reti dX2_isLength_16 ⟨rfl, rfl, (Or.inr rfl)⟩
theorem ct_X2_isLength {l0 : Int} {m : Mem} {r : Int × Mem} (hr0 : inR l0) (E : f_X2_isLength l0 m = some r) : CTi yX2_isLength cX2_isLength 1 (some .boolean) rm_X2_isLength [vi l0] m r := CT_z (by decide +kernel) rfl (Nat.le_of_ble_eq_true rfl) (ok_X2_isLength _ _ hr0 E)
theorem hz_X2_isLength : yX2_isLength.cls ≠ "java/lang/invoke/MethodHandle" ∧ yX2_isLength.cls ≠ "java/lang/invoke/VarHandle" ∧ (parseMethodDescriptor yX2_isLength.desc).map (fun d => d.parameters.length) = some 1 := by decide +kernel
abbrev rm_X2_isMark : Room := { frames := 0, cells := 0, slots := 0, locals := 0 }
noncomputable def f_X2_isMark (l0 : Int) (m : Mem) : Option (Int × Mem) :=
  if l0 < 0 then
(some (0, m))
else
(if 9999 < l0 then
(some (0, m))
else
(some (1, m)))
set_option maxRecDepth 100000 in
set_option maxHeartbeats 4000000 in
theorem ok_X2_isMark {r : Int × Mem} : ∀ (l0 : Int) (m : Mem), inR l0 → f_X2_isMark l0 m = some r → VV RX2 cX2_isMark 1 rm_X2_isMark mmG0 (mmPz r) 0 [(0, vi l0)] [] m := by
  intro l0 m hr0 E
  unfold f_X2_isMark at E
  refine V_iload_n 0 dX2_isMark_0 rfl ?_
  refine V_if_lt 15 dX2_isMark_1 (by decide) hr0 (fun c1 => ?_) (fun c1 => ?_)
  · replace E := mmI_t c1 E
    refine V_iconst dX2_isMark_15 rfl ?_
    obtain rfl := Option.some.inj E
    exact V_reti dX2_isMark_16 ⟨rfl, rfl, (Or.inl rfl)⟩
  · replace E := mmI_f c1 E
    refine V_iload_n 0 dX2_isMark_4 rfl ?_
    refine V_sipush (v := 9999) dX2_isMark_5 (by decide) ?_
    refine V_icmp_gt 15 dX2_isMark_8 (by decide) hr0 ir_9999 (fun c2 => ?_) (fun c2 => ?_)
    · replace E := mmI_t c2 E
      refine V_iconst dX2_isMark_15 rfl ?_
      obtain rfl := Option.some.inj E
      exact V_reti dX2_isMark_16 ⟨rfl, rfl, (Or.inl rfl)⟩
    · replace E := mmI_f c2 E
      refine V_iconst dX2_isMark_11 rfl ?_
      refine V_goto 16 dX2_isMark_12 (by decide) ?_
      obtain rfl := Option.some.inj E
      exact V_reti dX2_isMark_16 ⟨rfl, rfl, (Or.inr rfl)⟩
theorem ct_X2_isMark {l0 : Int} {m : Mem} {r : Int × Mem} (hr0 : inR l0) (E : f_X2_isMark l0 m = some r) : CTi yX2_isMark cX2_isMark 1 (some .boolean) rm_X2_isMark [vi l0] m r := CT_z (by decide +kernel) rfl (Nat.le_of_ble_eq_true rfl) (ok_X2_isMark _ _ hr0 E)
theorem hz_X2_isMark : yX2_isMark.cls ≠ "java/lang/invoke/MethodHandle" ∧ yX2_isMark.cls ≠ "java/lang/invoke/VarHandle" ∧ (parseMethodDescriptor yX2_isMark.desc).map (fun d => d.parameters.length) = some 1 := by decide +kernel
abbrev rm_X2_rankOf : Room := { frames := 0, cells := 0, slots := 0, locals := 0 }
noncomputable def f_X2_rankOf_L2 : Nat → Nat → Int → Int → Mem → Option (Int × Mem)
  | 0, _, _, _, _ => none
  | n + 1, l0, l1, l2, m =>
    if (m.1 l0 5) ≤ l2 then
(some ((-1), m))
else
(mmK (0 ≤ l2 ∧ l2 < 24) (if (m.1 (l0 + 1) (l2).toNat) = l1 then
(some (l2, m))
else
(mmK (inR (l2 + 1)) (f_X2_rankOf_L2 n l0 l1 (l2 + 1) m))))
set_option maxRecDepth 100000 in
set_option maxHeartbeats 4000000 in
theorem ok_X2_rankOf_L2 {r : Int × Mem} : ∀ (n : Nat), ∀ (l0 : Nat) (l1 : Int) (l2 : Int) (m : Mem), mmSh[l0]? = some (.inl 2) → inR l1 → inR l2 → f_X2_rankOf_L2 n l0 l1 l2 m = some r → VV RX2 cX2_rankOf 3 rm_X2_rankOf mmG0 (mmPi r) 2 [(0, .ref l0), (1, vi l1), (2, vi l2)] [] m := by
  intro n
  induction n with
  | zero =>
    intro l0 l1 l2 m hs0 hr1 hr2 E
    cases E
  | succ n ih =>
    intro l0 l1 l2 m hs0 hr1 hr2 E
    rw [f_X2_rankOf_L2] at E
    refine V_iload_n 2 dX2_rankOf_2 rfl ?_
    refine V_aload_n 0 dX2_rankOf_3 rfl ?_
    refine V_geti (ci := 2) (k := 5) (N := 10) (T := TX2) (v := (m.1 l0 5)) dX2_rankOf_4 iuX2 fl_X2_27 rfl (by decide) rfl hs0 (by first | rfl | simp [mwr]) (fun hv1 => ?_)
    refine V_icmp_ge 28 dX2_rankOf_7 (by decide) hr2 hv1 (fun c2 => ?_) (fun c2 => ?_)
    · replace E := mmI_t c2 E
      refine V_iconst dX2_rankOf_28 rfl ?_
      obtain rfl := Option.some.inj E
      exact V_reti dX2_rankOf_29 ⟨rfl, rfl, ir_m1⟩
    · replace E := mmI_f c2 E
      refine V_aload_n 0 dX2_rankOf_10 rfl ?_
      refine V_geta (ci := 2) (k := 0) (N := 10) (T := TX2) (o' := (l0 + 1)) dX2_rankOf_11 iuX2 fl_X2_9 rfl (by decide) rfl hs0 rfl ?_
      refine V_iload_n 2 dX2_rankOf_14 rfl ?_
      obtain ⟨hv3, E⟩ := mmK_e E
      refine V_iald (n := 24) (j := (l2).toNat) (v := (m.1 (l0 + 1) (l2).toNat)) dX2_rankOf_15 (mmS1 hs0) hr2 hv3 rfl (by first | rfl | simp [mwr]) (fun hv4 => ?_)
      refine V_iload_n 1 dX2_rankOf_16 rfl ?_
      refine V_icmp_ne 22 dX2_rankOf_17 (by decide) hv4 hr1 (fun c5 => ?_) (fun c5 => ?_)
      · replace E := mmI_f c5 E
        obtain ⟨hv6, E⟩ := mmK_e E
        refine V_iinc (v := (l2 + 1)) (lv' := [(0, .ref l0), (1, vi l1), (2, vi (l2 + 1))]) 2 dX2_rankOf_22 rfl rfl rfl rfl ?_
        refine V_goto 2 dX2_rankOf_25 (by decide) ?_
        exact ih _ _ _ _ hs0 hr1 hv6 E
      · replace E := mmI_t c5 E
        refine V_iload_n 2 dX2_rankOf_20 rfl ?_
        obtain rfl := Option.some.inj E
        exact V_reti dX2_rankOf_21 ⟨rfl, rfl, hr2⟩
noncomputable def f_X2_rankOf (l0 : Nat) (l1 : Int) (m : Mem) : Option (Int × Mem) :=
  f_X2_rankOf_L2 mmFU l0 l1 0 m
set_option maxRecDepth 100000 in
set_option maxHeartbeats 4000000 in
theorem ok_X2_rankOf {r : Int × Mem} : ∀ (l0 : Nat) (l1 : Int) (m : Mem), mmSh[l0]? = some (.inl 2) → inR l1 → f_X2_rankOf l0 l1 m = some r → VV RX2 cX2_rankOf 3 rm_X2_rankOf mmG0 (mmPi r) 0 [(0, .ref l0), (1, vi l1)] [] m := by
  intro l0 l1 m hs0 hr1 E
  unfold f_X2_rankOf at E
  refine V_iconst dX2_rankOf_0 rfl ?_
  refine V_istore_n (i := 2) (lv' := [(0, .ref l0), (1, vi l1), (2, vi 0)]) dX2_rankOf_1 rfl rfl rfl ?_
  exact ok_X2_rankOf_L2 mmFU _ _ _ _ hs0 hr1 ir_0 E
theorem ct_X2_rankOf {l0 : Nat} {l1 : Int} {m : Mem} {r : Int × Mem} (hs0 : mmSh[l0]? = some (.inl 2)) (hr1 : inR l1) (E : f_X2_rankOf l0 l1 m = some r) : CTi yX2_rankOf cX2_rankOf 3 (some .int) rm_X2_rankOf [.ref l0, vi l1] m r := CT_i (by decide +kernel) rfl (Nat.le_of_ble_eq_true rfl) (ok_X2_rankOf _ _ _ hs0 hr1 E)
theorem hy_X2_rankOf : yX2_rankOf.cls = RX2 ∧ yX2_rankOf.cls ≠ "java/lang/invoke/MethodHandle" ∧ yX2_rankOf.cls ≠ "java/lang/invoke/VarHandle" ∧ (parseMethodDescriptor yX2_rankOf.desc).map (fun d => d.parameters.length) = some 1 := by decide +kernel
abbrev rm_X2_isRank : Room := { frames := 0, cells := 0, slots := 0, locals := 0 }
noncomputable def f_X2_isRank (l0 : Nat) (l1 : Int) (m : Mem) : Option (Int × Mem) :=
  if l1 < 0 then
(some (0, m))
else
(if (m.1 l0 5) ≤ l1 then
(some (0, m))
else
(some (1, m)))
set_option maxRecDepth 100000 in
set_option maxHeartbeats 4000000 in
theorem ok_X2_isRank {r : Int × Mem} : ∀ (l0 : Nat) (l1 : Int) (m : Mem), mmSh[l0]? = some (.inl 2) → inR l1 → f_X2_isRank l0 l1 m = some r → VV RX2 cX2_isRank 2 rm_X2_isRank mmG0 (mmPz r) 0 [(0, .ref l0), (1, vi l1)] [] m := by
  intro l0 l1 m hs0 hr1 E
  unfold f_X2_isRank at E
  refine V_iload_n 1 dX2_isRank_0 rfl ?_
  refine V_if_lt 16 dX2_isRank_1 (by decide) hr1 (fun c1 => ?_) (fun c1 => ?_)
  · replace E := mmI_t c1 E
    refine V_iconst dX2_isRank_16 rfl ?_
    obtain rfl := Option.some.inj E
    exact V_reti dX2_isRank_17 ⟨rfl, rfl, (Or.inl rfl)⟩
  · replace E := mmI_f c1 E
    refine V_iload_n 1 dX2_isRank_4 rfl ?_
    refine V_aload_n 0 dX2_isRank_5 rfl ?_
    refine V_geti (ci := 2) (k := 5) (N := 10) (T := TX2) (v := (m.1 l0 5)) dX2_isRank_6 iuX2 fl_X2_27 rfl (by decide) rfl hs0 (by first | rfl | simp [mwr]) (fun hv2 => ?_)
    refine V_icmp_ge 16 dX2_isRank_9 (by decide) hr1 hv2 (fun c3 => ?_) (fun c3 => ?_)
    · replace E := mmI_t c3 E
      refine V_iconst dX2_isRank_16 rfl ?_
      obtain rfl := Option.some.inj E
      exact V_reti dX2_isRank_17 ⟨rfl, rfl, (Or.inl rfl)⟩
    · replace E := mmI_f c3 E
      refine V_iconst dX2_isRank_12 rfl ?_
      refine V_goto 17 dX2_isRank_13 (by decide) ?_
      obtain rfl := Option.some.inj E
      exact V_reti dX2_isRank_17 ⟨rfl, rfl, (Or.inr rfl)⟩
theorem ct_X2_isRank {l0 : Nat} {l1 : Int} {m : Mem} {r : Int × Mem} (hs0 : mmSh[l0]? = some (.inl 2)) (hr1 : inR l1) (E : f_X2_isRank l0 l1 m = some r) : CTi yX2_isRank cX2_isRank 2 (some .boolean) rm_X2_isRank [.ref l0, vi l1] m r := CT_z (by decide +kernel) rfl (Nat.le_of_ble_eq_true rfl) (ok_X2_isRank _ _ _ hs0 hr1 E)
theorem hy_X2_isRank : yX2_isRank.cls = RX2 ∧ yX2_isRank.cls ≠ "java/lang/invoke/MethodHandle" ∧ yX2_isRank.cls ≠ "java/lang/invoke/VarHandle" ∧ (parseMethodDescriptor yX2_isRank.desc).map (fun d => d.parameters.length) = some 1 := by decide +kernel
abbrev rm_X2_isDirectoryFull : Room := { frames := 0, cells := 0, slots := 0, locals := 0 }
noncomputable def f_X2_isDirectoryFull (l0 : Nat) (m : Mem) : Option (Int × Mem) :=
  mmK (inR ((m.1 l0 6) * 4)) (if (m.1 l0 5) < ((m.1 l0 6) * 4) then
(some (0, m))
else
(some (1, m)))
set_option maxRecDepth 100000 in
set_option maxHeartbeats 4000000 in
theorem ok_X2_isDirectoryFull {r : Int × Mem} : ∀ (l0 : Nat) (m : Mem), mmSh[l0]? = some (.inl 2) → f_X2_isDirectoryFull l0 m = some r → VV RX2 cX2_isDirectoryFull 1 rm_X2_isDirectoryFull mmG0 (mmPz r) 0 [(0, .ref l0)] [] m := by
  intro l0 m hs0 E
  unfold f_X2_isDirectoryFull at E
  refine V_aload_n 0 dX2_isDirectoryFull_0 rfl ?_
  refine V_geti (ci := 2) (k := 5) (N := 10) (T := TX2) (v := (m.1 l0 5)) dX2_isDirectoryFull_1 iuX2 fl_X2_27 rfl (by decide) rfl hs0 (by first | rfl | simp [mwr]) (fun hv1 => ?_)
  refine V_aload_n 0 dX2_isDirectoryFull_4 rfl ?_
  refine V_geti (ci := 2) (k := 6) (N := 10) (T := TX2) (v := (m.1 l0 6)) dX2_isDirectoryFull_5 iuX2 fl_X2_31 rfl (by decide) rfl hs0 (by first | rfl | simp [mwr]) (fun hv2 => ?_)
  refine V_iconst dX2_isDirectoryFull_8 rfl ?_
  obtain ⟨hv3, E⟩ := mmK_e E
  refine V_imul dX2_isDirectoryFull_9 ?_
  refine V_icmp_lt 17 dX2_isDirectoryFull_10 (by decide) hv1 hv3 (fun c4 => ?_) (fun c4 => ?_)
  · replace E := mmI_t c4 E
    refine V_iconst dX2_isDirectoryFull_17 rfl ?_
    obtain rfl := Option.some.inj E
    exact V_reti dX2_isDirectoryFull_18 ⟨rfl, rfl, (Or.inl rfl)⟩
  · replace E := mmI_f c4 E
    refine V_iconst dX2_isDirectoryFull_13 rfl ?_
    refine V_goto 18 dX2_isDirectoryFull_14 (by decide) ?_
    obtain rfl := Option.some.inj E
    exact V_reti dX2_isDirectoryFull_18 ⟨rfl, rfl, (Or.inr rfl)⟩
theorem ct_X2_isDirectoryFull {l0 : Nat} {m : Mem} {r : Int × Mem} (hs0 : mmSh[l0]? = some (.inl 2)) (E : f_X2_isDirectoryFull l0 m = some r) : CTi yX2_isDirectoryFull cX2_isDirectoryFull 1 (some .boolean) rm_X2_isDirectoryFull [.ref l0] m r := CT_z (by decide +kernel) rfl (Nat.le_of_ble_eq_true rfl) (ok_X2_isDirectoryFull _ _ hs0 E)
theorem hy_X2_isDirectoryFull : yX2_isDirectoryFull.cls = RX2 ∧ yX2_isDirectoryFull.cls ≠ "java/lang/invoke/MethodHandle" ∧ yX2_isDirectoryFull.cls ≠ "java/lang/invoke/VarHandle" ∧ (parseMethodDescriptor yX2_isDirectoryFull.desc).map (fun d => d.parameters.length) = some 0 := by decide +kernel
abbrev rm_X2_hasRoom : Room := { frames := 0, cells := 0, slots := 0, locals := 0 }
noncomputable def f_X2_hasRoom (l0 : Nat) (l1 : Int) (m : Mem) : Option (Int × Mem) :=
  mmK (inR ((m.1 l0 7) + l1)) (if 100 < ((m.1 l0 7) + l1) then
(some (0, m))
else
(some (1, m)))
set_option maxRecDepth 100000 in
set_option maxHeartbeats 4000000 in
theorem ok_X2_hasRoom {r : Int × Mem} : ∀ (l0 : Nat) (l1 : Int) (m : Mem), mmSh[l0]? = some (.inl 2) → inR l1 → f_X2_hasRoom l0 l1 m = some r → VV RX2 cX2_hasRoom 2 rm_X2_hasRoom mmG0 (mmPz r) 0 [(0, .ref l0), (1, vi l1)] [] m := by
  intro l0 l1 m hs0 hr1 E
  unfold f_X2_hasRoom at E
  refine V_aload_n 0 dX2_hasRoom_0 rfl ?_
  refine V_geti (ci := 2) (k := 7) (N := 10) (T := TX2) (v := (m.1 l0 7)) dX2_hasRoom_1 iuX2 fl_X2_34 rfl (by decide) rfl hs0 (by first | rfl | simp [mwr]) (fun hv1 => ?_)
  refine V_iload_n 1 dX2_hasRoom_4 rfl ?_
  obtain ⟨hv2, E⟩ := mmK_e E
  refine V_iadd dX2_hasRoom_5 ?_
  refine V_bipush (v := 100) dX2_hasRoom_6 (by decide) ?_
  refine V_icmp_gt 15 dX2_hasRoom_8 (by decide) hv2 ir_100 (fun c3 => ?_) (fun c3 => ?_)
  · replace E := mmI_t c3 E
    refine V_iconst dX2_hasRoom_15 rfl ?_
    obtain rfl := Option.some.inj E
    exact V_reti dX2_hasRoom_16 ⟨rfl, rfl, (Or.inl rfl)⟩
  · replace E := mmI_f c3 E
    refine V_iconst dX2_hasRoom_11 rfl ?_
    refine V_goto 16 dX2_hasRoom_12 (by decide) ?_
    obtain rfl := Option.some.inj E
    exact V_reti dX2_hasRoom_16 ⟨rfl, rfl, (Or.inr rfl)⟩
theorem ct_X2_hasRoom {l0 : Nat} {l1 : Int} {m : Mem} {r : Int × Mem} (hs0 : mmSh[l0]? = some (.inl 2)) (hr1 : inR l1) (E : f_X2_hasRoom l0 l1 m = some r) : CTi yX2_hasRoom cX2_hasRoom 2 (some .boolean) rm_X2_hasRoom [.ref l0, vi l1] m r := CT_z (by decide +kernel) rfl (Nat.le_of_ble_eq_true rfl) (ok_X2_hasRoom _ _ _ hs0 hr1 E)
theorem hy_X2_hasRoom : yX2_hasRoom.cls = RX2 ∧ yX2_hasRoom.cls ≠ "java/lang/invoke/MethodHandle" ∧ yX2_hasRoom.cls ≠ "java/lang/invoke/VarHandle" ∧ (parseMethodDescriptor yX2_hasRoom.desc).map (fun d => d.parameters.length) = some 1 := by decide +kernel
abbrev rm_X2_layText : Room := { frames := 0, cells := 0, slots := 0, locals := 0 }
noncomputable def f_X2_layText (l0 : Nat) (l1 : Int) (m : Mem) : Option (Int × Mem) :=
  mmK (inR ((m.1 l0 7) + l1)) (some ((m.1 l0 7), (mwr m l0 7 ((m.1 l0 7) + l1))))
set_option maxRecDepth 100000 in
set_option maxHeartbeats 4000000 in
theorem ok_X2_layText {r : Int × Mem} : ∀ (l0 : Nat) (l1 : Int) (m : Mem), mmSh[l0]? = some (.inl 2) → inR l1 → f_X2_layText l0 l1 m = some r → VV RX2 cX2_layText 3 rm_X2_layText mmG0 (mmPi r) 0 [(0, .ref l0), (1, vi l1)] [] m := by
  intro l0 l1 m hs0 hr1 E
  unfold f_X2_layText at E
  refine V_aload_n 0 dX2_layText_0 rfl ?_
  refine V_geti (ci := 2) (k := 7) (N := 10) (T := TX2) (v := (m.1 l0 7)) dX2_layText_1 iuX2 fl_X2_34 rfl (by decide) rfl hs0 (by first | rfl | simp [mwr]) (fun hv1 => ?_)
  refine V_istore_n (i := 2) (lv' := [(0, .ref l0), (1, vi l1), (2, vi (m.1 l0 7))]) dX2_layText_4 rfl rfl rfl ?_
  refine V_aload_n 0 dX2_layText_5 rfl ?_
  refine V_dupa dX2_layText_6 ?_
  refine V_geti (ci := 2) (k := 7) (N := 10) (T := TX2) (v := (m.1 l0 7)) dX2_layText_7 iuX2 fl_X2_34 rfl (by decide) rfl hs0 (by first | rfl | simp [mwr]) (fun hv2 => ?_)
  refine V_iload_n 1 dX2_layText_10 rfl ?_
  obtain ⟨hv3, E⟩ := mmK_e E
  refine V_iadd dX2_layText_11 ?_
  refine V_put (ci := 2) (k := 7) (N := 10) (T := TX2) (x := ((m.1 l0 7) + l1)) (ty := .int) tyX2 dX2_layText_12 iuX2 tyX2_ok nmX2 fl_X2_34 rfl (by decide) rfl hs0 rfl (by decide +kernel) rfl rfl hv3 ?_
  refine V_iload_n 2 dX2_layText_15 rfl ?_
  obtain rfl := Option.some.inj E
  exact V_reti dX2_layText_16 ⟨rfl, rfl, hv1⟩
theorem ct_X2_layText {l0 : Nat} {l1 : Int} {m : Mem} {r : Int × Mem} (hs0 : mmSh[l0]? = some (.inl 2)) (hr1 : inR l1) (E : f_X2_layText l0 l1 m = some r) : CTi yX2_layText cX2_layText 3 (some .int) rm_X2_layText [.ref l0, vi l1] m r := CT_i (by decide +kernel) rfl (Nat.le_of_ble_eq_true rfl) (ok_X2_layText _ _ _ hs0 hr1 E)
theorem hy_X2_layText : yX2_layText.cls = RX2 ∧ yX2_layText.cls ≠ "java/lang/invoke/MethodHandle" ∧ yX2_layText.cls ≠ "java/lang/invoke/VarHandle" ∧ (parseMethodDescriptor yX2_layText.desc).map (fun d => d.parameters.length) = some 1 := by decide +kernel
abbrev rm_X2_namesBelow : Room := { frames := 0, cells := 0, slots := 0, locals := 0 }
noncomputable def f_X2_namesBelow_L4 : Nat → Nat → Int → Int → Int → Mem → Option (Int × Mem)
  | 0, _, _, _, _, _ => none
  | n + 1, l0, l1, l2, l3, m =>
    if (m.1 l0 5) ≤ l3 then
(some (l2, m))
else
(mmK (0 ≤ l3 ∧ l3 < 24) (if l1 ≤ (m.1 (l0 + 1) (l3).toNat) then
(mmK (inR (l3 + 1)) (f_X2_namesBelow_L4 n l0 l1 l2 (l3 + 1) m))
else
(mmK (inR (l2 + 1)) (mmK (inR (l3 + 1)) (f_X2_namesBelow_L4 n l0 l1 (l2 + 1) (l3 + 1) m)))))
set_option maxRecDepth 100000 in
set_option maxHeartbeats 4000000 in
theorem ok_X2_namesBelow_L4 {r : Int × Mem} : ∀ (n : Nat), ∀ (l0 : Nat) (l1 : Int) (l2 : Int) (l3 : Int) (m : Mem), mmSh[l0]? = some (.inl 2) → inR l1 → inR l2 → inR l3 → f_X2_namesBelow_L4 n l0 l1 l2 l3 m = some r → VV RX2 cX2_namesBelow 4 rm_X2_namesBelow mmG0 (mmPi r) 4 [(0, .ref l0), (1, vi l1), (2, vi l2), (3, vi l3)] [] m := by
  intro n
  induction n with
  | zero =>
    intro l0 l1 l2 l3 m hs0 hr1 hr2 hr3 E
    cases E
  | succ n ih =>
    intro l0 l1 l2 l3 m hs0 hr1 hr2 hr3 E
    rw [f_X2_namesBelow_L4] at E
    refine V_iload_n 3 dX2_namesBelow_4 rfl ?_
    refine V_aload_n 0 dX2_namesBelow_5 rfl ?_
    refine V_geti (ci := 2) (k := 5) (N := 10) (T := TX2) (v := (m.1 l0 5)) dX2_namesBelow_6 iuX2 fl_X2_27 rfl (by decide) rfl hs0 (by first | rfl | simp [mwr]) (fun hv1 => ?_)
    refine V_icmp_ge 31 dX2_namesBelow_9 (by decide) hr3 hv1 (fun c2 => ?_) (fun c2 => ?_)
    · replace E := mmI_t c2 E
      refine V_iload_n 2 dX2_namesBelow_31 rfl ?_
      obtain rfl := Option.some.inj E
      exact V_reti dX2_namesBelow_32 ⟨rfl, rfl, hr2⟩
    · replace E := mmI_f c2 E
      refine V_aload_n 0 dX2_namesBelow_12 rfl ?_
      refine V_geta (ci := 2) (k := 0) (N := 10) (T := TX2) (o' := (l0 + 1)) dX2_namesBelow_13 iuX2 fl_X2_9 rfl (by decide) rfl hs0 rfl ?_
      refine V_iload_n 3 dX2_namesBelow_16 rfl ?_
      obtain ⟨hv3, E⟩ := mmK_e E
      refine V_iald (n := 24) (j := (l3).toNat) (v := (m.1 (l0 + 1) (l3).toNat)) dX2_namesBelow_17 (mmS1 hs0) hr3 hv3 rfl (by first | rfl | simp [mwr]) (fun hv4 => ?_)
      refine V_iload_n 1 dX2_namesBelow_18 rfl ?_
      refine V_icmp_ge 25 dX2_namesBelow_19 (by decide) hv4 hr1 (fun c5 => ?_) (fun c5 => ?_)
      · replace E := mmI_t c5 E
        obtain ⟨hv6, E⟩ := mmK_e E
        refine V_iinc (v := (l3 + 1)) (lv' := [(0, .ref l0), (1, vi l1), (2, vi l2), (3, vi (l3 + 1))]) 3 dX2_namesBelow_25 rfl rfl rfl rfl ?_
        refine V_goto 4 dX2_namesBelow_28 (by decide) ?_
        exact ih _ _ _ _ _ hs0 hr1 hr2 hv6 E
      · replace E := mmI_f c5 E
        obtain ⟨hv7, E⟩ := mmK_e E
        refine V_iinc (v := (l2 + 1)) (lv' := [(0, .ref l0), (1, vi l1), (2, vi (l2 + 1)), (3, vi l3)]) 2 dX2_namesBelow_22 rfl rfl rfl rfl ?_
        obtain ⟨hv8, E⟩ := mmK_e E
        refine V_iinc (v := (l3 + 1)) (lv' := [(0, .ref l0), (1, vi l1), (2, vi (l2 + 1)), (3, vi (l3 + 1))]) 3 dX2_namesBelow_25 rfl rfl rfl rfl ?_
        refine V_goto 4 dX2_namesBelow_28 (by decide) ?_
        exact ih _ _ _ _ _ hs0 hr1 hv7 hv8 E
noncomputable def f_X2_namesBelow (l0 : Nat) (l1 : Int) (m : Mem) : Option (Int × Mem) :=
  f_X2_namesBelow_L4 mmFU l0 l1 0 0 m
set_option maxRecDepth 100000 in
set_option maxHeartbeats 4000000 in
theorem ok_X2_namesBelow {r : Int × Mem} : ∀ (l0 : Nat) (l1 : Int) (m : Mem), mmSh[l0]? = some (.inl 2) → inR l1 → f_X2_namesBelow l0 l1 m = some r → VV RX2 cX2_namesBelow 4 rm_X2_namesBelow mmG0 (mmPi r) 0 [(0, .ref l0), (1, vi l1)] [] m := by
  intro l0 l1 m hs0 hr1 E
  unfold f_X2_namesBelow at E
  refine V_iconst dX2_namesBelow_0 rfl ?_
  refine V_istore_n (i := 2) (lv' := [(0, .ref l0), (1, vi l1), (2, vi 0)]) dX2_namesBelow_1 rfl rfl rfl ?_
  refine V_iconst dX2_namesBelow_2 rfl ?_
  refine V_istore_n (i := 3) (lv' := [(0, .ref l0), (1, vi l1), (2, vi 0), (3, vi 0)]) dX2_namesBelow_3 rfl rfl rfl ?_
  exact ok_X2_namesBelow_L4 mmFU _ _ _ _ _ hs0 hr1 ir_0 ir_0 E
theorem ct_X2_namesBelow {l0 : Nat} {l1 : Int} {m : Mem} {r : Int × Mem} (hs0 : mmSh[l0]? = some (.inl 2)) (hr1 : inR l1) (E : f_X2_namesBelow l0 l1 m = some r) : CTi yX2_namesBelow cX2_namesBelow 4 (some .int) rm_X2_namesBelow [.ref l0, vi l1] m r := CT_i (by decide +kernel) rfl (Nat.le_of_ble_eq_true rfl) (ok_X2_namesBelow _ _ _ hs0 hr1 E)
theorem hy_X2_namesBelow : yX2_namesBelow.cls = RX2 ∧ yX2_namesBelow.cls ≠ "java/lang/invoke/MethodHandle" ∧ yX2_namesBelow.cls ≠ "java/lang/invoke/VarHandle" ∧ (parseMethodDescriptor yX2_namesBelow.desc).map (fun d => d.parameters.length) = some 1 := by decide +kernel
abbrev rm_X2_moveEntries : Room := { frames := 1, cells := 0, slots := 0, locals := 26 }
noncomputable def f_X2_moveEntries (l0 : Nat) (l1 : Int) (l2 : Int) (l3 : Int) (m : Mem) : Option (Mem) :=
  if l1 < 0 then
(some m)
else
(if l2 < 0 then
(some m)
else
(if l3 < 0 then
(some m)
else
(mmK (inR (24 - l3)) (if (max l1 l2) ≤ (24 - l3) then
(mmK (0 ≤ l1 ∧ 0 ≤ l2 ∧ 0 ≤ l3 ∧ l1 + l3 ≤ 24 ∧ l2 + l3 ≤ 24) (mmK (0 ≤ l1 ∧ 0 ≤ l2 ∧ 0 ≤ l3 ∧ l1 + l3 ≤ 24 ∧ l2 + l3 ≤ 24) (mmK (0 ≤ l1 ∧ 0 ≤ l2 ∧ 0 ≤ l3 ∧ l1 + l3 ≤ 24 ∧ l2 + l3 ≤ 24) (mmK (0 ≤ l1 ∧ 0 ≤ l2 ∧ 0 ≤ l3 ∧ l1 + l3 ≤ 24 ∧ l2 + l3 ≤ 24) (mmK (0 ≤ l1 ∧ 0 ≤ l2 ∧ 0 ≤ l3 ∧ l1 + l3 ≤ 24 ∧ l2 + l3 ≤ 24) (some (mcp (mcp (mcp (mcp (mcp m (l0 + 1) (l1).toNat (l0 + 1) (l2).toNat (l3).toNat) (l0 + 2) (l1).toNat (l0 + 2) (l2).toNat (l3).toNat) (l0 + 3) (l1).toNat (l0 + 3) (l2).toNat (l3).toNat) (l0 + 4) (l1).toNat (l0 + 4) (l2).toNat (l3).toNat) (l0 + 5) (l1).toNat (l0 + 5) (l2).toNat (l3).toNat)))))))
else
(some m)))))
set_option maxRecDepth 100000 in
set_option maxHeartbeats 4000000 in
theorem ok_X2_moveEntries {r : Mem} : ∀ (l0 : Nat) (l1 : Int) (l2 : Int) (l3 : Int) (m : Mem), mmSh[l0]? = some (.inl 2) → inR l1 → inR l2 → inR l3 → f_X2_moveEntries l0 l1 l2 l3 m = some r → VV RX2 cX2_moveEntries 4 rm_X2_moveEntries mmG0 (mmPv r) 0 [(0, .ref l0), (1, vi l1), (2, vi l2), (3, vi l3)] [] m := by
  intro l0 l1 l2 l3 m hs0 hr1 hr2 hr3 E
  unfold f_X2_moveEntries at E
  refine V_iload_n 1 dX2_moveEntries_0 rfl ?_
  refine V_if_lt 24 dX2_moveEntries_1 (by decide) hr1 (fun c1 => ?_) (fun c1 => ?_)
  · replace E := mmI_t c1 E
    obtain rfl := Option.some.inj E
    exact V_retv dX2_moveEntries_24 ⟨rfl, rfl⟩
  · replace E := mmI_f c1 E
    refine V_iload_n 2 dX2_moveEntries_4 rfl ?_
    refine V_if_lt 24 dX2_moveEntries_5 (by decide) hr2 (fun c2 => ?_) (fun c2 => ?_)
    · replace E := mmI_t c2 E
      obtain rfl := Option.some.inj E
      exact V_retv dX2_moveEntries_24 ⟨rfl, rfl⟩
    · replace E := mmI_f c2 E
      refine V_iload_n 3 dX2_moveEntries_8 rfl ?_
      refine V_if_lt 24 dX2_moveEntries_9 (by decide) hr3 (fun c3 => ?_) (fun c3 => ?_)
      · replace E := mmI_t c3 E
        obtain rfl := Option.some.inj E
        exact V_retv dX2_moveEntries_24 ⟨rfl, rfl⟩
      · replace E := mmI_f c3 E
        refine V_iload_n 1 dX2_moveEntries_12 rfl ?_
        refine V_iload_n 2 dX2_moveEntries_13 rfl ?_
        refine V_max dX2_moveEntries_14 ml_X2_114 st_max it_Math cd_max hr1 hr2 ⟨by decide, by decide⟩ (Nat.le_of_ble_eq_true rfl) ?_
        refine V_bipush (v := 24) dX2_moveEntries_17 (by decide) ?_
        refine V_iload_n 3 dX2_moveEntries_19 rfl ?_
        obtain ⟨hv4, E⟩ := mmK_e E
        refine V_isub dX2_moveEntries_20 ?_
        refine V_icmp_le 25 dX2_moveEntries_21 (by decide) (inR_max hr1 hr2) hv4 (fun c5 => ?_) (fun c5 => ?_)
        · replace E := mmI_t c5 E
          refine V_aload_n 0 dX2_moveEntries_25 rfl ?_
          refine V_geta (ci := 2) (k := 0) (N := 10) (T := TX2) (o' := (l0 + 1)) dX2_moveEntries_26 iuX2 fl_X2_9 rfl (by decide) rfl hs0 rfl ?_
          refine V_iload_n 1 dX2_moveEntries_29 rfl ?_
          refine V_aload_n 0 dX2_moveEntries_30 rfl ?_
          refine V_geta (ci := 2) (k := 0) (N := 10) (T := TX2) (o' := (l0 + 1)) dX2_moveEntries_31 iuX2 fl_X2_9 rfl (by decide) rfl hs0 rfl ?_
          refine V_iload_n 2 dX2_moveEntries_34 rfl ?_
          refine V_iload_n 3 dX2_moveEntries_35 rfl ?_
          obtain ⟨hv6, E⟩ := mmK_e E
          refine V_copy (n0 := 24) (n1 := 24) (js := (l1).toNat) (jd := (l2).toNat) (jn := (l3).toNat) dX2_moveEntries_36 ml_X2_43 na_copy st_copy it_System (mmS1 hs0) (mmS1 hs0) hr1 hr2 hr3 hv6 ⟨by decide, by decide⟩ (Nat.le_of_ble_eq_true rfl) rfl rfl rfl ?_
          refine V_aload_n 0 dX2_moveEntries_39 rfl ?_
          refine V_geta (ci := 2) (k := 1) (N := 10) (T := TX2) (o' := (l0 + 2)) dX2_moveEntries_40 iuX2 fl_X2_15 rfl (by decide) rfl hs0 rfl ?_
          refine V_iload_n 1 dX2_moveEntries_43 rfl ?_
          refine V_aload_n 0 dX2_moveEntries_44 rfl ?_
          refine V_geta (ci := 2) (k := 1) (N := 10) (T := TX2) (o' := (l0 + 2)) dX2_moveEntries_45 iuX2 fl_X2_15 rfl (by decide) rfl hs0 rfl ?_
          refine V_iload_n 2 dX2_moveEntries_48 rfl ?_
          refine V_iload_n 3 dX2_moveEntries_49 rfl ?_
          obtain ⟨hv7, E⟩ := mmK_e E
          refine V_copy (n0 := 24) (n1 := 24) (js := (l1).toNat) (jd := (l2).toNat) (jn := (l3).toNat) dX2_moveEntries_50 ml_X2_43 na_copy st_copy it_System (mmS2 hs0) (mmS2 hs0) hr1 hr2 hr3 hv7 ⟨by decide, by decide⟩ (Nat.le_of_ble_eq_true rfl) rfl rfl rfl ?_
          refine V_aload_n 0 dX2_moveEntries_53 rfl ?_
          refine V_geta (ci := 2) (k := 2) (N := 10) (T := TX2) (o' := (l0 + 3)) dX2_moveEntries_54 iuX2 fl_X2_18 rfl (by decide) rfl hs0 rfl ?_
          refine V_iload_n 1 dX2_moveEntries_57 rfl ?_
          refine V_aload_n 0 dX2_moveEntries_58 rfl ?_
          refine V_geta (ci := 2) (k := 2) (N := 10) (T := TX2) (o' := (l0 + 3)) dX2_moveEntries_59 iuX2 fl_X2_18 rfl (by decide) rfl hs0 rfl ?_
          refine V_iload_n 2 dX2_moveEntries_62 rfl ?_
          refine V_iload_n 3 dX2_moveEntries_63 rfl ?_
          obtain ⟨hv8, E⟩ := mmK_e E
          refine V_copy (n0 := 24) (n1 := 24) (js := (l1).toNat) (jd := (l2).toNat) (jn := (l3).toNat) dX2_moveEntries_64 ml_X2_43 na_copy st_copy it_System (mmS3 hs0) (mmS3 hs0) hr1 hr2 hr3 hv8 ⟨by decide, by decide⟩ (Nat.le_of_ble_eq_true rfl) rfl rfl rfl ?_
          refine V_aload_n 0 dX2_moveEntries_67 rfl ?_
          refine V_geta (ci := 2) (k := 3) (N := 10) (T := TX2) (o' := (l0 + 4)) dX2_moveEntries_68 iuX2 fl_X2_21 rfl (by decide) rfl hs0 rfl ?_
          refine V_iload_n 1 dX2_moveEntries_71 rfl ?_
          refine V_aload_n 0 dX2_moveEntries_72 rfl ?_
          refine V_geta (ci := 2) (k := 3) (N := 10) (T := TX2) (o' := (l0 + 4)) dX2_moveEntries_73 iuX2 fl_X2_21 rfl (by decide) rfl hs0 rfl ?_
          refine V_iload_n 2 dX2_moveEntries_76 rfl ?_
          refine V_iload_n 3 dX2_moveEntries_77 rfl ?_
          obtain ⟨hv9, E⟩ := mmK_e E
          refine V_copy (n0 := 24) (n1 := 24) (js := (l1).toNat) (jd := (l2).toNat) (jn := (l3).toNat) dX2_moveEntries_78 ml_X2_43 na_copy st_copy it_System (mmS4 hs0) (mmS4 hs0) hr1 hr2 hr3 hv9 ⟨by decide, by decide⟩ (Nat.le_of_ble_eq_true rfl) rfl rfl rfl ?_
          refine V_aload_n 0 dX2_moveEntries_81 rfl ?_
          refine V_geta (ci := 2) (k := 4) (N := 10) (T := TX2) (o' := (l0 + 5)) dX2_moveEntries_82 iuX2 fl_X2_24 rfl (by decide) rfl hs0 rfl ?_
          refine V_iload_n 1 dX2_moveEntries_85 rfl ?_
          refine V_aload_n 0 dX2_moveEntries_86 rfl ?_
          refine V_geta (ci := 2) (k := 4) (N := 10) (T := TX2) (o' := (l0 + 5)) dX2_moveEntries_87 iuX2 fl_X2_24 rfl (by decide) rfl hs0 rfl ?_
          refine V_iload_n 2 dX2_moveEntries_90 rfl ?_
          refine V_iload_n 3 dX2_moveEntries_91 rfl ?_
          obtain ⟨hv10, E⟩ := mmK_e E
          refine V_copy (n0 := 24) (n1 := 24) (js := (l1).toNat) (jd := (l2).toNat) (jn := (l3).toNat) dX2_moveEntries_92 ml_X2_43 na_copy st_copy it_System (mmS5 hs0) (mmS5 hs0) hr1 hr2 hr3 hv10 ⟨by decide, by decide⟩ (Nat.le_of_ble_eq_true rfl) rfl rfl rfl ?_
          obtain rfl := Option.some.inj E
          exact V_retv dX2_moveEntries_95 ⟨rfl, rfl⟩
        · replace E := mmI_f c5 E
          obtain rfl := Option.some.inj E
          exact V_retv dX2_moveEntries_24 ⟨rfl, rfl⟩
theorem ct_X2_moveEntries {l0 : Nat} {l1 : Int} {l2 : Int} {l3 : Int} {m : Mem} {r : Mem} (hs0 : mmSh[l0]? = some (.inl 2)) (hr1 : inR l1) (hr2 : inR l2) (hr3 : inR l3) (E : f_X2_moveEntries l0 l1 l2 l3 m = some r) : CTv yX2_moveEntries cX2_moveEntries 4 rm_X2_moveEntries [.ref l0, vi l1, vi l2, vi l3] m r := CT_v (by decide +kernel) rfl (Nat.le_of_ble_eq_true rfl) (ok_X2_moveEntries _ _ _ _ _ hs0 hr1 hr2 hr3 E)
theorem hy_X2_moveEntries : yX2_moveEntries.cls = RX2 ∧ yX2_moveEntries.cls ≠ "java/lang/invoke/MethodHandle" ∧ yX2_moveEntries.cls ≠ "java/lang/invoke/VarHandle" ∧ (parseMethodDescriptor yX2_moveEntries.desc).map (fun d => d.parameters.length) = some 3 := by decide +kernel
abbrev rm_X2_setEntry : Room := { frames := 1, cells := 0, slots := 0, locals := 21 }
noncomputable def f_X2_setEntry (l0 : Nat) (l1 : Int) (l2 : Int) (l3 : Int) (l4 : Int) (l5 : Int) (l6 : Int) (m : Mem) : Option (Mem) :=
  (f_X2_isRank l0 l1 m).bind (fun q1 => if q1.1 = 0 then
(some q1.2)
else
(mmK (0 ≤ l1 ∧ l1 < 24) (mmK (0 ≤ l1 ∧ l1 < 24) (mmK (0 ≤ l1 ∧ l1 < 24) (mmK (0 ≤ l1 ∧ l1 < 24) (mmK (0 ≤ l1 ∧ l1 < 24) (some (mwr (mwr (mwr (mwr (mwr q1.2 (l0 + 1) (l1).toNat l2) (l0 + 2) (l1).toNat l3) (l0 + 3) (l1).toNat l4) (l0 + 4) (l1).toNat l5) (l0 + 5) (l1).toNat l6))))))))
set_option maxRecDepth 100000 in
set_option maxHeartbeats 4000000 in
theorem ok_X2_setEntry {r : Mem} : ∀ (l0 : Nat) (l1 : Int) (l2 : Int) (l3 : Int) (l4 : Int) (l5 : Int) (l6 : Int) (m : Mem), mmSh[l0]? = some (.inl 2) → inR l1 → inR l2 → inR l3 → inR l4 → inR l5 → inR l6 → f_X2_setEntry l0 l1 l2 l3 l4 l5 l6 m = some r → VV RX2 cX2_setEntry 7 rm_X2_setEntry mmG0 (mmPv r) 0 [(0, .ref l0), (1, vi l1), (2, vi l2), (3, vi l3), (4, vi l4), (5, vi l5), (6, vi l6)] [] m := by
  intro l0 l1 l2 l3 l4 l5 l6 m hs0 hr1 hr2 hr3 hr4 hr5 hr6 E
  unfold f_X2_setEntry at E
  refine V_aload_n 0 dX2_setEntry_0 rfl ?_
  refine V_iload_n 1 dX2_setEntry_1 rfl ?_
  obtain ⟨q1, hq1, E⟩ := mmB_e E
  refine V_callV (ci := 2) (q := (RX2, TX2, 10)) (Cn := RX2) (st := []) 1 dX2_setEntry_2 (ct_X2_isRank hs0 hr1 hq1) ml_X2_63 im_X2_isRank sl_X2_isRank it_X2 cd_X2_isRank hy_X2_isRank ⟨rfl, rfl, by decide, by decide⟩ hs0 rfl rfl rfl rfl (Nat.le_of_ble_eq_true rfl) (fun hv2 => ?_)
  refine V_if_eq 46 dX2_setEntry_5 (by decide) hv2 (fun c3 => ?_) (fun c3 => ?_)
  · replace E := mmI_t c3 E
    obtain rfl := Option.some.inj E
    exact V_retv dX2_setEntry_46 ⟨rfl, rfl⟩
  · replace E := mmI_f c3 E
    refine V_aload_n 0 dX2_setEntry_8 rfl ?_
    refine V_geta (ci := 2) (k := 0) (N := 10) (T := TX2) (o' := (l0 + 1)) dX2_setEntry_9 iuX2 fl_X2_9 rfl (by decide) rfl hs0 rfl ?_
    refine V_iload_n 1 dX2_setEntry_12 rfl ?_
    refine V_iload_n 2 dX2_setEntry_13 rfl ?_
    obtain ⟨hv4, E⟩ := mmK_e E
    refine V_iast (n := 24) (j := (l1).toNat) dX2_setEntry_14 (mmS1 hs0) hr1 hr2 hv4 rfl ?_
    refine V_aload_n 0 dX2_setEntry_15 rfl ?_
    refine V_geta (ci := 2) (k := 1) (N := 10) (T := TX2) (o' := (l0 + 2)) dX2_setEntry_16 iuX2 fl_X2_15 rfl (by decide) rfl hs0 rfl ?_
    refine V_iload_n 1 dX2_setEntry_19 rfl ?_
    refine V_iload_n 3 dX2_setEntry_20 rfl ?_
    obtain ⟨hv5, E⟩ := mmK_e E
    refine V_iast (n := 24) (j := (l1).toNat) dX2_setEntry_21 (mmS2 hs0) hr1 hr3 hv5 rfl ?_
    refine V_aload_n 0 dX2_setEntry_22 rfl ?_
    refine V_geta (ci := 2) (k := 2) (N := 10) (T := TX2) (o' := (l0 + 3)) dX2_setEntry_23 iuX2 fl_X2_18 rfl (by decide) rfl hs0 rfl ?_
    refine V_iload_n 1 dX2_setEntry_26 rfl ?_
    refine V_iload 4 dX2_setEntry_27 rfl ?_
    obtain ⟨hv6, E⟩ := mmK_e E
    refine V_iast (n := 24) (j := (l1).toNat) dX2_setEntry_29 (mmS3 hs0) hr1 hr4 hv6 rfl ?_
    refine V_aload_n 0 dX2_setEntry_30 rfl ?_
    refine V_geta (ci := 2) (k := 3) (N := 10) (T := TX2) (o' := (l0 + 4)) dX2_setEntry_31 iuX2 fl_X2_21 rfl (by decide) rfl hs0 rfl ?_
    refine V_iload_n 1 dX2_setEntry_34 rfl ?_
    refine V_iload 5 dX2_setEntry_35 rfl ?_
    obtain ⟨hv7, E⟩ := mmK_e E
    refine V_iast (n := 24) (j := (l1).toNat) dX2_setEntry_37 (mmS4 hs0) hr1 hr5 hv7 rfl ?_
    refine V_aload_n 0 dX2_setEntry_38 rfl ?_
    refine V_geta (ci := 2) (k := 4) (N := 10) (T := TX2) (o' := (l0 + 5)) dX2_setEntry_39 iuX2 fl_X2_24 rfl (by decide) rfl hs0 rfl ?_
    refine V_iload_n 1 dX2_setEntry_42 rfl ?_
    refine V_iload 6 dX2_setEntry_43 rfl ?_
    obtain ⟨hv8, E⟩ := mmK_e E
    refine V_iast (n := 24) (j := (l1).toNat) dX2_setEntry_45 (mmS5 hs0) hr1 hr6 hv8 rfl ?_
    obtain rfl := Option.some.inj E
    exact V_retv dX2_setEntry_46 ⟨rfl, rfl⟩
theorem ct_X2_setEntry {l0 : Nat} {l1 : Int} {l2 : Int} {l3 : Int} {l4 : Int} {l5 : Int} {l6 : Int} {m : Mem} {r : Mem} (hs0 : mmSh[l0]? = some (.inl 2)) (hr1 : inR l1) (hr2 : inR l2) (hr3 : inR l3) (hr4 : inR l4) (hr5 : inR l5) (hr6 : inR l6) (E : f_X2_setEntry l0 l1 l2 l3 l4 l5 l6 m = some r) : CTv yX2_setEntry cX2_setEntry 7 rm_X2_setEntry [.ref l0, vi l1, vi l2, vi l3, vi l4, vi l5, vi l6] m r := CT_v (by decide +kernel) rfl (Nat.le_of_ble_eq_true rfl) (ok_X2_setEntry _ _ _ _ _ _ _ _ hs0 hr1 hr2 hr3 hr4 hr5 hr6 E)
theorem hy_X2_setEntry : yX2_setEntry.cls = RX2 ∧ yX2_setEntry.cls ≠ "java/lang/invoke/MethodHandle" ∧ yX2_setEntry.cls ≠ "java/lang/invoke/VarHandle" ∧ (parseMethodDescriptor yX2_setEntry.desc).map (fun d => d.parameters.length) = some 6 := by decide +kernel
end
section
abbrev rm_X2_insertEntry : Room := { frames := 2, cells := 0, slots := 0, locals := 49 }
noncomputable def f_X2_insertEntry (l0 : Nat) (l1 : Int) (l2 : Int) (l3 : Int) (l4 : Int) (l5 : Int) (m : Mem) : Option (Int × Mem) :=
  (f_X2_isDirectoryFull l0 m).bind (fun q1 => if q1.1 = 0 then
((f_X2_namesBelow l0 l1 q1.2).bind (fun q4 => mmK (inR (q4.1 + 1)) (mmK (inR ((q4.2.1 l0 5) - q4.1)) ((f_X2_moveEntries l0 q4.1 (q4.1 + 1) ((q4.2.1 l0 5) - q4.1) q4.2).bind (fun q9 => mmK (inR ((q9.1 l0 5) + 1)) ((f_X2_setEntry l0 q4.1 l1 l2 l3 l4 l5 (mwr q9 l0 5 ((q9.1 l0 5) + 1))).bind (fun q13 => some (q4.1, q13))))))))
else
(some ((-6), q1.2)))
set_option maxRecDepth 100000 in
set_option maxHeartbeats 4000000 in
theorem ok_X2_insertEntry {r : Int × Mem} : ∀ (l0 : Nat) (l1 : Int) (l2 : Int) (l3 : Int) (l4 : Int) (l5 : Int) (m : Mem), mmSh[l0]? = some (.inl 2) → inR l1 → inR l2 → inR l3 → inR l4 → inR l5 → f_X2_insertEntry l0 l1 l2 l3 l4 l5 m = some r → VV RX2 cX2_insertEntry 7 rm_X2_insertEntry mmG0 (mmPi r) 0 [(0, .ref l0), (1, vi l1), (2, vi l2), (3, vi l3), (4, vi l4), (5, vi l5)] [] m := by
  intro l0 l1 l2 l3 l4 l5 m hs0 hr1 hr2 hr3 hr4 hr5 E
  unfold f_X2_insertEntry at E
  refine V_aload_n 0 dX2_insertEntry_0 rfl ?_
  obtain ⟨q1, hq1, E⟩ := mmB_e E
  refine V_callV (ci := 2) (q := (RX2, TX2, 10)) (Cn := RX2) (st := []) 0 dX2_insertEntry_1 (ct_X2_isDirectoryFull hs0 hq1) ml_X2_66 im_X2_isDirectoryFull sl_X2_isDirectoryFull it_X2 cd_X2_isDirectoryFull hy_X2_isDirectoryFull ⟨rfl, rfl, by decide, by decide⟩ hs0 rfl rfl rfl rfl (Nat.le_of_ble_eq_true rfl) (fun hv2 => ?_)
  refine V_if_eq 10 dX2_insertEntry_4 (by decide) hv2 (fun c3 => ?_) (fun c3 => ?_)
  · replace E := mmI_t c3 E
    refine V_aload_n 0 dX2_insertEntry_10 rfl ?_
    refine V_iload_n 1 dX2_insertEntry_11 rfl ?_
    obtain ⟨q4, hq4, E⟩ := mmB_e E
    refine V_callV (ci := 2) (q := (RX2, TX2, 10)) (Cn := RX2) (st := []) 1 dX2_insertEntry_12 (ct_X2_namesBelow hs0 hr1 hq4) ml_X2_123 im_X2_namesBelow sl_X2_namesBelow it_X2 cd_X2_namesBelow hy_X2_namesBelow ⟨rfl, rfl, by decide, by decide⟩ hs0 rfl rfl rfl rfl (Nat.le_of_ble_eq_true rfl) (fun hv5 => ?_)
    refine V_istore (lv' := [(0, .ref l0), (1, vi l1), (2, vi l2), (3, vi l3), (4, vi l4), (5, vi l5), (6, vi q4.1)]) dX2_insertEntry_15 rfl rfl ?_
    refine V_aload_n 0 dX2_insertEntry_17 rfl ?_
    refine V_iload 6 dX2_insertEntry_18 rfl ?_
    refine V_iload 6 dX2_insertEntry_20 rfl ?_
    refine V_iconst dX2_insertEntry_22 rfl ?_
    obtain ⟨hv6, E⟩ := mmK_e E
    refine V_iadd dX2_insertEntry_23 ?_
    refine V_aload_n 0 dX2_insertEntry_24 rfl ?_
    refine V_geti (ci := 2) (k := 5) (N := 10) (T := TX2) (v := (q4.2.1 l0 5)) dX2_insertEntry_25 iuX2 fl_X2_27 rfl (by decide) rfl hs0 (by first | rfl | simp [mwr]) (fun hv7 => ?_)
    refine V_iload 6 dX2_insertEntry_28 rfl ?_
    obtain ⟨hv8, E⟩ := mmK_e E
    refine V_isub dX2_insertEntry_30 ?_
    obtain ⟨q9, hq9, E⟩ := mmB_e E
    refine V_callVv (ci := 2) (q := (RX2, TX2, 10)) (Cn := RX2) (st := []) 3 dX2_insertEntry_31 (ct_X2_moveEntries hs0 hv5 hv6 hv8 hq9) ml_X2_138 im_X2_moveEntries sl_X2_moveEntries it_X2 cd_X2_moveEntries hy_X2_moveEntries ⟨rfl, rfl, by decide, by decide⟩ hs0 rfl rfl rfl rfl (Nat.le_of_ble_eq_true rfl) ?_
    refine V_aload_n 0 dX2_insertEntry_34 rfl ?_
    refine V_dupa dX2_insertEntry_35 ?_
    refine V_geti (ci := 2) (k := 5) (N := 10) (T := TX2) (v := (q9.1 l0 5)) dX2_insertEntry_36 iuX2 fl_X2_27 rfl (by decide) rfl hs0 (by first | rfl | simp [mwr]) (fun hv11 => ?_)
    refine V_iconst dX2_insertEntry_39 rfl ?_
    obtain ⟨hv12, E⟩ := mmK_e E
    refine V_iadd dX2_insertEntry_40 ?_
    refine V_put (ci := 2) (k := 5) (N := 10) (T := TX2) (x := ((q9.1 l0 5) + 1)) (ty := .int) tyX2 dX2_insertEntry_41 iuX2 tyX2_ok nmX2 fl_X2_27 rfl (by decide) rfl hs0 rfl (by decide +kernel) rfl rfl hv12 ?_
    refine V_aload_n 0 dX2_insertEntry_44 rfl ?_
    refine V_iload 6 dX2_insertEntry_45 rfl ?_
    refine V_iload_n 1 dX2_insertEntry_47 rfl ?_
    refine V_iload_n 2 dX2_insertEntry_48 rfl ?_
    refine V_iload_n 3 dX2_insertEntry_49 rfl ?_
    refine V_iload 4 dX2_insertEntry_50 rfl ?_
    refine V_iload 5 dX2_insertEntry_52 rfl ?_
    obtain ⟨q13, hq13, E⟩ := mmB_e E
    refine V_callVv (ci := 2) (q := (RX2, TX2, 10)) (Cn := RX2) (st := []) 6 dX2_insertEntry_54 (ct_X2_setEntry hs0 hv5 hr1 hr2 hr3 hr4 hr5 hq13) ml_X2_83 im_X2_setEntry sl_X2_setEntry it_X2 cd_X2_setEntry hy_X2_setEntry ⟨rfl, rfl, by decide, by decide⟩ hs0 rfl rfl rfl rfl (Nat.le_of_ble_eq_true rfl) ?_
    refine V_iload 6 dX2_insertEntry_57 rfl ?_
    obtain rfl := Option.some.inj E
    exact V_reti dX2_insertEntry_59 ⟨rfl, rfl, hv5⟩
  · replace E := mmI_f c3 E
    refine V_bipush (v := (-6)) dX2_insertEntry_7 (by decide) ?_
    obtain rfl := Option.some.inj E
    exact V_reti dX2_insertEntry_9 ⟨rfl, rfl, ir_m6⟩
theorem ct_X2_insertEntry {l0 : Nat} {l1 : Int} {l2 : Int} {l3 : Int} {l4 : Int} {l5 : Int} {m : Mem} {r : Int × Mem} (hs0 : mmSh[l0]? = some (.inl 2)) (hr1 : inR l1) (hr2 : inR l2) (hr3 : inR l3) (hr4 : inR l4) (hr5 : inR l5) (E : f_X2_insertEntry l0 l1 l2 l3 l4 l5 m = some r) : CTi yX2_insertEntry cX2_insertEntry 7 (some .int) rm_X2_insertEntry [.ref l0, vi l1, vi l2, vi l3, vi l4, vi l5] m r := CT_i (by decide +kernel) rfl (Nat.le_of_ble_eq_true rfl) (ok_X2_insertEntry _ _ _ _ _ _ _ hs0 hr1 hr2 hr3 hr4 hr5 E)
theorem hy_X2_insertEntry : yX2_insertEntry.cls = RX2 ∧ yX2_insertEntry.cls ≠ "java/lang/invoke/MethodHandle" ∧ yX2_insertEntry.cls ≠ "java/lang/invoke/VarHandle" ∧ (parseMethodDescriptor yX2_insertEntry.desc).map (fun d => d.parameters.length) = some 5 := by decide +kernel
abbrev rm_X2_addMember : Room := { frames := 3, cells := 0, slots := 0, locals := 75 }
noncomputable def f_X2_addMember (l0 : Nat) (l1 : Int) (l2 : Int) (l3 : Int) (m : Mem) : Option (Int × Mem) :=
  (f_X2_isName l1 m).bind (fun q1 => if q1.1 = 0 then
(some ((-2), q1.2))
else
((f_X2_isLength l2 q1.2).bind (fun q4 => if q4.1 = 0 then
(some ((-2), q4.2))
else
((f_X2_isMark l3 q4.2).bind (fun q7 => if q7.1 = 0 then
(some ((-2), q7.2))
else
((f_X2_rankOf l0 l1 q7.2).bind (fun q10 => (f_X2_isRank l0 q10.1 q10.2).bind (fun q12 => if q12.1 = 0 then
((f_X2_isDirectoryFull l0 q12.2).bind (fun q15 => if q15.1 = 0 then
((f_X2_hasRoom l0 l2 q15.2).bind (fun q18 => if q18.1 = 0 then
(some ((-3), q18.2))
else
((f_X2_layText l0 l2 q18.2).bind (fun q21 => (f_X2_insertEntry l0 l1 (-5) q21.1 l2 l3 q21.2).bind (fun q23 => some (q21.1, q23.2))))))
else
(some ((-6), q15.2))))
else
(some ((-7), q12.2))))))))))
set_option maxRecDepth 100000 in
set_option maxHeartbeats 4000000 in
theorem ok_X2_addMember {r : Int × Mem} : ∀ (l0 : Nat) (l1 : Int) (l2 : Int) (l3 : Int) (m : Mem), mmSh[l0]? = some (.inl 2) → inR l1 → inR l2 → inR l3 → f_X2_addMember l0 l1 l2 l3 m = some r → VV RX2 cX2_addMember 5 rm_X2_addMember mmG0 (mmPi r) 0 [(0, .ref l0), (1, vi l1), (2, vi l2), (3, vi l3)] [] m := by
  intro l0 l1 l2 l3 m hs0 hr1 hr2 hr3 E
  unfold f_X2_addMember at E
  refine V_iload_n 1 dX2_addMember_0 rfl ?_
  obtain ⟨q1, hq1, E⟩ := mmB_e E
  refine V_callS (st := []) 1 dX2_addMember_1 (ct_X2_isName hr1 hq1) ml_X2_49 st_X2_isName it_X2 cd_X2_isName hz_X2_isName ⟨rfl, rfl, by decide, by decide⟩ rfl rfl (Nat.le_of_ble_eq_true rfl) (fun hv2 => ?_)
  refine V_if_eq 21 dX2_addMember_4 (by decide) hv2 (fun c3 => ?_) (fun c3 => ?_)
  · replace E := mmI_t c3 E
    refine V_bipush (v := (-2)) dX2_addMember_21 (by decide) ?_
    obtain rfl := Option.some.inj E
    exact V_reti dX2_addMember_23 ⟨rfl, rfl, ir_m2⟩
  · replace E := mmI_f c3 E
    refine V_iload_n 2 dX2_addMember_7 rfl ?_
    obtain ⟨q4, hq4, E⟩ := mmB_e E
    refine V_callS (st := []) 1 dX2_addMember_8 (ct_X2_isLength hr2 hq4) ml_X2_53 st_X2_isLength it_X2 cd_X2_isLength hz_X2_isLength ⟨rfl, rfl, by decide, by decide⟩ rfl rfl (Nat.le_of_ble_eq_true rfl) (fun hv5 => ?_)
    refine V_if_eq 21 dX2_addMember_11 (by decide) hv5 (fun c6 => ?_) (fun c6 => ?_)
    · replace E := mmI_t c6 E
      refine V_bipush (v := (-2)) dX2_addMember_21 (by decide) ?_
      obtain rfl := Option.some.inj E
      exact V_reti dX2_addMember_23 ⟨rfl, rfl, ir_m2⟩
    · replace E := mmI_f c6 E
      refine V_iload_n 3 dX2_addMember_14 rfl ?_
      obtain ⟨q7, hq7, E⟩ := mmB_e E
      refine V_callS (st := []) 1 dX2_addMember_15 (ct_X2_isMark hr3 hq7) ml_X2_56 st_X2_isMark it_X2 cd_X2_isMark hz_X2_isMark ⟨rfl, rfl, by decide, by decide⟩ rfl rfl (Nat.le_of_ble_eq_true rfl) (fun hv8 => ?_)
      refine V_if_ne 24 dX2_addMember_18 (by decide) hv8 (fun c9 => ?_) (fun c9 => ?_)
      · replace E := mmI_f c9 E
        refine V_aload_n 0 dX2_addMember_24 rfl ?_
        refine V_aload_n 0 dX2_addMember_25 rfl ?_
        refine V_iload_n 1 dX2_addMember_26 rfl ?_
        obtain ⟨q10, hq10, E⟩ := mmB_e E
        refine V_callV (ci := 2) (q := (RX2, TX2, 10)) (Cn := RX2) (st := [.ref l0]) 1 dX2_addMember_27 (ct_X2_rankOf hs0 hr1 hq10) ml_X2_59 im_X2_rankOf sl_X2_rankOf it_X2 cd_X2_rankOf hy_X2_rankOf ⟨rfl, rfl, by decide, by decide⟩ hs0 rfl rfl rfl rfl (Nat.le_of_ble_eq_true rfl) (fun hv11 => ?_)
        obtain ⟨q12, hq12, E⟩ := mmB_e E
        refine V_callV (ci := 2) (q := (RX2, TX2, 10)) (Cn := RX2) (st := []) 1 dX2_addMember_30 (ct_X2_isRank hs0 hv11 hq12) ml_X2_63 im_X2_isRank sl_X2_isRank it_X2 cd_X2_isRank hy_X2_isRank ⟨rfl, rfl, by decide, by decide⟩ hs0 rfl rfl rfl rfl (Nat.le_of_ble_eq_true rfl) (fun hv13 => ?_)
        refine V_if_eq 39 dX2_addMember_33 (by decide) hv13 (fun c14 => ?_) (fun c14 => ?_)
        · replace E := mmI_t c14 E
          refine V_aload_n 0 dX2_addMember_39 rfl ?_
          obtain ⟨q15, hq15, E⟩ := mmB_e E
          refine V_callV (ci := 2) (q := (RX2, TX2, 10)) (Cn := RX2) (st := []) 0 dX2_addMember_40 (ct_X2_isDirectoryFull hs0 hq15) ml_X2_66 im_X2_isDirectoryFull sl_X2_isDirectoryFull it_X2 cd_X2_isDirectoryFull hy_X2_isDirectoryFull ⟨rfl, rfl, by decide, by decide⟩ hs0 rfl rfl rfl rfl (Nat.le_of_ble_eq_true rfl) (fun hv16 => ?_)
          refine V_if_eq 49 dX2_addMember_43 (by decide) hv16 (fun c17 => ?_) (fun c17 => ?_)
          · replace E := mmI_t c17 E
            refine V_aload_n 0 dX2_addMember_49 rfl ?_
            refine V_iload_n 2 dX2_addMember_50 rfl ?_
            obtain ⟨q18, hq18, E⟩ := mmB_e E
            refine V_callV (ci := 2) (q := (RX2, TX2, 10)) (Cn := RX2) (st := []) 1 dX2_addMember_51 (ct_X2_hasRoom hs0 hr2 hq18) ml_X2_70 im_X2_hasRoom sl_X2_hasRoom it_X2 cd_X2_hasRoom hy_X2_hasRoom ⟨rfl, rfl, by decide, by decide⟩ hs0 rfl rfl rfl rfl (Nat.le_of_ble_eq_true rfl) (fun hv19 => ?_)
            refine V_if_ne 60 dX2_addMember_54 (by decide) hv19 (fun c20 => ?_) (fun c20 => ?_)
            · replace E := mmI_f c20 E
              refine V_aload_n 0 dX2_addMember_60 rfl ?_
              refine V_iload_n 2 dX2_addMember_61 rfl ?_
              obtain ⟨q21, hq21, E⟩ := mmB_e E
              refine V_callV (ci := 2) (q := (RX2, TX2, 10)) (Cn := RX2) (st := []) 1 dX2_addMember_62 (ct_X2_layText hs0 hr2 hq21) ml_X2_73 im_X2_layText sl_X2_layText it_X2 cd_X2_layText hy_X2_layText ⟨rfl, rfl, by decide, by decide⟩ hs0 rfl rfl rfl rfl (Nat.le_of_ble_eq_true rfl) (fun hv22 => ?_)
              refine V_istore (lv' := [(0, .ref l0), (1, vi l1), (2, vi l2), (3, vi l3), (4, vi q21.1)]) dX2_addMember_65 rfl rfl ?_
              refine V_aload_n 0 dX2_addMember_67 rfl ?_
              refine V_iload_n 1 dX2_addMember_68 rfl ?_
              refine V_bipush (v := (-5)) dX2_addMember_69 (by decide) ?_
              refine V_iload 4 dX2_addMember_71 rfl ?_
              refine V_iload_n 2 dX2_addMember_73 rfl ?_
              refine V_iload_n 3 dX2_addMember_74 rfl ?_
              obtain ⟨q23, hq23, E⟩ := mmB_e E
              refine V_callV (ci := 2) (q := (RX2, TX2, 10)) (Cn := RX2) (st := []) 5 dX2_addMember_75 (ct_X2_insertEntry hs0 hr1 ir_m5 hv22 hr2 hr3 hq23) ml_X2_76 im_X2_insertEntry sl_X2_insertEntry it_X2 cd_X2_insertEntry hy_X2_insertEntry ⟨rfl, rfl, by decide, by decide⟩ hs0 rfl rfl rfl rfl (Nat.le_of_ble_eq_true rfl) (fun hv24 => ?_)
              refine V_popi dX2_addMember_78 ?_
              refine V_iload 4 dX2_addMember_79 rfl ?_
              obtain rfl := Option.some.inj E
              exact V_reti dX2_addMember_81 ⟨rfl, rfl, hv22⟩
            · replace E := mmI_t c20 E
              refine V_bipush (v := (-3)) dX2_addMember_57 (by decide) ?_
              obtain rfl := Option.some.inj E
              exact V_reti dX2_addMember_59 ⟨rfl, rfl, ir_m3⟩
          · replace E := mmI_f c17 E
            refine V_bipush (v := (-6)) dX2_addMember_46 (by decide) ?_
            obtain rfl := Option.some.inj E
            exact V_reti dX2_addMember_48 ⟨rfl, rfl, ir_m6⟩
        · replace E := mmI_f c14 E
          refine V_bipush (v := (-7)) dX2_addMember_36 (by decide) ?_
          obtain rfl := Option.some.inj E
          exact V_reti dX2_addMember_38 ⟨rfl, rfl, ir_m7⟩
      · replace E := mmI_t c9 E
        refine V_bipush (v := (-2)) dX2_addMember_21 (by decide) ?_
        obtain rfl := Option.some.inj E
        exact V_reti dX2_addMember_23 ⟨rfl, rfl, ir_m2⟩
theorem ct_X2_addMember {l0 : Nat} {l1 : Int} {l2 : Int} {l3 : Int} {m : Mem} {r : Int × Mem} (hs0 : mmSh[l0]? = some (.inl 2)) (hr1 : inR l1) (hr2 : inR l2) (hr3 : inR l3) (E : f_X2_addMember l0 l1 l2 l3 m = some r) : CTi yX2_addMember cX2_addMember 5 (some .int) rm_X2_addMember [.ref l0, vi l1, vi l2, vi l3] m r := CT_i (by decide +kernel) rfl (Nat.le_of_ble_eq_true rfl) (ok_X2_addMember _ _ _ _ _ hs0 hr1 hr2 hr3 E)
theorem hy_X2_addMember : yX2_addMember.cls = RX2 ∧ yX2_addMember.cls ≠ "java/lang/invoke/MethodHandle" ∧ yX2_addMember.cls ≠ "java/lang/invoke/VarHandle" ∧ (parseMethodDescriptor yX2_addMember.desc).map (fun d => d.parameters.length) = some 3 := by decide +kernel
abbrev rm_X2_isMember : Room := { frames := 1, cells := 0, slots := 0, locals := 21 }
noncomputable def f_X2_isMember (l0 : Nat) (l1 : Int) (m : Mem) : Option (Int × Mem) :=
  (f_X2_isRank l0 l1 m).bind (fun q1 => if q1.1 = 0 then
(some (0, q1.2))
else
(mmK (0 ≤ l1 ∧ l1 < 24) (if (q1.2.1 (l0 + 2) (l1).toNat) = (-5) then
(some (1, q1.2))
else
(some (0, q1.2)))))
set_option maxRecDepth 100000 in
set_option maxHeartbeats 4000000 in
theorem ok_X2_isMember {r : Int × Mem} : ∀ (l0 : Nat) (l1 : Int) (m : Mem), mmSh[l0]? = some (.inl 2) → inR l1 → f_X2_isMember l0 l1 m = some r → VV RX2 cX2_isMember 2 rm_X2_isMember mmG0 (mmPz r) 0 [(0, .ref l0), (1, vi l1)] [] m := by
  intro l0 l1 m hs0 hr1 E
  unfold f_X2_isMember at E
  refine V_aload_n 0 dX2_isMember_0 rfl ?_
  refine V_iload_n 1 dX2_isMember_1 rfl ?_
  obtain ⟨q1, hq1, E⟩ := mmB_e E
  refine V_callV (ci := 2) (q := (RX2, TX2, 10)) (Cn := RX2) (st := []) 1 dX2_isMember_2 (ct_X2_isRank hs0 hr1 hq1) ml_X2_63 im_X2_isRank sl_X2_isRank it_X2 cd_X2_isRank hy_X2_isRank ⟨rfl, rfl, by decide, by decide⟩ hs0 rfl rfl rfl rfl (Nat.le_of_ble_eq_true rfl) (fun hv2 => ?_)
  refine V_if_eq 23 dX2_isMember_5 (by decide) hv2 (fun c3 => ?_) (fun c3 => ?_)
  · replace E := mmI_t c3 E
    refine V_iconst dX2_isMember_23 rfl ?_
    obtain rfl := Option.some.inj E
    exact V_reti dX2_isMember_24 ⟨rfl, rfl, (Or.inl rfl)⟩
  · replace E := mmI_f c3 E
    refine V_aload_n 0 dX2_isMember_8 rfl ?_
    refine V_geta (ci := 2) (k := 1) (N := 10) (T := TX2) (o' := (l0 + 2)) dX2_isMember_9 iuX2 fl_X2_15 rfl (by decide) rfl hs0 rfl ?_
    refine V_iload_n 1 dX2_isMember_12 rfl ?_
    obtain ⟨hv4, E⟩ := mmK_e E
    refine V_iald (n := 24) (j := (l1).toNat) (v := (q1.2.1 (l0 + 2) (l1).toNat)) dX2_isMember_13 (mmS2 hs0) hr1 hv4 rfl (by first | rfl | simp [mwr]) (fun hv5 => ?_)
    refine V_bipush (v := (-5)) dX2_isMember_14 (by decide) ?_
    refine V_icmp_ne 23 dX2_isMember_16 (by decide) hv5 ir_m5 (fun c6 => ?_) (fun c6 => ?_)
    · replace E := mmI_f c6 E
      refine V_iconst dX2_isMember_23 rfl ?_
      obtain rfl := Option.some.inj E
      exact V_reti dX2_isMember_24 ⟨rfl, rfl, (Or.inl rfl)⟩
    · replace E := mmI_t c6 E
      refine V_iconst dX2_isMember_19 rfl ?_
      refine V_goto 24 dX2_isMember_20 (by decide) ?_
      obtain rfl := Option.some.inj E
      exact V_reti dX2_isMember_24 ⟨rfl, rfl, (Or.inr rfl)⟩
theorem ct_X2_isMember {l0 : Nat} {l1 : Int} {m : Mem} {r : Int × Mem} (hs0 : mmSh[l0]? = some (.inl 2)) (hr1 : inR l1) (E : f_X2_isMember l0 l1 m = some r) : CTi yX2_isMember cX2_isMember 2 (some .boolean) rm_X2_isMember [.ref l0, vi l1] m r := CT_z (by decide +kernel) rfl (Nat.le_of_ble_eq_true rfl) (ok_X2_isMember _ _ _ hs0 hr1 E)
theorem hy_X2_isMember : yX2_isMember.cls = RX2 ∧ yX2_isMember.cls ≠ "java/lang/invoke/MethodHandle" ∧ yX2_isMember.cls ≠ "java/lang/invoke/VarHandle" ∧ (parseMethodDescriptor yX2_isMember.desc).map (fun d => d.parameters.length) = some 1 := by decide +kernel
abbrev rm_X2_giveAlias : Room := { frames := 3, cells := 0, slots := 0, locals := 75 }
noncomputable def f_X2_giveAlias_L122 (l0 : Nat) (l1 : Int) (l2 : Int) (l3 : Int) (l4 : Int) (l5 : Int) (m : Mem) : Option (Int × Mem) :=
  mmK (0 ≤ l3 ∧ l3 < 24) (mmK (0 ≤ l3 ∧ l3 < 24) ((f_X2_setEntry l0 l4 l1 l2 l5 (m.1 (l0 + 4) (l3).toNat) (m.1 (l0 + 5) (l3).toNat) m).bind (fun q26 => some (l5, q26))))
set_option maxRecDepth 100000 in
set_option maxHeartbeats 4000000 in
theorem ok_X2_giveAlias_L122 {r : Int × Mem} : ∀ (l0 : Nat) (l1 : Int) (l2 : Int) (l3 : Int) (l4 : Int) (l5 : Int) (m : Mem), mmSh[l0]? = some (.inl 2) → inR l1 → inR l2 → inR l3 → inR l4 → inR l5 → f_X2_giveAlias_L122 l0 l1 l2 l3 l4 l5 m = some r → VV RX2 cX2_giveAlias 6 rm_X2_giveAlias mmG0 (mmPi r) 122 [(0, .ref l0), (1, vi l1), (2, vi l2), (3, vi l3), (4, vi l4), (5, vi l5)] [] m := by
  intro l0 l1 l2 l3 l4 l5 m hs0 hr1 hr2 hr3 hr4 hr5 E
  unfold f_X2_giveAlias_L122 at E
  refine V_aload_n 0 dX2_giveAlias_122 rfl ?_
  refine V_iload 4 dX2_giveAlias_123 rfl ?_
  refine V_iload_n 1 dX2_giveAlias_125 rfl ?_
  refine V_iload_n 2 dX2_giveAlias_126 rfl ?_
  refine V_iload 5 dX2_giveAlias_127 rfl ?_
  refine V_aload_n 0 dX2_giveAlias_129 rfl ?_
  refine V_geta (ci := 2) (k := 3) (N := 10) (T := TX2) (o' := (l0 + 4)) dX2_giveAlias_130 iuX2 fl_X2_21 rfl (by decide) rfl hs0 rfl ?_
  refine V_iload_n 3 dX2_giveAlias_133 rfl ?_
  obtain ⟨hv22, E⟩ := mmK_e E
  refine V_iald (n := 24) (j := (l3).toNat) (v := (m.1 (l0 + 4) (l3).toNat)) dX2_giveAlias_134 (mmS4 hs0) hr3 hv22 rfl (by first | rfl | simp [mwr]) (fun hv23 => ?_)
  refine V_aload_n 0 dX2_giveAlias_135 rfl ?_
  refine V_geta (ci := 2) (k := 4) (N := 10) (T := TX2) (o' := (l0 + 5)) dX2_giveAlias_136 iuX2 fl_X2_24 rfl (by decide) rfl hs0 rfl ?_
  refine V_iload_n 3 dX2_giveAlias_139 rfl ?_
  obtain ⟨hv24, E⟩ := mmK_e E
  refine V_iald (n := 24) (j := (l3).toNat) (v := (m.1 (l0 + 5) (l3).toNat)) dX2_giveAlias_140 (mmS5 hs0) hr3 hv24 rfl (by first | rfl | simp [mwr]) (fun hv25 => ?_)
  obtain ⟨q26, hq26, E⟩ := mmB_e E
  refine V_callVv (ci := 2) (q := (RX2, TX2, 10)) (Cn := RX2) (st := []) 6 dX2_giveAlias_141 (ct_X2_setEntry hs0 hr4 hr1 hr2 hr5 hv23 hv25 hq26) ml_X2_83 im_X2_setEntry sl_X2_setEntry it_X2 cd_X2_setEntry hy_X2_setEntry ⟨rfl, rfl, by decide, by decide⟩ hs0 rfl rfl rfl rfl (Nat.le_of_ble_eq_true rfl) ?_
  refine V_iload 5 dX2_giveAlias_144 rfl ?_
  obtain rfl := Option.some.inj E
  exact V_reti dX2_giveAlias_146 ⟨rfl, rfl, hr5⟩
noncomputable def f_X2_giveAlias (l0 : Nat) (l1 : Int) (l2 : Int) (m : Mem) : Option (Int × Mem) :=
  (f_X2_rankOf l0 l2 m).bind (fun q1 => (f_X2_isMember l0 q1.1 q1.2).bind (fun q3 => if q3.1 = 0 then
(some ((-1), q3.2))
else
((f_X2_isName l1 q3.2).bind (fun q6 => if q6.1 = 0 then
(some ((-2), q6.2))
else
((f_X2_rankOf l0 l1 q6.2).bind (fun q9 => (f_X2_isMember l0 q9.1 q9.2).bind (fun q11 => if q11.1 = 0 then
(mmK (0 ≤ q1.1 ∧ q1.1 < 24) ((f_X2_isRank l0 q9.1 q11.2).bind (fun q16 => if q16.1 = 0 then
((f_X2_isDirectoryFull l0 q16.2).bind (fun q31 => if q31.1 = 0 then
(mmK (0 ≤ q1.1 ∧ q1.1 < 24) (mmK (0 ≤ q1.1 ∧ q1.1 < 24) ((f_X2_insertEntry l0 l1 l2 (q11.2.1 (l0 + 3) (q1.1).toNat) (q31.2.1 (l0 + 4) (q1.1).toNat) (q31.2.1 (l0 + 5) (q1.1).toNat) q31.2).bind (fun q38 => some ((q11.2.1 (l0 + 3) (q1.1).toNat), q38.2)))))
else
(some ((-6), q31.2))))
else
(mmK (0 ≤ q9.1 ∧ q9.1 < 24) (if (q16.2.1 (l0 + 3) (q9.1).toNat) = (q11.2.1 (l0 + 3) (q1.1).toNat) then
(mmK (0 ≤ q9.1 ∧ q9.1 < 24) (if (q16.2.1 (l0 + 2) (q9.1).toNat) = l2 then
(some ((-5), q16.2))
else
(f_X2_giveAlias_L122 l0 l1 l2 q1.1 q9.1 (q11.2.1 (l0 + 3) (q1.1).toNat) q16.2)))
else
(f_X2_giveAlias_L122 l0 l1 l2 q1.1 q9.1 (q11.2.1 (l0 + 3) (q1.1).toNat) q16.2))))))
else
(some ((-7), q11.2)))))))))
set_option maxRecDepth 100000 in
set_option maxHeartbeats 4000000 in
theorem ok_X2_giveAlias {r : Int × Mem} : ∀ (l0 : Nat) (l1 : Int) (l2 : Int) (m : Mem), mmSh[l0]? = some (.inl 2) → inR l1 → inR l2 → f_X2_giveAlias l0 l1 l2 m = some r → VV RX2 cX2_giveAlias 6 rm_X2_giveAlias mmG0 (mmPi r) 0 [(0, .ref l0), (1, vi l1), (2, vi l2)] [] m := by
  intro l0 l1 l2 m hs0 hr1 hr2 E
  unfold f_X2_giveAlias at E
  refine V_aload_n 0 dX2_giveAlias_0 rfl ?_
  refine V_iload_n 2 dX2_giveAlias_1 rfl ?_
  obtain ⟨q1, hq1, E⟩ := mmB_e E
  refine V_callV (ci := 2) (q := (RX2, TX2, 10)) (Cn := RX2) (st := []) 1 dX2_giveAlias_2 (ct_X2_rankOf hs0 hr2 hq1) ml_X2_59 im_X2_rankOf sl_X2_rankOf it_X2 cd_X2_rankOf hy_X2_rankOf ⟨rfl, rfl, by decide, by decide⟩ hs0 rfl rfl rfl rfl (Nat.le_of_ble_eq_true rfl) (fun hv2 => ?_)
  refine V_istore_n (i := 3) (lv' := [(0, .ref l0), (1, vi l1), (2, vi l2), (3, vi q1.1)]) dX2_giveAlias_5 rfl rfl rfl ?_
  refine V_aload_n 0 dX2_giveAlias_6 rfl ?_
  refine V_iload_n 3 dX2_giveAlias_7 rfl ?_
  obtain ⟨q3, hq3, E⟩ := mmB_e E
  refine V_callV (ci := 2) (q := (RX2, TX2, 10)) (Cn := RX2) (st := []) 1 dX2_giveAlias_8 (ct_X2_isMember hs0 hv2 hq3) ml_X2_80 im_X2_isMember sl_X2_isMember it_X2 cd_X2_isMember hy_X2_isMember ⟨rfl, rfl, by decide, by decide⟩ hs0 rfl rfl rfl rfl (Nat.le_of_ble_eq_true rfl) (fun hv4 => ?_)
  refine V_if_ne 16 dX2_giveAlias_11 (by decide) hv4 (fun c5 => ?_) (fun c5 => ?_)
  · replace E := mmI_f c5 E
    refine V_iload_n 1 dX2_giveAlias_16 rfl ?_
    obtain ⟨q6, hq6, E⟩ := mmB_e E
    refine V_callS (st := []) 1 dX2_giveAlias_17 (ct_X2_isName hr1 hq6) ml_X2_49 st_X2_isName it_X2 cd_X2_isName hz_X2_isName ⟨rfl, rfl, by decide, by decide⟩ rfl rfl (Nat.le_of_ble_eq_true rfl) (fun hv7 => ?_)
    refine V_if_ne 26 dX2_giveAlias_20 (by decide) hv7 (fun c8 => ?_) (fun c8 => ?_)
    · replace E := mmI_f c8 E
      refine V_aload_n 0 dX2_giveAlias_26 rfl ?_
      refine V_iload_n 1 dX2_giveAlias_27 rfl ?_
      obtain ⟨q9, hq9, E⟩ := mmB_e E
      refine V_callV (ci := 2) (q := (RX2, TX2, 10)) (Cn := RX2) (st := []) 1 dX2_giveAlias_28 (ct_X2_rankOf hs0 hr1 hq9) ml_X2_59 im_X2_rankOf sl_X2_rankOf it_X2 cd_X2_rankOf hy_X2_rankOf ⟨rfl, rfl, by decide, by decide⟩ hs0 rfl rfl rfl rfl (Nat.le_of_ble_eq_true rfl) (fun hv10 => ?_)
      refine V_istore (lv' := [(0, .ref l0), (1, vi l1), (2, vi l2), (3, vi q1.1), (4, vi q9.1)]) dX2_giveAlias_31 rfl rfl ?_
      refine V_aload_n 0 dX2_giveAlias_33 rfl ?_
      refine V_iload 4 dX2_giveAlias_34 rfl ?_
      obtain ⟨q11, hq11, E⟩ := mmB_e E
      refine V_callV (ci := 2) (q := (RX2, TX2, 10)) (Cn := RX2) (st := []) 1 dX2_giveAlias_36 (ct_X2_isMember hs0 hv10 hq11) ml_X2_80 im_X2_isMember sl_X2_isMember it_X2 cd_X2_isMember hy_X2_isMember ⟨rfl, rfl, by decide, by decide⟩ hs0 rfl rfl rfl rfl (Nat.le_of_ble_eq_true rfl) (fun hv12 => ?_)
      refine V_if_eq 45 dX2_giveAlias_39 (by decide) hv12 (fun c13 => ?_) (fun c13 => ?_)
      · replace E := mmI_t c13 E
        refine V_aload_n 0 dX2_giveAlias_45 rfl ?_
        refine V_geta (ci := 2) (k := 2) (N := 10) (T := TX2) (o' := (l0 + 3)) dX2_giveAlias_46 iuX2 fl_X2_18 rfl (by decide) rfl hs0 rfl ?_
        refine V_iload_n 3 dX2_giveAlias_49 rfl ?_
        obtain ⟨hv14, E⟩ := mmK_e E
        refine V_iald (n := 24) (j := (q1.1).toNat) (v := (q11.2.1 (l0 + 3) (q1.1).toNat)) dX2_giveAlias_50 (mmS3 hs0) hv2 hv14 rfl (by first | rfl | simp [mwr]) (fun hv15 => ?_)
        refine V_istore (lv' := [(0, .ref l0), (1, vi l1), (2, vi l2), (3, vi q1.1), (4, vi q9.1), (5, vi (q11.2.1 (l0 + 3) (q1.1).toNat))]) dX2_giveAlias_51 rfl rfl ?_
        refine V_aload_n 0 dX2_giveAlias_53 rfl ?_
        refine V_iload 4 dX2_giveAlias_54 rfl ?_
        obtain ⟨q16, hq16, E⟩ := mmB_e E
        refine V_callV (ci := 2) (q := (RX2, TX2, 10)) (Cn := RX2) (st := []) 1 dX2_giveAlias_56 (ct_X2_isRank hs0 hv10 hq16) ml_X2_63 im_X2_isRank sl_X2_isRank it_X2 cd_X2_isRank hy_X2_isRank ⟨rfl, rfl, by decide, by decide⟩ hs0 rfl rfl rfl rfl (Nat.le_of_ble_eq_true rfl) (fun hv17 => ?_)
        refine V_if_ne 96 dX2_giveAlias_59 (by decide) hv17 (fun c18 => ?_) (fun c18 => ?_)
        · replace E := mmI_f c18 E
          refine V_aload_n 0 dX2_giveAlias_96 rfl ?_
          refine V_geta (ci := 2) (k := 2) (N := 10) (T := TX2) (o' := (l0 + 3)) dX2_giveAlias_97 iuX2 fl_X2_18 rfl (by decide) rfl hs0 rfl ?_
          refine V_iload 4 dX2_giveAlias_100 rfl ?_
          obtain ⟨hv19, E⟩ := mmK_e E
          refine V_iald (n := 24) (j := (q9.1).toNat) (v := (q16.2.1 (l0 + 3) (q9.1).toNat)) dX2_giveAlias_102 (mmS3 hs0) hv10 hv19 rfl (by first | rfl | simp [mwr]) (fun hv20 => ?_)
          refine V_iload 5 dX2_giveAlias_103 rfl ?_
          refine V_icmp_ne 122 dX2_giveAlias_105 (by decide) hv20 hv15 (fun c21 => ?_) (fun c21 => ?_)
          · replace E := mmI_f c21 E
            exact ok_X2_giveAlias_L122 _ _ _ _ _ _ _ hs0 hr1 hr2 hv2 hv10 hv15 E
          · replace E := mmI_t c21 E
            refine V_aload_n 0 dX2_giveAlias_108 rfl ?_
            refine V_geta (ci := 2) (k := 1) (N := 10) (T := TX2) (o' := (l0 + 2)) dX2_giveAlias_109 iuX2 fl_X2_15 rfl (by decide) rfl hs0 rfl ?_
            refine V_iload 4 dX2_giveAlias_112 rfl ?_
            obtain ⟨hv28, E⟩ := mmK_e E
            refine V_iald (n := 24) (j := (q9.1).toNat) (v := (q16.2.1 (l0 + 2) (q9.1).toNat)) dX2_giveAlias_114 (mmS2 hs0) hv10 hv28 rfl (by first | rfl | simp [mwr]) (fun hv29 => ?_)
            refine V_iload_n 2 dX2_giveAlias_115 rfl ?_
            refine V_icmp_ne 122 dX2_giveAlias_116 (by decide) hv29 hr2 (fun c30 => ?_) (fun c30 => ?_)
            · replace E := mmI_f c30 E
              exact ok_X2_giveAlias_L122 _ _ _ _ _ _ _ hs0 hr1 hr2 hv2 hv10 hv15 E
            · replace E := mmI_t c30 E
              refine V_bipush (v := (-5)) dX2_giveAlias_119 (by decide) ?_
              obtain rfl := Option.some.inj E
              exact V_reti dX2_giveAlias_121 ⟨rfl, rfl, ir_m5⟩
        · replace E := mmI_t c18 E
          refine V_aload_n 0 dX2_giveAlias_62 rfl ?_
          obtain ⟨q31, hq31, E⟩ := mmB_e E
          refine V_callV (ci := 2) (q := (RX2, TX2, 10)) (Cn := RX2) (st := []) 0 dX2_giveAlias_63 (ct_X2_isDirectoryFull hs0 hq31) ml_X2_66 im_X2_isDirectoryFull sl_X2_isDirectoryFull it_X2 cd_X2_isDirectoryFull hy_X2_isDirectoryFull ⟨rfl, rfl, by decide, by decide⟩ hs0 rfl rfl rfl rfl (Nat.le_of_ble_eq_true rfl) (fun hv32 => ?_)
          refine V_if_eq 72 dX2_giveAlias_66 (by decide) hv32 (fun c33 => ?_) (fun c33 => ?_)
          · replace E := mmI_t c33 E
            refine V_aload_n 0 dX2_giveAlias_72 rfl ?_
            refine V_iload_n 1 dX2_giveAlias_73 rfl ?_
            refine V_iload_n 2 dX2_giveAlias_74 rfl ?_
            refine V_iload 5 dX2_giveAlias_75 rfl ?_
            refine V_aload_n 0 dX2_giveAlias_77 rfl ?_
            refine V_geta (ci := 2) (k := 3) (N := 10) (T := TX2) (o' := (l0 + 4)) dX2_giveAlias_78 iuX2 fl_X2_21 rfl (by decide) rfl hs0 rfl ?_
            refine V_iload_n 3 dX2_giveAlias_81 rfl ?_
            obtain ⟨hv34, E⟩ := mmK_e E
            refine V_iald (n := 24) (j := (q1.1).toNat) (v := (q31.2.1 (l0 + 4) (q1.1).toNat)) dX2_giveAlias_82 (mmS4 hs0) hv2 hv34 rfl (by first | rfl | simp [mwr]) (fun hv35 => ?_)
            refine V_aload_n 0 dX2_giveAlias_83 rfl ?_
            refine V_geta (ci := 2) (k := 4) (N := 10) (T := TX2) (o' := (l0 + 5)) dX2_giveAlias_84 iuX2 fl_X2_24 rfl (by decide) rfl hs0 rfl ?_
            refine V_iload_n 3 dX2_giveAlias_87 rfl ?_
            obtain ⟨hv36, E⟩ := mmK_e E
            refine V_iald (n := 24) (j := (q1.1).toNat) (v := (q31.2.1 (l0 + 5) (q1.1).toNat)) dX2_giveAlias_88 (mmS5 hs0) hv2 hv36 rfl (by first | rfl | simp [mwr]) (fun hv37 => ?_)
            obtain ⟨q38, hq38, E⟩ := mmB_e E
            refine V_callV (ci := 2) (q := (RX2, TX2, 10)) (Cn := RX2) (st := []) 5 dX2_giveAlias_89 (ct_X2_insertEntry hs0 hr1 hr2 hv15 hv35 hv37 hq38) ml_X2_76 im_X2_insertEntry sl_X2_insertEntry it_X2 cd_X2_insertEntry hy_X2_insertEntry ⟨rfl, rfl, by decide, by decide⟩ hs0 rfl rfl rfl rfl (Nat.le_of_ble_eq_true rfl) (fun hv39 => ?_)
            refine V_popi dX2_giveAlias_92 ?_
            refine V_iload 5 dX2_giveAlias_93 rfl ?_
            obtain rfl := Option.some.inj E
            exact V_reti dX2_giveAlias_95 ⟨rfl, rfl, hv15⟩
          · replace E := mmI_f c33 E
            refine V_bipush (v := (-6)) dX2_giveAlias_69 (by decide) ?_
            obtain rfl := Option.some.inj E
            exact V_reti dX2_giveAlias_71 ⟨rfl, rfl, ir_m6⟩
      · replace E := mmI_f c13 E
        refine V_bipush (v := (-7)) dX2_giveAlias_42 (by decide) ?_
        obtain rfl := Option.some.inj E
        exact V_reti dX2_giveAlias_44 ⟨rfl, rfl, ir_m7⟩
    · replace E := mmI_t c8 E
      refine V_bipush (v := (-2)) dX2_giveAlias_23 (by decide) ?_
      obtain rfl := Option.some.inj E
      exact V_reti dX2_giveAlias_25 ⟨rfl, rfl, ir_m2⟩
  · replace E := mmI_t c5 E
    refine V_iconst dX2_giveAlias_14 rfl ?_
    obtain rfl := Option.some.inj E
    exact V_reti dX2_giveAlias_15 ⟨rfl, rfl, ir_m1⟩
theorem ct_X2_giveAlias {l0 : Nat} {l1 : Int} {l2 : Int} {m : Mem} {r : Int × Mem} (hs0 : mmSh[l0]? = some (.inl 2)) (hr1 : inR l1) (hr2 : inR l2) (E : f_X2_giveAlias l0 l1 l2 m = some r) : CTi yX2_giveAlias cX2_giveAlias 6 (some .int) rm_X2_giveAlias [.ref l0, vi l1, vi l2] m r := CT_i (by decide +kernel) rfl (Nat.le_of_ble_eq_true rfl) (ok_X2_giveAlias _ _ _ _ hs0 hr1 hr2 E)
theorem hy_X2_giveAlias : yX2_giveAlias.cls = RX2 ∧ yX2_giveAlias.cls ≠ "java/lang/invoke/MethodHandle" ∧ yX2_giveAlias.cls ≠ "java/lang/invoke/VarHandle" ∧ (parseMethodDescriptor yX2_giveAlias.desc).map (fun d => d.parameters.length) = some 2 := by decide +kernel
abbrev rm_X1_makeAdditions : Room := { frames := 4, cells := 0, slots := 0, locals := 100 }
noncomputable def f_X1_makeAdditions_L2 : Nat → Nat → Int → Mem → Option (Int × Mem)
  | 0, _, _, _ => none
  | n + 1, l1, l2, m =>
    if (m.1 45 6) ≤ l2 then
(some ((m.1 45 6), m))
else
(if 12 ≤ l2 then
(some ((m.1 45 6), m))
else
(mmK (0 ≤ l2 ∧ l2 < 12) (if (m.1 48 (l2).toNat) = (-5) then
(mmK (0 ≤ l2 ∧ l2 < 12) (mmK (0 ≤ l2 ∧ l2 < 12) (mmK (0 ≤ l2 ∧ l2 < 12) ((f_X2_addMember l1 (m.1 47 (l2).toNat) (m.1 49 (l2).toNat) (m.1 50 (l2).toNat) m).bind (fun q25 => if 0 ≤ q25.1 then
(mmK (inR (l2 + 1)) (f_X1_makeAdditions_L2 n l1 (l2 + 1) q25.2))
else
(if q25.1 = (-5) then
(mmK (inR (l2 + 1)) (f_X1_makeAdditions_L2 n l1 (l2 + 1) q25.2))
else
(some (q25.1, q25.2))))))))
else
(mmK (0 ≤ l2 ∧ l2 < 12) (mmK (0 ≤ l2 ∧ l2 < 12) ((f_X2_giveAlias l1 (m.1 47 (l2).toNat) (m.1 48 (l2).toNat) m).bind (fun q13 => if 0 ≤ q13.1 then
(mmK (inR (l2 + 1)) (f_X1_makeAdditions_L2 n l1 (l2 + 1) q13.2))
else
(if q13.1 = (-5) then
(mmK (inR (l2 + 1)) (f_X1_makeAdditions_L2 n l1 (l2 + 1) q13.2))
else
(some (q13.1, q13.2))))))))))
set_option maxRecDepth 100000 in
set_option maxHeartbeats 4000000 in
theorem ok_X1_makeAdditions_L2 {r : Int × Mem} : ∀ (n : Nat), ∀ (l1 : Nat) (l2 : Int) (m : Mem), mmSh[l1]? = some (.inl 2) → inR l2 → f_X1_makeAdditions_L2 n l1 l2 m = some r → VV RX1 cX1_makeAdditions 4 rm_X1_makeAdditions mmG0 (mmPi r) 2 [(0, .ref 45), (1, .ref l1), (2, vi l2)] [] m := by
  intro n
  induction n with
  | zero =>
    intro l1 l2 m hs1 hr2 E
    cases E
  | succ n ih =>
    intro l1 l2 m hs1 hr2 E
    rw [f_X1_makeAdditions_L2] at E
    refine V_iload_n 2 dX1_makeAdditions_2 rfl ?_
    refine V_aload_n 0 dX1_makeAdditions_3 rfl ?_
    refine V_geti (ci := 1) (k := 6) (N := 8) (T := TX1) (v := (m.1 45 6)) dX1_makeAdditions_4 iuX1 fl_X1_32 rfl (by decide) rfl sh_45 rfl (fun hv1 => ?_)
    refine V_icmp_ge 87 dX1_makeAdditions_7 (by decide) hr2 hv1 (fun c2 => ?_) (fun c2 => ?_)
    · replace E := mmI_t c2 E
      refine V_aload_n 0 dX1_makeAdditions_87 rfl ?_
      refine V_geti (ci := 1) (k := 6) (N := 8) (T := TX1) (v := (m.1 45 6)) dX1_makeAdditions_88 iuX1 fl_X1_32 rfl (by decide) rfl sh_45 rfl (fun hv3 => ?_)
      obtain rfl := Option.some.inj E
      exact V_reti dX1_makeAdditions_91 ⟨rfl, rfl, hv3⟩
    · replace E := mmI_f c2 E
      refine V_iload_n 2 dX1_makeAdditions_10 rfl ?_
      refine V_bipush (v := 12) dX1_makeAdditions_11 (by decide) ?_
      refine V_icmp_ge 87 dX1_makeAdditions_13 (by decide) hr2 ir_12 (fun c4 => ?_) (fun c4 => ?_)
      · replace E := mmI_t c4 E
        refine V_aload_n 0 dX1_makeAdditions_87 rfl ?_
        refine V_geti (ci := 1) (k := 6) (N := 8) (T := TX1) (v := (m.1 45 6)) dX1_makeAdditions_88 iuX1 fl_X1_32 rfl (by decide) rfl sh_45 rfl (fun hv5 => ?_)
        obtain rfl := Option.some.inj E
        exact V_reti dX1_makeAdditions_91 ⟨rfl, rfl, hv5⟩
      · replace E := mmI_f c4 E
        refine V_aload_n 0 dX1_makeAdditions_16 rfl ?_
        refine V_geta (ci := 1) (k := 3) (N := 8) (T := TX1) (o' := 48) dX1_makeAdditions_17 iuX1 fl_X1_23 rfl (by decide) rfl sh_45 rfl ?_
        refine V_iload_n 2 dX1_makeAdditions_20 rfl ?_
        obtain ⟨hv6, E⟩ := mmK_e E
        refine V_iald (n := 12) (j := (l2).toNat) (v := (m.1 48 (l2).toNat)) dX1_makeAdditions_21 sh_48 hr2 hv6 rfl rfl (fun hv7 => ?_)
        refine V_bipush (v := (-5)) dX1_makeAdditions_22 (by decide) ?_
        refine V_icmp_ne 52 dX1_makeAdditions_24 (by decide) hv7 ir_m5 (fun c8 => ?_) (fun c8 => ?_)
        · replace E := mmI_f c8 E
          refine V_aload_n 1 dX1_makeAdditions_52 rfl ?_
          refine V_aload_n 0 dX1_makeAdditions_53 rfl ?_
          refine V_geta (ci := 1) (k := 2) (N := 8) (T := TX1) (o' := 47) dX1_makeAdditions_54 iuX1 fl_X1_19 rfl (by decide) rfl sh_45 rfl ?_
          refine V_iload_n 2 dX1_makeAdditions_57 rfl ?_
          obtain ⟨hv9, E⟩ := mmK_e E
          refine V_iald (n := 12) (j := (l2).toNat) (v := (m.1 47 (l2).toNat)) dX1_makeAdditions_58 sh_47 hr2 hv9 rfl rfl (fun hv10 => ?_)
          refine V_aload_n 0 dX1_makeAdditions_59 rfl ?_
          refine V_geta (ci := 1) (k := 3) (N := 8) (T := TX1) (o' := 48) dX1_makeAdditions_60 iuX1 fl_X1_23 rfl (by decide) rfl sh_45 rfl ?_
          refine V_iload_n 2 dX1_makeAdditions_63 rfl ?_
          obtain ⟨hv11, E⟩ := mmK_e E
          refine V_iald (n := 12) (j := (l2).toNat) (v := (m.1 48 (l2).toNat)) dX1_makeAdditions_64 sh_48 hr2 hv11 rfl rfl (fun hv12 => ?_)
          obtain ⟨q13, hq13, E⟩ := mmB_e E
          refine V_callV (ci := 2) (q := (RX2, TX2, 10)) (Cn := RX2) (st := []) 2 dX1_makeAdditions_65 (ct_X2_giveAlias hs1 hv10 hv12 hq13) ml_X1_52 im_X2_giveAlias sl_X2_giveAlias it_X2 cd_X2_giveAlias hy_X2_giveAlias ⟨rfl, rfl, by decide, by decide⟩ hs1 rfl rfl rfl rfl (Nat.le_of_ble_eq_true rfl) (fun hv14 => ?_)
          refine V_istore_n (i := 3) (lv' := [(0, .ref 45), (1, .ref l1), (2, vi l2), (3, vi q13.1)]) dX1_makeAdditions_68 rfl rfl rfl ?_
          refine V_iload_n 3 dX1_makeAdditions_69 rfl ?_
          refine V_if_ge 81 dX1_makeAdditions_70 (by decide) hv14 (fun c15 => ?_) (fun c15 => ?_)
          · replace E := mmI_t c15 E
            obtain ⟨hv16, E⟩ := mmK_e E
            refine V_iinc (v := (l2 + 1)) (lv' := [(0, .ref 45), (1, .ref l1), (2, vi (l2 + 1)), (3, vi q13.1)]) 2 dX1_makeAdditions_81 rfl rfl rfl rfl ?_
            refine V_goto 2 dX1_makeAdditions_84 (by decide) ?_
            refine V_sub [0, 1, 2] rfl ?_
            exact ih _ _ _ hs1 hv16 E
          · replace E := mmI_f c15 E
            refine V_iload_n 3 dX1_makeAdditions_73 rfl ?_
            refine V_bipush (v := (-5)) dX1_makeAdditions_74 (by decide) ?_
            refine V_icmp_eq 81 dX1_makeAdditions_76 (by decide) hv14 ir_m5 (fun c17 => ?_) (fun c17 => ?_)
            · replace E := mmI_t c17 E
              obtain ⟨hv18, E⟩ := mmK_e E
              refine V_iinc (v := (l2 + 1)) (lv' := [(0, .ref 45), (1, .ref l1), (2, vi (l2 + 1)), (3, vi q13.1)]) 2 dX1_makeAdditions_81 rfl rfl rfl rfl ?_
              refine V_goto 2 dX1_makeAdditions_84 (by decide) ?_
              refine V_sub [0, 1, 2] rfl ?_
              exact ih _ _ _ hs1 hv18 E
            · replace E := mmI_f c17 E
              refine V_iload_n 3 dX1_makeAdditions_79 rfl ?_
              obtain rfl := Option.some.inj E
              exact V_reti dX1_makeAdditions_80 ⟨rfl, rfl, hv14⟩
        · replace E := mmI_t c8 E
          refine V_aload_n 1 dX1_makeAdditions_27 rfl ?_
          refine V_aload_n 0 dX1_makeAdditions_28 rfl ?_
          refine V_geta (ci := 1) (k := 2) (N := 8) (T := TX1) (o' := 47) dX1_makeAdditions_29 iuX1 fl_X1_19 rfl (by decide) rfl sh_45 rfl ?_
          refine V_iload_n 2 dX1_makeAdditions_32 rfl ?_
          obtain ⟨hv19, E⟩ := mmK_e E
          refine V_iald (n := 12) (j := (l2).toNat) (v := (m.1 47 (l2).toNat)) dX1_makeAdditions_33 sh_47 hr2 hv19 rfl rfl (fun hv20 => ?_)
          refine V_aload_n 0 dX1_makeAdditions_34 rfl ?_
          refine V_geta (ci := 1) (k := 4) (N := 8) (T := TX1) (o' := 49) dX1_makeAdditions_35 iuX1 fl_X1_26 rfl (by decide) rfl sh_45 rfl ?_
          refine V_iload_n 2 dX1_makeAdditions_38 rfl ?_
          obtain ⟨hv21, E⟩ := mmK_e E
          refine V_iald (n := 12) (j := (l2).toNat) (v := (m.1 49 (l2).toNat)) dX1_makeAdditions_39 sh_49 hr2 hv21 rfl rfl (fun hv22 => ?_)
          refine V_aload_n 0 dX1_makeAdditions_40 rfl ?_
          refine V_geta (ci := 1) (k := 5) (N := 8) (T := TX1) (o' := 50) dX1_makeAdditions_41 iuX1 fl_X1_29 rfl (by decide) rfl sh_45 rfl ?_
          refine V_iload_n 2 dX1_makeAdditions_44 rfl ?_
          obtain ⟨hv23, E⟩ := mmK_e E
          refine V_iald (n := 12) (j := (l2).toNat) (v := (m.1 50 (l2).toNat)) dX1_makeAdditions_45 sh_50 hr2 hv23 rfl rfl (fun hv24 => ?_)
          obtain ⟨q25, hq25, E⟩ := mmB_e E
          refine V_callV (ci := 2) (q := (RX2, TX2, 10)) (Cn := RX2) (st := []) 3 dX1_makeAdditions_46 (ct_X2_addMember hs1 hv20 hv22 hv24 hq25) ml_X1_46 im_X2_addMember sl_X2_addMember it_X2 cd_X2_addMember hy_X2_addMember ⟨rfl, rfl, by decide, by decide⟩ hs1 rfl rfl rfl rfl (Nat.le_of_ble_eq_true rfl) (fun hv26 => ?_)
          refine V_goto 68 dX1_makeAdditions_49 (by decide) ?_
          refine V_istore_n (i := 3) (lv' := [(0, .ref 45), (1, .ref l1), (2, vi l2), (3, vi q25.1)]) dX1_makeAdditions_68 rfl rfl rfl ?_
          refine V_iload_n 3 dX1_makeAdditions_69 rfl ?_
          refine V_if_ge 81 dX1_makeAdditions_70 (by decide) hv26 (fun c27 => ?_) (fun c27 => ?_)
          · replace E := mmI_t c27 E
            obtain ⟨hv28, E⟩ := mmK_e E
            refine V_iinc (v := (l2 + 1)) (lv' := [(0, .ref 45), (1, .ref l1), (2, vi (l2 + 1)), (3, vi q25.1)]) 2 dX1_makeAdditions_81 rfl rfl rfl rfl ?_
            refine V_goto 2 dX1_makeAdditions_84 (by decide) ?_
            refine V_sub [0, 1, 2] rfl ?_
            exact ih _ _ _ hs1 hv28 E
          · replace E := mmI_f c27 E
            refine V_iload_n 3 dX1_makeAdditions_73 rfl ?_
            refine V_bipush (v := (-5)) dX1_makeAdditions_74 (by decide) ?_
            refine V_icmp_eq 81 dX1_makeAdditions_76 (by decide) hv26 ir_m5 (fun c29 => ?_) (fun c29 => ?_)
            · replace E := mmI_t c29 E
              obtain ⟨hv30, E⟩ := mmK_e E
              refine V_iinc (v := (l2 + 1)) (lv' := [(0, .ref 45), (1, .ref l1), (2, vi (l2 + 1)), (3, vi q25.1)]) 2 dX1_makeAdditions_81 rfl rfl rfl rfl ?_
              refine V_goto 2 dX1_makeAdditions_84 (by decide) ?_
              refine V_sub [0, 1, 2] rfl ?_
              exact ih _ _ _ hs1 hv30 E
            · replace E := mmI_f c29 E
              refine V_iload_n 3 dX1_makeAdditions_79 rfl ?_
              obtain rfl := Option.some.inj E
              exact V_reti dX1_makeAdditions_80 ⟨rfl, rfl, hv26⟩
noncomputable def f_X1_makeAdditions (l1 : Nat) (m : Mem) : Option (Int × Mem) :=
  f_X1_makeAdditions_L2 mmFU l1 0 m
set_option maxRecDepth 100000 in
set_option maxHeartbeats 4000000 in
theorem ok_X1_makeAdditions {r : Int × Mem} : ∀ (l1 : Nat) (m : Mem), mmSh[l1]? = some (.inl 2) → f_X1_makeAdditions l1 m = some r → VV RX1 cX1_makeAdditions 4 rm_X1_makeAdditions mmG0 (mmPi r) 0 [(0, .ref 45), (1, .ref l1)] [] m := by
  intro l1 m hs1 E
  unfold f_X1_makeAdditions at E
  refine V_iconst dX1_makeAdditions_0 rfl ?_
  refine V_istore_n (i := 2) (lv' := [(0, .ref 45), (1, .ref l1), (2, vi 0)]) dX1_makeAdditions_1 rfl rfl rfl ?_
  exact ok_X1_makeAdditions_L2 mmFU _ _ _ hs1 ir_0 E
theorem ct_X1_makeAdditions {l1 : Nat} {m : Mem} {r : Int × Mem} (hs1 : mmSh[l1]? = some (.inl 2)) (E : f_X1_makeAdditions l1 m = some r) : CTi yX1_makeAdditions cX1_makeAdditions 4 (some .int) rm_X1_makeAdditions [.ref 45, .ref l1] m r := CT_i (by decide +kernel) rfl (Nat.le_of_ble_eq_true rfl) (ok_X1_makeAdditions _ _ hs1 E)
theorem hy_X1_makeAdditions : yX1_makeAdditions.cls = RX1 ∧ yX1_makeAdditions.cls ≠ "java/lang/invoke/MethodHandle" ∧ yX1_makeAdditions.cls ≠ "java/lang/invoke/VarHandle" ∧ (parseMethodDescriptor yX1_makeAdditions.desc).map (fun d => d.parameters.length) = some 1 := by decide +kernel
abbrev rm_X2_replaceText : Room := { frames := 2, cells := 0, slots := 0, locals := 47 }
noncomputable def f_X2_replaceText (l0 : Nat) (l1 : Int) (l2 : Int) (l3 : Int) (m : Mem) : Option (Int × Mem) :=
  (f_X2_rankOf l0 l1 m).bind (fun q1 => (f_X2_isMember l0 q1.1 q1.2).bind (fun q3 => if q3.1 = 0 then
(some ((-1), q3.2))
else
((f_X2_isLength l2 q3.2).bind (fun q6 => if q6.1 = 0 then
(some ((-2), q6.2))
else
((f_X2_isMark l3 q6.2).bind (fun q9 => if q9.1 = 0 then
(some ((-2), q9.2))
else
((f_X2_hasRoom l0 l2 q9.2).bind (fun q12 => if q12.1 = 0 then
(some ((-3), q12.2))
else
((f_X2_layText l0 l2 q12.2).bind (fun q15 => (f_X2_setEntry l0 q1.1 l1 (-5) q15.1 l2 l3 q15.2).bind (fun q17 => some (q15.1, q17))))))))))))
set_option maxRecDepth 100000 in
set_option maxHeartbeats 4000000 in
theorem ok_X2_replaceText {r : Int × Mem} : ∀ (l0 : Nat) (l1 : Int) (l2 : Int) (l3 : Int) (m : Mem), mmSh[l0]? = some (.inl 2) → inR l1 → inR l2 → inR l3 → f_X2_replaceText l0 l1 l2 l3 m = some r → VV RX2 cX2_replaceText 6 rm_X2_replaceText mmG0 (mmPi r) 0 [(0, .ref l0), (1, vi l1), (2, vi l2), (3, vi l3)] [] m := by
  intro l0 l1 l2 l3 m hs0 hr1 hr2 hr3 E
  unfold f_X2_replaceText at E
  refine V_aload_n 0 dX2_replaceText_0 rfl ?_
  refine V_iload_n 1 dX2_replaceText_1 rfl ?_
  obtain ⟨q1, hq1, E⟩ := mmB_e E
  refine V_callV (ci := 2) (q := (RX2, TX2, 10)) (Cn := RX2) (st := []) 1 dX2_replaceText_2 (ct_X2_rankOf hs0 hr1 hq1) ml_X2_59 im_X2_rankOf sl_X2_rankOf it_X2 cd_X2_rankOf hy_X2_rankOf ⟨rfl, rfl, by decide, by decide⟩ hs0 rfl rfl rfl rfl (Nat.le_of_ble_eq_true rfl) (fun hv2 => ?_)
  refine V_istore (lv' := [(0, .ref l0), (1, vi l1), (2, vi l2), (3, vi l3), (4, vi q1.1)]) dX2_replaceText_5 rfl rfl ?_
  refine V_aload_n 0 dX2_replaceText_7 rfl ?_
  refine V_iload 4 dX2_replaceText_8 rfl ?_
  obtain ⟨q3, hq3, E⟩ := mmB_e E
  refine V_callV (ci := 2) (q := (RX2, TX2, 10)) (Cn := RX2) (st := []) 1 dX2_replaceText_10 (ct_X2_isMember hs0 hv2 hq3) ml_X2_80 im_X2_isMember sl_X2_isMember it_X2 cd_X2_isMember hy_X2_isMember ⟨rfl, rfl, by decide, by decide⟩ hs0 rfl rfl rfl rfl (Nat.le_of_ble_eq_true rfl) (fun hv4 => ?_)
  refine V_if_ne 18 dX2_replaceText_13 (by decide) hv4 (fun c5 => ?_) (fun c5 => ?_)
  · replace E := mmI_f c5 E
    refine V_iload_n 2 dX2_replaceText_18 rfl ?_
    obtain ⟨q6, hq6, E⟩ := mmB_e E
    refine V_callS (st := []) 1 dX2_replaceText_19 (ct_X2_isLength hr2 hq6) ml_X2_53 st_X2_isLength it_X2 cd_X2_isLength hz_X2_isLength ⟨rfl, rfl, by decide, by decide⟩ rfl rfl (Nat.le_of_ble_eq_true rfl) (fun hv7 => ?_)
    refine V_if_eq 32 dX2_replaceText_22 (by decide) hv7 (fun c8 => ?_) (fun c8 => ?_)
    · replace E := mmI_t c8 E
      refine V_bipush (v := (-2)) dX2_replaceText_32 (by decide) ?_
      obtain rfl := Option.some.inj E
      exact V_reti dX2_replaceText_34 ⟨rfl, rfl, ir_m2⟩
    · replace E := mmI_f c8 E
      refine V_iload_n 3 dX2_replaceText_25 rfl ?_
      obtain ⟨q9, hq9, E⟩ := mmB_e E
      refine V_callS (st := []) 1 dX2_replaceText_26 (ct_X2_isMark hr3 hq9) ml_X2_56 st_X2_isMark it_X2 cd_X2_isMark hz_X2_isMark ⟨rfl, rfl, by decide, by decide⟩ rfl rfl (Nat.le_of_ble_eq_true rfl) (fun hv10 => ?_)
      refine V_if_ne 35 dX2_replaceText_29 (by decide) hv10 (fun c11 => ?_) (fun c11 => ?_)
      · replace E := mmI_f c11 E
        refine V_aload_n 0 dX2_replaceText_35 rfl ?_
        refine V_iload_n 2 dX2_replaceText_36 rfl ?_
        obtain ⟨q12, hq12, E⟩ := mmB_e E
        refine V_callV (ci := 2) (q := (RX2, TX2, 10)) (Cn := RX2) (st := []) 1 dX2_replaceText_37 (ct_X2_hasRoom hs0 hr2 hq12) ml_X2_70 im_X2_hasRoom sl_X2_hasRoom it_X2 cd_X2_hasRoom hy_X2_hasRoom ⟨rfl, rfl, by decide, by decide⟩ hs0 rfl rfl rfl rfl (Nat.le_of_ble_eq_true rfl) (fun hv13 => ?_)
        refine V_if_ne 46 dX2_replaceText_40 (by decide) hv13 (fun c14 => ?_) (fun c14 => ?_)
        · replace E := mmI_f c14 E
          refine V_aload_n 0 dX2_replaceText_46 rfl ?_
          refine V_iload_n 2 dX2_replaceText_47 rfl ?_
          obtain ⟨q15, hq15, E⟩ := mmB_e E
          refine V_callV (ci := 2) (q := (RX2, TX2, 10)) (Cn := RX2) (st := []) 1 dX2_replaceText_48 (ct_X2_layText hs0 hr2 hq15) ml_X2_73 im_X2_layText sl_X2_layText it_X2 cd_X2_layText hy_X2_layText ⟨rfl, rfl, by decide, by decide⟩ hs0 rfl rfl rfl rfl (Nat.le_of_ble_eq_true rfl) (fun hv16 => ?_)
          refine V_istore (lv' := [(0, .ref l0), (1, vi l1), (2, vi l2), (3, vi l3), (4, vi q1.1), (5, vi q15.1)]) dX2_replaceText_51 rfl rfl ?_
          refine V_aload_n 0 dX2_replaceText_53 rfl ?_
          refine V_iload 4 dX2_replaceText_54 rfl ?_
          refine V_iload_n 1 dX2_replaceText_56 rfl ?_
          refine V_bipush (v := (-5)) dX2_replaceText_57 (by decide) ?_
          refine V_iload 5 dX2_replaceText_59 rfl ?_
          refine V_iload_n 2 dX2_replaceText_61 rfl ?_
          refine V_iload_n 3 dX2_replaceText_62 rfl ?_
          obtain ⟨q17, hq17, E⟩ := mmB_e E
          refine V_callVv (ci := 2) (q := (RX2, TX2, 10)) (Cn := RX2) (st := []) 6 dX2_replaceText_63 (ct_X2_setEntry hs0 hv2 hr1 ir_m5 hv16 hr2 hr3 hq17) ml_X2_83 im_X2_setEntry sl_X2_setEntry it_X2 cd_X2_setEntry hy_X2_setEntry ⟨rfl, rfl, by decide, by decide⟩ hs0 rfl rfl rfl rfl (Nat.le_of_ble_eq_true rfl) ?_
          refine V_iload 5 dX2_replaceText_66 rfl ?_
          obtain rfl := Option.some.inj E
          exact V_reti dX2_replaceText_68 ⟨rfl, rfl, hv16⟩
        · replace E := mmI_t c14 E
          refine V_bipush (v := (-3)) dX2_replaceText_43 (by decide) ?_
          obtain rfl := Option.some.inj E
          exact V_reti dX2_replaceText_45 ⟨rfl, rfl, ir_m3⟩
      · replace E := mmI_t c11 E
        refine V_bipush (v := (-2)) dX2_replaceText_32 (by decide) ?_
        obtain rfl := Option.some.inj E
        exact V_reti dX2_replaceText_34 ⟨rfl, rfl, ir_m2⟩
  · replace E := mmI_t c5 E
    refine V_iconst dX2_replaceText_16 rfl ?_
    obtain rfl := Option.some.inj E
    exact V_reti dX2_replaceText_17 ⟨rfl, rfl, ir_m1⟩
theorem ct_X2_replaceText {l0 : Nat} {l1 : Int} {l2 : Int} {l3 : Int} {m : Mem} {r : Int × Mem} (hs0 : mmSh[l0]? = some (.inl 2)) (hr1 : inR l1) (hr2 : inR l2) (hr3 : inR l3) (E : f_X2_replaceText l0 l1 l2 l3 m = some r) : CTi yX2_replaceText cX2_replaceText 6 (some .int) rm_X2_replaceText [.ref l0, vi l1, vi l2, vi l3] m r := CT_i (by decide +kernel) rfl (Nat.le_of_ble_eq_true rfl) (ok_X2_replaceText _ _ _ _ _ hs0 hr1 hr2 hr3 E)
theorem hy_X2_replaceText : yX2_replaceText.cls = RX2 ∧ yX2_replaceText.cls ≠ "java/lang/invoke/MethodHandle" ∧ yX2_replaceText.cls ≠ "java/lang/invoke/VarHandle" ∧ (parseMethodDescriptor yX2_replaceText.desc).map (fun d => d.parameters.length) = some 3 := by decide +kernel
abbrev rm_X2_takeOut : Room := { frames := 2, cells := 0, slots := 0, locals := 49 }
noncomputable def f_X2_takeOut (l0 : Nat) (l1 : Int) (m : Mem) : Option (Mem) :=
  (f_X2_isRank l0 l1 m).bind (fun q1 => if q1.1 = 0 then
(some q1.2)
else
(mmK (inR (l1 + 1)) (mmK (inR ((q1.2.1 l0 5) - l1)) (mmK (inR (((q1.2.1 l0 5) - l1) - 1)) ((f_X2_moveEntries l0 (l1 + 1) l1 (((q1.2.1 l0 5) - l1) - 1) q1.2).bind (fun q8 => mmK (inR ((q8.1 l0 5) - 1)) (some (mwr q8 l0 5 ((q8.1 l0 5) - 1)))))))))
set_option maxRecDepth 100000 in
set_option maxHeartbeats 4000000 in
theorem ok_X2_takeOut {r : Mem} : ∀ (l0 : Nat) (l1 : Int) (m : Mem), mmSh[l0]? = some (.inl 2) → inR l1 → f_X2_takeOut l0 l1 m = some r → VV RX2 cX2_takeOut 2 rm_X2_takeOut mmG0 (mmPv r) 0 [(0, .ref l0), (1, vi l1)] [] m := by
  intro l0 l1 m hs0 hr1 E
  unfold f_X2_takeOut at E
  refine V_aload_n 0 dX2_takeOut_0 rfl ?_
  refine V_iload_n 1 dX2_takeOut_1 rfl ?_
  obtain ⟨q1, hq1, E⟩ := mmB_e E
  refine V_callV (ci := 2) (q := (RX2, TX2, 10)) (Cn := RX2) (st := []) 1 dX2_takeOut_2 (ct_X2_isRank hs0 hr1 hq1) ml_X2_63 im_X2_isRank sl_X2_isRank it_X2 cd_X2_isRank hy_X2_isRank ⟨rfl, rfl, by decide, by decide⟩ hs0 rfl rfl rfl rfl (Nat.le_of_ble_eq_true rfl) (fun hv2 => ?_)
  refine V_if_eq 34 dX2_takeOut_5 (by decide) hv2 (fun c3 => ?_) (fun c3 => ?_)
  · replace E := mmI_t c3 E
    obtain rfl := Option.some.inj E
    exact V_retv dX2_takeOut_34 ⟨rfl, rfl⟩
  · replace E := mmI_f c3 E
    refine V_aload_n 0 dX2_takeOut_8 rfl ?_
    refine V_iload_n 1 dX2_takeOut_9 rfl ?_
    refine V_iconst dX2_takeOut_10 rfl ?_
    obtain ⟨hv4, E⟩ := mmK_e E
    refine V_iadd dX2_takeOut_11 ?_
    refine V_iload_n 1 dX2_takeOut_12 rfl ?_
    refine V_aload_n 0 dX2_takeOut_13 rfl ?_
    refine V_geti (ci := 2) (k := 5) (N := 10) (T := TX2) (v := (q1.2.1 l0 5)) dX2_takeOut_14 iuX2 fl_X2_27 rfl (by decide) rfl hs0 (by first | rfl | simp [mwr]) (fun hv5 => ?_)
    refine V_iload_n 1 dX2_takeOut_17 rfl ?_
    obtain ⟨hv6, E⟩ := mmK_e E
    refine V_isub dX2_takeOut_18 ?_
    refine V_iconst dX2_takeOut_19 rfl ?_
    obtain ⟨hv7, E⟩ := mmK_e E
    refine V_isub dX2_takeOut_20 ?_
    obtain ⟨q8, hq8, E⟩ := mmB_e E
    refine V_callVv (ci := 2) (q := (RX2, TX2, 10)) (Cn := RX2) (st := []) 3 dX2_takeOut_21 (ct_X2_moveEntries hs0 hv4 hr1 hv7 hq8) ml_X2_138 im_X2_moveEntries sl_X2_moveEntries it_X2 cd_X2_moveEntries hy_X2_moveEntries ⟨rfl, rfl, by decide, by decide⟩ hs0 rfl rfl rfl rfl (Nat.le_of_ble_eq_true rfl) ?_
    refine V_aload_n 0 dX2_takeOut_24 rfl ?_
    refine V_dupa dX2_takeOut_25 ?_
    refine V_geti (ci := 2) (k := 5) (N := 10) (T := TX2) (v := (q8.1 l0 5)) dX2_takeOut_26 iuX2 fl_X2_27 rfl (by decide) rfl hs0 (by first | rfl | simp [mwr]) (fun hv10 => ?_)
    refine V_iconst dX2_takeOut_29 rfl ?_
    obtain ⟨hv11, E⟩ := mmK_e E
    refine V_isub dX2_takeOut_30 ?_
    refine V_put (ci := 2) (k := 5) (N := 10) (T := TX2) (x := ((q8.1 l0 5) - 1)) (ty := .int) tyX2 dX2_takeOut_31 iuX2 tyX2_ok nmX2 fl_X2_27 rfl (by decide) rfl hs0 rfl (by decide +kernel) rfl rfl hv11 ?_
    obtain rfl := Option.some.inj E
    exact V_retv dX2_takeOut_34 ⟨rfl, rfl⟩
theorem ct_X2_takeOut {l0 : Nat} {l1 : Int} {m : Mem} {r : Mem} (hs0 : mmSh[l0]? = some (.inl 2)) (hr1 : inR l1) (E : f_X2_takeOut l0 l1 m = some r) : CTv yX2_takeOut cX2_takeOut 2 rm_X2_takeOut [.ref l0, vi l1] m r := CT_v (by decide +kernel) rfl (Nat.le_of_ble_eq_true rfl) (ok_X2_takeOut _ _ _ hs0 hr1 E)
theorem hy_X2_takeOut : yX2_takeOut.cls = RX2 ∧ yX2_takeOut.cls ≠ "java/lang/invoke/MethodHandle" ∧ yX2_takeOut.cls ≠ "java/lang/invoke/VarHandle" ∧ (parseMethodDescriptor yX2_takeOut.desc).map (fun d => d.parameters.length) = some 1 := by decide +kernel
abbrev rm_X2_removeEntry : Room := { frames := 3, cells := 0, slots := 0, locals := 70 }
noncomputable def f_X2_removeEntry (l0 : Nat) (l1 : Int) (m : Mem) : Option (Int × Mem) :=
  (f_X2_rankOf l0 l1 m).bind (fun q1 => (f_X2_isRank l0 q1.1 q1.2).bind (fun q3 => if q3.1 = 0 then
(some ((-1), q3.2))
else
((f_X2_takeOut l0 q1.1 q3.2).bind (fun q6 => some ((q6.1 l0 5), q6)))))
set_option maxRecDepth 100000 in
set_option maxHeartbeats 4000000 in
theorem ok_X2_removeEntry {r : Int × Mem} : ∀ (l0 : Nat) (l1 : Int) (m : Mem), mmSh[l0]? = some (.inl 2) → inR l1 → f_X2_removeEntry l0 l1 m = some r → VV RX2 cX2_removeEntry 3 rm_X2_removeEntry mmG0 (mmPi r) 0 [(0, .ref l0), (1, vi l1)] [] m := by
  intro l0 l1 m hs0 hr1 E
  unfold f_X2_removeEntry at E
  refine V_aload_n 0 dX2_removeEntry_0 rfl ?_
  refine V_iload_n 1 dX2_removeEntry_1 rfl ?_
  obtain ⟨q1, hq1, E⟩ := mmB_e E
  refine V_callV (ci := 2) (q := (RX2, TX2, 10)) (Cn := RX2) (st := []) 1 dX2_removeEntry_2 (ct_X2_rankOf hs0 hr1 hq1) ml_X2_59 im_X2_rankOf sl_X2_rankOf it_X2 cd_X2_rankOf hy_X2_rankOf ⟨rfl, rfl, by decide, by decide⟩ hs0 rfl rfl rfl rfl (Nat.le_of_ble_eq_true rfl) (fun hv2 => ?_)
  refine V_istore_n (i := 2) (lv' := [(0, .ref l0), (1, vi l1), (2, vi q1.1)]) dX2_removeEntry_5 rfl rfl rfl ?_
  refine V_aload_n 0 dX2_removeEntry_6 rfl ?_
  refine V_iload_n 2 dX2_removeEntry_7 rfl ?_
  obtain ⟨q3, hq3, E⟩ := mmB_e E
  refine V_callV (ci := 2) (q := (RX2, TX2, 10)) (Cn := RX2) (st := []) 1 dX2_removeEntry_8 (ct_X2_isRank hs0 hv2 hq3) ml_X2_63 im_X2_isRank sl_X2_isRank it_X2 cd_X2_isRank hy_X2_isRank ⟨rfl, rfl, by decide, by decide⟩ hs0 rfl rfl rfl rfl (Nat.le_of_ble_eq_true rfl) (fun hv4 => ?_)
  refine V_if_ne 16 dX2_removeEntry_11 (by decide) hv4 (fun c5 => ?_) (fun c5 => ?_)
  · replace E := mmI_f c5 E
    refine V_aload_n 0 dX2_removeEntry_16 rfl ?_
    refine V_iload_n 2 dX2_removeEntry_17 rfl ?_
    obtain ⟨q6, hq6, E⟩ := mmB_e E
    refine V_callVv (ci := 2) (q := (RX2, TX2, 10)) (Cn := RX2) (st := []) 1 dX2_removeEntry_18 (ct_X2_takeOut hs0 hv2 hq6) ml_X2_87 im_X2_takeOut sl_X2_takeOut it_X2 cd_X2_takeOut hy_X2_takeOut ⟨rfl, rfl, by decide, by decide⟩ hs0 rfl rfl rfl rfl (Nat.le_of_ble_eq_true rfl) ?_
    refine V_aload_n 0 dX2_removeEntry_21 rfl ?_
    refine V_geti (ci := 2) (k := 5) (N := 10) (T := TX2) (v := (q6.1 l0 5)) dX2_removeEntry_22 iuX2 fl_X2_27 rfl (by decide) rfl hs0 (by first | rfl | simp [mwr]) (fun hv8 => ?_)
    obtain rfl := Option.some.inj E
    exact V_reti dX2_removeEntry_25 ⟨rfl, rfl, hv8⟩
  · replace E := mmI_t c5 E
    refine V_iconst dX2_removeEntry_14 rfl ?_
    obtain rfl := Option.some.inj E
    exact V_reti dX2_removeEntry_15 ⟨rfl, rfl, ir_m1⟩
theorem ct_X2_removeEntry {l0 : Nat} {l1 : Int} {m : Mem} {r : Int × Mem} (hs0 : mmSh[l0]? = some (.inl 2)) (hr1 : inR l1) (E : f_X2_removeEntry l0 l1 m = some r) : CTi yX2_removeEntry cX2_removeEntry 3 (some .int) rm_X2_removeEntry [.ref l0, vi l1] m r := CT_i (by decide +kernel) rfl (Nat.le_of_ble_eq_true rfl) (ok_X2_removeEntry _ _ _ hs0 hr1 E)
theorem hy_X2_removeEntry : yX2_removeEntry.cls = RX2 ∧ yX2_removeEntry.cls ≠ "java/lang/invoke/MethodHandle" ∧ yX2_removeEntry.cls ≠ "java/lang/invoke/VarHandle" ∧ (parseMethodDescriptor yX2_removeEntry.desc).map (fun d => d.parameters.length) = some 1 := by decide +kernel
abbrev rm_X2_tellAliases : Room := { frames := 0, cells := 0, slots := 0, locals := 0 }
noncomputable def f_X2_tellAliases_L2 : Nat → Nat → Int → Int → Int → Mem → Option (Mem)
  | 0, _, _, _, _, _ => none
  | n + 1, l0, l1, l2, l3, m =>
    if (m.1 l0 5) ≤ l3 then
(some m)
else
(mmK (0 ≤ l3 ∧ l3 < 24) (if (m.1 (l0 + 2) (l3).toNat) = l1 then
(mmK (0 ≤ l3 ∧ l3 < 24) (mmK (inR (l3 + 1)) (f_X2_tellAliases_L2 n l0 l1 l2 (l3 + 1) (mwr m (l0 + 2) (l3).toNat l2))))
else
(mmK (inR (l3 + 1)) (f_X2_tellAliases_L2 n l0 l1 l2 (l3 + 1) m))))
set_option maxRecDepth 100000 in
set_option maxHeartbeats 4000000 in
theorem ok_X2_tellAliases_L2 {r : Mem} : ∀ (n : Nat), ∀ (l0 : Nat) (l1 : Int) (l2 : Int) (l3 : Int) (m : Mem), mmSh[l0]? = some (.inl 2) → inR l1 → inR l2 → inR l3 → f_X2_tellAliases_L2 n l0 l1 l2 l3 m = some r → VV RX2 cX2_tellAliases 4 rm_X2_tellAliases mmG0 (mmPv r) 2 [(0, .ref l0), (1, vi l1), (2, vi l2), (3, vi l3)] [] m := by
  intro n
  induction n with
  | zero =>
    intro l0 l1 l2 l3 m hs0 hr1 hr2 hr3 E
    cases E
  | succ n ih =>
    intro l0 l1 l2 l3 m hs0 hr1 hr2 hr3 E
    rw [f_X2_tellAliases_L2] at E
    refine V_iload_n 3 dX2_tellAliases_2 rfl ?_
    refine V_aload_n 0 dX2_tellAliases_3 rfl ?_
    refine V_geti (ci := 2) (k := 5) (N := 10) (T := TX2) (v := (m.1 l0 5)) dX2_tellAliases_4 iuX2 fl_X2_27 rfl (by decide) rfl hs0 (by first | rfl | simp [mwr]) (fun hv1 => ?_)
    refine V_icmp_ge 33 dX2_tellAliases_7 (by decide) hr3 hv1 (fun c2 => ?_) (fun c2 => ?_)
    · replace E := mmI_t c2 E
      obtain rfl := Option.some.inj E
      exact V_retv dX2_tellAliases_33 ⟨rfl, rfl⟩
    · replace E := mmI_f c2 E
      refine V_aload_n 0 dX2_tellAliases_10 rfl ?_
      refine V_geta (ci := 2) (k := 1) (N := 10) (T := TX2) (o' := (l0 + 2)) dX2_tellAliases_11 iuX2 fl_X2_15 rfl (by decide) rfl hs0 rfl ?_
      refine V_iload_n 3 dX2_tellAliases_14 rfl ?_
      obtain ⟨hv3, E⟩ := mmK_e E
      refine V_iald (n := 24) (j := (l3).toNat) (v := (m.1 (l0 + 2) (l3).toNat)) dX2_tellAliases_15 (mmS2 hs0) hr3 hv3 rfl (by first | rfl | simp [mwr]) (fun hv4 => ?_)
      refine V_iload_n 1 dX2_tellAliases_16 rfl ?_
      refine V_icmp_ne 27 dX2_tellAliases_17 (by decide) hv4 hr1 (fun c5 => ?_) (fun c5 => ?_)
      · replace E := mmI_f c5 E
        obtain ⟨hv6, E⟩ := mmK_e E
        refine V_iinc (v := (l3 + 1)) (lv' := [(0, .ref l0), (1, vi l1), (2, vi l2), (3, vi (l3 + 1))]) 3 dX2_tellAliases_27 rfl rfl rfl rfl ?_
        refine V_goto 2 dX2_tellAliases_30 (by decide) ?_
        exact ih _ _ _ _ _ hs0 hr1 hr2 hv6 E
      · replace E := mmI_t c5 E
        refine V_aload_n 0 dX2_tellAliases_20 rfl ?_
        refine V_geta (ci := 2) (k := 1) (N := 10) (T := TX2) (o' := (l0 + 2)) dX2_tellAliases_21 iuX2 fl_X2_15 rfl (by decide) rfl hs0 rfl ?_
        refine V_iload_n 3 dX2_tellAliases_24 rfl ?_
        refine V_iload_n 2 dX2_tellAliases_25 rfl ?_
        obtain ⟨hv7, E⟩ := mmK_e E
        refine V_iast (n := 24) (j := (l3).toNat) dX2_tellAliases_26 (mmS2 hs0) hr3 hr2 hv7 rfl ?_
        obtain ⟨hv8, E⟩ := mmK_e E
        refine V_iinc (v := (l3 + 1)) (lv' := [(0, .ref l0), (1, vi l1), (2, vi l2), (3, vi (l3 + 1))]) 3 dX2_tellAliases_27 rfl rfl rfl rfl ?_
        refine V_goto 2 dX2_tellAliases_30 (by decide) ?_
        exact ih _ _ _ _ _ hs0 hr1 hr2 hv8 E
noncomputable def f_X2_tellAliases (l0 : Nat) (l1 : Int) (l2 : Int) (m : Mem) : Option (Mem) :=
  f_X2_tellAliases_L2 mmFU l0 l1 l2 0 m
set_option maxRecDepth 100000 in
set_option maxHeartbeats 4000000 in
theorem ok_X2_tellAliases {r : Mem} : ∀ (l0 : Nat) (l1 : Int) (l2 : Int) (m : Mem), mmSh[l0]? = some (.inl 2) → inR l1 → inR l2 → f_X2_tellAliases l0 l1 l2 m = some r → VV RX2 cX2_tellAliases 4 rm_X2_tellAliases mmG0 (mmPv r) 0 [(0, .ref l0), (1, vi l1), (2, vi l2)] [] m := by
  intro l0 l1 l2 m hs0 hr1 hr2 E
  unfold f_X2_tellAliases at E
  refine V_iconst dX2_tellAliases_0 rfl ?_
  refine V_istore_n (i := 3) (lv' := [(0, .ref l0), (1, vi l1), (2, vi l2), (3, vi 0)]) dX2_tellAliases_1 rfl rfl rfl ?_
  exact ok_X2_tellAliases_L2 mmFU _ _ _ _ _ hs0 hr1 hr2 ir_0 E
theorem ct_X2_tellAliases {l0 : Nat} {l1 : Int} {l2 : Int} {m : Mem} {r : Mem} (hs0 : mmSh[l0]? = some (.inl 2)) (hr1 : inR l1) (hr2 : inR l2) (E : f_X2_tellAliases l0 l1 l2 m = some r) : CTv yX2_tellAliases cX2_tellAliases 4 rm_X2_tellAliases [.ref l0, vi l1, vi l2] m r := CT_v (by decide +kernel) rfl (Nat.le_of_ble_eq_true rfl) (ok_X2_tellAliases _ _ _ _ hs0 hr1 hr2 E)
theorem hy_X2_tellAliases : yX2_tellAliases.cls = RX2 ∧ yX2_tellAliases.cls ≠ "java/lang/invoke/MethodHandle" ∧ yX2_tellAliases.cls ≠ "java/lang/invoke/VarHandle" ∧ (parseMethodDescriptor yX2_tellAliases.desc).map (fun d => d.parameters.length) = some 2 := by decide +kernel
abbrev rm_X2_renameEntry : Room := { frames := 3, cells := 0, slots := 0, locals := 75 }
noncomputable def f_X2_renameEntry_L68 (l0 : Nat) (l2 : Int) (l3 : Int) (m : Mem) : Option (Int × Mem) :=
  mmK (0 ≤ l3 ∧ l3 < 24) (mmK (0 ≤ l3 ∧ l3 < 24) (mmK (0 ≤ l3 ∧ l3 < 24) (mmK (0 ≤ l3 ∧ l3 < 24) ((f_X2_takeOut l0 l3 m).bind (fun q26 => (f_X2_insertEntry l0 l2 (m.1 (l0 + 2) (l3).toNat) (m.1 (l0 + 3) (l3).toNat) (m.1 (l0 + 4) (l3).toNat) (m.1 (l0 + 5) (l3).toNat) q26).bind (fun q28 => some (q28.1, q28.2)))))))
set_option maxRecDepth 100000 in
set_option maxHeartbeats 4000000 in
theorem ok_X2_renameEntry_L68 {r : Int × Mem} : ∀ (l0 : Nat) (l2 : Int) (l3 : Int) (m : Mem), mmSh[l0]? = some (.inl 2) → inR l2 → inR l3 → f_X2_renameEntry_L68 l0 l2 l3 m = some r → VV RX2 cX2_renameEntry 9 rm_X2_renameEntry mmG0 (mmPi r) 68 [(0, .ref l0), (2, vi l2), (3, vi l3)] [] m := by
  intro l0 l2 l3 m hs0 hr2 hr3 E
  unfold f_X2_renameEntry_L68 at E
  refine V_aload_n 0 dX2_renameEntry_68 rfl ?_
  refine V_geta (ci := 2) (k := 1) (N := 10) (T := TX2) (o' := (l0 + 2)) dX2_renameEntry_69 iuX2 fl_X2_15 rfl (by decide) rfl hs0 rfl ?_
  refine V_iload_n 2 dX2_renameEntry_72 rfl ?_
  obtain ⟨hv18, E⟩ := mmK_e E
  refine V_iald (n := 24) (j := (l3).toNat) (v := (m.1 (l0 + 2) (l3).toNat)) dX2_renameEntry_73 (mmS2 hs0) hr3 hv18 rfl (by first | rfl | simp [mwr]) (fun hv19 => ?_)
  refine V_istore (lv' := [(0, .ref l0), (2, vi l2), (3, vi l3), (5, vi (m.1 (l0 + 2) (l3).toNat))]) dX2_renameEntry_74 rfl rfl ?_
  refine V_aload_n 0 dX2_renameEntry_76 rfl ?_
  refine V_geta (ci := 2) (k := 2) (N := 10) (T := TX2) (o' := (l0 + 3)) dX2_renameEntry_77 iuX2 fl_X2_18 rfl (by decide) rfl hs0 rfl ?_
  refine V_iload_n 2 dX2_renameEntry_80 rfl ?_
  obtain ⟨hv20, E⟩ := mmK_e E
  refine V_iald (n := 24) (j := (l3).toNat) (v := (m.1 (l0 + 3) (l3).toNat)) dX2_renameEntry_81 (mmS3 hs0) hr3 hv20 rfl (by first | rfl | simp [mwr]) (fun hv21 => ?_)
  refine V_istore (lv' := [(0, .ref l0), (2, vi l2), (3, vi l3), (5, vi (m.1 (l0 + 2) (l3).toNat)), (6, vi (m.1 (l0 + 3) (l3).toNat))]) dX2_renameEntry_82 rfl rfl ?_
  refine V_aload_n 0 dX2_renameEntry_84 rfl ?_
  refine V_geta (ci := 2) (k := 3) (N := 10) (T := TX2) (o' := (l0 + 4)) dX2_renameEntry_85 iuX2 fl_X2_21 rfl (by decide) rfl hs0 rfl ?_
  refine V_iload_n 2 dX2_renameEntry_88 rfl ?_
  obtain ⟨hv22, E⟩ := mmK_e E
  refine V_iald (n := 24) (j := (l3).toNat) (v := (m.1 (l0 + 4) (l3).toNat)) dX2_renameEntry_89 (mmS4 hs0) hr3 hv22 rfl (by first | rfl | simp [mwr]) (fun hv23 => ?_)
  refine V_istore (lv' := [(0, .ref l0), (2, vi l2), (3, vi l3), (5, vi (m.1 (l0 + 2) (l3).toNat)), (6, vi (m.1 (l0 + 3) (l3).toNat)), (7, vi (m.1 (l0 + 4) (l3).toNat))]) dX2_renameEntry_90 rfl rfl ?_
  refine V_aload_n 0 dX2_renameEntry_92 rfl ?_
  refine V_geta (ci := 2) (k := 4) (N := 10) (T := TX2) (o' := (l0 + 5)) dX2_renameEntry_93 iuX2 fl_X2_24 rfl (by decide) rfl hs0 rfl ?_
  refine V_iload_n 2 dX2_renameEntry_96 rfl ?_
  obtain ⟨hv24, E⟩ := mmK_e E
  refine V_iald (n := 24) (j := (l3).toNat) (v := (m.1 (l0 + 5) (l3).toNat)) dX2_renameEntry_97 (mmS5 hs0) hr3 hv24 rfl (by first | rfl | simp [mwr]) (fun hv25 => ?_)
  refine V_istore (lv' := [(0, .ref l0), (2, vi l2), (3, vi l3), (5, vi (m.1 (l0 + 2) (l3).toNat)), (6, vi (m.1 (l0 + 3) (l3).toNat)), (7, vi (m.1 (l0 + 4) (l3).toNat)), (8, vi (m.1 (l0 + 5) (l3).toNat))]) dX2_renameEntry_98 rfl rfl ?_
  refine V_aload_n 0 dX2_renameEntry_100 rfl ?_
  refine V_iload_n 2 dX2_renameEntry_101 rfl ?_
  obtain ⟨q26, hq26, E⟩ := mmB_e E
  refine V_callVv (ci := 2) (q := (RX2, TX2, 10)) (Cn := RX2) (st := []) 1 dX2_renameEntry_102 (ct_X2_takeOut hs0 hr3 hq26) ml_X2_87 im_X2_takeOut sl_X2_takeOut it_X2 cd_X2_takeOut hy_X2_takeOut ⟨rfl, rfl, by decide, by decide⟩ hs0 rfl rfl rfl rfl (Nat.le_of_ble_eq_true rfl) ?_
  refine V_aload_n 0 dX2_renameEntry_105 rfl ?_
  refine V_iload_n 1 dX2_renameEntry_106 rfl ?_
  refine V_iload 3 dX2_renameEntry_107 rfl ?_
  refine V_iload 4 dX2_renameEntry_109 rfl ?_
  refine V_iload 5 dX2_renameEntry_111 rfl ?_
  refine V_iload 6 dX2_renameEntry_113 rfl ?_
  obtain ⟨q28, hq28, E⟩ := mmB_e E
  refine V_callV (ci := 2) (q := (RX2, TX2, 10)) (Cn := RX2) (st := []) 5 dX2_renameEntry_115 (ct_X2_insertEntry hs0 hr2 hv19 hv21 hv23 hv25 hq28) ml_X2_76 im_X2_insertEntry sl_X2_insertEntry it_X2 cd_X2_insertEntry hy_X2_insertEntry ⟨rfl, rfl, by decide, by decide⟩ hs0 rfl rfl rfl rfl (Nat.le_of_ble_eq_true rfl) (fun hv29 => ?_)
  obtain rfl := Option.some.inj E
  exact V_reti dX2_renameEntry_118 ⟨rfl, rfl, hv29⟩
noncomputable def f_X2_renameEntry (l0 : Nat) (l1 : Int) (l2 : Int) (m : Mem) : Option (Int × Mem) :=
  (f_X2_rankOf l0 l1 m).bind (fun q1 => (f_X2_isRank l0 q1.1 q1.2).bind (fun q3 => if q3.1 = 0 then
(some ((-1), q3.2))
else
((f_X2_isName l2 q3.2).bind (fun q6 => if q6.1 = 0 then
(some ((-2), q6.2))
else
((f_X2_rankOf l0 l2 q6.2).bind (fun q9 => if q9.1 = q1.1 then
(some ((-5), q9.2))
else
((f_X2_isRank l0 q9.1 q9.2).bind (fun q12 => if q12.1 = 0 then
((f_X2_isMember l0 q1.1 q12.2).bind (fun q15 => if q15.1 = 0 then
(f_X2_renameEntry_L68 l0 l2 q1.1 q15.2)
else
((f_X2_tellAliases l0 l1 l2 q15.2).bind (fun q30 => f_X2_renameEntry_L68 l0 l2 q1.1 q30))))
else
(some ((-7), q12.2))))))))))
set_option maxRecDepth 100000 in
set_option maxHeartbeats 4000000 in
theorem ok_X2_renameEntry {r : Int × Mem} : ∀ (l0 : Nat) (l1 : Int) (l2 : Int) (m : Mem), mmSh[l0]? = some (.inl 2) → inR l1 → inR l2 → f_X2_renameEntry l0 l1 l2 m = some r → VV RX2 cX2_renameEntry 9 rm_X2_renameEntry mmG0 (mmPi r) 0 [(0, .ref l0), (1, vi l1), (2, vi l2)] [] m := by
  intro l0 l1 l2 m hs0 hr1 hr2 E
  unfold f_X2_renameEntry at E
  refine V_aload_n 0 dX2_renameEntry_0 rfl ?_
  refine V_iload_n 1 dX2_renameEntry_1 rfl ?_
  obtain ⟨q1, hq1, E⟩ := mmB_e E
  refine V_callV (ci := 2) (q := (RX2, TX2, 10)) (Cn := RX2) (st := []) 1 dX2_renameEntry_2 (ct_X2_rankOf hs0 hr1 hq1) ml_X2_59 im_X2_rankOf sl_X2_rankOf it_X2 cd_X2_rankOf hy_X2_rankOf ⟨rfl, rfl, by decide, by decide⟩ hs0 rfl rfl rfl rfl (Nat.le_of_ble_eq_true rfl) (fun hv2 => ?_)
  refine V_istore_n (i := 3) (lv' := [(0, .ref l0), (1, vi l1), (2, vi l2), (3, vi q1.1)]) dX2_renameEntry_5 rfl rfl rfl ?_
  refine V_aload_n 0 dX2_renameEntry_6 rfl ?_
  refine V_iload_n 3 dX2_renameEntry_7 rfl ?_
  obtain ⟨q3, hq3, E⟩ := mmB_e E
  refine V_callV (ci := 2) (q := (RX2, TX2, 10)) (Cn := RX2) (st := []) 1 dX2_renameEntry_8 (ct_X2_isRank hs0 hv2 hq3) ml_X2_63 im_X2_isRank sl_X2_isRank it_X2 cd_X2_isRank hy_X2_isRank ⟨rfl, rfl, by decide, by decide⟩ hs0 rfl rfl rfl rfl (Nat.le_of_ble_eq_true rfl) (fun hv4 => ?_)
  refine V_if_ne 16 dX2_renameEntry_11 (by decide) hv4 (fun c5 => ?_) (fun c5 => ?_)
  · replace E := mmI_f c5 E
    refine V_iload_n 2 dX2_renameEntry_16 rfl ?_
    obtain ⟨q6, hq6, E⟩ := mmB_e E
    refine V_callS (st := []) 1 dX2_renameEntry_17 (ct_X2_isName hr2 hq6) ml_X2_49 st_X2_isName it_X2 cd_X2_isName hz_X2_isName ⟨rfl, rfl, by decide, by decide⟩ rfl rfl (Nat.le_of_ble_eq_true rfl) (fun hv7 => ?_)
    refine V_if_ne 26 dX2_renameEntry_20 (by decide) hv7 (fun c8 => ?_) (fun c8 => ?_)
    · replace E := mmI_f c8 E
      refine V_aload_n 0 dX2_renameEntry_26 rfl ?_
      refine V_iload_n 2 dX2_renameEntry_27 rfl ?_
      obtain ⟨q9, hq9, E⟩ := mmB_e E
      refine V_callV (ci := 2) (q := (RX2, TX2, 10)) (Cn := RX2) (st := []) 1 dX2_renameEntry_28 (ct_X2_rankOf hs0 hr2 hq9) ml_X2_59 im_X2_rankOf sl_X2_rankOf it_X2 cd_X2_rankOf hy_X2_rankOf ⟨rfl, rfl, by decide, by decide⟩ hs0 rfl rfl rfl rfl (Nat.le_of_ble_eq_true rfl) (fun hv10 => ?_)
      refine V_istore (lv' := [(0, .ref l0), (1, vi l1), (2, vi l2), (3, vi q1.1), (4, vi q9.1)]) dX2_renameEntry_31 rfl rfl ?_
      refine V_iload 4 dX2_renameEntry_33 rfl ?_
      refine V_iload_n 3 dX2_renameEntry_35 rfl ?_
      refine V_icmp_ne 42 dX2_renameEntry_36 (by decide) hv10 hv2 (fun c11 => ?_) (fun c11 => ?_)
      · replace E := mmI_f c11 E
        refine V_aload_n 0 dX2_renameEntry_42 rfl ?_
        refine V_iload 4 dX2_renameEntry_43 rfl ?_
        obtain ⟨q12, hq12, E⟩ := mmB_e E
        refine V_callV (ci := 2) (q := (RX2, TX2, 10)) (Cn := RX2) (st := []) 1 dX2_renameEntry_45 (ct_X2_isRank hs0 hv10 hq12) ml_X2_63 im_X2_isRank sl_X2_isRank it_X2 cd_X2_isRank hy_X2_isRank ⟨rfl, rfl, by decide, by decide⟩ hs0 rfl rfl rfl rfl (Nat.le_of_ble_eq_true rfl) (fun hv13 => ?_)
        refine V_if_eq 54 dX2_renameEntry_48 (by decide) hv13 (fun c14 => ?_) (fun c14 => ?_)
        · replace E := mmI_t c14 E
          refine V_aload_n 0 dX2_renameEntry_54 rfl ?_
          refine V_iload_n 3 dX2_renameEntry_55 rfl ?_
          obtain ⟨q15, hq15, E⟩ := mmB_e E
          refine V_callV (ci := 2) (q := (RX2, TX2, 10)) (Cn := RX2) (st := []) 1 dX2_renameEntry_56 (ct_X2_isMember hs0 hv2 hq15) ml_X2_80 im_X2_isMember sl_X2_isMember it_X2 cd_X2_isMember hy_X2_isMember ⟨rfl, rfl, by decide, by decide⟩ hs0 rfl rfl rfl rfl (Nat.le_of_ble_eq_true rfl) (fun hv16 => ?_)
          refine V_if_eq 68 dX2_renameEntry_59 (by decide) hv16 (fun c17 => ?_) (fun c17 => ?_)
          · replace E := mmI_t c17 E
            refine V_sub [0, 2, 3] rfl ?_
            exact ok_X2_renameEntry_L68 _ _ _ _ hs0 hr2 hv2 E
          · replace E := mmI_f c17 E
            refine V_aload_n 0 dX2_renameEntry_62 rfl ?_
            refine V_iload_n 1 dX2_renameEntry_63 rfl ?_
            refine V_iload_n 2 dX2_renameEntry_64 rfl ?_
            obtain ⟨q30, hq30, E⟩ := mmB_e E
            refine V_callVv (ci := 2) (q := (RX2, TX2, 10)) (Cn := RX2) (st := []) 2 dX2_renameEntry_65 (ct_X2_tellAliases hs0 hr1 hr2 hq30) ml_X2_91 im_X2_tellAliases sl_X2_tellAliases it_X2 cd_X2_tellAliases hy_X2_tellAliases ⟨rfl, rfl, by decide, by decide⟩ hs0 rfl rfl rfl rfl (Nat.le_of_ble_eq_true rfl) ?_
            refine V_sub [0, 2, 3] rfl ?_
            exact ok_X2_renameEntry_L68 _ _ _ _ hs0 hr2 hv2 E
        · replace E := mmI_f c14 E
          refine V_bipush (v := (-7)) dX2_renameEntry_51 (by decide) ?_
          obtain rfl := Option.some.inj E
          exact V_reti dX2_renameEntry_53 ⟨rfl, rfl, ir_m7⟩
      · replace E := mmI_t c11 E
        refine V_bipush (v := (-5)) dX2_renameEntry_39 (by decide) ?_
        obtain rfl := Option.some.inj E
        exact V_reti dX2_renameEntry_41 ⟨rfl, rfl, ir_m5⟩
    · replace E := mmI_t c8 E
      refine V_bipush (v := (-2)) dX2_renameEntry_23 (by decide) ?_
      obtain rfl := Option.some.inj E
      exact V_reti dX2_renameEntry_25 ⟨rfl, rfl, ir_m2⟩
  · replace E := mmI_t c5 E
    refine V_iconst dX2_renameEntry_14 rfl ?_
    obtain rfl := Option.some.inj E
    exact V_reti dX2_renameEntry_15 ⟨rfl, rfl, ir_m1⟩
theorem ct_X2_renameEntry {l0 : Nat} {l1 : Int} {l2 : Int} {m : Mem} {r : Int × Mem} (hs0 : mmSh[l0]? = some (.inl 2)) (hr1 : inR l1) (hr2 : inR l2) (E : f_X2_renameEntry l0 l1 l2 m = some r) : CTi yX2_renameEntry cX2_renameEntry 9 (some .int) rm_X2_renameEntry [.ref l0, vi l1, vi l2] m r := CT_i (by decide +kernel) rfl (Nat.le_of_ble_eq_true rfl) (ok_X2_renameEntry _ _ _ _ hs0 hr1 hr2 E)
theorem hy_X2_renameEntry : yX2_renameEntry.cls = RX2 ∧ yX2_renameEntry.cls ≠ "java/lang/invoke/MethodHandle" ∧ yX2_renameEntry.cls ≠ "java/lang/invoke/VarHandle" ∧ (parseMethodDescriptor yX2_renameEntry.desc).map (fun d => d.parameters.length) = some 2 := by decide +kernel
end
section
abbrev rm_X2_isFirstOfText : Room := { frames := 1, cells := 0, slots := 0, locals := 21 }
noncomputable def f_X2_isFirstOfText_L12 : Nat → Nat → Int → Int → Mem → Option (Int × Mem)
  | 0, _, _, _, _ => none
  | n + 1, l0, l1, l2, m =>
    if l1 ≤ l2 then
(some (1, m))
else
(mmK (0 ≤ l2 ∧ l2 < 24) (mmK (0 ≤ l1 ∧ l1 < 24) (if (m.1 (l0 + 3) (l2).toNat) = (m.1 (l0 + 3) (l1).toNat) then
(some (0, m))
else
(mmK (inR (l2 + 1)) (f_X2_isFirstOfText_L12 n l0 l1 (l2 + 1) m)))))
set_option maxRecDepth 100000 in
set_option maxHeartbeats 4000000 in
theorem ok_X2_isFirstOfText_L12 {r : Int × Mem} : ∀ (n : Nat), ∀ (l0 : Nat) (l1 : Int) (l2 : Int) (m : Mem), mmSh[l0]? = some (.inl 2) → inR l1 → inR l2 → f_X2_isFirstOfText_L12 n l0 l1 l2 m = some r → VV RX2 cX2_isFirstOfText 3 rm_X2_isFirstOfText mmG0 (mmPz r) 12 [(0, .ref l0), (1, vi l1), (2, vi l2)] [] m := by
  intro n
  induction n with
  | zero =>
    intro l0 l1 l2 m hs0 hr1 hr2 E
    cases E
  | succ n ih =>
    intro l0 l1 l2 m hs0 hr1 hr2 E
    rw [f_X2_isFirstOfText_L12] at E
    refine V_iload_n 2 dX2_isFirstOfText_12 rfl ?_
    refine V_iload_n 1 dX2_isFirstOfText_13 rfl ?_
    refine V_icmp_ge 40 dX2_isFirstOfText_14 (by decide) hr2 hr1 (fun c4 => ?_) (fun c4 => ?_)
    · replace E := mmI_t c4 E
      refine V_iconst dX2_isFirstOfText_40 rfl ?_
      obtain rfl := Option.some.inj E
      exact V_reti dX2_isFirstOfText_41 ⟨rfl, rfl, (Or.inr rfl)⟩
    · replace E := mmI_f c4 E
      refine V_aload_n 0 dX2_isFirstOfText_17 rfl ?_
      refine V_geta (ci := 2) (k := 2) (N := 10) (T := TX2) (o' := (l0 + 3)) dX2_isFirstOfText_18 iuX2 fl_X2_18 rfl (by decide) rfl hs0 rfl ?_
      refine V_iload_n 2 dX2_isFirstOfText_21 rfl ?_
      obtain ⟨hv5, E⟩ := mmK_e E
      refine V_iald (n := 24) (j := (l2).toNat) (v := (m.1 (l0 + 3) (l2).toNat)) dX2_isFirstOfText_22 (mmS3 hs0) hr2 hv5 rfl (by first | rfl | simp [mwr]) (fun hv6 => ?_)
      refine V_aload_n 0 dX2_isFirstOfText_23 rfl ?_
      refine V_geta (ci := 2) (k := 2) (N := 10) (T := TX2) (o' := (l0 + 3)) dX2_isFirstOfText_24 iuX2 fl_X2_18 rfl (by decide) rfl hs0 rfl ?_
      refine V_iload_n 1 dX2_isFirstOfText_27 rfl ?_
      obtain ⟨hv7, E⟩ := mmK_e E
      refine V_iald (n := 24) (j := (l1).toNat) (v := (m.1 (l0 + 3) (l1).toNat)) dX2_isFirstOfText_28 (mmS3 hs0) hr1 hv7 rfl (by first | rfl | simp [mwr]) (fun hv8 => ?_)
      refine V_icmp_ne 34 dX2_isFirstOfText_29 (by decide) hv6 hv8 (fun c9 => ?_) (fun c9 => ?_)
      · replace E := mmI_f c9 E
        obtain ⟨hv10, E⟩ := mmK_e E
        refine V_iinc (v := (l2 + 1)) (lv' := [(0, .ref l0), (1, vi l1), (2, vi (l2 + 1))]) 2 dX2_isFirstOfText_34 rfl rfl rfl rfl ?_
        refine V_goto 12 dX2_isFirstOfText_37 (by decide) ?_
        exact ih _ _ _ _ hs0 hr1 hv10 E
      · replace E := mmI_t c9 E
        refine V_iconst dX2_isFirstOfText_32 rfl ?_
        obtain rfl := Option.some.inj E
        exact V_reti dX2_isFirstOfText_33 ⟨rfl, rfl, (Or.inl rfl)⟩
noncomputable def f_X2_isFirstOfText (l0 : Nat) (l1 : Int) (m : Mem) : Option (Int × Mem) :=
  (f_X2_isRank l0 l1 m).bind (fun q1 => if q1.1 = 0 then
(some (0, q1.2))
else
(f_X2_isFirstOfText_L12 mmFU l0 l1 0 q1.2))
set_option maxRecDepth 100000 in
set_option maxHeartbeats 4000000 in
theorem ok_X2_isFirstOfText {r : Int × Mem} : ∀ (l0 : Nat) (l1 : Int) (m : Mem), mmSh[l0]? = some (.inl 2) → inR l1 → f_X2_isFirstOfText l0 l1 m = some r → VV RX2 cX2_isFirstOfText 3 rm_X2_isFirstOfText mmG0 (mmPz r) 0 [(0, .ref l0), (1, vi l1)] [] m := by
  intro l0 l1 m hs0 hr1 E
  unfold f_X2_isFirstOfText at E
  refine V_aload_n 0 dX2_isFirstOfText_0 rfl ?_
  refine V_iload_n 1 dX2_isFirstOfText_1 rfl ?_
  obtain ⟨q1, hq1, E⟩ := mmB_e E
  refine V_callV (ci := 2) (q := (RX2, TX2, 10)) (Cn := RX2) (st := []) 1 dX2_isFirstOfText_2 (ct_X2_isRank hs0 hr1 hq1) ml_X2_63 im_X2_isRank sl_X2_isRank it_X2 cd_X2_isRank hy_X2_isRank ⟨rfl, rfl, by decide, by decide⟩ hs0 rfl rfl rfl rfl (Nat.le_of_ble_eq_true rfl) (fun hv2 => ?_)
  refine V_if_ne 10 dX2_isFirstOfText_5 (by decide) hv2 (fun c3 => ?_) (fun c3 => ?_)
  · replace E := mmI_f c3 E
    refine V_iconst dX2_isFirstOfText_10 rfl ?_
    refine V_istore_n (i := 2) (lv' := [(0, .ref l0), (1, vi l1), (2, vi 0)]) dX2_isFirstOfText_11 rfl rfl rfl ?_
    exact ok_X2_isFirstOfText_L12 mmFU _ _ _ _ hs0 hr1 ir_0 E
  · replace E := mmI_t c3 E
    refine V_iconst dX2_isFirstOfText_8 rfl ?_
    obtain rfl := Option.some.inj E
    exact V_reti dX2_isFirstOfText_9 ⟨rfl, rfl, (Or.inl rfl)⟩
theorem ct_X2_isFirstOfText {l0 : Nat} {l1 : Int} {m : Mem} {r : Int × Mem} (hs0 : mmSh[l0]? = some (.inl 2)) (hr1 : inR l1) (E : f_X2_isFirstOfText l0 l1 m = some r) : CTi yX2_isFirstOfText cX2_isFirstOfText 3 (some .boolean) rm_X2_isFirstOfText [.ref l0, vi l1] m r := CT_z (by decide +kernel) rfl (Nat.le_of_ble_eq_true rfl) (ok_X2_isFirstOfText _ _ _ hs0 hr1 E)
theorem hy_X2_isFirstOfText : yX2_isFirstOfText.cls = RX2 ∧ yX2_isFirstOfText.cls ≠ "java/lang/invoke/MethodHandle" ∧ yX2_isFirstOfText.cls ≠ "java/lang/invoke/VarHandle" ∧ (parseMethodDescriptor yX2_isFirstOfText.desc).map (fun d => d.parameters.length) = some 1 := by decide +kernel
abbrev rm_X2_livingUnits : Room := { frames := 2, cells := 0, slots := 0, locals := 43 }
noncomputable def f_X2_livingUnits_L4 : Nat → Nat → Int → Int → Mem → Option (Int × Mem)
  | 0, _, _, _, _ => none
  | n + 1, l0, l1, l2, m =>
    if (m.1 l0 5) ≤ l2 then
(some (l1, m))
else
((f_X2_isFirstOfText l0 l2 m).bind (fun q3 => if q3.1 = 0 then
(mmK (inR (l2 + 1)) (f_X2_livingUnits_L4 n l0 l1 (l2 + 1) q3.2))
else
(mmK (0 ≤ l2 ∧ l2 < 24) (mmK (inR (l1 + (q3.2.1 (l0 + 4) (l2).toNat))) (mmK (inR (l2 + 1)) (f_X2_livingUnits_L4 n l0 (l1 + (q3.2.1 (l0 + 4) (l2).toNat)) (l2 + 1) q3.2))))))
set_option maxRecDepth 100000 in
set_option maxHeartbeats 4000000 in
theorem ok_X2_livingUnits_L4 {r : Int × Mem} : ∀ (n : Nat), ∀ (l0 : Nat) (l1 : Int) (l2 : Int) (m : Mem), mmSh[l0]? = some (.inl 2) → inR l1 → inR l2 → f_X2_livingUnits_L4 n l0 l1 l2 m = some r → VV RX2 cX2_livingUnits 3 rm_X2_livingUnits mmG0 (mmPi r) 4 [(0, .ref l0), (1, vi l1), (2, vi l2)] [] m := by
  intro n
  induction n with
  | zero =>
    intro l0 l1 l2 m hs0 hr1 hr2 E
    cases E
  | succ n ih =>
    intro l0 l1 l2 m hs0 hr1 hr2 E
    rw [f_X2_livingUnits_L4] at E
    refine V_iload_n 2 dX2_livingUnits_4 rfl ?_
    refine V_aload_n 0 dX2_livingUnits_5 rfl ?_
    refine V_geti (ci := 2) (k := 5) (N := 10) (T := TX2) (v := (m.1 l0 5)) dX2_livingUnits_6 iuX2 fl_X2_27 rfl (by decide) rfl hs0 (by first | rfl | simp [mwr]) (fun hv1 => ?_)
    refine V_icmp_ge 35 dX2_livingUnits_9 (by decide) hr2 hv1 (fun c2 => ?_) (fun c2 => ?_)
    · replace E := mmI_t c2 E
      refine V_iload_n 1 dX2_livingUnits_35 rfl ?_
      obtain rfl := Option.some.inj E
      exact V_reti dX2_livingUnits_36 ⟨rfl, rfl, hr1⟩
    · replace E := mmI_f c2 E
      refine V_aload_n 0 dX2_livingUnits_12 rfl ?_
      refine V_iload_n 2 dX2_livingUnits_13 rfl ?_
      obtain ⟨q3, hq3, E⟩ := mmB_e E
      refine V_callV (ci := 2) (q := (RX2, TX2, 10)) (Cn := RX2) (st := []) 1 dX2_livingUnits_14 (ct_X2_isFirstOfText hs0 hr2 hq3) ml_X2_135 im_X2_isFirstOfText sl_X2_isFirstOfText it_X2 cd_X2_isFirstOfText hy_X2_isFirstOfText ⟨rfl, rfl, by decide, by decide⟩ hs0 rfl rfl rfl rfl (Nat.le_of_ble_eq_true rfl) (fun hv4 => ?_)
      refine V_if_eq 29 dX2_livingUnits_17 (by decide) hv4 (fun c5 => ?_) (fun c5 => ?_)
      · replace E := mmI_t c5 E
        obtain ⟨hv6, E⟩ := mmK_e E
        refine V_iinc (v := (l2 + 1)) (lv' := [(0, .ref l0), (1, vi l1), (2, vi (l2 + 1))]) 2 dX2_livingUnits_29 rfl rfl rfl rfl ?_
        refine V_goto 4 dX2_livingUnits_32 (by decide) ?_
        exact ih _ _ _ _ hs0 hr1 hv6 E
      · replace E := mmI_f c5 E
        refine V_iload_n 1 dX2_livingUnits_20 rfl ?_
        refine V_aload_n 0 dX2_livingUnits_21 rfl ?_
        refine V_geta (ci := 2) (k := 3) (N := 10) (T := TX2) (o' := (l0 + 4)) dX2_livingUnits_22 iuX2 fl_X2_21 rfl (by decide) rfl hs0 rfl ?_
        refine V_iload_n 2 dX2_livingUnits_25 rfl ?_
        obtain ⟨hv7, E⟩ := mmK_e E
        refine V_iald (n := 24) (j := (l2).toNat) (v := (q3.2.1 (l0 + 4) (l2).toNat)) dX2_livingUnits_26 (mmS4 hs0) hr2 hv7 rfl (by first | rfl | simp [mwr]) (fun hv8 => ?_)
        obtain ⟨hv9, E⟩ := mmK_e E
        refine V_iadd dX2_livingUnits_27 ?_
        refine V_istore_n (i := 1) (lv' := [(0, .ref l0), (1, vi (l1 + (q3.2.1 (l0 + 4) (l2).toNat))), (2, vi l2)]) dX2_livingUnits_28 rfl rfl rfl ?_
        obtain ⟨hv10, E⟩ := mmK_e E
        refine V_iinc (v := (l2 + 1)) (lv' := [(0, .ref l0), (1, vi (l1 + (q3.2.1 (l0 + 4) (l2).toNat))), (2, vi (l2 + 1))]) 2 dX2_livingUnits_29 rfl rfl rfl rfl ?_
        refine V_goto 4 dX2_livingUnits_32 (by decide) ?_
        exact ih _ _ _ _ hs0 hv9 hv10 E
noncomputable def f_X2_livingUnits (l0 : Nat) (m : Mem) : Option (Int × Mem) :=
  f_X2_livingUnits_L4 mmFU l0 0 0 m
set_option maxRecDepth 100000 in
set_option maxHeartbeats 4000000 in
theorem ok_X2_livingUnits {r : Int × Mem} : ∀ (l0 : Nat) (m : Mem), mmSh[l0]? = some (.inl 2) → f_X2_livingUnits l0 m = some r → VV RX2 cX2_livingUnits 3 rm_X2_livingUnits mmG0 (mmPi r) 0 [(0, .ref l0)] [] m := by
  intro l0 m hs0 E
  unfold f_X2_livingUnits at E
  refine V_iconst dX2_livingUnits_0 rfl ?_
  refine V_istore_n (i := 1) (lv' := [(0, .ref l0), (1, vi 0)]) dX2_livingUnits_1 rfl rfl rfl ?_
  refine V_iconst dX2_livingUnits_2 rfl ?_
  refine V_istore_n (i := 2) (lv' := [(0, .ref l0), (1, vi 0), (2, vi 0)]) dX2_livingUnits_3 rfl rfl rfl ?_
  exact ok_X2_livingUnits_L4 mmFU _ _ _ _ hs0 ir_0 ir_0 E
theorem ct_X2_livingUnits {l0 : Nat} {m : Mem} {r : Int × Mem} (hs0 : mmSh[l0]? = some (.inl 2)) (E : f_X2_livingUnits l0 m = some r) : CTi yX2_livingUnits cX2_livingUnits 3 (some .int) rm_X2_livingUnits [.ref l0] m r := CT_i (by decide +kernel) rfl (Nat.le_of_ble_eq_true rfl) (ok_X2_livingUnits _ _ hs0 E)
theorem hy_X2_livingUnits : yX2_livingUnits.cls = RX2 ∧ yX2_livingUnits.cls ≠ "java/lang/invoke/MethodHandle" ∧ yX2_livingUnits.cls ≠ "java/lang/invoke/VarHandle" ∧ (parseMethodDescriptor yX2_livingUnits.desc).map (fun d => d.parameters.length) = some 0 := by decide +kernel
abbrev rm_X2_deadUnits : Room := { frames := 3, cells := 0, slots := 0, locals := 65 }
noncomputable def f_X2_deadUnits (l0 : Nat) (m : Mem) : Option (Int × Mem) :=
  (f_X2_livingUnits l0 m).bind (fun q2 => mmK (inR ((m.1 l0 7) - q2.1)) (some (((m.1 l0 7) - q2.1), q2.2)))
set_option maxRecDepth 100000 in
set_option maxHeartbeats 4000000 in
theorem ok_X2_deadUnits {r : Int × Mem} : ∀ (l0 : Nat) (m : Mem), mmSh[l0]? = some (.inl 2) → f_X2_deadUnits l0 m = some r → VV RX2 cX2_deadUnits 1 rm_X2_deadUnits mmG0 (mmPi r) 0 [(0, .ref l0)] [] m := by
  intro l0 m hs0 E
  unfold f_X2_deadUnits at E
  refine V_aload_n 0 dX2_deadUnits_0 rfl ?_
  refine V_geti (ci := 2) (k := 7) (N := 10) (T := TX2) (v := (m.1 l0 7)) dX2_deadUnits_1 iuX2 fl_X2_34 rfl (by decide) rfl hs0 (by first | rfl | simp [mwr]) (fun hv1 => ?_)
  refine V_aload_n 0 dX2_deadUnits_4 rfl ?_
  obtain ⟨q2, hq2, E⟩ := mmB_e E
  refine V_callV (ci := 2) (q := (RX2, TX2, 10)) (Cn := RX2) (st := [vi (m.1 l0 7)]) 0 dX2_deadUnits_5 (ct_X2_livingUnits hs0 hq2) ml_X2_120 im_X2_livingUnits sl_X2_livingUnits it_X2 cd_X2_livingUnits hy_X2_livingUnits ⟨rfl, rfl, by decide, by decide⟩ hs0 rfl rfl rfl rfl (Nat.le_of_ble_eq_true rfl) (fun hv3 => ?_)
  obtain ⟨hv4, E⟩ := mmK_e E
  refine V_isub dX2_deadUnits_8 ?_
  obtain rfl := Option.some.inj E
  exact V_reti dX2_deadUnits_9 ⟨rfl, rfl, hv4⟩
theorem ct_X2_deadUnits {l0 : Nat} {m : Mem} {r : Int × Mem} (hs0 : mmSh[l0]? = some (.inl 2)) (E : f_X2_deadUnits l0 m = some r) : CTi yX2_deadUnits cX2_deadUnits 1 (some .int) rm_X2_deadUnits [.ref l0] m r := CT_i (by decide +kernel) rfl (Nat.le_of_ble_eq_true rfl) (ok_X2_deadUnits _ _ hs0 E)
theorem hy_X2_deadUnits : yX2_deadUnits.cls = RX2 ∧ yX2_deadUnits.cls ≠ "java/lang/invoke/MethodHandle" ∧ yX2_deadUnits.cls ≠ "java/lang/invoke/VarHandle" ∧ (parseMethodDescriptor yX2_deadUnits.desc).map (fun d => d.parameters.length) = some 0 := by decide +kernel
abbrev rm_X2_moveText : Room := { frames := 0, cells := 0, slots := 0, locals := 0 }
noncomputable def f_X2_moveText_L5 : Nat → Nat → Int → Int → Int → Int → Mem → Option (Int × Mem)
  | 0, _, _, _, _, _, _ => none
  | n + 1, l0, l1, l2, l3, l4, m =>
    if (m.1 l0 5) ≤ l4 then
(some (l3, m))
else
(mmK (0 ≤ l4 ∧ l4 < 24) (if (m.1 (l0 + 3) (l4).toNat) = l1 then
(mmK (0 ≤ l4 ∧ l4 < 24) (mmK (0 ≤ l4 ∧ l4 < 24) (mmK (inR (l4 + 1)) (f_X2_moveText_L5 n l0 l1 l2 ((mwr m (l0 + 3) (l4).toNat l2).1 (l0 + 4) (l4).toNat) (l4 + 1) (mwr m (l0 + 3) (l4).toNat l2)))))
else
(mmK (inR (l4 + 1)) (f_X2_moveText_L5 n l0 l1 l2 l3 (l4 + 1) m))))
set_option maxRecDepth 100000 in
set_option maxHeartbeats 4000000 in
theorem ok_X2_moveText_L5 {r : Int × Mem} : ∀ (n : Nat), ∀ (l0 : Nat) (l1 : Int) (l2 : Int) (l3 : Int) (l4 : Int) (m : Mem), mmSh[l0]? = some (.inl 2) → inR l1 → inR l2 → inR l3 → inR l4 → f_X2_moveText_L5 n l0 l1 l2 l3 l4 m = some r → VV RX2 cX2_moveText 5 rm_X2_moveText mmG0 (mmPi r) 5 [(0, .ref l0), (1, vi l1), (2, vi l2), (3, vi l3), (4, vi l4)] [] m := by
  intro n
  induction n with
  | zero =>
    intro l0 l1 l2 l3 l4 m hs0 hr1 hr2 hr3 hr4 E
    cases E
  | succ n ih =>
    intro l0 l1 l2 l3 l4 m hs0 hr1 hr2 hr3 hr4 E
    rw [f_X2_moveText_L5] at E
    refine V_iload 4 dX2_moveText_5 rfl ?_
    refine V_aload_n 0 dX2_moveText_7 rfl ?_
    refine V_geti (ci := 2) (k := 5) (N := 10) (T := TX2) (v := (m.1 l0 5)) dX2_moveText_8 iuX2 fl_X2_27 rfl (by decide) rfl hs0 (by first | rfl | simp [mwr]) (fun hv1 => ?_)
    refine V_icmp_ge 47 dX2_moveText_11 (by decide) hr4 hv1 (fun c2 => ?_) (fun c2 => ?_)
    · replace E := mmI_t c2 E
      refine V_iload_n 3 dX2_moveText_47 rfl ?_
      obtain rfl := Option.some.inj E
      exact V_reti dX2_moveText_48 ⟨rfl, rfl, hr3⟩
    · replace E := mmI_f c2 E
      refine V_aload_n 0 dX2_moveText_14 rfl ?_
      refine V_geta (ci := 2) (k := 2) (N := 10) (T := TX2) (o' := (l0 + 3)) dX2_moveText_15 iuX2 fl_X2_18 rfl (by decide) rfl hs0 rfl ?_
      refine V_iload 4 dX2_moveText_18 rfl ?_
      obtain ⟨hv3, E⟩ := mmK_e E
      refine V_iald (n := 24) (j := (l4).toNat) (v := (m.1 (l0 + 3) (l4).toNat)) dX2_moveText_20 (mmS3 hs0) hr4 hv3 rfl (by first | rfl | simp [mwr]) (fun hv4 => ?_)
      refine V_iload_n 1 dX2_moveText_21 rfl ?_
      refine V_icmp_ne 41 dX2_moveText_22 (by decide) hv4 hr1 (fun c5 => ?_) (fun c5 => ?_)
      · replace E := mmI_f c5 E
        obtain ⟨hv6, E⟩ := mmK_e E
        refine V_iinc (v := (l4 + 1)) (lv' := [(0, .ref l0), (1, vi l1), (2, vi l2), (3, vi l3), (4, vi (l4 + 1))]) 4 dX2_moveText_41 rfl rfl rfl rfl ?_
        refine V_goto 5 dX2_moveText_44 (by decide) ?_
        exact ih _ _ _ _ _ _ hs0 hr1 hr2 hr3 hv6 E
      · replace E := mmI_t c5 E
        refine V_aload_n 0 dX2_moveText_25 rfl ?_
        refine V_geta (ci := 2) (k := 2) (N := 10) (T := TX2) (o' := (l0 + 3)) dX2_moveText_26 iuX2 fl_X2_18 rfl (by decide) rfl hs0 rfl ?_
        refine V_iload 4 dX2_moveText_29 rfl ?_
        refine V_iload_n 2 dX2_moveText_31 rfl ?_
        obtain ⟨hv7, E⟩ := mmK_e E
        refine V_iast (n := 24) (j := (l4).toNat) dX2_moveText_32 (mmS3 hs0) hr4 hr2 hv7 rfl ?_
        refine V_aload_n 0 dX2_moveText_33 rfl ?_
        refine V_geta (ci := 2) (k := 3) (N := 10) (T := TX2) (o' := (l0 + 4)) dX2_moveText_34 iuX2 fl_X2_21 rfl (by decide) rfl hs0 rfl ?_
        refine V_iload 4 dX2_moveText_37 rfl ?_
        obtain ⟨hv8, E⟩ := mmK_e E
        refine V_iald (n := 24) (j := (l4).toNat) (v := ((mwr m (l0 + 3) (l4).toNat l2).1 (l0 + 4) (l4).toNat)) dX2_moveText_39 (mmS4 hs0) hr4 hv8 rfl (by first | rfl | simp [mwr]) (fun hv9 => ?_)
        refine V_istore_n (i := 3) (lv' := [(0, .ref l0), (1, vi l1), (2, vi l2), (3, vi ((mwr m (l0 + 3) (l4).toNat l2).1 (l0 + 4) (l4).toNat)), (4, vi l4)]) dX2_moveText_40 rfl rfl rfl ?_
        obtain ⟨hv10, E⟩ := mmK_e E
        refine V_iinc (v := (l4 + 1)) (lv' := [(0, .ref l0), (1, vi l1), (2, vi l2), (3, vi ((mwr m (l0 + 3) (l4).toNat l2).1 (l0 + 4) (l4).toNat)), (4, vi (l4 + 1))]) 4 dX2_moveText_41 rfl rfl rfl rfl ?_
        refine V_goto 5 dX2_moveText_44 (by decide) ?_
        exact ih _ _ _ _ _ _ hs0 hr1 hr2 hv9 hv10 E
noncomputable def f_X2_moveText (l0 : Nat) (l1 : Int) (l2 : Int) (m : Mem) : Option (Int × Mem) :=
  f_X2_moveText_L5 mmFU l0 l1 l2 0 0 m
set_option maxRecDepth 100000 in
set_option maxHeartbeats 4000000 in
theorem ok_X2_moveText {r : Int × Mem} : ∀ (l0 : Nat) (l1 : Int) (l2 : Int) (m : Mem), mmSh[l0]? = some (.inl 2) → inR l1 → inR l2 → f_X2_moveText l0 l1 l2 m = some r → VV RX2 cX2_moveText 5 rm_X2_moveText mmG0 (mmPi r) 0 [(0, .ref l0), (1, vi l1), (2, vi l2)] [] m := by
  intro l0 l1 l2 m hs0 hr1 hr2 E
  unfold f_X2_moveText at E
  refine V_iconst dX2_moveText_0 rfl ?_
  refine V_istore_n (i := 3) (lv' := [(0, .ref l0), (1, vi l1), (2, vi l2), (3, vi 0)]) dX2_moveText_1 rfl rfl rfl ?_
  refine V_iconst dX2_moveText_2 rfl ?_
  refine V_istore (lv' := [(0, .ref l0), (1, vi l1), (2, vi l2), (3, vi 0), (4, vi 0)]) dX2_moveText_3 rfl rfl ?_
  exact ok_X2_moveText_L5 mmFU _ _ _ _ _ _ hs0 hr1 hr2 ir_0 ir_0 E
theorem ct_X2_moveText {l0 : Nat} {l1 : Int} {l2 : Int} {m : Mem} {r : Int × Mem} (hs0 : mmSh[l0]? = some (.inl 2)) (hr1 : inR l1) (hr2 : inR l2) (E : f_X2_moveText l0 l1 l2 m = some r) : CTi yX2_moveText cX2_moveText 5 (some .int) rm_X2_moveText [.ref l0, vi l1, vi l2] m r := CT_i (by decide +kernel) rfl (Nat.le_of_ble_eq_true rfl) (ok_X2_moveText _ _ _ _ hs0 hr1 hr2 E)
theorem hy_X2_moveText : yX2_moveText.cls = RX2 ∧ yX2_moveText.cls ≠ "java/lang/invoke/MethodHandle" ∧ yX2_moveText.cls ≠ "java/lang/invoke/VarHandle" ∧ (parseMethodDescriptor yX2_moveText.desc).map (fun d => d.parameters.length) = some 2 := by decide +kernel
abbrev rm_X2_closeUp : Room := { frames := 1, cells := 0, slots := 0, locals := 24 }
noncomputable def f_X2_closeUp_L4 : Nat → Nat → Int → Int → Mem → Option (Int × Mem)
  | 0, _, _, _, _ => none
  | n + 1, l0, l1, l2, m =>
    if 100 ≤ l2 then
(mmK (inR ((m.1 l0 7) - l1)) (mmK (inR ((m.1 l0 8) + 1)) (mmK (inR ((m.1 l0 9) + ((m.1 l0 7) - l1))) (some (((m.1 l0 7) - l1), (mwr (mwr (mwr m l0 7 l1) l0 8 ((m.1 l0 8) + 1)) l0 9 ((m.1 l0 9) + ((m.1 l0 7) - l1))))))))
else
((f_X2_moveText l0 l2 l1 m).bind (fun q8 => mmK (inR (l1 + q8.1)) (mmK (inR (l2 + 1)) (f_X2_closeUp_L4 n l0 (l1 + q8.1) (l2 + 1) q8.2))))
set_option maxRecDepth 100000 in
set_option maxHeartbeats 4000000 in
theorem ok_X2_closeUp_L4 {r : Int × Mem} : ∀ (n : Nat), ∀ (l0 : Nat) (l1 : Int) (l2 : Int) (m : Mem), mmSh[l0]? = some (.inl 2) → inR l1 → inR l2 → f_X2_closeUp_L4 n l0 l1 l2 m = some r → VV RX2 cX2_closeUp 3 rm_X2_closeUp mmG0 (mmPi r) 4 [(0, .ref l0), (1, vi l1), (2, vi l2)] [] m := by
  intro n
  induction n with
  | zero =>
    intro l0 l1 l2 m hs0 hr1 hr2 E
    cases E
  | succ n ih =>
    intro l0 l1 l2 m hs0 hr1 hr2 E
    rw [f_X2_closeUp_L4] at E
    refine V_iload_n 2 dX2_closeUp_4 rfl ?_
    refine V_bipush (v := 100) dX2_closeUp_5 (by decide) ?_
    refine V_icmp_ge 25 dX2_closeUp_7 (by decide) hr2 ir_100 (fun c1 => ?_) (fun c1 => ?_)
    · replace E := mmI_t c1 E
      refine V_aload_n 0 dX2_closeUp_25 rfl ?_
      refine V_geti (ci := 2) (k := 7) (N := 10) (T := TX2) (v := (m.1 l0 7)) dX2_closeUp_26 iuX2 fl_X2_34 rfl (by decide) rfl hs0 (by first | rfl | simp [mwr]) (fun hv2 => ?_)
      refine V_iload_n 1 dX2_closeUp_29 rfl ?_
      obtain ⟨hv3, E⟩ := mmK_e E
      refine V_isub dX2_closeUp_30 ?_
      refine V_istore_n (i := 2) (lv' := [(0, .ref l0), (1, vi l1), (2, vi ((m.1 l0 7) - l1))]) dX2_closeUp_31 rfl rfl rfl ?_
      refine V_aload_n 0 dX2_closeUp_32 rfl ?_
      refine V_iload_n 1 dX2_closeUp_33 rfl ?_
      refine V_put (ci := 2) (k := 7) (N := 10) (T := TX2) (x := l1) (ty := .int) tyX2 dX2_closeUp_34 iuX2 tyX2_ok nmX2 fl_X2_34 rfl (by decide) rfl hs0 rfl (by decide +kernel) rfl rfl hr1 ?_
      refine V_aload_n 0 dX2_closeUp_37 rfl ?_
      refine V_dupa dX2_closeUp_38 ?_
      refine V_geti (ci := 2) (k := 8) (N := 10) (T := TX2) (v := (m.1 l0 8)) dX2_closeUp_39 iuX2 fl_X2_37 rfl (by decide) rfl hs0 (by first | rfl | simp [mwr]) (fun hv4 => ?_)
      refine V_iconst dX2_closeUp_42 rfl ?_
      obtain ⟨hv5, E⟩ := mmK_e E
      refine V_iadd dX2_closeUp_43 ?_
      refine V_put (ci := 2) (k := 8) (N := 10) (T := TX2) (x := ((m.1 l0 8) + 1)) (ty := .int) tyX2 dX2_closeUp_44 iuX2 tyX2_ok nmX2 fl_X2_37 rfl (by decide) rfl hs0 rfl (by decide +kernel) rfl rfl hv5 ?_
      refine V_aload_n 0 dX2_closeUp_47 rfl ?_
      refine V_dupa dX2_closeUp_48 ?_
      refine V_geti (ci := 2) (k := 9) (N := 10) (T := TX2) (v := (m.1 l0 9)) dX2_closeUp_49 iuX2 fl_X2_40 rfl (by decide) rfl hs0 (by first | rfl | simp [mwr]) (fun hv6 => ?_)
      refine V_iload_n 2 dX2_closeUp_52 rfl ?_
      obtain ⟨hv7, E⟩ := mmK_e E
      refine V_iadd dX2_closeUp_53 ?_
      refine V_put (ci := 2) (k := 9) (N := 10) (T := TX2) (x := ((m.1 l0 9) + ((m.1 l0 7) - l1))) (ty := .int) tyX2 dX2_closeUp_54 iuX2 tyX2_ok nmX2 fl_X2_40 rfl (by decide) rfl hs0 rfl (by decide +kernel) rfl rfl hv7 ?_
      refine V_iload_n 2 dX2_closeUp_57 rfl ?_
      obtain rfl := Option.some.inj E
      exact V_reti dX2_closeUp_58 ⟨rfl, rfl, hv3⟩
    · replace E := mmI_f c1 E
      refine V_iload_n 1 dX2_closeUp_10 rfl ?_
      refine V_aload_n 0 dX2_closeUp_11 rfl ?_
      refine V_iload_n 2 dX2_closeUp_12 rfl ?_
      refine V_iload_n 1 dX2_closeUp_13 rfl ?_
      obtain ⟨q8, hq8, E⟩ := mmB_e E
      refine V_callV (ci := 2) (q := (RX2, TX2, 10)) (Cn := RX2) (st := [vi l1]) 2 dX2_closeUp_14 (ct_X2_moveText hs0 hr2 hr1 hq8) ml_X2_142 im_X2_moveText sl_X2_moveText it_X2 cd_X2_moveText hy_X2_moveText ⟨rfl, rfl, by decide, by decide⟩ hs0 rfl rfl rfl rfl (Nat.le_of_ble_eq_true rfl) (fun hv9 => ?_)
      obtain ⟨hv10, E⟩ := mmK_e E
      refine V_iadd dX2_closeUp_17 ?_
      refine V_istore_n (i := 1) (lv' := [(0, .ref l0), (1, vi (l1 + q8.1)), (2, vi l2)]) dX2_closeUp_18 rfl rfl rfl ?_
      obtain ⟨hv11, E⟩ := mmK_e E
      refine V_iinc (v := (l2 + 1)) (lv' := [(0, .ref l0), (1, vi (l1 + q8.1)), (2, vi (l2 + 1))]) 2 dX2_closeUp_19 rfl rfl rfl rfl ?_
      refine V_goto 4 dX2_closeUp_22 (by decide) ?_
      exact ih _ _ _ _ hs0 hv10 hv11 E
noncomputable def f_X2_closeUp (l0 : Nat) (m : Mem) : Option (Int × Mem) :=
  f_X2_closeUp_L4 mmFU l0 0 0 m
set_option maxRecDepth 100000 in
set_option maxHeartbeats 4000000 in
theorem ok_X2_closeUp {r : Int × Mem} : ∀ (l0 : Nat) (m : Mem), mmSh[l0]? = some (.inl 2) → f_X2_closeUp l0 m = some r → VV RX2 cX2_closeUp 3 rm_X2_closeUp mmG0 (mmPi r) 0 [(0, .ref l0)] [] m := by
  intro l0 m hs0 E
  unfold f_X2_closeUp at E
  refine V_iconst dX2_closeUp_0 rfl ?_
  refine V_istore_n (i := 1) (lv' := [(0, .ref l0), (1, vi 0)]) dX2_closeUp_1 rfl rfl rfl ?_
  refine V_iconst dX2_closeUp_2 rfl ?_
  refine V_istore_n (i := 2) (lv' := [(0, .ref l0), (1, vi 0), (2, vi 0)]) dX2_closeUp_3 rfl rfl rfl ?_
  exact ok_X2_closeUp_L4 mmFU _ _ _ _ hs0 ir_0 ir_0 E
theorem ct_X2_closeUp {l0 : Nat} {m : Mem} {r : Int × Mem} (hs0 : mmSh[l0]? = some (.inl 2)) (E : f_X2_closeUp l0 m = some r) : CTi yX2_closeUp cX2_closeUp 3 (some .int) rm_X2_closeUp [.ref l0] m r := CT_i (by decide +kernel) rfl (Nat.le_of_ble_eq_true rfl) (ok_X2_closeUp _ _ hs0 E)
theorem hy_X2_closeUp : yX2_closeUp.cls = RX2 ∧ yX2_closeUp.cls ≠ "java/lang/invoke/MethodHandle" ∧ yX2_closeUp.cls ≠ "java/lang/invoke/VarHandle" ∧ (parseMethodDescriptor yX2_closeUp.desc).map (fun d => d.parameters.length) = some 0 := by decide +kernel
abbrev rm_X2_giveBackDeadRoom : Room := { frames := 4, cells := 0, slots := 0, locals := 85 }
noncomputable def f_X2_giveBackDeadRoom (l0 : Nat) (m : Mem) : Option (Int × Mem) :=
  (f_X2_deadUnits l0 m).bind (fun q1 => if q1.1 = 0 then
(some ((-5), q1.2))
else
((f_X2_closeUp l0 q1.2).bind (fun q4 => some (q4.1, q4.2))))
set_option maxRecDepth 100000 in
set_option maxHeartbeats 4000000 in
theorem ok_X2_giveBackDeadRoom {r : Int × Mem} : ∀ (l0 : Nat) (m : Mem), mmSh[l0]? = some (.inl 2) → f_X2_giveBackDeadRoom l0 m = some r → VV RX2 cX2_giveBackDeadRoom 1 rm_X2_giveBackDeadRoom mmG0 (mmPi r) 0 [(0, .ref l0)] [] m := by
  intro l0 m hs0 E
  unfold f_X2_giveBackDeadRoom at E
  refine V_aload_n 0 dX2_giveBackDeadRoom_0 rfl ?_
  obtain ⟨q1, hq1, E⟩ := mmB_e E
  refine V_callV (ci := 2) (q := (RX2, TX2, 10)) (Cn := RX2) (st := []) 0 dX2_giveBackDeadRoom_1 (ct_X2_deadUnits hs0 hq1) ml_X2_95 im_X2_deadUnits sl_X2_deadUnits it_X2 cd_X2_deadUnits hy_X2_deadUnits ⟨rfl, rfl, by decide, by decide⟩ hs0 rfl rfl rfl rfl (Nat.le_of_ble_eq_true rfl) (fun hv2 => ?_)
  refine V_if_ne 10 dX2_giveBackDeadRoom_4 (by decide) hv2 (fun c3 => ?_) (fun c3 => ?_)
  · replace E := mmI_f c3 E
    refine V_aload_n 0 dX2_giveBackDeadRoom_10 rfl ?_
    obtain ⟨q4, hq4, E⟩ := mmB_e E
    refine V_callV (ci := 2) (q := (RX2, TX2, 10)) (Cn := RX2) (st := []) 0 dX2_giveBackDeadRoom_11 (ct_X2_closeUp hs0 hq4) ml_X2_99 im_X2_closeUp sl_X2_closeUp it_X2 cd_X2_closeUp hy_X2_closeUp ⟨rfl, rfl, by decide, by decide⟩ hs0 rfl rfl rfl rfl (Nat.le_of_ble_eq_true rfl) (fun hv5 => ?_)
    obtain rfl := Option.some.inj E
    exact V_reti dX2_giveBackDeadRoom_14 ⟨rfl, rfl, hv5⟩
  · replace E := mmI_t c3 E
    refine V_bipush (v := (-5)) dX2_giveBackDeadRoom_7 (by decide) ?_
    obtain rfl := Option.some.inj E
    exact V_reti dX2_giveBackDeadRoom_9 ⟨rfl, rfl, ir_m5⟩
theorem ct_X2_giveBackDeadRoom {l0 : Nat} {m : Mem} {r : Int × Mem} (hs0 : mmSh[l0]? = some (.inl 2)) (E : f_X2_giveBackDeadRoom l0 m = some r) : CTi yX2_giveBackDeadRoom cX2_giveBackDeadRoom 1 (some .int) rm_X2_giveBackDeadRoom [.ref l0] m r := CT_i (by decide +kernel) rfl (Nat.le_of_ble_eq_true rfl) (ok_X2_giveBackDeadRoom _ _ hs0 E)
theorem hy_X2_giveBackDeadRoom : yX2_giveBackDeadRoom.cls = RX2 ∧ yX2_giveBackDeadRoom.cls ≠ "java/lang/invoke/MethodHandle" ∧ yX2_giveBackDeadRoom.cls ≠ "java/lang/invoke/VarHandle" ∧ (parseMethodDescriptor yX2_giveBackDeadRoom.desc).map (fun d => d.parameters.length) = some 0 := by decide +kernel
abbrev rm_X2_changeBlocks : Room := { frames := 2, cells := 0, slots := 0, locals := 46 }
noncomputable def f_X2_changeBlocks (l0 : Nat) (l1 : Int) (m : Mem) : Option (Int × Mem) :=
  if l1 < 1 then
(some ((-2), m))
else
(if l1 ≤ 6 then
(mmK (inR (l1 * 4)) (if (m.1 l0 5) ≤ (l1 * 4) then
(if l1 = (m.1 l0 6) then
(some ((-5), m))
else
((f_X2_closeUp l0 (mwr m l0 6 l1)).bind (fun q9 => some ((m.1 l0 6), q9.2))))
else
(some ((-6), m))))
else
(some ((-2), m)))
set_option maxRecDepth 100000 in
set_option maxHeartbeats 4000000 in
theorem ok_X2_changeBlocks {r : Int × Mem} : ∀ (l0 : Nat) (l1 : Int) (m : Mem), mmSh[l0]? = some (.inl 2) → inR l1 → f_X2_changeBlocks l0 l1 m = some r → VV RX2 cX2_changeBlocks 3 rm_X2_changeBlocks mmG0 (mmPi r) 0 [(0, .ref l0), (1, vi l1)] [] m := by
  intro l0 l1 m hs0 hr1 E
  unfold f_X2_changeBlocks at E
  refine V_iload_n 1 dX2_changeBlocks_0 rfl ?_
  refine V_iconst dX2_changeBlocks_1 rfl ?_
  refine V_icmp_lt 11 dX2_changeBlocks_2 (by decide) hr1 ir_1 (fun c1 => ?_) (fun c1 => ?_)
  · replace E := mmI_t c1 E
    refine V_bipush (v := (-2)) dX2_changeBlocks_11 (by decide) ?_
    obtain rfl := Option.some.inj E
    exact V_reti dX2_changeBlocks_13 ⟨rfl, rfl, ir_m2⟩
  · replace E := mmI_f c1 E
    refine V_iload_n 1 dX2_changeBlocks_5 rfl ?_
    refine V_bipush (v := 6) dX2_changeBlocks_6 (by decide) ?_
    refine V_icmp_le 14 dX2_changeBlocks_8 (by decide) hr1 ir_6 (fun c2 => ?_) (fun c2 => ?_)
    · replace E := mmI_t c2 E
      refine V_aload_n 0 dX2_changeBlocks_14 rfl ?_
      refine V_geti (ci := 2) (k := 5) (N := 10) (T := TX2) (v := (m.1 l0 5)) dX2_changeBlocks_15 iuX2 fl_X2_27 rfl (by decide) rfl hs0 (by first | rfl | simp [mwr]) (fun hv3 => ?_)
      refine V_iload_n 1 dX2_changeBlocks_18 rfl ?_
      refine V_iconst dX2_changeBlocks_19 rfl ?_
      obtain ⟨hv4, E⟩ := mmK_e E
      refine V_imul dX2_changeBlocks_20 ?_
      refine V_icmp_le 27 dX2_changeBlocks_21 (by decide) hv3 hv4 (fun c5 => ?_) (fun c5 => ?_)
      · replace E := mmI_t c5 E
        refine V_iload_n 1 dX2_changeBlocks_27 rfl ?_
        refine V_aload_n 0 dX2_changeBlocks_28 rfl ?_
        refine V_geti (ci := 2) (k := 6) (N := 10) (T := TX2) (v := (m.1 l0 6)) dX2_changeBlocks_29 iuX2 fl_X2_31 rfl (by decide) rfl hs0 (by first | rfl | simp [mwr]) (fun hv6 => ?_)
        refine V_icmp_ne 38 dX2_changeBlocks_32 (by decide) hr1 hv6 (fun c7 => ?_) (fun c7 => ?_)
        · replace E := mmI_f c7 E
          refine V_aload_n 0 dX2_changeBlocks_38 rfl ?_
          refine V_geti (ci := 2) (k := 6) (N := 10) (T := TX2) (v := (m.1 l0 6)) dX2_changeBlocks_39 iuX2 fl_X2_31 rfl (by decide) rfl hs0 (by first | rfl | simp [mwr]) (fun hv8 => ?_)
          refine V_istore_n (i := 2) (lv' := [(0, .ref l0), (1, vi l1), (2, vi (m.1 l0 6))]) dX2_changeBlocks_42 rfl rfl rfl ?_
          refine V_aload_n 0 dX2_changeBlocks_43 rfl ?_
          refine V_iload_n 1 dX2_changeBlocks_44 rfl ?_
          refine V_put (ci := 2) (k := 6) (N := 10) (T := TX2) (x := l1) (ty := .int) tyX2 dX2_changeBlocks_45 iuX2 tyX2_ok nmX2 fl_X2_31 rfl (by decide) rfl hs0 rfl (by decide +kernel) rfl rfl hr1 ?_
          refine V_aload_n 0 dX2_changeBlocks_48 rfl ?_
          obtain ⟨q9, hq9, E⟩ := mmB_e E
          refine V_callV (ci := 2) (q := (RX2, TX2, 10)) (Cn := RX2) (st := []) 0 dX2_changeBlocks_49 (ct_X2_closeUp hs0 hq9) ml_X2_99 im_X2_closeUp sl_X2_closeUp it_X2 cd_X2_closeUp hy_X2_closeUp ⟨rfl, rfl, by decide, by decide⟩ hs0 rfl rfl rfl rfl (Nat.le_of_ble_eq_true rfl) (fun hv10 => ?_)
          refine V_popi dX2_changeBlocks_52 ?_
          refine V_iload_n 2 dX2_changeBlocks_53 rfl ?_
          obtain rfl := Option.some.inj E
          exact V_reti dX2_changeBlocks_54 ⟨rfl, rfl, hv8⟩
        · replace E := mmI_t c7 E
          refine V_bipush (v := (-5)) dX2_changeBlocks_35 (by decide) ?_
          obtain rfl := Option.some.inj E
          exact V_reti dX2_changeBlocks_37 ⟨rfl, rfl, ir_m5⟩
      · replace E := mmI_f c5 E
        refine V_bipush (v := (-6)) dX2_changeBlocks_24 (by decide) ?_
        obtain rfl := Option.some.inj E
        exact V_reti dX2_changeBlocks_26 ⟨rfl, rfl, ir_m6⟩
    · replace E := mmI_f c2 E
      refine V_bipush (v := (-2)) dX2_changeBlocks_11 (by decide) ?_
      obtain rfl := Option.some.inj E
      exact V_reti dX2_changeBlocks_13 ⟨rfl, rfl, ir_m2⟩
theorem ct_X2_changeBlocks {l0 : Nat} {l1 : Int} {m : Mem} {r : Int × Mem} (hs0 : mmSh[l0]? = some (.inl 2)) (hr1 : inR l1) (E : f_X2_changeBlocks l0 l1 m = some r) : CTi yX2_changeBlocks cX2_changeBlocks 3 (some .int) rm_X2_changeBlocks [.ref l0, vi l1] m r := CT_i (by decide +kernel) rfl (Nat.le_of_ble_eq_true rfl) (ok_X2_changeBlocks _ _ _ hs0 hr1 E)
theorem hy_X2_changeBlocks : yX2_changeBlocks.cls = RX2 ∧ yX2_changeBlocks.cls ≠ "java/lang/invoke/MethodHandle" ∧ yX2_changeBlocks.cls ≠ "java/lang/invoke/VarHandle" ∧ (parseMethodDescriptor yX2_changeBlocks.desc).map (fun d => d.parameters.length) = some 1 := by decide +kernel
abbrev rm_X2_aliasesOf : Room := { frames := 2, cells := 0, slots := 0, locals := 42 }
noncomputable def f_X2_aliasesOf_L4 : Nat → Nat → Int → Int → Int → Mem → Option (Int × Mem)
  | 0, _, _, _, _, _ => none
  | n + 1, l0, l1, l2, l3, m =>
    if (m.1 l0 5) ≤ l3 then
(some (l2, m))
else
(mmK (0 ≤ l3 ∧ l3 < 24) (if (m.1 (l0 + 3) (l3).toNat) = l1 then
((f_X2_isMember l0 l3 m).bind (fun q7 => if q7.1 = 0 then
(mmK (inR (l2 + 1)) (mmK (inR (l3 + 1)) (f_X2_aliasesOf_L4 n l0 l1 (l2 + 1) (l3 + 1) q7.2)))
else
(mmK (inR (l3 + 1)) (f_X2_aliasesOf_L4 n l0 l1 l2 (l3 + 1) q7.2))))
else
(mmK (inR (l3 + 1)) (f_X2_aliasesOf_L4 n l0 l1 l2 (l3 + 1) m))))
set_option maxRecDepth 100000 in
set_option maxHeartbeats 4000000 in
theorem ok_X2_aliasesOf_L4 {r : Int × Mem} : ∀ (n : Nat), ∀ (l0 : Nat) (l1 : Int) (l2 : Int) (l3 : Int) (m : Mem), mmSh[l0]? = some (.inl 2) → inR l1 → inR l2 → inR l3 → f_X2_aliasesOf_L4 n l0 l1 l2 l3 m = some r → VV RX2 cX2_aliasesOf 4 rm_X2_aliasesOf mmG0 (mmPi r) 4 [(0, .ref l0), (1, vi l1), (2, vi l2), (3, vi l3)] [] m := by
  intro n
  induction n with
  | zero =>
    intro l0 l1 l2 l3 m hs0 hr1 hr2 hr3 E
    cases E
  | succ n ih =>
    intro l0 l1 l2 l3 m hs0 hr1 hr2 hr3 E
    rw [f_X2_aliasesOf_L4] at E
    refine V_iload_n 3 dX2_aliasesOf_4 rfl ?_
    refine V_aload_n 0 dX2_aliasesOf_5 rfl ?_
    refine V_geti (ci := 2) (k := 5) (N := 10) (T := TX2) (v := (m.1 l0 5)) dX2_aliasesOf_6 iuX2 fl_X2_27 rfl (by decide) rfl hs0 (by first | rfl | simp [mwr]) (fun hv1 => ?_)
    refine V_icmp_ge 39 dX2_aliasesOf_9 (by decide) hr3 hv1 (fun c2 => ?_) (fun c2 => ?_)
    · replace E := mmI_t c2 E
      refine V_iload_n 2 dX2_aliasesOf_39 rfl ?_
      obtain rfl := Option.some.inj E
      exact V_reti dX2_aliasesOf_40 ⟨rfl, rfl, hr2⟩
    · replace E := mmI_f c2 E
      refine V_aload_n 0 dX2_aliasesOf_12 rfl ?_
      refine V_geta (ci := 2) (k := 2) (N := 10) (T := TX2) (o' := (l0 + 3)) dX2_aliasesOf_13 iuX2 fl_X2_18 rfl (by decide) rfl hs0 rfl ?_
      refine V_iload_n 3 dX2_aliasesOf_16 rfl ?_
      obtain ⟨hv3, E⟩ := mmK_e E
      refine V_iald (n := 24) (j := (l3).toNat) (v := (m.1 (l0 + 3) (l3).toNat)) dX2_aliasesOf_17 (mmS3 hs0) hr3 hv3 rfl (by first | rfl | simp [mwr]) (fun hv4 => ?_)
      refine V_iload_n 1 dX2_aliasesOf_18 rfl ?_
      refine V_icmp_ne 33 dX2_aliasesOf_19 (by decide) hv4 hr1 (fun c5 => ?_) (fun c5 => ?_)
      · replace E := mmI_f c5 E
        obtain ⟨hv6, E⟩ := mmK_e E
        refine V_iinc (v := (l3 + 1)) (lv' := [(0, .ref l0), (1, vi l1), (2, vi l2), (3, vi (l3 + 1))]) 3 dX2_aliasesOf_33 rfl rfl rfl rfl ?_
        refine V_goto 4 dX2_aliasesOf_36 (by decide) ?_
        exact ih _ _ _ _ _ hs0 hr1 hr2 hv6 E
      · replace E := mmI_t c5 E
        refine V_aload_n 0 dX2_aliasesOf_22 rfl ?_
        refine V_iload_n 3 dX2_aliasesOf_23 rfl ?_
        obtain ⟨q7, hq7, E⟩ := mmB_e E
        refine V_callV (ci := 2) (q := (RX2, TX2, 10)) (Cn := RX2) (st := []) 1 dX2_aliasesOf_24 (ct_X2_isMember hs0 hr3 hq7) ml_X2_80 im_X2_isMember sl_X2_isMember it_X2 cd_X2_isMember hy_X2_isMember ⟨rfl, rfl, by decide, by decide⟩ hs0 rfl rfl rfl rfl (Nat.le_of_ble_eq_true rfl) (fun hv8 => ?_)
        refine V_if_ne 33 dX2_aliasesOf_27 (by decide) hv8 (fun c9 => ?_) (fun c9 => ?_)
        · replace E := mmI_f c9 E
          obtain ⟨hv10, E⟩ := mmK_e E
          refine V_iinc (v := (l3 + 1)) (lv' := [(0, .ref l0), (1, vi l1), (2, vi l2), (3, vi (l3 + 1))]) 3 dX2_aliasesOf_33 rfl rfl rfl rfl ?_
          refine V_goto 4 dX2_aliasesOf_36 (by decide) ?_
          exact ih _ _ _ _ _ hs0 hr1 hr2 hv10 E
        · replace E := mmI_t c9 E
          obtain ⟨hv11, E⟩ := mmK_e E
          refine V_iinc (v := (l2 + 1)) (lv' := [(0, .ref l0), (1, vi l1), (2, vi (l2 + 1)), (3, vi l3)]) 2 dX2_aliasesOf_30 rfl rfl rfl rfl ?_
          obtain ⟨hv12, E⟩ := mmK_e E
          refine V_iinc (v := (l3 + 1)) (lv' := [(0, .ref l0), (1, vi l1), (2, vi (l2 + 1)), (3, vi (l3 + 1))]) 3 dX2_aliasesOf_33 rfl rfl rfl rfl ?_
          refine V_goto 4 dX2_aliasesOf_36 (by decide) ?_
          exact ih _ _ _ _ _ hs0 hr1 hv11 hv12 E
noncomputable def f_X2_aliasesOf (l0 : Nat) (l1 : Int) (m : Mem) : Option (Int × Mem) :=
  f_X2_aliasesOf_L4 mmFU l0 l1 0 0 m
set_option maxRecDepth 100000 in
set_option maxHeartbeats 4000000 in
theorem ok_X2_aliasesOf {r : Int × Mem} : ∀ (l0 : Nat) (l1 : Int) (m : Mem), mmSh[l0]? = some (.inl 2) → inR l1 → f_X2_aliasesOf l0 l1 m = some r → VV RX2 cX2_aliasesOf 4 rm_X2_aliasesOf mmG0 (mmPi r) 0 [(0, .ref l0), (1, vi l1)] [] m := by
  intro l0 l1 m hs0 hr1 E
  unfold f_X2_aliasesOf at E
  refine V_iconst dX2_aliasesOf_0 rfl ?_
  refine V_istore_n (i := 2) (lv' := [(0, .ref l0), (1, vi l1), (2, vi 0)]) dX2_aliasesOf_1 rfl rfl rfl ?_
  refine V_iconst dX2_aliasesOf_2 rfl ?_
  refine V_istore_n (i := 3) (lv' := [(0, .ref l0), (1, vi l1), (2, vi 0), (3, vi 0)]) dX2_aliasesOf_3 rfl rfl rfl ?_
  exact ok_X2_aliasesOf_L4 mmFU _ _ _ _ _ hs0 hr1 ir_0 ir_0 E
theorem ct_X2_aliasesOf {l0 : Nat} {l1 : Int} {m : Mem} {r : Int × Mem} (hs0 : mmSh[l0]? = some (.inl 2)) (hr1 : inR l1) (E : f_X2_aliasesOf l0 l1 m = some r) : CTi yX2_aliasesOf cX2_aliasesOf 4 (some .int) rm_X2_aliasesOf [.ref l0, vi l1] m r := CT_i (by decide +kernel) rfl (Nat.le_of_ble_eq_true rfl) (ok_X2_aliasesOf _ _ _ hs0 hr1 E)
theorem hy_X2_aliasesOf : yX2_aliasesOf.cls = RX2 ∧ yX2_aliasesOf.cls ≠ "java/lang/invoke/MethodHandle" ∧ yX2_aliasesOf.cls ≠ "java/lang/invoke/VarHandle" ∧ (parseMethodDescriptor yX2_aliasesOf.desc).map (fun d => d.parameters.length) = some 1 := by decide +kernel
abbrev rm_X2_isLost : Room := { frames := 2, cells := 0, slots := 0, locals := 42 }
noncomputable def f_X2_isLost (l0 : Nat) (l1 : Int) (m : Mem) : Option (Int × Mem) :=
  (f_X2_isRank l0 l1 m).bind (fun q1 => if q1.1 = 0 then
(some (0, q1.2))
else
((f_X2_isMember l0 l1 q1.2).bind (fun q4 => if q4.1 = 0 then
(mmK (0 ≤ l1 ∧ l1 < 24) ((f_X2_rankOf l0 (q4.2.1 (l0 + 2) (l1).toNat) q4.2).bind (fun q9 => (f_X2_isMember l0 q9.1 q9.2).bind (fun q11 => if q11.1 = 0 then
(some (1, q11.2))
else
(mmK (0 ≤ q9.1 ∧ q9.1 < 24) (mmK (0 ≤ l1 ∧ l1 < 24) (if (q11.2.1 (l0 + 3) (q9.1).toNat) = (q11.2.1 (l0 + 3) (l1).toNat) then
(some (0, q11.2))
else
(some (1, q11.2)))))))))
else
(some (0, q4.2)))))
set_option maxRecDepth 100000 in
set_option maxHeartbeats 4000000 in
theorem ok_X2_isLost {r : Int × Mem} : ∀ (l0 : Nat) (l1 : Int) (m : Mem), mmSh[l0]? = some (.inl 2) → inR l1 → f_X2_isLost l0 l1 m = some r → VV RX2 cX2_isLost 3 rm_X2_isLost mmG0 (mmPz r) 0 [(0, .ref l0), (1, vi l1)] [] m := by
  intro l0 l1 m hs0 hr1 E
  unfold f_X2_isLost at E
  refine V_aload_n 0 dX2_isLost_0 rfl ?_
  refine V_iload_n 1 dX2_isLost_1 rfl ?_
  obtain ⟨q1, hq1, E⟩ := mmB_e E
  refine V_callV (ci := 2) (q := (RX2, TX2, 10)) (Cn := RX2) (st := []) 1 dX2_isLost_2 (ct_X2_isRank hs0 hr1 hq1) ml_X2_63 im_X2_isRank sl_X2_isRank it_X2 cd_X2_isRank hy_X2_isRank ⟨rfl, rfl, by decide, by decide⟩ hs0 rfl rfl rfl rfl (Nat.le_of_ble_eq_true rfl) (fun hv2 => ?_)
  refine V_if_eq 16 dX2_isLost_5 (by decide) hv2 (fun c3 => ?_) (fun c3 => ?_)
  · replace E := mmI_t c3 E
    refine V_iconst dX2_isLost_16 rfl ?_
    obtain rfl := Option.some.inj E
    exact V_reti dX2_isLost_17 ⟨rfl, rfl, (Or.inl rfl)⟩
  · replace E := mmI_f c3 E
    refine V_aload_n 0 dX2_isLost_8 rfl ?_
    refine V_iload_n 1 dX2_isLost_9 rfl ?_
    obtain ⟨q4, hq4, E⟩ := mmB_e E
    refine V_callV (ci := 2) (q := (RX2, TX2, 10)) (Cn := RX2) (st := []) 1 dX2_isLost_10 (ct_X2_isMember hs0 hr1 hq4) ml_X2_80 im_X2_isMember sl_X2_isMember it_X2 cd_X2_isMember hy_X2_isMember ⟨rfl, rfl, by decide, by decide⟩ hs0 rfl rfl rfl rfl (Nat.le_of_ble_eq_true rfl) (fun hv5 => ?_)
    refine V_if_eq 18 dX2_isLost_13 (by decide) hv5 (fun c6 => ?_) (fun c6 => ?_)
    · replace E := mmI_t c6 E
      refine V_aload_n 0 dX2_isLost_18 rfl ?_
      refine V_aload_n 0 dX2_isLost_19 rfl ?_
      refine V_geta (ci := 2) (k := 1) (N := 10) (T := TX2) (o' := (l0 + 2)) dX2_isLost_20 iuX2 fl_X2_15 rfl (by decide) rfl hs0 rfl ?_
      refine V_iload_n 1 dX2_isLost_23 rfl ?_
      obtain ⟨hv7, E⟩ := mmK_e E
      refine V_iald (n := 24) (j := (l1).toNat) (v := (q4.2.1 (l0 + 2) (l1).toNat)) dX2_isLost_24 (mmS2 hs0) hr1 hv7 rfl (by first | rfl | simp [mwr]) (fun hv8 => ?_)
      obtain ⟨q9, hq9, E⟩ := mmB_e E
      refine V_callV (ci := 2) (q := (RX2, TX2, 10)) (Cn := RX2) (st := []) 1 dX2_isLost_25 (ct_X2_rankOf hs0 hv8 hq9) ml_X2_59 im_X2_rankOf sl_X2_rankOf it_X2 cd_X2_rankOf hy_X2_rankOf ⟨rfl, rfl, by decide, by decide⟩ hs0 rfl rfl rfl rfl (Nat.le_of_ble_eq_true rfl) (fun hv10 => ?_)
      refine V_istore_n (i := 2) (lv' := [(0, .ref l0), (1, vi l1), (2, vi q9.1)]) dX2_isLost_28 rfl rfl rfl ?_
      refine V_aload_n 0 dX2_isLost_29 rfl ?_
      refine V_iload_n 2 dX2_isLost_30 rfl ?_
      obtain ⟨q11, hq11, E⟩ := mmB_e E
      refine V_callV (ci := 2) (q := (RX2, TX2, 10)) (Cn := RX2) (st := []) 1 dX2_isLost_31 (ct_X2_isMember hs0 hv10 hq11) ml_X2_80 im_X2_isMember sl_X2_isMember it_X2 cd_X2_isMember hy_X2_isMember ⟨rfl, rfl, by decide, by decide⟩ hs0 rfl rfl rfl rfl (Nat.le_of_ble_eq_true rfl) (fun hv12 => ?_)
      refine V_if_eq 52 dX2_isLost_34 (by decide) hv12 (fun c13 => ?_) (fun c13 => ?_)
      · replace E := mmI_t c13 E
        refine V_iconst dX2_isLost_52 rfl ?_
        refine V_goto 57 dX2_isLost_53 (by decide) ?_
        obtain rfl := Option.some.inj E
        exact V_reti dX2_isLost_57 ⟨rfl, rfl, (Or.inr rfl)⟩
      · replace E := mmI_f c13 E
        refine V_aload_n 0 dX2_isLost_37 rfl ?_
        refine V_geta (ci := 2) (k := 2) (N := 10) (T := TX2) (o' := (l0 + 3)) dX2_isLost_38 iuX2 fl_X2_18 rfl (by decide) rfl hs0 rfl ?_
        refine V_iload_n 2 dX2_isLost_41 rfl ?_
        obtain ⟨hv14, E⟩ := mmK_e E
        refine V_iald (n := 24) (j := (q9.1).toNat) (v := (q11.2.1 (l0 + 3) (q9.1).toNat)) dX2_isLost_42 (mmS3 hs0) hv10 hv14 rfl (by first | rfl | simp [mwr]) (fun hv15 => ?_)
        refine V_aload_n 0 dX2_isLost_43 rfl ?_
        refine V_geta (ci := 2) (k := 2) (N := 10) (T := TX2) (o' := (l0 + 3)) dX2_isLost_44 iuX2 fl_X2_18 rfl (by decide) rfl hs0 rfl ?_
        refine V_iload_n 1 dX2_isLost_47 rfl ?_
        obtain ⟨hv16, E⟩ := mmK_e E
        refine V_iald (n := 24) (j := (l1).toNat) (v := (q11.2.1 (l0 + 3) (l1).toNat)) dX2_isLost_48 (mmS3 hs0) hr1 hv16 rfl (by first | rfl | simp [mwr]) (fun hv17 => ?_)
        refine V_icmp_eq 56 dX2_isLost_49 (by decide) hv15 hv17 (fun c18 => ?_) (fun c18 => ?_)
        · replace E := mmI_t c18 E
          refine V_iconst dX2_isLost_56 rfl ?_
          obtain rfl := Option.some.inj E
          exact V_reti dX2_isLost_57 ⟨rfl, rfl, (Or.inl rfl)⟩
        · replace E := mmI_f c18 E
          refine V_iconst dX2_isLost_52 rfl ?_
          refine V_goto 57 dX2_isLost_53 (by decide) ?_
          obtain rfl := Option.some.inj E
          exact V_reti dX2_isLost_57 ⟨rfl, rfl, (Or.inr rfl)⟩
    · replace E := mmI_f c6 E
      refine V_iconst dX2_isLost_16 rfl ?_
      obtain rfl := Option.some.inj E
      exact V_reti dX2_isLost_17 ⟨rfl, rfl, (Or.inl rfl)⟩
theorem ct_X2_isLost {l0 : Nat} {l1 : Int} {m : Mem} {r : Int × Mem} (hs0 : mmSh[l0]? = some (.inl 2)) (hr1 : inR l1) (E : f_X2_isLost l0 l1 m = some r) : CTi yX2_isLost cX2_isLost 3 (some .boolean) rm_X2_isLost [.ref l0, vi l1] m r := CT_z (by decide +kernel) rfl (Nat.le_of_ble_eq_true rfl) (ok_X2_isLost _ _ _ hs0 hr1 E)
theorem hy_X2_isLost : yX2_isLost.cls = RX2 ∧ yX2_isLost.cls ≠ "java/lang/invoke/MethodHandle" ∧ yX2_isLost.cls ≠ "java/lang/invoke/VarHandle" ∧ (parseMethodDescriptor yX2_isLost.desc).map (fun d => d.parameters.length) = some 1 := by decide +kernel
abbrev rm_X2_tellEntry : Room := { frames := 3, cells := 0, slots := 0, locals := 65 }
noncomputable def f_X2_tellEntry (l0 : Nat) (l1 : Int) (l2 : Int) (m : Mem) : Option (Int × Mem) :=
  (f_X2_rankOf l0 l1 m).bind (fun q1 => (f_X2_isRank l0 q1.1 q1.2).bind (fun q3 => if q3.1 = 0 then
(some ((-1), q3.2))
else
(if l2 = 0 then
(some (q1.1, q3.2))
else (
if l2 = 1 then
(mmK (0 ≤ q1.1 ∧ 0 < (4 : Int)) (mmK (inR (q1.1 / 4)) (some ((q1.1 / 4), q3.2))))
else (
if l2 = 2 then
((f_X2_isMember l0 q1.1 q3.2).bind (fun q11 => if q11.1 = 0 then
(some (1, q11.2))
else
(some (0, q11.2))))
else (
if l2 = 3 then
(mmK (0 ≤ q1.1 ∧ q1.1 < 24) (some ((q3.2.1 (l0 + 3) (q1.1).toNat), q3.2)))
else (
if l2 = 4 then
(mmK (0 ≤ q1.1 ∧ q1.1 < 24) (some ((q3.2.1 (l0 + 4) (q1.1).toNat), q3.2)))
else (
if l2 = 5 then
(mmK (0 ≤ q1.1 ∧ q1.1 < 24) (some ((q3.2.1 (l0 + 5) (q1.1).toNat), q3.2)))
else (
if l2 = 6 then
(mmK (0 ≤ q1.1 ∧ q1.1 < 24) ((f_X2_aliasesOf l0 (q3.2.1 (l0 + 3) (q1.1).toNat) q3.2).bind (fun q26 => some (q26.1, q26.2))))
else (
if l2 = 7 then
(mmK (0 ≤ q1.1 ∧ q1.1 < 24) (some ((q3.2.1 (l0 + 2) (q1.1).toNat), q3.2)))
else (
if l2 = 8 then
((f_X2_isLost l0 q1.1 q3.2).bind (fun q32 => if q32.1 = 0 then
(some (0, q32.2))
else
(some (1, q32.2))))
else (
(some ((-2), q3.2))))))))))))))
set_option maxRecDepth 100000 in
set_option maxHeartbeats 4000000 in
theorem ok_X2_tellEntry {r : Int × Mem} : ∀ (l0 : Nat) (l1 : Int) (l2 : Int) (m : Mem), mmSh[l0]? = some (.inl 2) → inR l1 → inR l2 → f_X2_tellEntry l0 l1 l2 m = some r → VV RX2 cX2_tellEntry 4 rm_X2_tellEntry mmG0 (mmPi r) 0 [(0, .ref l0), (1, vi l1), (2, vi l2)] [] m := by
  intro l0 l1 l2 m hs0 hr1 hr2 E
  unfold f_X2_tellEntry at E
  refine V_aload_n 0 dX2_tellEntry_0 rfl ?_
  refine V_iload_n 1 dX2_tellEntry_1 rfl ?_
  obtain ⟨q1, hq1, E⟩ := mmB_e E
  refine V_callV (ci := 2) (q := (RX2, TX2, 10)) (Cn := RX2) (st := []) 1 dX2_tellEntry_2 (ct_X2_rankOf hs0 hr1 hq1) ml_X2_59 im_X2_rankOf sl_X2_rankOf it_X2 cd_X2_rankOf hy_X2_rankOf ⟨rfl, rfl, by decide, by decide⟩ hs0 rfl rfl rfl rfl (Nat.le_of_ble_eq_true rfl) (fun hv2 => ?_)
  refine V_istore_n (i := 3) (lv' := [(0, .ref l0), (1, vi l1), (2, vi l2), (3, vi q1.1)]) dX2_tellEntry_5 rfl rfl rfl ?_
  refine V_aload_n 0 dX2_tellEntry_6 rfl ?_
  refine V_iload_n 3 dX2_tellEntry_7 rfl ?_
  obtain ⟨q3, hq3, E⟩ := mmB_e E
  refine V_callV (ci := 2) (q := (RX2, TX2, 10)) (Cn := RX2) (st := []) 1 dX2_tellEntry_8 (ct_X2_isRank hs0 hv2 hq3) ml_X2_63 im_X2_isRank sl_X2_isRank it_X2 cd_X2_isRank hy_X2_isRank ⟨rfl, rfl, by decide, by decide⟩ hs0 rfl rfl rfl rfl (Nat.le_of_ble_eq_true rfl) (fun hv4 => ?_)
  refine V_if_ne 16 dX2_tellEntry_11 (by decide) hv4 (fun c5 => ?_) (fun c5 => ?_)
  · replace E := mmI_f c5 E
    refine V_iload_n 2 dX2_tellEntry_16 rfl ?_
    by_cases c6 : l2 = 0
    · replace E := mmI_t c6 E
      refine V_tableIn 0 68 dX2_tellEntry_17 c6 (by decide) (by decide) rfl (by decide) ?_
      refine V_iload_n 3 dX2_tellEntry_68 rfl ?_
      obtain rfl := Option.some.inj E
      exact V_reti dX2_tellEntry_69 ⟨rfl, rfl, hv2⟩
    replace E := mmI_f c6 E
    by_cases c7 : l2 = 1
    · replace E := mmI_t c7 E
      refine V_tableIn 1 70 dX2_tellEntry_17 c7 (by decide) (by decide) rfl (by decide) ?_
      refine V_iload_n 3 dX2_tellEntry_70 rfl ?_
      refine V_iconst dX2_tellEntry_71 rfl ?_
      obtain ⟨hv8, E⟩ := mmK_e E
      obtain ⟨hv9, E⟩ := mmK_e E
      refine V_idiv dX2_tellEntry_72 hv2 ir_4 hv8 ?_
      obtain rfl := Option.some.inj E
      exact V_reti dX2_tellEntry_73 ⟨rfl, rfl, hv9⟩
    replace E := mmI_f c7 E
    by_cases c10 : l2 = 2
    · replace E := mmI_t c10 E
      refine V_tableIn 2 74 dX2_tellEntry_17 c10 (by decide) (by decide) rfl (by decide) ?_
      refine V_aload_n 0 dX2_tellEntry_74 rfl ?_
      refine V_iload_n 3 dX2_tellEntry_75 rfl ?_
      obtain ⟨q11, hq11, E⟩ := mmB_e E
      refine V_callV (ci := 2) (q := (RX2, TX2, 10)) (Cn := RX2) (st := []) 1 dX2_tellEntry_76 (ct_X2_isMember hs0 hv2 hq11) ml_X2_80 im_X2_isMember sl_X2_isMember it_X2 cd_X2_isMember hy_X2_isMember ⟨rfl, rfl, by decide, by decide⟩ hs0 rfl rfl rfl rfl (Nat.le_of_ble_eq_true rfl) (fun hv12 => ?_)
      refine V_if_eq 86 dX2_tellEntry_79 (by decide) hv12 (fun c13 => ?_) (fun c13 => ?_)
      · replace E := mmI_t c13 E
        refine V_iconst dX2_tellEntry_86 rfl ?_
        obtain rfl := Option.some.inj E
        exact V_reti dX2_tellEntry_87 ⟨rfl, rfl, ir_1⟩
      · replace E := mmI_f c13 E
        refine V_iconst dX2_tellEntry_82 rfl ?_
        refine V_goto 87 dX2_tellEntry_83 (by decide) ?_
        obtain rfl := Option.some.inj E
        exact V_reti dX2_tellEntry_87 ⟨rfl, rfl, ir_0⟩
    replace E := mmI_f c10 E
    by_cases c14 : l2 = 3
    · replace E := mmI_t c14 E
      refine V_tableIn 3 88 dX2_tellEntry_17 c14 (by decide) (by decide) rfl (by decide) ?_
      refine V_aload_n 0 dX2_tellEntry_88 rfl ?_
      refine V_geta (ci := 2) (k := 2) (N := 10) (T := TX2) (o' := (l0 + 3)) dX2_tellEntry_89 iuX2 fl_X2_18 rfl (by decide) rfl hs0 rfl ?_
      refine V_iload_n 3 dX2_tellEntry_92 rfl ?_
      obtain ⟨hv15, E⟩ := mmK_e E
      refine V_iald (n := 24) (j := (q1.1).toNat) (v := (q3.2.1 (l0 + 3) (q1.1).toNat)) dX2_tellEntry_93 (mmS3 hs0) hv2 hv15 rfl (by first | rfl | simp [mwr]) (fun hv16 => ?_)
      obtain rfl := Option.some.inj E
      exact V_reti dX2_tellEntry_94 ⟨rfl, rfl, hv16⟩
    replace E := mmI_f c14 E
    by_cases c17 : l2 = 4
    · replace E := mmI_t c17 E
      refine V_tableIn 4 95 dX2_tellEntry_17 c17 (by decide) (by decide) rfl (by decide) ?_
      refine V_aload_n 0 dX2_tellEntry_95 rfl ?_
      refine V_geta (ci := 2) (k := 3) (N := 10) (T := TX2) (o' := (l0 + 4)) dX2_tellEntry_96 iuX2 fl_X2_21 rfl (by decide) rfl hs0 rfl ?_
      refine V_iload_n 3 dX2_tellEntry_99 rfl ?_
      obtain ⟨hv18, E⟩ := mmK_e E
      refine V_iald (n := 24) (j := (q1.1).toNat) (v := (q3.2.1 (l0 + 4) (q1.1).toNat)) dX2_tellEntry_100 (mmS4 hs0) hv2 hv18 rfl (by first | rfl | simp [mwr]) (fun hv19 => ?_)
      obtain rfl := Option.some.inj E
      exact V_reti dX2_tellEntry_101 ⟨rfl, rfl, hv19⟩
    replace E := mmI_f c17 E
    by_cases c20 : l2 = 5
    · replace E := mmI_t c20 E
      refine V_tableIn 5 102 dX2_tellEntry_17 c20 (by decide) (by decide) rfl (by decide) ?_
      refine V_aload_n 0 dX2_tellEntry_102 rfl ?_
      refine V_geta (ci := 2) (k := 4) (N := 10) (T := TX2) (o' := (l0 + 5)) dX2_tellEntry_103 iuX2 fl_X2_24 rfl (by decide) rfl hs0 rfl ?_
      refine V_iload_n 3 dX2_tellEntry_106 rfl ?_
      obtain ⟨hv21, E⟩ := mmK_e E
      refine V_iald (n := 24) (j := (q1.1).toNat) (v := (q3.2.1 (l0 + 5) (q1.1).toNat)) dX2_tellEntry_107 (mmS5 hs0) hv2 hv21 rfl (by first | rfl | simp [mwr]) (fun hv22 => ?_)
      obtain rfl := Option.some.inj E
      exact V_reti dX2_tellEntry_108 ⟨rfl, rfl, hv22⟩
    replace E := mmI_f c20 E
    by_cases c23 : l2 = 6
    · replace E := mmI_t c23 E
      refine V_tableIn 6 109 dX2_tellEntry_17 c23 (by decide) (by decide) rfl (by decide) ?_
      refine V_aload_n 0 dX2_tellEntry_109 rfl ?_
      refine V_aload_n 0 dX2_tellEntry_110 rfl ?_
      refine V_geta (ci := 2) (k := 2) (N := 10) (T := TX2) (o' := (l0 + 3)) dX2_tellEntry_111 iuX2 fl_X2_18 rfl (by decide) rfl hs0 rfl ?_
      refine V_iload_n 3 dX2_tellEntry_114 rfl ?_
      obtain ⟨hv24, E⟩ := mmK_e E
      refine V_iald (n := 24) (j := (q1.1).toNat) (v := (q3.2.1 (l0 + 3) (q1.1).toNat)) dX2_tellEntry_115 (mmS3 hs0) hv2 hv24 rfl (by first | rfl | simp [mwr]) (fun hv25 => ?_)
      obtain ⟨q26, hq26, E⟩ := mmB_e E
      refine V_callV (ci := 2) (q := (RX2, TX2, 10)) (Cn := RX2) (st := []) 1 dX2_tellEntry_116 (ct_X2_aliasesOf hs0 hv25 hq26) ml_X2_102 im_X2_aliasesOf sl_X2_aliasesOf it_X2 cd_X2_aliasesOf hy_X2_aliasesOf ⟨rfl, rfl, by decide, by decide⟩ hs0 rfl rfl rfl rfl (Nat.le_of_ble_eq_true rfl) (fun hv27 => ?_)
      obtain rfl := Option.some.inj E
      exact V_reti dX2_tellEntry_119 ⟨rfl, rfl, hv27⟩
    replace E := mmI_f c23 E
    by_cases c28 : l2 = 7
    · replace E := mmI_t c28 E
      refine V_tableIn 7 120 dX2_tellEntry_17 c28 (by decide) (by decide) rfl (by decide) ?_
      refine V_aload_n 0 dX2_tellEntry_120 rfl ?_
      refine V_geta (ci := 2) (k := 1) (N := 10) (T := TX2) (o' := (l0 + 2)) dX2_tellEntry_121 iuX2 fl_X2_15 rfl (by decide) rfl hs0 rfl ?_
      refine V_iload_n 3 dX2_tellEntry_124 rfl ?_
      obtain ⟨hv29, E⟩ := mmK_e E
      refine V_iald (n := 24) (j := (q1.1).toNat) (v := (q3.2.1 (l0 + 2) (q1.1).toNat)) dX2_tellEntry_125 (mmS2 hs0) hv2 hv29 rfl (by first | rfl | simp [mwr]) (fun hv30 => ?_)
      obtain rfl := Option.some.inj E
      exact V_reti dX2_tellEntry_126 ⟨rfl, rfl, hv30⟩
    replace E := mmI_f c28 E
    by_cases c31 : l2 = 8
    · replace E := mmI_t c31 E
      refine V_tableIn 8 127 dX2_tellEntry_17 c31 (by decide) (by decide) rfl (by decide) ?_
      refine V_aload_n 0 dX2_tellEntry_127 rfl ?_
      refine V_iload_n 3 dX2_tellEntry_128 rfl ?_
      obtain ⟨q32, hq32, E⟩ := mmB_e E
      refine V_callV (ci := 2) (q := (RX2, TX2, 10)) (Cn := RX2) (st := []) 1 dX2_tellEntry_129 (ct_X2_isLost hs0 hv2 hq32) ml_X2_105 im_X2_isLost sl_X2_isLost it_X2 cd_X2_isLost hy_X2_isLost ⟨rfl, rfl, by decide, by decide⟩ hs0 rfl rfl rfl rfl (Nat.le_of_ble_eq_true rfl) (fun hv33 => ?_)
      refine V_if_eq 139 dX2_tellEntry_132 (by decide) hv33 (fun c34 => ?_) (fun c34 => ?_)
      · replace E := mmI_t c34 E
        refine V_iconst dX2_tellEntry_139 rfl ?_
        obtain rfl := Option.some.inj E
        exact V_reti dX2_tellEntry_140 ⟨rfl, rfl, ir_0⟩
      · replace E := mmI_f c34 E
        refine V_iconst dX2_tellEntry_135 rfl ?_
        refine V_goto 140 dX2_tellEntry_136 (by decide) ?_
        obtain rfl := Option.some.inj E
        exact V_reti dX2_tellEntry_140 ⟨rfl, rfl, ir_1⟩
    replace E := mmI_f c31 E
    refine V_tableOut 141 dX2_tellEntry_17 hr2 (by omega) (by decide) ?_
    refine V_bipush (v := (-2)) dX2_tellEntry_141 (by decide) ?_
    obtain rfl := Option.some.inj E
    exact V_reti dX2_tellEntry_143 ⟨rfl, rfl, ir_m2⟩
  · replace E := mmI_t c5 E
    refine V_iconst dX2_tellEntry_14 rfl ?_
    obtain rfl := Option.some.inj E
    exact V_reti dX2_tellEntry_15 ⟨rfl, rfl, ir_m1⟩
theorem ct_X2_tellEntry {l0 : Nat} {l1 : Int} {l2 : Int} {m : Mem} {r : Int × Mem} (hs0 : mmSh[l0]? = some (.inl 2)) (hr1 : inR l1) (hr2 : inR l2) (E : f_X2_tellEntry l0 l1 l2 m = some r) : CTi yX2_tellEntry cX2_tellEntry 4 (some .int) rm_X2_tellEntry [.ref l0, vi l1, vi l2] m r := CT_i (by decide +kernel) rfl (Nat.le_of_ble_eq_true rfl) (ok_X2_tellEntry _ _ _ _ hs0 hr1 hr2 E)
theorem hy_X2_tellEntry : yX2_tellEntry.cls = RX2 ∧ yX2_tellEntry.cls ≠ "java/lang/invoke/MethodHandle" ∧ yX2_tellEntry.cls ≠ "java/lang/invoke/VarHandle" ∧ (parseMethodDescriptor yX2_tellEntry.desc).map (fun d => d.parameters.length) = some 2 := by decide +kernel
abbrev rm_X2_tellName : Room := { frames := 1, cells := 0, slots := 0, locals := 21 }
noncomputable def f_X2_tellName (l0 : Nat) (l1 : Int) (m : Mem) : Option (Int × Mem) :=
  if 0 ≤ l1 then
((f_X2_isRank l0 l1 m).bind (fun q2 => if q2.1 = 0 then
(some ((-5), q2.2))
else
(mmK (0 ≤ l1 ∧ l1 < 24) (some ((q2.2.1 (l0 + 1) (l1).toNat), q2.2)))))
else
(some ((-2), m))
set_option maxRecDepth 100000 in
set_option maxHeartbeats 4000000 in
theorem ok_X2_tellName {r : Int × Mem} : ∀ (l0 : Nat) (l1 : Int) (m : Mem), mmSh[l0]? = some (.inl 2) → inR l1 → f_X2_tellName l0 l1 m = some r → VV RX2 cX2_tellName 2 rm_X2_tellName mmG0 (mmPi r) 0 [(0, .ref l0), (1, vi l1)] [] m := by
  intro l0 l1 m hs0 hr1 E
  unfold f_X2_tellName at E
  refine V_iload_n 1 dX2_tellName_0 rfl ?_
  refine V_if_ge 7 dX2_tellName_1 (by decide) hr1 (fun c1 => ?_) (fun c1 => ?_)
  · replace E := mmI_t c1 E
    refine V_aload_n 0 dX2_tellName_7 rfl ?_
    refine V_iload_n 1 dX2_tellName_8 rfl ?_
    obtain ⟨q2, hq2, E⟩ := mmB_e E
    refine V_callV (ci := 2) (q := (RX2, TX2, 10)) (Cn := RX2) (st := []) 1 dX2_tellName_9 (ct_X2_isRank hs0 hr1 hq2) ml_X2_63 im_X2_isRank sl_X2_isRank it_X2 cd_X2_isRank hy_X2_isRank ⟨rfl, rfl, by decide, by decide⟩ hs0 rfl rfl rfl rfl (Nat.le_of_ble_eq_true rfl) (fun hv3 => ?_)
    refine V_if_eq 24 dX2_tellName_12 (by decide) hv3 (fun c4 => ?_) (fun c4 => ?_)
    · replace E := mmI_t c4 E
      refine V_bipush (v := (-5)) dX2_tellName_24 (by decide) ?_
      obtain rfl := Option.some.inj E
      exact V_reti dX2_tellName_26 ⟨rfl, rfl, ir_m5⟩
    · replace E := mmI_f c4 E
      refine V_aload_n 0 dX2_tellName_15 rfl ?_
      refine V_geta (ci := 2) (k := 0) (N := 10) (T := TX2) (o' := (l0 + 1)) dX2_tellName_16 iuX2 fl_X2_9 rfl (by decide) rfl hs0 rfl ?_
      refine V_iload_n 1 dX2_tellName_19 rfl ?_
      obtain ⟨hv5, E⟩ := mmK_e E
      refine V_iald (n := 24) (j := (l1).toNat) (v := (q2.2.1 (l0 + 1) (l1).toNat)) dX2_tellName_20 (mmS1 hs0) hr1 hv5 rfl (by first | rfl | simp [mwr]) (fun hv6 => ?_)
      refine V_goto 26 dX2_tellName_21 (by decide) ?_
      obtain rfl := Option.some.inj E
      exact V_reti dX2_tellName_26 ⟨rfl, rfl, hv6⟩
  · replace E := mmI_f c1 E
    refine V_bipush (v := (-2)) dX2_tellName_4 (by decide) ?_
    obtain rfl := Option.some.inj E
    exact V_reti dX2_tellName_6 ⟨rfl, rfl, ir_m2⟩
theorem ct_X2_tellName {l0 : Nat} {l1 : Int} {m : Mem} {r : Int × Mem} (hs0 : mmSh[l0]? = some (.inl 2)) (hr1 : inR l1) (E : f_X2_tellName l0 l1 m = some r) : CTi yX2_tellName cX2_tellName 2 (some .int) rm_X2_tellName [.ref l0, vi l1] m r := CT_i (by decide +kernel) rfl (Nat.le_of_ble_eq_true rfl) (ok_X2_tellName _ _ _ hs0 hr1 E)
theorem hy_X2_tellName : yX2_tellName.cls = RX2 ∧ yX2_tellName.cls ≠ "java/lang/invoke/MethodHandle" ∧ yX2_tellName.cls ≠ "java/lang/invoke/VarHandle" ∧ (parseMethodDescriptor yX2_tellName.desc).map (fun d => d.parameters.length) = some 1 := by decide +kernel
abbrev rm_X2_tellUnit : Room := { frames := 0, cells := 0, slots := 0, locals := 0 }
noncomputable def f_X2_tellUnit_L25 : Nat → Nat → Int → Int → Mem → Option (Int × Mem)
  | 0, _, _, _, _ => none
  | n + 1, l0, l1, l2, m =>
    if (m.1 l0 5) ≤ l2 then
(some (1000, m))
else
(mmK (0 ≤ l2 ∧ l2 < 24) (if l1 < (m.1 (l0 + 3) (l2).toNat) then
(mmK (inR (l2 + 1)) (f_X2_tellUnit_L25 n l0 l1 (l2 + 1) m))
else
(mmK (0 ≤ l2 ∧ l2 < 24) (mmK (0 ≤ l2 ∧ l2 < 24) (mmK (inR ((m.1 (l0 + 3) (l2).toNat) + (m.1 (l0 + 4) (l2).toNat))) (if ((m.1 (l0 + 3) (l2).toNat) + (m.1 (l0 + 4) (l2).toNat)) ≤ l1 then
(mmK (inR (l2 + 1)) (f_X2_tellUnit_L25 n l0 l1 (l2 + 1) m))
else
(mmK (0 ≤ l2 ∧ l2 < 24) (some ((m.1 (l0 + 1) (l2).toNat), m)))))))))
set_option maxRecDepth 100000 in
set_option maxHeartbeats 4000000 in
theorem ok_X2_tellUnit_L25 {r : Int × Mem} : ∀ (n : Nat), ∀ (l0 : Nat) (l1 : Int) (l2 : Int) (m : Mem), mmSh[l0]? = some (.inl 2) → inR l1 → inR l2 → f_X2_tellUnit_L25 n l0 l1 l2 m = some r → VV RX2 cX2_tellUnit 3 rm_X2_tellUnit mmG0 (mmPi r) 25 [(0, .ref l0), (1, vi l1), (2, vi l2)] [] m := by
  intro n
  induction n with
  | zero =>
    intro l0 l1 l2 m hs0 hr1 hr2 E
    cases E
  | succ n ih =>
    intro l0 l1 l2 m hs0 hr1 hr2 E
    rw [f_X2_tellUnit_L25] at E
    refine V_iload_n 2 dX2_tellUnit_25 rfl ?_
    refine V_aload_n 0 dX2_tellUnit_26 rfl ?_
    refine V_geti (ci := 2) (k := 5) (N := 10) (T := TX2) (v := (m.1 l0 5)) dX2_tellUnit_27 iuX2 fl_X2_27 rfl (by decide) rfl hs0 (by first | rfl | simp [mwr]) (fun hv5 => ?_)
    refine V_icmp_ge 73 dX2_tellUnit_30 (by decide) hr2 hv5 (fun c6 => ?_) (fun c6 => ?_)
    · replace E := mmI_t c6 E
      refine V_sipush (v := 1000) dX2_tellUnit_73 (by decide) ?_
      obtain rfl := Option.some.inj E
      exact V_reti dX2_tellUnit_76 ⟨rfl, rfl, ir_1000⟩
    · replace E := mmI_f c6 E
      refine V_iload_n 1 dX2_tellUnit_33 rfl ?_
      refine V_aload_n 0 dX2_tellUnit_34 rfl ?_
      refine V_geta (ci := 2) (k := 2) (N := 10) (T := TX2) (o' := (l0 + 3)) dX2_tellUnit_35 iuX2 fl_X2_18 rfl (by decide) rfl hs0 rfl ?_
      refine V_iload_n 2 dX2_tellUnit_38 rfl ?_
      obtain ⟨hv7, E⟩ := mmK_e E
      refine V_iald (n := 24) (j := (l2).toNat) (v := (m.1 (l0 + 3) (l2).toNat)) dX2_tellUnit_39 (mmS3 hs0) hr2 hv7 rfl (by first | rfl | simp [mwr]) (fun hv8 => ?_)
      refine V_icmp_lt 67 dX2_tellUnit_40 (by decide) hr1 hv8 (fun c9 => ?_) (fun c9 => ?_)
      · replace E := mmI_t c9 E
        obtain ⟨hv10, E⟩ := mmK_e E
        refine V_iinc (v := (l2 + 1)) (lv' := [(0, .ref l0), (1, vi l1), (2, vi (l2 + 1))]) 2 dX2_tellUnit_67 rfl rfl rfl rfl ?_
        refine V_goto 25 dX2_tellUnit_70 (by decide) ?_
        exact ih _ _ _ _ hs0 hr1 hv10 E
      · replace E := mmI_f c9 E
        refine V_iload_n 1 dX2_tellUnit_43 rfl ?_
        refine V_aload_n 0 dX2_tellUnit_44 rfl ?_
        refine V_geta (ci := 2) (k := 2) (N := 10) (T := TX2) (o' := (l0 + 3)) dX2_tellUnit_45 iuX2 fl_X2_18 rfl (by decide) rfl hs0 rfl ?_
        refine V_iload_n 2 dX2_tellUnit_48 rfl ?_
        obtain ⟨hv11, E⟩ := mmK_e E
        refine V_iald (n := 24) (j := (l2).toNat) (v := (m.1 (l0 + 3) (l2).toNat)) dX2_tellUnit_49 (mmS3 hs0) hr2 hv11 rfl (by first | rfl | simp [mwr]) (fun hv12 => ?_)
        refine V_aload_n 0 dX2_tellUnit_50 rfl ?_
        refine V_geta (ci := 2) (k := 3) (N := 10) (T := TX2) (o' := (l0 + 4)) dX2_tellUnit_51 iuX2 fl_X2_21 rfl (by decide) rfl hs0 rfl ?_
        refine V_iload_n 2 dX2_tellUnit_54 rfl ?_
        obtain ⟨hv13, E⟩ := mmK_e E
        refine V_iald (n := 24) (j := (l2).toNat) (v := (m.1 (l0 + 4) (l2).toNat)) dX2_tellUnit_55 (mmS4 hs0) hr2 hv13 rfl (by first | rfl | simp [mwr]) (fun hv14 => ?_)
        obtain ⟨hv15, E⟩ := mmK_e E
        refine V_iadd dX2_tellUnit_56 ?_
        refine V_icmp_ge 67 dX2_tellUnit_57 (by decide) hr1 hv15 (fun c16 => ?_) (fun c16 => ?_)
        · replace E := mmI_t c16 E
          obtain ⟨hv17, E⟩ := mmK_e E
          refine V_iinc (v := (l2 + 1)) (lv' := [(0, .ref l0), (1, vi l1), (2, vi (l2 + 1))]) 2 dX2_tellUnit_67 rfl rfl rfl rfl ?_
          refine V_goto 25 dX2_tellUnit_70 (by decide) ?_
          exact ih _ _ _ _ hs0 hr1 hv17 E
        · replace E := mmI_f c16 E
          refine V_aload_n 0 dX2_tellUnit_60 rfl ?_
          refine V_geta (ci := 2) (k := 0) (N := 10) (T := TX2) (o' := (l0 + 1)) dX2_tellUnit_61 iuX2 fl_X2_9 rfl (by decide) rfl hs0 rfl ?_
          refine V_iload_n 2 dX2_tellUnit_64 rfl ?_
          obtain ⟨hv18, E⟩ := mmK_e E
          refine V_iald (n := 24) (j := (l2).toNat) (v := (m.1 (l0 + 1) (l2).toNat)) dX2_tellUnit_65 (mmS1 hs0) hr2 hv18 rfl (by first | rfl | simp [mwr]) (fun hv19 => ?_)
          obtain rfl := Option.some.inj E
          exact V_reti dX2_tellUnit_66 ⟨rfl, rfl, hv19⟩
noncomputable def f_X2_tellUnit (l0 : Nat) (l1 : Int) (m : Mem) : Option (Int × Mem) :=
  if l1 < 0 then
(some ((-1), m))
else
(if l1 < 100 then
(if l1 < (m.1 l0 7) then
(f_X2_tellUnit_L25 mmFU l0 l1 0 m)
else
(some ((-5), m)))
else
(some ((-1), m)))
set_option maxRecDepth 100000 in
set_option maxHeartbeats 4000000 in
theorem ok_X2_tellUnit {r : Int × Mem} : ∀ (l0 : Nat) (l1 : Int) (m : Mem), mmSh[l0]? = some (.inl 2) → inR l1 → f_X2_tellUnit l0 l1 m = some r → VV RX2 cX2_tellUnit 3 rm_X2_tellUnit mmG0 (mmPi r) 0 [(0, .ref l0), (1, vi l1)] [] m := by
  intro l0 l1 m hs0 hr1 E
  unfold f_X2_tellUnit at E
  refine V_iload_n 1 dX2_tellUnit_0 rfl ?_
  refine V_if_lt 10 dX2_tellUnit_1 (by decide) hr1 (fun c1 => ?_) (fun c1 => ?_)
  · replace E := mmI_t c1 E
    refine V_iconst dX2_tellUnit_10 rfl ?_
    obtain rfl := Option.some.inj E
    exact V_reti dX2_tellUnit_11 ⟨rfl, rfl, ir_m1⟩
  · replace E := mmI_f c1 E
    refine V_iload_n 1 dX2_tellUnit_4 rfl ?_
    refine V_bipush (v := 100) dX2_tellUnit_5 (by decide) ?_
    refine V_icmp_lt 12 dX2_tellUnit_7 (by decide) hr1 ir_100 (fun c2 => ?_) (fun c2 => ?_)
    · replace E := mmI_t c2 E
      refine V_iload_n 1 dX2_tellUnit_12 rfl ?_
      refine V_aload_n 0 dX2_tellUnit_13 rfl ?_
      refine V_geti (ci := 2) (k := 7) (N := 10) (T := TX2) (v := (m.1 l0 7)) dX2_tellUnit_14 iuX2 fl_X2_34 rfl (by decide) rfl hs0 (by first | rfl | simp [mwr]) (fun hv3 => ?_)
      refine V_icmp_lt 23 dX2_tellUnit_17 (by decide) hr1 hv3 (fun c4 => ?_) (fun c4 => ?_)
      · replace E := mmI_t c4 E
        refine V_iconst dX2_tellUnit_23 rfl ?_
        refine V_istore_n (i := 2) (lv' := [(0, .ref l0), (1, vi l1), (2, vi 0)]) dX2_tellUnit_24 rfl rfl rfl ?_
        exact ok_X2_tellUnit_L25 mmFU _ _ _ _ hs0 hr1 ir_0 E
      · replace E := mmI_f c4 E
        refine V_bipush (v := (-5)) dX2_tellUnit_20 (by decide) ?_
        obtain rfl := Option.some.inj E
        exact V_reti dX2_tellUnit_22 ⟨rfl, rfl, ir_m5⟩
    · replace E := mmI_f c2 E
      refine V_iconst dX2_tellUnit_10 rfl ?_
      obtain rfl := Option.some.inj E
      exact V_reti dX2_tellUnit_11 ⟨rfl, rfl, ir_m1⟩
theorem ct_X2_tellUnit {l0 : Nat} {l1 : Int} {m : Mem} {r : Int × Mem} (hs0 : mmSh[l0]? = some (.inl 2)) (hr1 : inR l1) (E : f_X2_tellUnit l0 l1 m = some r) : CTi yX2_tellUnit cX2_tellUnit 3 (some .int) rm_X2_tellUnit [.ref l0, vi l1] m r := CT_i (by decide +kernel) rfl (Nat.le_of_ble_eq_true rfl) (ok_X2_tellUnit _ _ _ hs0 hr1 E)
theorem hy_X2_tellUnit : yX2_tellUnit.cls = RX2 ∧ yX2_tellUnit.cls ≠ "java/lang/invoke/MethodHandle" ∧ yX2_tellUnit.cls ≠ "java/lang/invoke/VarHandle" ∧ (parseMethodDescriptor yX2_tellUnit.desc).map (fun d => d.parameters.length) = some 1 := by decide +kernel
end
section
abbrev rm_X2_tellFit : Room := { frames := 3, cells := 0, slots := 0, locals := 65 }
noncomputable def f_X2_tellFit (l0 : Nat) (l1 : Int) (m : Mem) : Option (Int × Mem) :=
  (f_X2_isLength l1 m).bind (fun q1 => if q1.1 = 0 then
(some ((-2), q1.2))
else
((f_X2_hasRoom l0 l1 q1.2).bind (fun q4 => if q4.1 = 0 then
((f_X2_livingUnits l0 q4.2).bind (fun q7 => mmK (inR (q7.1 + l1)) (if 100 < (q7.1 + l1) then
(some (2, q7.2))
else
(some (1, q7.2)))))
else
(some (0, q4.2)))))
set_option maxRecDepth 100000 in
set_option maxHeartbeats 4000000 in
theorem ok_X2_tellFit {r : Int × Mem} : ∀ (l0 : Nat) (l1 : Int) (m : Mem), mmSh[l0]? = some (.inl 2) → inR l1 → f_X2_tellFit l0 l1 m = some r → VV RX2 cX2_tellFit 2 rm_X2_tellFit mmG0 (mmPi r) 0 [(0, .ref l0), (1, vi l1)] [] m := by
  intro l0 l1 m hs0 hr1 E
  unfold f_X2_tellFit at E
  refine V_iload_n 1 dX2_tellFit_0 rfl ?_
  obtain ⟨q1, hq1, E⟩ := mmB_e E
  refine V_callS (st := []) 1 dX2_tellFit_1 (ct_X2_isLength hr1 hq1) ml_X2_53 st_X2_isLength it_X2 cd_X2_isLength hz_X2_isLength ⟨rfl, rfl, by decide, by decide⟩ rfl rfl (Nat.le_of_ble_eq_true rfl) (fun hv2 => ?_)
  refine V_if_ne 10 dX2_tellFit_4 (by decide) hv2 (fun c3 => ?_) (fun c3 => ?_)
  · replace E := mmI_f c3 E
    refine V_aload_n 0 dX2_tellFit_10 rfl ?_
    refine V_iload_n 1 dX2_tellFit_11 rfl ?_
    obtain ⟨q4, hq4, E⟩ := mmB_e E
    refine V_callV (ci := 2) (q := (RX2, TX2, 10)) (Cn := RX2) (st := []) 1 dX2_tellFit_12 (ct_X2_hasRoom hs0 hr1 hq4) ml_X2_70 im_X2_hasRoom sl_X2_hasRoom it_X2 cd_X2_hasRoom hy_X2_hasRoom ⟨rfl, rfl, by decide, by decide⟩ hs0 rfl rfl rfl rfl (Nat.le_of_ble_eq_true rfl) (fun hv5 => ?_)
    refine V_if_eq 20 dX2_tellFit_15 (by decide) hv5 (fun c6 => ?_) (fun c6 => ?_)
    · replace E := mmI_t c6 E
      refine V_aload_n 0 dX2_tellFit_20 rfl ?_
      obtain ⟨q7, hq7, E⟩ := mmB_e E
      refine V_callV (ci := 2) (q := (RX2, TX2, 10)) (Cn := RX2) (st := []) 0 dX2_tellFit_21 (ct_X2_livingUnits hs0 hq7) ml_X2_120 im_X2_livingUnits sl_X2_livingUnits it_X2 cd_X2_livingUnits hy_X2_livingUnits ⟨rfl, rfl, by decide, by decide⟩ hs0 rfl rfl rfl rfl (Nat.le_of_ble_eq_true rfl) (fun hv8 => ?_)
      refine V_iload_n 1 dX2_tellFit_24 rfl ?_
      obtain ⟨hv9, E⟩ := mmK_e E
      refine V_iadd dX2_tellFit_25 ?_
      refine V_bipush (v := 100) dX2_tellFit_26 (by decide) ?_
      refine V_icmp_gt 35 dX2_tellFit_28 (by decide) hv9 ir_100 (fun c10 => ?_) (fun c10 => ?_)
      · replace E := mmI_t c10 E
        refine V_iconst dX2_tellFit_35 rfl ?_
        obtain rfl := Option.some.inj E
        exact V_reti dX2_tellFit_36 ⟨rfl, rfl, ir_2⟩
      · replace E := mmI_f c10 E
        refine V_iconst dX2_tellFit_31 rfl ?_
        refine V_goto 36 dX2_tellFit_32 (by decide) ?_
        obtain rfl := Option.some.inj E
        exact V_reti dX2_tellFit_36 ⟨rfl, rfl, ir_1⟩
    · replace E := mmI_f c6 E
      refine V_iconst dX2_tellFit_18 rfl ?_
      obtain rfl := Option.some.inj E
      exact V_reti dX2_tellFit_19 ⟨rfl, rfl, ir_0⟩
  · replace E := mmI_t c3 E
    refine V_bipush (v := (-2)) dX2_tellFit_7 (by decide) ?_
    obtain rfl := Option.some.inj E
    exact V_reti dX2_tellFit_9 ⟨rfl, rfl, ir_m2⟩
theorem ct_X2_tellFit {l0 : Nat} {l1 : Int} {m : Mem} {r : Int × Mem} (hs0 : mmSh[l0]? = some (.inl 2)) (hr1 : inR l1) (E : f_X2_tellFit l0 l1 m = some r) : CTi yX2_tellFit cX2_tellFit 2 (some .int) rm_X2_tellFit [.ref l0, vi l1] m r := CT_i (by decide +kernel) rfl (Nat.le_of_ble_eq_true rfl) (ok_X2_tellFit _ _ _ hs0 hr1 E)
theorem hy_X2_tellFit : yX2_tellFit.cls = RX2 ∧ yX2_tellFit.cls ≠ "java/lang/invoke/MethodHandle" ∧ yX2_tellFit.cls ≠ "java/lang/invoke/VarHandle" ∧ (parseMethodDescriptor yX2_tellFit.desc).map (fun d => d.parameters.length) = some 1 := by decide +kernel
abbrev rm_X2_tellBeginning : Room := { frames := 2, cells := 0, slots := 0, locals := 42 }
noncomputable def f_X2_tellBeginning (l0 : Nat) (l1 : Int) (l2 : Int) (m : Mem) : Option (Int × Mem) :=
  if l1 < 0 then
(some ((-2), m))
else
(if 26 ≤ l1 then
(some ((-2), m))
else
(if 0 ≤ l2 then
(mmK (inR (l1 * 26)) ((f_X2_namesBelow l0 (l1 * 26) m).bind (fun q5 => mmK (inR (l1 + 1)) (mmK (inR ((l1 + 1) * 26)) ((f_X2_namesBelow l0 ((l1 + 1) * 26) q5.2).bind (fun q9 => mmK (inR (q9.1 - q5.1)) (if (q9.1 - q5.1) ≤ l2 then
(some ((-5), q9.2))
else
(mmK (inR (q5.1 + l2)) ((f_X2_tellName l0 (q5.1 + l2) q9.2).bind (fun q14 => some (q14.1, q14.2)))))))))))
else
(some ((-2), m))))
set_option maxRecDepth 100000 in
set_option maxHeartbeats 4000000 in
theorem ok_X2_tellBeginning {r : Int × Mem} : ∀ (l0 : Nat) (l1 : Int) (l2 : Int) (m : Mem), mmSh[l0]? = some (.inl 2) → inR l1 → inR l2 → f_X2_tellBeginning l0 l1 l2 m = some r → VV RX2 cX2_tellBeginning 5 rm_X2_tellBeginning mmG0 (mmPi r) 0 [(0, .ref l0), (1, vi l1), (2, vi l2)] [] m := by
  intro l0 l1 l2 m hs0 hr1 hr2 E
  unfold f_X2_tellBeginning at E
  refine V_iload_n 1 dX2_tellBeginning_0 rfl ?_
  refine V_if_lt 14 dX2_tellBeginning_1 (by decide) hr1 (fun c1 => ?_) (fun c1 => ?_)
  · replace E := mmI_t c1 E
    refine V_bipush (v := (-2)) dX2_tellBeginning_14 (by decide) ?_
    obtain rfl := Option.some.inj E
    exact V_reti dX2_tellBeginning_16 ⟨rfl, rfl, ir_m2⟩
  · replace E := mmI_f c1 E
    refine V_iload_n 1 dX2_tellBeginning_4 rfl ?_
    refine V_bipush (v := 26) dX2_tellBeginning_5 (by decide) ?_
    refine V_icmp_ge 14 dX2_tellBeginning_7 (by decide) hr1 ir_26 (fun c2 => ?_) (fun c2 => ?_)
    · replace E := mmI_t c2 E
      refine V_bipush (v := (-2)) dX2_tellBeginning_14 (by decide) ?_
      obtain rfl := Option.some.inj E
      exact V_reti dX2_tellBeginning_16 ⟨rfl, rfl, ir_m2⟩
    · replace E := mmI_f c2 E
      refine V_iload_n 2 dX2_tellBeginning_10 rfl ?_
      refine V_if_ge 17 dX2_tellBeginning_11 (by decide) hr2 (fun c3 => ?_) (fun c3 => ?_)
      · replace E := mmI_t c3 E
        refine V_aload_n 0 dX2_tellBeginning_17 rfl ?_
        refine V_iload_n 1 dX2_tellBeginning_18 rfl ?_
        refine V_bipush (v := 26) dX2_tellBeginning_19 (by decide) ?_
        obtain ⟨hv4, E⟩ := mmK_e E
        refine V_imul dX2_tellBeginning_21 ?_
        obtain ⟨q5, hq5, E⟩ := mmB_e E
        refine V_callV (ci := 2) (q := (RX2, TX2, 10)) (Cn := RX2) (st := []) 1 dX2_tellBeginning_22 (ct_X2_namesBelow hs0 hv4 hq5) ml_X2_123 im_X2_namesBelow sl_X2_namesBelow it_X2 cd_X2_namesBelow hy_X2_namesBelow ⟨rfl, rfl, by decide, by decide⟩ hs0 rfl rfl rfl rfl (Nat.le_of_ble_eq_true rfl) (fun hv6 => ?_)
        refine V_istore_n (i := 3) (lv' := [(0, .ref l0), (1, vi l1), (2, vi l2), (3, vi q5.1)]) dX2_tellBeginning_25 rfl rfl rfl ?_
        refine V_aload_n 0 dX2_tellBeginning_26 rfl ?_
        refine V_iload_n 1 dX2_tellBeginning_27 rfl ?_
        refine V_iconst dX2_tellBeginning_28 rfl ?_
        obtain ⟨hv7, E⟩ := mmK_e E
        refine V_iadd dX2_tellBeginning_29 ?_
        refine V_bipush (v := 26) dX2_tellBeginning_30 (by decide) ?_
        obtain ⟨hv8, E⟩ := mmK_e E
        refine V_imul dX2_tellBeginning_32 ?_
        obtain ⟨q9, hq9, E⟩ := mmB_e E
        refine V_callV (ci := 2) (q := (RX2, TX2, 10)) (Cn := RX2) (st := []) 1 dX2_tellBeginning_33 (ct_X2_namesBelow hs0 hv8 hq9) ml_X2_123 im_X2_namesBelow sl_X2_namesBelow it_X2 cd_X2_namesBelow hy_X2_namesBelow ⟨rfl, rfl, by decide, by decide⟩ hs0 rfl rfl rfl rfl (Nat.le_of_ble_eq_true rfl) (fun hv10 => ?_)
        refine V_iload_n 3 dX2_tellBeginning_36 rfl ?_
        obtain ⟨hv11, E⟩ := mmK_e E
        refine V_isub dX2_tellBeginning_37 ?_
        refine V_istore (lv' := [(0, .ref l0), (1, vi l1), (2, vi l2), (3, vi q5.1), (4, vi (q9.1 - q5.1))]) dX2_tellBeginning_38 rfl rfl ?_
        refine V_iload_n 2 dX2_tellBeginning_40 rfl ?_
        refine V_iload 4 dX2_tellBeginning_41 rfl ?_
        refine V_icmp_ge 56 dX2_tellBeginning_43 (by decide) hr2 hv11 (fun c12 => ?_) (fun c12 => ?_)
        · replace E := mmI_t c12 E
          refine V_bipush (v := (-5)) dX2_tellBeginning_56 (by decide) ?_
          obtain rfl := Option.some.inj E
          exact V_reti dX2_tellBeginning_58 ⟨rfl, rfl, ir_m5⟩
        · replace E := mmI_f c12 E
          refine V_aload_n 0 dX2_tellBeginning_46 rfl ?_
          refine V_iload_n 3 dX2_tellBeginning_47 rfl ?_
          refine V_iload_n 2 dX2_tellBeginning_48 rfl ?_
          obtain ⟨hv13, E⟩ := mmK_e E
          refine V_iadd dX2_tellBeginning_49 ?_
          obtain ⟨q14, hq14, E⟩ := mmB_e E
          refine V_callV (ci := 2) (q := (RX2, TX2, 10)) (Cn := RX2) (st := []) 1 dX2_tellBeginning_50 (ct_X2_tellName hs0 hv13 hq14) ml_X2_117 im_X2_tellName sl_X2_tellName it_X2 cd_X2_tellName hy_X2_tellName ⟨rfl, rfl, by decide, by decide⟩ hs0 rfl rfl rfl rfl (Nat.le_of_ble_eq_true rfl) (fun hv15 => ?_)
          refine V_goto 58 dX2_tellBeginning_53 (by decide) ?_
          obtain rfl := Option.some.inj E
          exact V_reti dX2_tellBeginning_58 ⟨rfl, rfl, hv15⟩
      · replace E := mmI_f c3 E
        refine V_bipush (v := (-2)) dX2_tellBeginning_14 (by decide) ?_
        obtain rfl := Option.some.inj E
        exact V_reti dX2_tellBeginning_16 ⟨rfl, rfl, ir_m2⟩
theorem ct_X2_tellBeginning {l0 : Nat} {l1 : Int} {l2 : Int} {m : Mem} {r : Int × Mem} (hs0 : mmSh[l0]? = some (.inl 2)) (hr1 : inR l1) (hr2 : inR l2) (E : f_X2_tellBeginning l0 l1 l2 m = some r) : CTi yX2_tellBeginning cX2_tellBeginning 5 (some .int) rm_X2_tellBeginning [.ref l0, vi l1, vi l2] m r := CT_i (by decide +kernel) rfl (Nat.le_of_ble_eq_true rfl) (ok_X2_tellBeginning _ _ _ _ hs0 hr1 hr2 E)
theorem hy_X2_tellBeginning : yX2_tellBeginning.cls = RX2 ∧ yX2_tellBeginning.cls ≠ "java/lang/invoke/MethodHandle" ∧ yX2_tellBeginning.cls ≠ "java/lang/invoke/VarHandle" ∧ (parseMethodDescriptor yX2_tellBeginning.desc).map (fun d => d.parameters.length) = some 2 := by decide +kernel
abbrev rm_X2_aliases : Room := { frames := 2, cells := 0, slots := 0, locals := 42 }
noncomputable def f_X2_aliases_L4 : Nat → Nat → Int → Int → Mem → Option (Int × Mem)
  | 0, _, _, _, _ => none
  | n + 1, l0, l1, l2, m =>
    if (m.1 l0 5) ≤ l2 then
(some (l1, m))
else
((f_X2_isMember l0 l2 m).bind (fun q3 => if q3.1 = 0 then
(mmK (inR (l1 + 1)) (mmK (inR (l2 + 1)) (f_X2_aliases_L4 n l0 (l1 + 1) (l2 + 1) q3.2)))
else
(mmK (inR (l2 + 1)) (f_X2_aliases_L4 n l0 l1 (l2 + 1) q3.2))))
set_option maxRecDepth 100000 in
set_option maxHeartbeats 4000000 in
theorem ok_X2_aliases_L4 {r : Int × Mem} : ∀ (n : Nat), ∀ (l0 : Nat) (l1 : Int) (l2 : Int) (m : Mem), mmSh[l0]? = some (.inl 2) → inR l1 → inR l2 → f_X2_aliases_L4 n l0 l1 l2 m = some r → VV RX2 cX2_aliases 3 rm_X2_aliases mmG0 (mmPi r) 4 [(0, .ref l0), (1, vi l1), (2, vi l2)] [] m := by
  intro n
  induction n with
  | zero =>
    intro l0 l1 l2 m hs0 hr1 hr2 E
    cases E
  | succ n ih =>
    intro l0 l1 l2 m hs0 hr1 hr2 E
    rw [f_X2_aliases_L4] at E
    refine V_iload_n 2 dX2_aliases_4 rfl ?_
    refine V_aload_n 0 dX2_aliases_5 rfl ?_
    refine V_geti (ci := 2) (k := 5) (N := 10) (T := TX2) (v := (m.1 l0 5)) dX2_aliases_6 iuX2 fl_X2_27 rfl (by decide) rfl hs0 (by first | rfl | simp [mwr]) (fun hv1 => ?_)
    refine V_icmp_ge 29 dX2_aliases_9 (by decide) hr2 hv1 (fun c2 => ?_) (fun c2 => ?_)
    · replace E := mmI_t c2 E
      refine V_iload_n 1 dX2_aliases_29 rfl ?_
      obtain rfl := Option.some.inj E
      exact V_reti dX2_aliases_30 ⟨rfl, rfl, hr1⟩
    · replace E := mmI_f c2 E
      refine V_aload_n 0 dX2_aliases_12 rfl ?_
      refine V_iload_n 2 dX2_aliases_13 rfl ?_
      obtain ⟨q3, hq3, E⟩ := mmB_e E
      refine V_callV (ci := 2) (q := (RX2, TX2, 10)) (Cn := RX2) (st := []) 1 dX2_aliases_14 (ct_X2_isMember hs0 hr2 hq3) ml_X2_80 im_X2_isMember sl_X2_isMember it_X2 cd_X2_isMember hy_X2_isMember ⟨rfl, rfl, by decide, by decide⟩ hs0 rfl rfl rfl rfl (Nat.le_of_ble_eq_true rfl) (fun hv4 => ?_)
      refine V_if_ne 23 dX2_aliases_17 (by decide) hv4 (fun c5 => ?_) (fun c5 => ?_)
      · replace E := mmI_f c5 E
        obtain ⟨hv6, E⟩ := mmK_e E
        refine V_iinc (v := (l2 + 1)) (lv' := [(0, .ref l0), (1, vi l1), (2, vi (l2 + 1))]) 2 dX2_aliases_23 rfl rfl rfl rfl ?_
        refine V_goto 4 dX2_aliases_26 (by decide) ?_
        exact ih _ _ _ _ hs0 hr1 hv6 E
      · replace E := mmI_t c5 E
        obtain ⟨hv7, E⟩ := mmK_e E
        refine V_iinc (v := (l1 + 1)) (lv' := [(0, .ref l0), (1, vi (l1 + 1)), (2, vi l2)]) 1 dX2_aliases_20 rfl rfl rfl rfl ?_
        obtain ⟨hv8, E⟩ := mmK_e E
        refine V_iinc (v := (l2 + 1)) (lv' := [(0, .ref l0), (1, vi (l1 + 1)), (2, vi (l2 + 1))]) 2 dX2_aliases_23 rfl rfl rfl rfl ?_
        refine V_goto 4 dX2_aliases_26 (by decide) ?_
        exact ih _ _ _ _ hs0 hv7 hv8 E
noncomputable def f_X2_aliases (l0 : Nat) (m : Mem) : Option (Int × Mem) :=
  f_X2_aliases_L4 mmFU l0 0 0 m
set_option maxRecDepth 100000 in
set_option maxHeartbeats 4000000 in
theorem ok_X2_aliases {r : Int × Mem} : ∀ (l0 : Nat) (m : Mem), mmSh[l0]? = some (.inl 2) → f_X2_aliases l0 m = some r → VV RX2 cX2_aliases 3 rm_X2_aliases mmG0 (mmPi r) 0 [(0, .ref l0)] [] m := by
  intro l0 m hs0 E
  unfold f_X2_aliases at E
  refine V_iconst dX2_aliases_0 rfl ?_
  refine V_istore_n (i := 1) (lv' := [(0, .ref l0), (1, vi 0)]) dX2_aliases_1 rfl rfl rfl ?_
  refine V_iconst dX2_aliases_2 rfl ?_
  refine V_istore_n (i := 2) (lv' := [(0, .ref l0), (1, vi 0), (2, vi 0)]) dX2_aliases_3 rfl rfl rfl ?_
  exact ok_X2_aliases_L4 mmFU _ _ _ _ hs0 ir_0 ir_0 E
theorem ct_X2_aliases {l0 : Nat} {m : Mem} {r : Int × Mem} (hs0 : mmSh[l0]? = some (.inl 2)) (E : f_X2_aliases l0 m = some r) : CTi yX2_aliases cX2_aliases 3 (some .int) rm_X2_aliases [.ref l0] m r := CT_i (by decide +kernel) rfl (Nat.le_of_ble_eq_true rfl) (ok_X2_aliases _ _ hs0 E)
theorem hy_X2_aliases : yX2_aliases.cls = RX2 ∧ yX2_aliases.cls ≠ "java/lang/invoke/MethodHandle" ∧ yX2_aliases.cls ≠ "java/lang/invoke/VarHandle" ∧ (parseMethodDescriptor yX2_aliases.desc).map (fun d => d.parameters.length) = some 0 := by decide +kernel
abbrev rm_X2_lostAliases : Room := { frames := 3, cells := 0, slots := 0, locals := 64 }
noncomputable def f_X2_lostAliases_L4 : Nat → Nat → Int → Int → Mem → Option (Int × Mem)
  | 0, _, _, _, _ => none
  | n + 1, l0, l1, l2, m =>
    if (m.1 l0 5) ≤ l2 then
(some (l1, m))
else
((f_X2_isLost l0 l2 m).bind (fun q3 => if q3.1 = 0 then
(mmK (inR (l2 + 1)) (f_X2_lostAliases_L4 n l0 l1 (l2 + 1) q3.2))
else
(mmK (inR (l1 + 1)) (mmK (inR (l2 + 1)) (f_X2_lostAliases_L4 n l0 (l1 + 1) (l2 + 1) q3.2)))))
set_option maxRecDepth 100000 in
set_option maxHeartbeats 4000000 in
theorem ok_X2_lostAliases_L4 {r : Int × Mem} : ∀ (n : Nat), ∀ (l0 : Nat) (l1 : Int) (l2 : Int) (m : Mem), mmSh[l0]? = some (.inl 2) → inR l1 → inR l2 → f_X2_lostAliases_L4 n l0 l1 l2 m = some r → VV RX2 cX2_lostAliases 3 rm_X2_lostAliases mmG0 (mmPi r) 4 [(0, .ref l0), (1, vi l1), (2, vi l2)] [] m := by
  intro n
  induction n with
  | zero =>
    intro l0 l1 l2 m hs0 hr1 hr2 E
    cases E
  | succ n ih =>
    intro l0 l1 l2 m hs0 hr1 hr2 E
    rw [f_X2_lostAliases_L4] at E
    refine V_iload_n 2 dX2_lostAliases_4 rfl ?_
    refine V_aload_n 0 dX2_lostAliases_5 rfl ?_
    refine V_geti (ci := 2) (k := 5) (N := 10) (T := TX2) (v := (m.1 l0 5)) dX2_lostAliases_6 iuX2 fl_X2_27 rfl (by decide) rfl hs0 (by first | rfl | simp [mwr]) (fun hv1 => ?_)
    refine V_icmp_ge 29 dX2_lostAliases_9 (by decide) hr2 hv1 (fun c2 => ?_) (fun c2 => ?_)
    · replace E := mmI_t c2 E
      refine V_iload_n 1 dX2_lostAliases_29 rfl ?_
      obtain rfl := Option.some.inj E
      exact V_reti dX2_lostAliases_30 ⟨rfl, rfl, hr1⟩
    · replace E := mmI_f c2 E
      refine V_aload_n 0 dX2_lostAliases_12 rfl ?_
      refine V_iload_n 2 dX2_lostAliases_13 rfl ?_
      obtain ⟨q3, hq3, E⟩ := mmB_e E
      refine V_callV (ci := 2) (q := (RX2, TX2, 10)) (Cn := RX2) (st := []) 1 dX2_lostAliases_14 (ct_X2_isLost hs0 hr2 hq3) ml_X2_105 im_X2_isLost sl_X2_isLost it_X2 cd_X2_isLost hy_X2_isLost ⟨rfl, rfl, by decide, by decide⟩ hs0 rfl rfl rfl rfl (Nat.le_of_ble_eq_true rfl) (fun hv4 => ?_)
      refine V_if_eq 23 dX2_lostAliases_17 (by decide) hv4 (fun c5 => ?_) (fun c5 => ?_)
      · replace E := mmI_t c5 E
        obtain ⟨hv6, E⟩ := mmK_e E
        refine V_iinc (v := (l2 + 1)) (lv' := [(0, .ref l0), (1, vi l1), (2, vi (l2 + 1))]) 2 dX2_lostAliases_23 rfl rfl rfl rfl ?_
        refine V_goto 4 dX2_lostAliases_26 (by decide) ?_
        exact ih _ _ _ _ hs0 hr1 hv6 E
      · replace E := mmI_f c5 E
        obtain ⟨hv7, E⟩ := mmK_e E
        refine V_iinc (v := (l1 + 1)) (lv' := [(0, .ref l0), (1, vi (l1 + 1)), (2, vi l2)]) 1 dX2_lostAliases_20 rfl rfl rfl rfl ?_
        obtain ⟨hv8, E⟩ := mmK_e E
        refine V_iinc (v := (l2 + 1)) (lv' := [(0, .ref l0), (1, vi (l1 + 1)), (2, vi (l2 + 1))]) 2 dX2_lostAliases_23 rfl rfl rfl rfl ?_
        refine V_goto 4 dX2_lostAliases_26 (by decide) ?_
        exact ih _ _ _ _ hs0 hv7 hv8 E
noncomputable def f_X2_lostAliases (l0 : Nat) (m : Mem) : Option (Int × Mem) :=
  f_X2_lostAliases_L4 mmFU l0 0 0 m
set_option maxRecDepth 100000 in
set_option maxHeartbeats 4000000 in
theorem ok_X2_lostAliases {r : Int × Mem} : ∀ (l0 : Nat) (m : Mem), mmSh[l0]? = some (.inl 2) → f_X2_lostAliases l0 m = some r → VV RX2 cX2_lostAliases 3 rm_X2_lostAliases mmG0 (mmPi r) 0 [(0, .ref l0)] [] m := by
  intro l0 m hs0 E
  unfold f_X2_lostAliases at E
  refine V_iconst dX2_lostAliases_0 rfl ?_
  refine V_istore_n (i := 1) (lv' := [(0, .ref l0), (1, vi 0)]) dX2_lostAliases_1 rfl rfl rfl ?_
  refine V_iconst dX2_lostAliases_2 rfl ?_
  refine V_istore_n (i := 2) (lv' := [(0, .ref l0), (1, vi 0), (2, vi 0)]) dX2_lostAliases_3 rfl rfl rfl ?_
  exact ok_X2_lostAliases_L4 mmFU _ _ _ _ hs0 ir_0 ir_0 E
theorem ct_X2_lostAliases {l0 : Nat} {m : Mem} {r : Int × Mem} (hs0 : mmSh[l0]? = some (.inl 2)) (E : f_X2_lostAliases l0 m = some r) : CTi yX2_lostAliases cX2_lostAliases 3 (some .int) rm_X2_lostAliases [.ref l0] m r := CT_i (by decide +kernel) rfl (Nat.le_of_ble_eq_true rfl) (ok_X2_lostAliases _ _ hs0 E)
theorem hy_X2_lostAliases : yX2_lostAliases.cls = RX2 ∧ yX2_lostAliases.cls ≠ "java/lang/invoke/MethodHandle" ∧ yX2_lostAliases.cls ≠ "java/lang/invoke/VarHandle" ∧ (parseMethodDescriptor yX2_lostAliases.desc).map (fun d => d.parameters.length) = some 0 := by decide +kernel
abbrev rm_X2_livingTexts : Room := { frames := 2, cells := 0, slots := 0, locals := 43 }
noncomputable def f_X2_livingTexts_L4 : Nat → Nat → Int → Int → Mem → Option (Int × Mem)
  | 0, _, _, _, _ => none
  | n + 1, l0, l1, l2, m =>
    if (m.1 l0 5) ≤ l2 then
(some (l1, m))
else
((f_X2_isFirstOfText l0 l2 m).bind (fun q3 => if q3.1 = 0 then
(mmK (inR (l2 + 1)) (f_X2_livingTexts_L4 n l0 l1 (l2 + 1) q3.2))
else
(mmK (inR (l1 + 1)) (mmK (inR (l2 + 1)) (f_X2_livingTexts_L4 n l0 (l1 + 1) (l2 + 1) q3.2)))))
set_option maxRecDepth 100000 in
set_option maxHeartbeats 4000000 in
theorem ok_X2_livingTexts_L4 {r : Int × Mem} : ∀ (n : Nat), ∀ (l0 : Nat) (l1 : Int) (l2 : Int) (m : Mem), mmSh[l0]? = some (.inl 2) → inR l1 → inR l2 → f_X2_livingTexts_L4 n l0 l1 l2 m = some r → VV RX2 cX2_livingTexts 3 rm_X2_livingTexts mmG0 (mmPi r) 4 [(0, .ref l0), (1, vi l1), (2, vi l2)] [] m := by
  intro n
  induction n with
  | zero =>
    intro l0 l1 l2 m hs0 hr1 hr2 E
    cases E
  | succ n ih =>
    intro l0 l1 l2 m hs0 hr1 hr2 E
    rw [f_X2_livingTexts_L4] at E
    refine V_iload_n 2 dX2_livingTexts_4 rfl ?_
    refine V_aload_n 0 dX2_livingTexts_5 rfl ?_
    refine V_geti (ci := 2) (k := 5) (N := 10) (T := TX2) (v := (m.1 l0 5)) dX2_livingTexts_6 iuX2 fl_X2_27 rfl (by decide) rfl hs0 (by first | rfl | simp [mwr]) (fun hv1 => ?_)
    refine V_icmp_ge 29 dX2_livingTexts_9 (by decide) hr2 hv1 (fun c2 => ?_) (fun c2 => ?_)
    · replace E := mmI_t c2 E
      refine V_iload_n 1 dX2_livingTexts_29 rfl ?_
      obtain rfl := Option.some.inj E
      exact V_reti dX2_livingTexts_30 ⟨rfl, rfl, hr1⟩
    · replace E := mmI_f c2 E
      refine V_aload_n 0 dX2_livingTexts_12 rfl ?_
      refine V_iload_n 2 dX2_livingTexts_13 rfl ?_
      obtain ⟨q3, hq3, E⟩ := mmB_e E
      refine V_callV (ci := 2) (q := (RX2, TX2, 10)) (Cn := RX2) (st := []) 1 dX2_livingTexts_14 (ct_X2_isFirstOfText hs0 hr2 hq3) ml_X2_135 im_X2_isFirstOfText sl_X2_isFirstOfText it_X2 cd_X2_isFirstOfText hy_X2_isFirstOfText ⟨rfl, rfl, by decide, by decide⟩ hs0 rfl rfl rfl rfl (Nat.le_of_ble_eq_true rfl) (fun hv4 => ?_)
      refine V_if_eq 23 dX2_livingTexts_17 (by decide) hv4 (fun c5 => ?_) (fun c5 => ?_)
      · replace E := mmI_t c5 E
        obtain ⟨hv6, E⟩ := mmK_e E
        refine V_iinc (v := (l2 + 1)) (lv' := [(0, .ref l0), (1, vi l1), (2, vi (l2 + 1))]) 2 dX2_livingTexts_23 rfl rfl rfl rfl ?_
        refine V_goto 4 dX2_livingTexts_26 (by decide) ?_
        exact ih _ _ _ _ hs0 hr1 hv6 E
      · replace E := mmI_f c5 E
        obtain ⟨hv7, E⟩ := mmK_e E
        refine V_iinc (v := (l1 + 1)) (lv' := [(0, .ref l0), (1, vi (l1 + 1)), (2, vi l2)]) 1 dX2_livingTexts_20 rfl rfl rfl rfl ?_
        obtain ⟨hv8, E⟩ := mmK_e E
        refine V_iinc (v := (l2 + 1)) (lv' := [(0, .ref l0), (1, vi (l1 + 1)), (2, vi (l2 + 1))]) 2 dX2_livingTexts_23 rfl rfl rfl rfl ?_
        refine V_goto 4 dX2_livingTexts_26 (by decide) ?_
        exact ih _ _ _ _ hs0 hv7 hv8 E
noncomputable def f_X2_livingTexts (l0 : Nat) (m : Mem) : Option (Int × Mem) :=
  f_X2_livingTexts_L4 mmFU l0 0 0 m
set_option maxRecDepth 100000 in
set_option maxHeartbeats 4000000 in
theorem ok_X2_livingTexts {r : Int × Mem} : ∀ (l0 : Nat) (m : Mem), mmSh[l0]? = some (.inl 2) → f_X2_livingTexts l0 m = some r → VV RX2 cX2_livingTexts 3 rm_X2_livingTexts mmG0 (mmPi r) 0 [(0, .ref l0)] [] m := by
  intro l0 m hs0 E
  unfold f_X2_livingTexts at E
  refine V_iconst dX2_livingTexts_0 rfl ?_
  refine V_istore_n (i := 1) (lv' := [(0, .ref l0), (1, vi 0)]) dX2_livingTexts_1 rfl rfl rfl ?_
  refine V_iconst dX2_livingTexts_2 rfl ?_
  refine V_istore_n (i := 2) (lv' := [(0, .ref l0), (1, vi 0), (2, vi 0)]) dX2_livingTexts_3 rfl rfl rfl ?_
  exact ok_X2_livingTexts_L4 mmFU _ _ _ _ hs0 ir_0 ir_0 E
theorem ct_X2_livingTexts {l0 : Nat} {m : Mem} {r : Int × Mem} (hs0 : mmSh[l0]? = some (.inl 2)) (E : f_X2_livingTexts l0 m = some r) : CTi yX2_livingTexts cX2_livingTexts 3 (some .int) rm_X2_livingTexts [.ref l0] m r := CT_i (by decide +kernel) rfl (Nat.le_of_ble_eq_true rfl) (ok_X2_livingTexts _ _ hs0 E)
theorem hy_X2_livingTexts : yX2_livingTexts.cls = RX2 ∧ yX2_livingTexts.cls ≠ "java/lang/invoke/MethodHandle" ∧ yX2_livingTexts.cls ≠ "java/lang/invoke/VarHandle" ∧ (parseMethodDescriptor yX2_livingTexts.desc).map (fun d => d.parameters.length) = some 0 := by decide +kernel
abbrev rm_X2_tellCount : Room := { frames := 4, cells := 0, slots := 0, locals := 86 }
noncomputable def f_X2_tellCount (l0 : Nat) (l1 : Int) (m : Mem) : Option (Int × Mem) :=
  if l1 = 0 then
(some ((m.1 l0 5), m))
else (
if l1 = 1 then
((f_X2_aliases l0 m).bind (fun q5 => mmK (inR ((m.1 l0 5) - q5.1)) (some (((m.1 l0 5) - q5.1), q5.2))))
else (
if l1 = 2 then
((f_X2_aliases l0 m).bind (fun q9 => some (q9.1, q9.2)))
else (
if l1 = 3 then
((f_X2_lostAliases l0 m).bind (fun q12 => some (q12.1, q12.2)))
else (
if l1 = 4 then
(some ((m.1 l0 6), m))
else (
if l1 = 5 then
(mmK (inR ((m.1 l0 6) * 4)) (mmK (inR (((m.1 l0 6) * 4) - (m.1 l0 5))) (some ((((m.1 l0 6) * 4) - (m.1 l0 5)), m))))
else (
if l1 = 6 then
(some ((m.1 l0 7), m))
else (
if l1 = 7 then
((f_X2_livingUnits l0 m).bind (fun q24 => some (q24.1, q24.2)))
else (
if l1 = 8 then
((f_X2_deadUnits l0 m).bind (fun q27 => some (q27.1, q27.2)))
else (
if l1 = 9 then
(mmK (inR (100 - (m.1 l0 7))) (some ((100 - (m.1 l0 7)), m)))
else (
if l1 = 10 then
((f_X2_livingTexts l0 m).bind (fun q33 => some (q33.1, q33.2)))
else (
if l1 = 11 then
(some ((m.1 l0 8), m))
else (
if l1 = 12 then
(some ((m.1 l0 9), m))
else (
(some ((-2), m)))))))))))))))
set_option maxRecDepth 100000 in
set_option maxHeartbeats 4000000 in
theorem ok_X2_tellCount {r : Int × Mem} : ∀ (l0 : Nat) (l1 : Int) (m : Mem), mmSh[l0]? = some (.inl 2) → inR l1 → f_X2_tellCount l0 l1 m = some r → VV RX2 cX2_tellCount 2 rm_X2_tellCount mmG0 (mmPi r) 0 [(0, .ref l0), (1, vi l1)] [] m := by
  intro l0 l1 m hs0 hr1 E
  unfold f_X2_tellCount at E
  refine V_iload_n 1 dX2_tellCount_0 rfl ?_
  by_cases c1 : l1 = 0
  · replace E := mmI_t c1 E
    refine V_tableIn 0 68 dX2_tellCount_1 c1 (by decide) (by decide) rfl (by decide) ?_
    refine V_aload_n 0 dX2_tellCount_68 rfl ?_
    refine V_geti (ci := 2) (k := 5) (N := 10) (T := TX2) (v := (m.1 l0 5)) dX2_tellCount_69 iuX2 fl_X2_27 rfl (by decide) rfl hs0 (by first | rfl | simp [mwr]) (fun hv2 => ?_)
    obtain rfl := Option.some.inj E
    exact V_reti dX2_tellCount_72 ⟨rfl, rfl, hv2⟩
  replace E := mmI_f c1 E
  by_cases c3 : l1 = 1
  · replace E := mmI_t c3 E
    refine V_tableIn 1 73 dX2_tellCount_1 c3 (by decide) (by decide) rfl (by decide) ?_
    refine V_aload_n 0 dX2_tellCount_73 rfl ?_
    refine V_geti (ci := 2) (k := 5) (N := 10) (T := TX2) (v := (m.1 l0 5)) dX2_tellCount_74 iuX2 fl_X2_27 rfl (by decide) rfl hs0 (by first | rfl | simp [mwr]) (fun hv4 => ?_)
    refine V_aload_n 0 dX2_tellCount_77 rfl ?_
    obtain ⟨q5, hq5, E⟩ := mmB_e E
    refine V_callV (ci := 2) (q := (RX2, TX2, 10)) (Cn := RX2) (st := [vi (m.1 l0 5)]) 0 dX2_tellCount_78 (ct_X2_aliases hs0 hq5) ml_X2_126 im_X2_aliases sl_X2_aliases it_X2 cd_X2_aliases hy_X2_aliases ⟨rfl, rfl, by decide, by decide⟩ hs0 rfl rfl rfl rfl (Nat.le_of_ble_eq_true rfl) (fun hv6 => ?_)
    obtain ⟨hv7, E⟩ := mmK_e E
    refine V_isub dX2_tellCount_81 ?_
    obtain rfl := Option.some.inj E
    exact V_reti dX2_tellCount_82 ⟨rfl, rfl, hv7⟩
  replace E := mmI_f c3 E
  by_cases c8 : l1 = 2
  · replace E := mmI_t c8 E
    refine V_tableIn 2 83 dX2_tellCount_1 c8 (by decide) (by decide) rfl (by decide) ?_
    refine V_aload_n 0 dX2_tellCount_83 rfl ?_
    obtain ⟨q9, hq9, E⟩ := mmB_e E
    refine V_callV (ci := 2) (q := (RX2, TX2, 10)) (Cn := RX2) (st := []) 0 dX2_tellCount_84 (ct_X2_aliases hs0 hq9) ml_X2_126 im_X2_aliases sl_X2_aliases it_X2 cd_X2_aliases hy_X2_aliases ⟨rfl, rfl, by decide, by decide⟩ hs0 rfl rfl rfl rfl (Nat.le_of_ble_eq_true rfl) (fun hv10 => ?_)
    obtain rfl := Option.some.inj E
    exact V_reti dX2_tellCount_87 ⟨rfl, rfl, hv10⟩
  replace E := mmI_f c8 E
  by_cases c11 : l1 = 3
  · replace E := mmI_t c11 E
    refine V_tableIn 3 88 dX2_tellCount_1 c11 (by decide) (by decide) rfl (by decide) ?_
    refine V_aload_n 0 dX2_tellCount_88 rfl ?_
    obtain ⟨q12, hq12, E⟩ := mmB_e E
    refine V_callV (ci := 2) (q := (RX2, TX2, 10)) (Cn := RX2) (st := []) 0 dX2_tellCount_89 (ct_X2_lostAliases hs0 hq12) ml_X2_129 im_X2_lostAliases sl_X2_lostAliases it_X2 cd_X2_lostAliases hy_X2_lostAliases ⟨rfl, rfl, by decide, by decide⟩ hs0 rfl rfl rfl rfl (Nat.le_of_ble_eq_true rfl) (fun hv13 => ?_)
    obtain rfl := Option.some.inj E
    exact V_reti dX2_tellCount_92 ⟨rfl, rfl, hv13⟩
  replace E := mmI_f c11 E
  by_cases c14 : l1 = 4
  · replace E := mmI_t c14 E
    refine V_tableIn 4 93 dX2_tellCount_1 c14 (by decide) (by decide) rfl (by decide) ?_
    refine V_aload_n 0 dX2_tellCount_93 rfl ?_
    refine V_geti (ci := 2) (k := 6) (N := 10) (T := TX2) (v := (m.1 l0 6)) dX2_tellCount_94 iuX2 fl_X2_31 rfl (by decide) rfl hs0 (by first | rfl | simp [mwr]) (fun hv15 => ?_)
    obtain rfl := Option.some.inj E
    exact V_reti dX2_tellCount_97 ⟨rfl, rfl, hv15⟩
  replace E := mmI_f c14 E
  by_cases c16 : l1 = 5
  · replace E := mmI_t c16 E
    refine V_tableIn 5 98 dX2_tellCount_1 c16 (by decide) (by decide) rfl (by decide) ?_
    refine V_aload_n 0 dX2_tellCount_98 rfl ?_
    refine V_geti (ci := 2) (k := 6) (N := 10) (T := TX2) (v := (m.1 l0 6)) dX2_tellCount_99 iuX2 fl_X2_31 rfl (by decide) rfl hs0 (by first | rfl | simp [mwr]) (fun hv17 => ?_)
    refine V_iconst dX2_tellCount_102 rfl ?_
    obtain ⟨hv18, E⟩ := mmK_e E
    refine V_imul dX2_tellCount_103 ?_
    refine V_aload_n 0 dX2_tellCount_104 rfl ?_
    refine V_geti (ci := 2) (k := 5) (N := 10) (T := TX2) (v := (m.1 l0 5)) dX2_tellCount_105 iuX2 fl_X2_27 rfl (by decide) rfl hs0 (by first | rfl | simp [mwr]) (fun hv19 => ?_)
    obtain ⟨hv20, E⟩ := mmK_e E
    refine V_isub dX2_tellCount_108 ?_
    obtain rfl := Option.some.inj E
    exact V_reti dX2_tellCount_109 ⟨rfl, rfl, hv20⟩
  replace E := mmI_f c16 E
  by_cases c21 : l1 = 6
  · replace E := mmI_t c21 E
    refine V_tableIn 6 110 dX2_tellCount_1 c21 (by decide) (by decide) rfl (by decide) ?_
    refine V_aload_n 0 dX2_tellCount_110 rfl ?_
    refine V_geti (ci := 2) (k := 7) (N := 10) (T := TX2) (v := (m.1 l0 7)) dX2_tellCount_111 iuX2 fl_X2_34 rfl (by decide) rfl hs0 (by first | rfl | simp [mwr]) (fun hv22 => ?_)
    obtain rfl := Option.some.inj E
    exact V_reti dX2_tellCount_114 ⟨rfl, rfl, hv22⟩
  replace E := mmI_f c21 E
  by_cases c23 : l1 = 7
  · replace E := mmI_t c23 E
    refine V_tableIn 7 115 dX2_tellCount_1 c23 (by decide) (by decide) rfl (by decide) ?_
    refine V_aload_n 0 dX2_tellCount_115 rfl ?_
    obtain ⟨q24, hq24, E⟩ := mmB_e E
    refine V_callV (ci := 2) (q := (RX2, TX2, 10)) (Cn := RX2) (st := []) 0 dX2_tellCount_116 (ct_X2_livingUnits hs0 hq24) ml_X2_120 im_X2_livingUnits sl_X2_livingUnits it_X2 cd_X2_livingUnits hy_X2_livingUnits ⟨rfl, rfl, by decide, by decide⟩ hs0 rfl rfl rfl rfl (Nat.le_of_ble_eq_true rfl) (fun hv25 => ?_)
    obtain rfl := Option.some.inj E
    exact V_reti dX2_tellCount_119 ⟨rfl, rfl, hv25⟩
  replace E := mmI_f c23 E
  by_cases c26 : l1 = 8
  · replace E := mmI_t c26 E
    refine V_tableIn 8 120 dX2_tellCount_1 c26 (by decide) (by decide) rfl (by decide) ?_
    refine V_aload_n 0 dX2_tellCount_120 rfl ?_
    obtain ⟨q27, hq27, E⟩ := mmB_e E
    refine V_callV (ci := 2) (q := (RX2, TX2, 10)) (Cn := RX2) (st := []) 0 dX2_tellCount_121 (ct_X2_deadUnits hs0 hq27) ml_X2_95 im_X2_deadUnits sl_X2_deadUnits it_X2 cd_X2_deadUnits hy_X2_deadUnits ⟨rfl, rfl, by decide, by decide⟩ hs0 rfl rfl rfl rfl (Nat.le_of_ble_eq_true rfl) (fun hv28 => ?_)
    obtain rfl := Option.some.inj E
    exact V_reti dX2_tellCount_124 ⟨rfl, rfl, hv28⟩
  replace E := mmI_f c26 E
  by_cases c29 : l1 = 9
  · replace E := mmI_t c29 E
    refine V_tableIn 9 125 dX2_tellCount_1 c29 (by decide) (by decide) rfl (by decide) ?_
    refine V_bipush (v := 100) dX2_tellCount_125 (by decide) ?_
    refine V_aload_n 0 dX2_tellCount_127 rfl ?_
    refine V_geti (ci := 2) (k := 7) (N := 10) (T := TX2) (v := (m.1 l0 7)) dX2_tellCount_128 iuX2 fl_X2_34 rfl (by decide) rfl hs0 (by first | rfl | simp [mwr]) (fun hv30 => ?_)
    obtain ⟨hv31, E⟩ := mmK_e E
    refine V_isub dX2_tellCount_131 ?_
    obtain rfl := Option.some.inj E
    exact V_reti dX2_tellCount_132 ⟨rfl, rfl, hv31⟩
  replace E := mmI_f c29 E
  by_cases c32 : l1 = 10
  · replace E := mmI_t c32 E
    refine V_tableIn 10 133 dX2_tellCount_1 c32 (by decide) (by decide) rfl (by decide) ?_
    refine V_aload_n 0 dX2_tellCount_133 rfl ?_
    obtain ⟨q33, hq33, E⟩ := mmB_e E
    refine V_callV (ci := 2) (q := (RX2, TX2, 10)) (Cn := RX2) (st := []) 0 dX2_tellCount_134 (ct_X2_livingTexts hs0 hq33) ml_X2_132 im_X2_livingTexts sl_X2_livingTexts it_X2 cd_X2_livingTexts hy_X2_livingTexts ⟨rfl, rfl, by decide, by decide⟩ hs0 rfl rfl rfl rfl (Nat.le_of_ble_eq_true rfl) (fun hv34 => ?_)
    obtain rfl := Option.some.inj E
    exact V_reti dX2_tellCount_137 ⟨rfl, rfl, hv34⟩
  replace E := mmI_f c32 E
  by_cases c35 : l1 = 11
  · replace E := mmI_t c35 E
    refine V_tableIn 11 138 dX2_tellCount_1 c35 (by decide) (by decide) rfl (by decide) ?_
    refine V_aload_n 0 dX2_tellCount_138 rfl ?_
    refine V_geti (ci := 2) (k := 8) (N := 10) (T := TX2) (v := (m.1 l0 8)) dX2_tellCount_139 iuX2 fl_X2_37 rfl (by decide) rfl hs0 (by first | rfl | simp [mwr]) (fun hv36 => ?_)
    obtain rfl := Option.some.inj E
    exact V_reti dX2_tellCount_142 ⟨rfl, rfl, hv36⟩
  replace E := mmI_f c35 E
  by_cases c37 : l1 = 12
  · replace E := mmI_t c37 E
    refine V_tableIn 12 143 dX2_tellCount_1 c37 (by decide) (by decide) rfl (by decide) ?_
    refine V_aload_n 0 dX2_tellCount_143 rfl ?_
    refine V_geti (ci := 2) (k := 9) (N := 10) (T := TX2) (v := (m.1 l0 9)) dX2_tellCount_144 iuX2 fl_X2_40 rfl (by decide) rfl hs0 (by first | rfl | simp [mwr]) (fun hv38 => ?_)
    obtain rfl := Option.some.inj E
    exact V_reti dX2_tellCount_147 ⟨rfl, rfl, hv38⟩
  replace E := mmI_f c37 E
  refine V_tableOut 148 dX2_tellCount_1 hr1 (by omega) (by decide) ?_
  refine V_bipush (v := (-2)) dX2_tellCount_148 (by decide) ?_
  obtain rfl := Option.some.inj E
  exact V_reti dX2_tellCount_150 ⟨rfl, rfl, ir_m2⟩
theorem ct_X2_tellCount {l0 : Nat} {l1 : Int} {m : Mem} {r : Int × Mem} (hs0 : mmSh[l0]? = some (.inl 2)) (hr1 : inR l1) (E : f_X2_tellCount l0 l1 m = some r) : CTi yX2_tellCount cX2_tellCount 2 (some .int) rm_X2_tellCount [.ref l0, vi l1] m r := CT_i (by decide +kernel) rfl (Nat.le_of_ble_eq_true rfl) (ok_X2_tellCount _ _ _ hs0 hr1 E)
theorem hy_X2_tellCount : yX2_tellCount.cls = RX2 ∧ yX2_tellCount.cls ≠ "java/lang/invoke/MethodHandle" ∧ yX2_tellCount.cls ≠ "java/lang/invoke/VarHandle" ∧ (parseMethodDescriptor yX2_tellCount.desc).map (fun d => d.parameters.length) = some 1 := by decide +kernel
abbrev rm_X3_settle : Room := { frames := 3, cells := 0, slots := 0, locals := 69 }
noncomputable def f_X3_settle (l1 : Int) (m : Mem) : Option (Int × Mem) :=
  if l1 < 0 then
(some (l1, m))
else
((f_X0_keepState 1 m).bind (fun q2 => (f_X2_copyFrom 1 7 q2).bind (fun q4 => some (l1, q4))))
set_option maxRecDepth 100000 in
set_option maxHeartbeats 4000000 in
theorem ok_X3_settle {r : Int × Mem} : ∀ (l1 : Int) (m : Mem), inR l1 → f_X3_settle l1 m = some r → VV RX3 cX3_settle 2 rm_X3_settle mmG0 (mmPi r) 0 [(0, .ref 0), (1, vi l1)] [] m := by
  intro l1 m hr1 E
  unfold f_X3_settle at E
  refine V_iload_n 1 dX3_settle_0 rfl ?_
  refine V_if_lt 26 dX3_settle_1 (by decide) hr1 (fun c1 => ?_) (fun c1 => ?_)
  · replace E := mmI_t c1 E
    refine V_iload_n 1 dX3_settle_26 rfl ?_
    obtain rfl := Option.some.inj E
    exact V_reti dX3_settle_27 ⟨rfl, rfl, hr1⟩
  · replace E := mmI_f c1 E
    refine V_aload_n 0 dX3_settle_4 rfl ?_
    refine V_geta (ci := 3) (k := 4) (N := 6) (T := TX3) (o' := 19) dX3_settle_5 iuX3 fl_X3_29 rfl (by decide) rfl sh_0 rfl ?_
    refine V_aload_n 0 dX3_settle_8 rfl ?_
    refine V_geta (ci := 3) (k := 0) (N := 6) (T := TX3) (o' := 1) dX3_settle_9 iuX3 fl_X3_12 rfl (by decide) rfl sh_0 rfl ?_
    obtain ⟨q2, hq2, E⟩ := mmB_e E
    refine V_callVv (ci := 0) (q := (RX0, TX0, 2)) (Cn := RX0) (st := []) 1 dX3_settle_12 (ct_X0_keepState sh_1 hq2) ml_X3_118 im_X0_keepState sl_X0_keepState it_X0 cd_X0_keepState hy_X0_keepState ⟨rfl, rfl, by decide, by decide⟩ sh_19 rfl rfl rfl rfl (Nat.le_of_ble_eq_true rfl) ?_
    refine V_aload_n 0 dX3_settle_15 rfl ?_
    refine V_geta (ci := 3) (k := 0) (N := 6) (T := TX3) (o' := 1) dX3_settle_16 iuX3 fl_X3_12 rfl (by decide) rfl sh_0 rfl ?_
    refine V_aload_n 0 dX3_settle_19 rfl ?_
    refine V_geta (ci := 3) (k := 1) (N := 6) (T := TX3) (o' := 7) dX3_settle_20 iuX3 fl_X3_16 rfl (by decide) rfl sh_0 rfl ?_
    obtain ⟨q4, hq4, E⟩ := mmB_e E
    refine V_callVv (ci := 2) (q := (RX2, TX2, 10)) (Cn := RX2) (st := []) 1 dX3_settle_23 (ct_X2_copyFrom sh_1 sh_7 hq4) ml_X3_40 im_X2_copyFrom sl_X2_copyFrom it_X2 cd_X2_copyFrom hy_X2_copyFrom ⟨rfl, rfl, by decide, by decide⟩ sh_1 rfl rfl rfl rfl (Nat.le_of_ble_eq_true rfl) ?_
    refine V_iload_n 1 dX3_settle_26 rfl ?_
    obtain rfl := Option.some.inj E
    exact V_reti dX3_settle_27 ⟨rfl, rfl, hr1⟩
theorem ct_X3_settle {l1 : Int} {m : Mem} {r : Int × Mem} (hr1 : inR l1) (E : f_X3_settle l1 m = some r) : CTi yX3_settle cX3_settle 2 (some .int) rm_X3_settle [.ref 0, vi l1] m r := CT_i (by decide +kernel) rfl (Nat.le_of_ble_eq_true rfl) (ok_X3_settle _ _ hr1 E)
theorem hy_X3_settle : yX3_settle.cls = RX3 ∧ yX3_settle.cls ≠ "java/lang/invoke/MethodHandle" ∧ yX3_settle.cls ≠ "java/lang/invoke/VarHandle" ∧ (parseMethodDescriptor yX3_settle.desc).map (fun d => d.parameters.length) = some 1 := by decide +kernel
abbrev rm_X3_add : Room := { frames := 4, cells := 0, slots := 0, locals := 99 }
noncomputable def f_X3_add (l1 : Int) (l2 : Int) (l3 : Int) (m : Mem) : Option (Int × Mem) :=
  (f_X2_copyFrom 7 1 m).bind (fun q1 => (f_X2_addMember 7 l1 l2 l3 q1).bind (fun q3 => (f_X3_settle q3.1 q3.2).bind (fun q5 => some (q5.1, q5.2))))
set_option maxRecDepth 100000 in
set_option maxHeartbeats 4000000 in
theorem ok_X3_add {r : Int × Mem} : ∀ (l1 : Int) (l2 : Int) (l3 : Int) (m : Mem), inR l1 → inR l2 → inR l3 → f_X3_add l1 l2 l3 m = some r → VV RX3 cX3_add 4 rm_X3_add mmG0 (mmPi r) 0 [(0, .ref 0), (1, vi l1), (2, vi l2), (3, vi l3)] [] m := by
  intro l1 l2 l3 m hr1 hr2 hr3 E
  unfold f_X3_add at E
  refine V_aload_n 0 dX3_add_0 rfl ?_
  refine V_geta (ci := 3) (k := 1) (N := 6) (T := TX3) (o' := 7) dX3_add_1 iuX3 fl_X3_16 rfl (by decide) rfl sh_0 rfl ?_
  refine V_aload_n 0 dX3_add_4 rfl ?_
  refine V_geta (ci := 3) (k := 0) (N := 6) (T := TX3) (o' := 1) dX3_add_5 iuX3 fl_X3_12 rfl (by decide) rfl sh_0 rfl ?_
  obtain ⟨q1, hq1, E⟩ := mmB_e E
  refine V_callVv (ci := 2) (q := (RX2, TX2, 10)) (Cn := RX2) (st := []) 1 dX3_add_8 (ct_X2_copyFrom sh_7 sh_1 hq1) ml_X3_40 im_X2_copyFrom sl_X2_copyFrom it_X2 cd_X2_copyFrom hy_X2_copyFrom ⟨rfl, rfl, by decide, by decide⟩ sh_7 rfl rfl rfl rfl (Nat.le_of_ble_eq_true rfl) ?_
  refine V_aload_n 0 dX3_add_11 rfl ?_
  refine V_aload_n 0 dX3_add_12 rfl ?_
  refine V_geta (ci := 3) (k := 1) (N := 6) (T := TX3) (o' := 7) dX3_add_13 iuX3 fl_X3_16 rfl (by decide) rfl sh_0 rfl ?_
  refine V_iload_n 1 dX3_add_16 rfl ?_
  refine V_iload_n 2 dX3_add_17 rfl ?_
  refine V_iload_n 3 dX3_add_18 rfl ?_
  obtain ⟨q3, hq3, E⟩ := mmB_e E
  refine V_callV (ci := 2) (q := (RX2, TX2, 10)) (Cn := RX2) (st := [.ref 0]) 3 dX3_add_19 (ct_X2_addMember sh_7 hr1 hr2 hr3 hq3) ml_X3_44 im_X2_addMember sl_X2_addMember it_X2 cd_X2_addMember hy_X2_addMember ⟨rfl, rfl, by decide, by decide⟩ sh_7 rfl rfl rfl rfl (Nat.le_of_ble_eq_true rfl) (fun hv4 => ?_)
  obtain ⟨q5, hq5, E⟩ := mmB_e E
  refine V_callV (ci := 3) (q := (RX3, TX3, 6)) (Cn := RX3) (st := []) 1 dX3_add_22 (ct_X3_settle hv4 hq5) ml_X3_48 im_X3_settle sl_X3_settle it_X3 cd_X3_settle hy_X3_settle ⟨rfl, rfl, by decide, by decide⟩ sh_0 rfl rfl rfl rfl (Nat.le_of_ble_eq_true rfl) (fun hv6 => ?_)
  obtain rfl := Option.some.inj E
  exact V_reti dX3_add_25 ⟨rfl, rfl, hv6⟩
theorem ct_X3_add {l1 : Int} {l2 : Int} {l3 : Int} {m : Mem} {r : Int × Mem} (hr1 : inR l1) (hr2 : inR l2) (hr3 : inR l3) (E : f_X3_add l1 l2 l3 m = some r) : CTi yX3_add cX3_add 4 (some .int) rm_X3_add [.ref 0, vi l1, vi l2, vi l3] m r := CT_i (by decide +kernel) rfl (Nat.le_of_ble_eq_true rfl) (ok_X3_add _ _ _ _ hr1 hr2 hr3 E)
theorem hy_X3_add : yX3_add.cls = RX3 ∧ yX3_add.cls ≠ "java/lang/invoke/MethodHandle" ∧ yX3_add.cls ≠ "java/lang/invoke/VarHandle" ∧ (parseMethodDescriptor yX3_add.desc).map (fun d => d.parameters.length) = some 3 := by decide +kernel
abbrev rm_X3_replace : Room := { frames := 4, cells := 0, slots := 0, locals := 90 }
noncomputable def f_X3_replace (l1 : Int) (l2 : Int) (l3 : Int) (m : Mem) : Option (Int × Mem) :=
  (f_X2_copyFrom 7 1 m).bind (fun q1 => (f_X2_replaceText 7 l1 l2 l3 q1).bind (fun q3 => (f_X3_settle q3.1 q3.2).bind (fun q5 => some (q5.1, q5.2))))
set_option maxRecDepth 100000 in
set_option maxHeartbeats 4000000 in
theorem ok_X3_replace {r : Int × Mem} : ∀ (l1 : Int) (l2 : Int) (l3 : Int) (m : Mem), inR l1 → inR l2 → inR l3 → f_X3_replace l1 l2 l3 m = some r → VV RX3 cX3_replace 4 rm_X3_replace mmG0 (mmPi r) 0 [(0, .ref 0), (1, vi l1), (2, vi l2), (3, vi l3)] [] m := by
  intro l1 l2 l3 m hr1 hr2 hr3 E
  unfold f_X3_replace at E
  refine V_aload_n 0 dX3_replace_0 rfl ?_
  refine V_geta (ci := 3) (k := 1) (N := 6) (T := TX3) (o' := 7) dX3_replace_1 iuX3 fl_X3_16 rfl (by decide) rfl sh_0 rfl ?_
  refine V_aload_n 0 dX3_replace_4 rfl ?_
  refine V_geta (ci := 3) (k := 0) (N := 6) (T := TX3) (o' := 1) dX3_replace_5 iuX3 fl_X3_12 rfl (by decide) rfl sh_0 rfl ?_
  obtain ⟨q1, hq1, E⟩ := mmB_e E
  refine V_callVv (ci := 2) (q := (RX2, TX2, 10)) (Cn := RX2) (st := []) 1 dX3_replace_8 (ct_X2_copyFrom sh_7 sh_1 hq1) ml_X3_40 im_X2_copyFrom sl_X2_copyFrom it_X2 cd_X2_copyFrom hy_X2_copyFrom ⟨rfl, rfl, by decide, by decide⟩ sh_7 rfl rfl rfl rfl (Nat.le_of_ble_eq_true rfl) ?_
  refine V_aload_n 0 dX3_replace_11 rfl ?_
  refine V_aload_n 0 dX3_replace_12 rfl ?_
  refine V_geta (ci := 3) (k := 1) (N := 6) (T := TX3) (o' := 7) dX3_replace_13 iuX3 fl_X3_16 rfl (by decide) rfl sh_0 rfl ?_
  refine V_iload_n 1 dX3_replace_16 rfl ?_
  refine V_iload_n 2 dX3_replace_17 rfl ?_
  refine V_iload_n 3 dX3_replace_18 rfl ?_
  obtain ⟨q3, hq3, E⟩ := mmB_e E
  refine V_callV (ci := 2) (q := (RX2, TX2, 10)) (Cn := RX2) (st := [.ref 0]) 3 dX3_replace_19 (ct_X2_replaceText sh_7 hr1 hr2 hr3 hq3) ml_X3_52 im_X2_replaceText sl_X2_replaceText it_X2 cd_X2_replaceText hy_X2_replaceText ⟨rfl, rfl, by decide, by decide⟩ sh_7 rfl rfl rfl rfl (Nat.le_of_ble_eq_true rfl) (fun hv4 => ?_)
  obtain ⟨q5, hq5, E⟩ := mmB_e E
  refine V_callV (ci := 3) (q := (RX3, TX3, 6)) (Cn := RX3) (st := []) 1 dX3_replace_22 (ct_X3_settle hv4 hq5) ml_X3_48 im_X3_settle sl_X3_settle it_X3 cd_X3_settle hy_X3_settle ⟨rfl, rfl, by decide, by decide⟩ sh_0 rfl rfl rfl rfl (Nat.le_of_ble_eq_true rfl) (fun hv6 => ?_)
  obtain rfl := Option.some.inj E
  exact V_reti dX3_replace_25 ⟨rfl, rfl, hv6⟩
theorem ct_X3_replace {l1 : Int} {l2 : Int} {l3 : Int} {m : Mem} {r : Int × Mem} (hr1 : inR l1) (hr2 : inR l2) (hr3 : inR l3) (E : f_X3_replace l1 l2 l3 m = some r) : CTi yX3_replace cX3_replace 4 (some .int) rm_X3_replace [.ref 0, vi l1, vi l2, vi l3] m r := CT_i (by decide +kernel) rfl (Nat.le_of_ble_eq_true rfl) (ok_X3_replace _ _ _ _ hr1 hr2 hr3 E)
theorem hy_X3_replace : yX3_replace.cls = RX3 ∧ yX3_replace.cls ≠ "java/lang/invoke/MethodHandle" ∧ yX3_replace.cls ≠ "java/lang/invoke/VarHandle" ∧ (parseMethodDescriptor yX3_replace.desc).map (fun d => d.parameters.length) = some 3 := by decide +kernel
abbrev rm_X3_remove : Room := { frames := 4, cells := 0, slots := 0, locals := 92 }
noncomputable def f_X3_remove (l1 : Int) (m : Mem) : Option (Int × Mem) :=
  (f_X2_copyFrom 7 1 m).bind (fun q1 => (f_X2_removeEntry 7 l1 q1).bind (fun q3 => (f_X3_settle q3.1 q3.2).bind (fun q5 => some (q5.1, q5.2))))
set_option maxRecDepth 100000 in
set_option maxHeartbeats 4000000 in
theorem ok_X3_remove {r : Int × Mem} : ∀ (l1 : Int) (m : Mem), inR l1 → f_X3_remove l1 m = some r → VV RX3 cX3_remove 2 rm_X3_remove mmG0 (mmPi r) 0 [(0, .ref 0), (1, vi l1)] [] m := by
  intro l1 m hr1 E
  unfold f_X3_remove at E
  refine V_aload_n 0 dX3_remove_0 rfl ?_
  refine V_geta (ci := 3) (k := 1) (N := 6) (T := TX3) (o' := 7) dX3_remove_1 iuX3 fl_X3_16 rfl (by decide) rfl sh_0 rfl ?_
  refine V_aload_n 0 dX3_remove_4 rfl ?_
  refine V_geta (ci := 3) (k := 0) (N := 6) (T := TX3) (o' := 1) dX3_remove_5 iuX3 fl_X3_12 rfl (by decide) rfl sh_0 rfl ?_
  obtain ⟨q1, hq1, E⟩ := mmB_e E
  refine V_callVv (ci := 2) (q := (RX2, TX2, 10)) (Cn := RX2) (st := []) 1 dX3_remove_8 (ct_X2_copyFrom sh_7 sh_1 hq1) ml_X3_40 im_X2_copyFrom sl_X2_copyFrom it_X2 cd_X2_copyFrom hy_X2_copyFrom ⟨rfl, rfl, by decide, by decide⟩ sh_7 rfl rfl rfl rfl (Nat.le_of_ble_eq_true rfl) ?_
  refine V_aload_n 0 dX3_remove_11 rfl ?_
  refine V_aload_n 0 dX3_remove_12 rfl ?_
  refine V_geta (ci := 3) (k := 1) (N := 6) (T := TX3) (o' := 7) dX3_remove_13 iuX3 fl_X3_16 rfl (by decide) rfl sh_0 rfl ?_
  refine V_iload_n 1 dX3_remove_16 rfl ?_
  obtain ⟨q3, hq3, E⟩ := mmB_e E
  refine V_callV (ci := 2) (q := (RX2, TX2, 10)) (Cn := RX2) (st := [.ref 0]) 1 dX3_remove_17 (ct_X2_removeEntry sh_7 hr1 hq3) ml_X3_55 im_X2_removeEntry sl_X2_removeEntry it_X2 cd_X2_removeEntry hy_X2_removeEntry ⟨rfl, rfl, by decide, by decide⟩ sh_7 rfl rfl rfl rfl (Nat.le_of_ble_eq_true rfl) (fun hv4 => ?_)
  obtain ⟨q5, hq5, E⟩ := mmB_e E
  refine V_callV (ci := 3) (q := (RX3, TX3, 6)) (Cn := RX3) (st := []) 1 dX3_remove_20 (ct_X3_settle hv4 hq5) ml_X3_48 im_X3_settle sl_X3_settle it_X3 cd_X3_settle hy_X3_settle ⟨rfl, rfl, by decide, by decide⟩ sh_0 rfl rfl rfl rfl (Nat.le_of_ble_eq_true rfl) (fun hv6 => ?_)
  obtain rfl := Option.some.inj E
  exact V_reti dX3_remove_23 ⟨rfl, rfl, hv6⟩
theorem ct_X3_remove {l1 : Int} {m : Mem} {r : Int × Mem} (hr1 : inR l1) (E : f_X3_remove l1 m = some r) : CTi yX3_remove cX3_remove 2 (some .int) rm_X3_remove [.ref 0, vi l1] m r := CT_i (by decide +kernel) rfl (Nat.le_of_ble_eq_true rfl) (ok_X3_remove _ _ hr1 E)
theorem hy_X3_remove : yX3_remove.cls = RX3 ∧ yX3_remove.cls ≠ "java/lang/invoke/MethodHandle" ∧ yX3_remove.cls ≠ "java/lang/invoke/VarHandle" ∧ (parseMethodDescriptor yX3_remove.desc).map (fun d => d.parameters.length) = some 1 := by decide +kernel
abbrev rm_X3_rename : Room := { frames := 4, cells := 0, slots := 0, locals := 103 }
noncomputable def f_X3_rename (l1 : Int) (l2 : Int) (m : Mem) : Option (Int × Mem) :=
  (f_X2_copyFrom 7 1 m).bind (fun q1 => (f_X2_renameEntry 7 l1 l2 q1).bind (fun q3 => (f_X3_settle q3.1 q3.2).bind (fun q5 => some (q5.1, q5.2))))
set_option maxRecDepth 100000 in
set_option maxHeartbeats 4000000 in
theorem ok_X3_rename {r : Int × Mem} : ∀ (l1 : Int) (l2 : Int) (m : Mem), inR l1 → inR l2 → f_X3_rename l1 l2 m = some r → VV RX3 cX3_rename 3 rm_X3_rename mmG0 (mmPi r) 0 [(0, .ref 0), (1, vi l1), (2, vi l2)] [] m := by
  intro l1 l2 m hr1 hr2 E
  unfold f_X3_rename at E
  refine V_aload_n 0 dX3_rename_0 rfl ?_
  refine V_geta (ci := 3) (k := 1) (N := 6) (T := TX3) (o' := 7) dX3_rename_1 iuX3 fl_X3_16 rfl (by decide) rfl sh_0 rfl ?_
  refine V_aload_n 0 dX3_rename_4 rfl ?_
  refine V_geta (ci := 3) (k := 0) (N := 6) (T := TX3) (o' := 1) dX3_rename_5 iuX3 fl_X3_12 rfl (by decide) rfl sh_0 rfl ?_
  obtain ⟨q1, hq1, E⟩ := mmB_e E
  refine V_callVv (ci := 2) (q := (RX2, TX2, 10)) (Cn := RX2) (st := []) 1 dX3_rename_8 (ct_X2_copyFrom sh_7 sh_1 hq1) ml_X3_40 im_X2_copyFrom sl_X2_copyFrom it_X2 cd_X2_copyFrom hy_X2_copyFrom ⟨rfl, rfl, by decide, by decide⟩ sh_7 rfl rfl rfl rfl (Nat.le_of_ble_eq_true rfl) ?_
  refine V_aload_n 0 dX3_rename_11 rfl ?_
  refine V_aload_n 0 dX3_rename_12 rfl ?_
  refine V_geta (ci := 3) (k := 1) (N := 6) (T := TX3) (o' := 7) dX3_rename_13 iuX3 fl_X3_16 rfl (by decide) rfl sh_0 rfl ?_
  refine V_iload_n 1 dX3_rename_16 rfl ?_
  refine V_iload_n 2 dX3_rename_17 rfl ?_
  obtain ⟨q3, hq3, E⟩ := mmB_e E
  refine V_callV (ci := 2) (q := (RX2, TX2, 10)) (Cn := RX2) (st := [.ref 0]) 2 dX3_rename_18 (ct_X2_renameEntry sh_7 hr1 hr2 hq3) ml_X3_58 im_X2_renameEntry sl_X2_renameEntry it_X2 cd_X2_renameEntry hy_X2_renameEntry ⟨rfl, rfl, by decide, by decide⟩ sh_7 rfl rfl rfl rfl (Nat.le_of_ble_eq_true rfl) (fun hv4 => ?_)
  obtain ⟨q5, hq5, E⟩ := mmB_e E
  refine V_callV (ci := 3) (q := (RX3, TX3, 6)) (Cn := RX3) (st := []) 1 dX3_rename_21 (ct_X3_settle hv4 hq5) ml_X3_48 im_X3_settle sl_X3_settle it_X3 cd_X3_settle hy_X3_settle ⟨rfl, rfl, by decide, by decide⟩ sh_0 rfl rfl rfl rfl (Nat.le_of_ble_eq_true rfl) (fun hv6 => ?_)
  obtain rfl := Option.some.inj E
  exact V_reti dX3_rename_24 ⟨rfl, rfl, hv6⟩
theorem ct_X3_rename {l1 : Int} {l2 : Int} {m : Mem} {r : Int × Mem} (hr1 : inR l1) (hr2 : inR l2) (E : f_X3_rename l1 l2 m = some r) : CTi yX3_rename cX3_rename 3 (some .int) rm_X3_rename [.ref 0, vi l1, vi l2] m r := CT_i (by decide +kernel) rfl (Nat.le_of_ble_eq_true rfl) (ok_X3_rename _ _ _ hr1 hr2 E)
theorem hy_X3_rename : yX3_rename.cls = RX3 ∧ yX3_rename.cls ≠ "java/lang/invoke/MethodHandle" ∧ yX3_rename.cls ≠ "java/lang/invoke/VarHandle" ∧ (parseMethodDescriptor yX3_rename.desc).map (fun d => d.parameters.length) = some 2 := by decide +kernel
abbrev rm_X3_alias : Room := { frames := 4, cells := 0, slots := 0, locals := 100 }
noncomputable def f_X3_alias (l1 : Int) (l2 : Int) (m : Mem) : Option (Int × Mem) :=
  (f_X2_copyFrom 7 1 m).bind (fun q1 => (f_X2_giveAlias 7 l1 l2 q1).bind (fun q3 => (f_X3_settle q3.1 q3.2).bind (fun q5 => some (q5.1, q5.2))))
set_option maxRecDepth 100000 in
set_option maxHeartbeats 4000000 in
theorem ok_X3_alias {r : Int × Mem} : ∀ (l1 : Int) (l2 : Int) (m : Mem), inR l1 → inR l2 → f_X3_alias l1 l2 m = some r → VV RX3 cX3_alias 3 rm_X3_alias mmG0 (mmPi r) 0 [(0, .ref 0), (1, vi l1), (2, vi l2)] [] m := by
  intro l1 l2 m hr1 hr2 E
  unfold f_X3_alias at E
  refine V_aload_n 0 dX3_alias_0 rfl ?_
  refine V_geta (ci := 3) (k := 1) (N := 6) (T := TX3) (o' := 7) dX3_alias_1 iuX3 fl_X3_16 rfl (by decide) rfl sh_0 rfl ?_
  refine V_aload_n 0 dX3_alias_4 rfl ?_
  refine V_geta (ci := 3) (k := 0) (N := 6) (T := TX3) (o' := 1) dX3_alias_5 iuX3 fl_X3_12 rfl (by decide) rfl sh_0 rfl ?_
  obtain ⟨q1, hq1, E⟩ := mmB_e E
  refine V_callVv (ci := 2) (q := (RX2, TX2, 10)) (Cn := RX2) (st := []) 1 dX3_alias_8 (ct_X2_copyFrom sh_7 sh_1 hq1) ml_X3_40 im_X2_copyFrom sl_X2_copyFrom it_X2 cd_X2_copyFrom hy_X2_copyFrom ⟨rfl, rfl, by decide, by decide⟩ sh_7 rfl rfl rfl rfl (Nat.le_of_ble_eq_true rfl) ?_
  refine V_aload_n 0 dX3_alias_11 rfl ?_
  refine V_aload_n 0 dX3_alias_12 rfl ?_
  refine V_geta (ci := 3) (k := 1) (N := 6) (T := TX3) (o' := 7) dX3_alias_13 iuX3 fl_X3_16 rfl (by decide) rfl sh_0 rfl ?_
  refine V_iload_n 1 dX3_alias_16 rfl ?_
  refine V_iload_n 2 dX3_alias_17 rfl ?_
  obtain ⟨q3, hq3, E⟩ := mmB_e E
  refine V_callV (ci := 2) (q := (RX2, TX2, 10)) (Cn := RX2) (st := [.ref 0]) 2 dX3_alias_18 (ct_X2_giveAlias sh_7 hr1 hr2 hq3) ml_X3_62 im_X2_giveAlias sl_X2_giveAlias it_X2 cd_X2_giveAlias hy_X2_giveAlias ⟨rfl, rfl, by decide, by decide⟩ sh_7 rfl rfl rfl rfl (Nat.le_of_ble_eq_true rfl) (fun hv4 => ?_)
  obtain ⟨q5, hq5, E⟩ := mmB_e E
  refine V_callV (ci := 3) (q := (RX3, TX3, 6)) (Cn := RX3) (st := []) 1 dX3_alias_21 (ct_X3_settle hv4 hq5) ml_X3_48 im_X3_settle sl_X3_settle it_X3 cd_X3_settle hy_X3_settle ⟨rfl, rfl, by decide, by decide⟩ sh_0 rfl rfl rfl rfl (Nat.le_of_ble_eq_true rfl) (fun hv6 => ?_)
  obtain rfl := Option.some.inj E
  exact V_reti dX3_alias_24 ⟨rfl, rfl, hv6⟩
theorem ct_X3_alias {l1 : Int} {l2 : Int} {m : Mem} {r : Int × Mem} (hr1 : inR l1) (hr2 : inR l2) (E : f_X3_alias l1 l2 m = some r) : CTi yX3_alias cX3_alias 3 (some .int) rm_X3_alias [.ref 0, vi l1, vi l2] m r := CT_i (by decide +kernel) rfl (Nat.le_of_ble_eq_true rfl) (ok_X3_alias _ _ _ hr1 hr2 E)
theorem hy_X3_alias : yX3_alias.cls = RX3 ∧ yX3_alias.cls ≠ "java/lang/invoke/MethodHandle" ∧ yX3_alias.cls ≠ "java/lang/invoke/VarHandle" ∧ (parseMethodDescriptor yX3_alias.desc).map (fun d => d.parameters.length) = some 2 := by decide +kernel
abbrev rm_X3_addAll : Room := { frames := 6, cells := 0, slots := 0, locals := 131 }
noncomputable def f_X3_addAll (m : Mem) : Option (Int × Mem) :=
  (f_X1_readAdditions m).bind (fun q1 => if q1.1 = (-1) then
((f_X2_copyFrom 7 1 q1.2).bind (fun q4 => (f_X1_makeAdditions 7 q4).bind (fun q6 => (f_X3_settle q6.1 q6.2).bind (fun q8 => some (q8.1, q8.2)))))
else
(mmK (inR ((-100) - q1.1)) (some (((-100) - q1.1), q1.2))))
set_option maxRecDepth 100000 in
set_option maxHeartbeats 4000000 in
theorem ok_X3_addAll {r : Int × Mem} : ∀ (m : Mem), f_X3_addAll m = some r → VV RX3 cX3_addAll 2 rm_X3_addAll mmG0 (mmPi r) 0 [(0, .ref 0)] [] m := by
  intro m E
  unfold f_X3_addAll at E
  refine V_aload_n 0 dX3_addAll_0 rfl ?_
  refine V_geta (ci := 3) (k := 5) (N := 6) (T := TX3) (o' := 45) dX3_addAll_1 iuX3 fl_X3_36 rfl (by decide) rfl sh_0 rfl ?_
  obtain ⟨q1, hq1, E⟩ := mmB_e E
  refine V_callV (ci := 1) (q := (RX1, TX1, 8)) (Cn := RX1) (st := []) 0 dX3_addAll_4 (ct_X1_readAdditions hq1) ml_X3_65 im_X1_readAdditions sl_X1_readAdditions it_X1 cd_X1_readAdditions hy_X1_readAdditions ⟨rfl, rfl, by decide, by decide⟩ sh_45 rfl rfl rfl rfl (Nat.le_of_ble_eq_true rfl) (fun hv2 => ?_)
  refine V_istore_n (i := 1) (lv' := [(0, .ref 0), (1, vi q1.1)]) dX3_addAll_7 rfl rfl rfl ?_
  refine V_iload_n 1 dX3_addAll_8 rfl ?_
  refine V_iconst dX3_addAll_9 rfl ?_
  refine V_icmp_eq 18 dX3_addAll_10 (by decide) hv2 ir_m1 (fun c3 => ?_) (fun c3 => ?_)
  · replace E := mmI_t c3 E
    refine V_aload_n 0 dX3_addAll_18 rfl ?_
    refine V_geta (ci := 3) (k := 1) (N := 6) (T := TX3) (o' := 7) dX3_addAll_19 iuX3 fl_X3_16 rfl (by decide) rfl sh_0 rfl ?_
    refine V_aload_n 0 dX3_addAll_22 rfl ?_
    refine V_geta (ci := 3) (k := 0) (N := 6) (T := TX3) (o' := 1) dX3_addAll_23 iuX3 fl_X3_12 rfl (by decide) rfl sh_0 rfl ?_
    obtain ⟨q4, hq4, E⟩ := mmB_e E
    refine V_callVv (ci := 2) (q := (RX2, TX2, 10)) (Cn := RX2) (st := []) 1 dX3_addAll_26 (ct_X2_copyFrom sh_7 sh_1 hq4) ml_X3_40 im_X2_copyFrom sl_X2_copyFrom it_X2 cd_X2_copyFrom hy_X2_copyFrom ⟨rfl, rfl, by decide, by decide⟩ sh_7 rfl rfl rfl rfl (Nat.le_of_ble_eq_true rfl) ?_
    refine V_aload_n 0 dX3_addAll_29 rfl ?_
    refine V_aload_n 0 dX3_addAll_30 rfl ?_
    refine V_geta (ci := 3) (k := 5) (N := 6) (T := TX3) (o' := 45) dX3_addAll_31 iuX3 fl_X3_36 rfl (by decide) rfl sh_0 rfl ?_
    refine V_aload_n 0 dX3_addAll_34 rfl ?_
    refine V_geta (ci := 3) (k := 1) (N := 6) (T := TX3) (o' := 7) dX3_addAll_35 iuX3 fl_X3_16 rfl (by decide) rfl sh_0 rfl ?_
    obtain ⟨q6, hq6, E⟩ := mmB_e E
    refine V_callV (ci := 1) (q := (RX1, TX1, 8)) (Cn := RX1) (st := [.ref 0]) 1 dX3_addAll_38 (ct_X1_makeAdditions sh_7 hq6) ml_X3_69 im_X1_makeAdditions sl_X1_makeAdditions it_X1 cd_X1_makeAdditions hy_X1_makeAdditions ⟨rfl, rfl, by decide, by decide⟩ sh_45 rfl rfl rfl rfl (Nat.le_of_ble_eq_true rfl) (fun hv7 => ?_)
    obtain ⟨q8, hq8, E⟩ := mmB_e E
    refine V_callV (ci := 3) (q := (RX3, TX3, 6)) (Cn := RX3) (st := []) 1 dX3_addAll_41 (ct_X3_settle hv7 hq8) ml_X3_48 im_X3_settle sl_X3_settle it_X3 cd_X3_settle hy_X3_settle ⟨rfl, rfl, by decide, by decide⟩ sh_0 rfl rfl rfl rfl (Nat.le_of_ble_eq_true rfl) (fun hv9 => ?_)
    obtain rfl := Option.some.inj E
    exact V_reti dX3_addAll_44 ⟨rfl, rfl, hv9⟩
  · replace E := mmI_f c3 E
    refine V_bipush (v := (-100)) dX3_addAll_13 (by decide) ?_
    refine V_iload_n 1 dX3_addAll_15 rfl ?_
    obtain ⟨hv10, E⟩ := mmK_e E
    refine V_isub dX3_addAll_16 ?_
    obtain rfl := Option.some.inj E
    exact V_reti dX3_addAll_17 ⟨rfl, rfl, hv10⟩
theorem ct_X3_addAll {m : Mem} {r : Int × Mem} (E : f_X3_addAll m = some r) : CTi yX3_addAll cX3_addAll 2 (some .int) rm_X3_addAll [.ref 0] m r := CT_i (by decide +kernel) rfl (Nat.le_of_ble_eq_true rfl) (ok_X3_addAll  _  E)
theorem hy_X3_addAll : yX3_addAll.cls = RX3 ∧ yX3_addAll.cls ≠ "java/lang/invoke/MethodHandle" ∧ yX3_addAll.cls ≠ "java/lang/invoke/VarHandle" ∧ (parseMethodDescriptor yX3_addAll.desc).map (fun d => d.parameters.length) = some 0 := by decide +kernel
abbrev rm_X3_squeeze : Room := { frames := 5, cells := 0, slots := 0, locals := 105 }
noncomputable def f_X3_squeeze (m : Mem) : Option (Int × Mem) :=
  (f_X2_copyFrom 7 1 m).bind (fun q1 => (f_X2_giveBackDeadRoom 7 q1).bind (fun q3 => (f_X3_settle q3.1 q3.2).bind (fun q5 => some (q5.1, q5.2))))
set_option maxRecDepth 100000 in
set_option maxHeartbeats 4000000 in
theorem ok_X3_squeeze {r : Int × Mem} : ∀ (m : Mem), f_X3_squeeze m = some r → VV RX3 cX3_squeeze 1 rm_X3_squeeze mmG0 (mmPi r) 0 [(0, .ref 0)] [] m := by
  intro m E
  unfold f_X3_squeeze at E
  refine V_aload_n 0 dX3_squeeze_0 rfl ?_
  refine V_geta (ci := 3) (k := 1) (N := 6) (T := TX3) (o' := 7) dX3_squeeze_1 iuX3 fl_X3_16 rfl (by decide) rfl sh_0 rfl ?_
  refine V_aload_n 0 dX3_squeeze_4 rfl ?_
  refine V_geta (ci := 3) (k := 0) (N := 6) (T := TX3) (o' := 1) dX3_squeeze_5 iuX3 fl_X3_12 rfl (by decide) rfl sh_0 rfl ?_
  obtain ⟨q1, hq1, E⟩ := mmB_e E
  refine V_callVv (ci := 2) (q := (RX2, TX2, 10)) (Cn := RX2) (st := []) 1 dX3_squeeze_8 (ct_X2_copyFrom sh_7 sh_1 hq1) ml_X3_40 im_X2_copyFrom sl_X2_copyFrom it_X2 cd_X2_copyFrom hy_X2_copyFrom ⟨rfl, rfl, by decide, by decide⟩ sh_7 rfl rfl rfl rfl (Nat.le_of_ble_eq_true rfl) ?_
  refine V_aload_n 0 dX3_squeeze_11 rfl ?_
  refine V_aload_n 0 dX3_squeeze_12 rfl ?_
  refine V_geta (ci := 3) (k := 1) (N := 6) (T := TX3) (o' := 7) dX3_squeeze_13 iuX3 fl_X3_16 rfl (by decide) rfl sh_0 rfl ?_
  obtain ⟨q3, hq3, E⟩ := mmB_e E
  refine V_callV (ci := 2) (q := (RX2, TX2, 10)) (Cn := RX2) (st := [.ref 0]) 0 dX3_squeeze_16 (ct_X2_giveBackDeadRoom sh_7 hq3) ml_X3_73 im_X2_giveBackDeadRoom sl_X2_giveBackDeadRoom it_X2 cd_X2_giveBackDeadRoom hy_X2_giveBackDeadRoom ⟨rfl, rfl, by decide, by decide⟩ sh_7 rfl rfl rfl rfl (Nat.le_of_ble_eq_true rfl) (fun hv4 => ?_)
  obtain ⟨q5, hq5, E⟩ := mmB_e E
  refine V_callV (ci := 3) (q := (RX3, TX3, 6)) (Cn := RX3) (st := []) 1 dX3_squeeze_19 (ct_X3_settle hv4 hq5) ml_X3_48 im_X3_settle sl_X3_settle it_X3 cd_X3_settle hy_X3_settle ⟨rfl, rfl, by decide, by decide⟩ sh_0 rfl rfl rfl rfl (Nat.le_of_ble_eq_true rfl) (fun hv6 => ?_)
  obtain rfl := Option.some.inj E
  exact V_reti dX3_squeeze_22 ⟨rfl, rfl, hv6⟩
theorem ct_X3_squeeze {m : Mem} {r : Int × Mem} (E : f_X3_squeeze m = some r) : CTi yX3_squeeze cX3_squeeze 1 (some .int) rm_X3_squeeze [.ref 0] m r := CT_i (by decide +kernel) rfl (Nat.le_of_ble_eq_true rfl) (ok_X3_squeeze  _  E)
theorem hy_X3_squeeze : yX3_squeeze.cls = RX3 ∧ yX3_squeeze.cls ≠ "java/lang/invoke/MethodHandle" ∧ yX3_squeeze.cls ≠ "java/lang/invoke/VarHandle" ∧ (parseMethodDescriptor yX3_squeeze.desc).map (fun d => d.parameters.length) = some 0 := by decide +kernel
abbrev rm_X3_makeAnew : Room := { frames := 4, cells := 0, slots := 0, locals := 90 }
noncomputable def f_X3_makeAnew (l1 : Int) (m : Mem) : Option (Int × Mem) :=
  (f_X2_copyFrom 7 1 m).bind (fun q1 => (f_X2_changeBlocks 7 l1 q1).bind (fun q3 => (f_X3_settle q3.1 q3.2).bind (fun q5 => some (q5.1, q5.2))))
set_option maxRecDepth 100000 in
set_option maxHeartbeats 4000000 in
theorem ok_X3_makeAnew {r : Int × Mem} : ∀ (l1 : Int) (m : Mem), inR l1 → f_X3_makeAnew l1 m = some r → VV RX3 cX3_makeAnew 2 rm_X3_makeAnew mmG0 (mmPi r) 0 [(0, .ref 0), (1, vi l1)] [] m := by
  intro l1 m hr1 E
  unfold f_X3_makeAnew at E
  refine V_aload_n 0 dX3_makeAnew_0 rfl ?_
  refine V_geta (ci := 3) (k := 1) (N := 6) (T := TX3) (o' := 7) dX3_makeAnew_1 iuX3 fl_X3_16 rfl (by decide) rfl sh_0 rfl ?_
  refine V_aload_n 0 dX3_makeAnew_4 rfl ?_
  refine V_geta (ci := 3) (k := 0) (N := 6) (T := TX3) (o' := 1) dX3_makeAnew_5 iuX3 fl_X3_12 rfl (by decide) rfl sh_0 rfl ?_
  obtain ⟨q1, hq1, E⟩ := mmB_e E
  refine V_callVv (ci := 2) (q := (RX2, TX2, 10)) (Cn := RX2) (st := []) 1 dX3_makeAnew_8 (ct_X2_copyFrom sh_7 sh_1 hq1) ml_X3_40 im_X2_copyFrom sl_X2_copyFrom it_X2 cd_X2_copyFrom hy_X2_copyFrom ⟨rfl, rfl, by decide, by decide⟩ sh_7 rfl rfl rfl rfl (Nat.le_of_ble_eq_true rfl) ?_
  refine V_aload_n 0 dX3_makeAnew_11 rfl ?_
  refine V_aload_n 0 dX3_makeAnew_12 rfl ?_
  refine V_geta (ci := 3) (k := 1) (N := 6) (T := TX3) (o' := 7) dX3_makeAnew_13 iuX3 fl_X3_16 rfl (by decide) rfl sh_0 rfl ?_
  refine V_iload_n 1 dX3_makeAnew_16 rfl ?_
  obtain ⟨q3, hq3, E⟩ := mmB_e E
  refine V_callV (ci := 2) (q := (RX2, TX2, 10)) (Cn := RX2) (st := [.ref 0]) 1 dX3_makeAnew_17 (ct_X2_changeBlocks sh_7 hr1 hq3) ml_X3_76 im_X2_changeBlocks sl_X2_changeBlocks it_X2 cd_X2_changeBlocks hy_X2_changeBlocks ⟨rfl, rfl, by decide, by decide⟩ sh_7 rfl rfl rfl rfl (Nat.le_of_ble_eq_true rfl) (fun hv4 => ?_)
  obtain ⟨q5, hq5, E⟩ := mmB_e E
  refine V_callV (ci := 3) (q := (RX3, TX3, 6)) (Cn := RX3) (st := []) 1 dX3_makeAnew_20 (ct_X3_settle hv4 hq5) ml_X3_48 im_X3_settle sl_X3_settle it_X3 cd_X3_settle hy_X3_settle ⟨rfl, rfl, by decide, by decide⟩ sh_0 rfl rfl rfl rfl (Nat.le_of_ble_eq_true rfl) (fun hv6 => ?_)
  obtain rfl := Option.some.inj E
  exact V_reti dX3_makeAnew_23 ⟨rfl, rfl, hv6⟩
theorem ct_X3_makeAnew {l1 : Int} {m : Mem} {r : Int × Mem} (hr1 : inR l1) (E : f_X3_makeAnew l1 m = some r) : CTi yX3_makeAnew cX3_makeAnew 2 (some .int) rm_X3_makeAnew [.ref 0, vi l1] m r := CT_i (by decide +kernel) rfl (Nat.le_of_ble_eq_true rfl) (ok_X3_makeAnew _ _ hr1 E)
theorem hy_X3_makeAnew : yX3_makeAnew.cls = RX3 ∧ yX3_makeAnew.cls ≠ "java/lang/invoke/MethodHandle" ∧ yX3_makeAnew.cls ≠ "java/lang/invoke/VarHandle" ∧ (parseMethodDescriptor yX3_makeAnew.desc).map (fun d => d.parameters.length) = some 1 := by decide +kernel
abbrev rm_X3_type : Room := { frames := 1, cells := 0, slots := 0, locals := 21 }
noncomputable def f_X3_type (l1 : Int) (m : Mem) : Option (Int × Mem) :=
  (f_X1_append l1 m).bind (fun q1 => some (q1.1, q1.2))
set_option maxRecDepth 100000 in
set_option maxHeartbeats 4000000 in
theorem ok_X3_type {r : Int × Mem} : ∀ (l1 : Int) (m : Mem), inR l1 → f_X3_type l1 m = some r → VV RX3 cX3_type 2 rm_X3_type mmG0 (mmPi r) 0 [(0, .ref 0), (1, vi l1)] [] m := by
  intro l1 m hr1 E
  unfold f_X3_type at E
  refine V_aload_n 0 dX3_type_0 rfl ?_
  refine V_geta (ci := 3) (k := 5) (N := 6) (T := TX3) (o' := 45) dX3_type_1 iuX3 fl_X3_36 rfl (by decide) rfl sh_0 rfl ?_
  refine V_iload_n 1 dX3_type_4 rfl ?_
  obtain ⟨q1, hq1, E⟩ := mmB_e E
  refine V_callV (ci := 1) (q := (RX1, TX1, 8)) (Cn := RX1) (st := []) 1 dX3_type_5 (ct_X1_append hr1 hq1) ml_X3_79 im_X1_append sl_X1_append it_X1 cd_X1_append hy_X1_append ⟨rfl, rfl, by decide, by decide⟩ sh_45 rfl rfl rfl rfl (Nat.le_of_ble_eq_true rfl) (fun hv2 => ?_)
  obtain rfl := Option.some.inj E
  exact V_reti dX3_type_8 ⟨rfl, rfl, hv2⟩
theorem ct_X3_type {l1 : Int} {m : Mem} {r : Int × Mem} (hr1 : inR l1) (E : f_X3_type l1 m = some r) : CTi yX3_type cX3_type 2 (some .int) rm_X3_type [.ref 0, vi l1] m r := CT_i (by decide +kernel) rfl (Nat.le_of_ble_eq_true rfl) (ok_X3_type _ _ hr1 E)
theorem hy_X3_type : yX3_type.cls = RX3 ∧ yX3_type.cls ≠ "java/lang/invoke/MethodHandle" ∧ yX3_type.cls ≠ "java/lang/invoke/VarHandle" ∧ (parseMethodDescriptor yX3_type.desc).map (fun d => d.parameters.length) = some 1 := by decide +kernel
end
section
abbrev rm_X3_clearPad : Room := { frames := 1, cells := 0, slots := 0, locals := 21 }
noncomputable def f_X3_clearPad (m : Mem) : Option (Int × Mem) :=
  (f_X1_empty m).bind (fun q1 => some (q1.1, q1.2))
set_option maxRecDepth 100000 in
set_option maxHeartbeats 4000000 in
theorem ok_X3_clearPad {r : Int × Mem} : ∀ (m : Mem), f_X3_clearPad m = some r → VV RX3 cX3_clearPad 1 rm_X3_clearPad mmG0 (mmPi r) 0 [(0, .ref 0)] [] m := by
  intro m E
  unfold f_X3_clearPad at E
  refine V_aload_n 0 dX3_clearPad_0 rfl ?_
  refine V_geta (ci := 3) (k := 5) (N := 6) (T := TX3) (o' := 45) dX3_clearPad_1 iuX3 fl_X3_36 rfl (by decide) rfl sh_0 rfl ?_
  obtain ⟨q1, hq1, E⟩ := mmB_e E
  refine V_callV (ci := 1) (q := (RX1, TX1, 8)) (Cn := RX1) (st := []) 0 dX3_clearPad_4 (ct_X1_empty hq1) ml_X3_83 im_X1_empty sl_X1_empty it_X1 cd_X1_empty hy_X1_empty ⟨rfl, rfl, by decide, by decide⟩ sh_45 rfl rfl rfl rfl (Nat.le_of_ble_eq_true rfl) (fun hv2 => ?_)
  obtain rfl := Option.some.inj E
  exact V_reti dX3_clearPad_7 ⟨rfl, rfl, hv2⟩
theorem ct_X3_clearPad {m : Mem} {r : Int × Mem} (E : f_X3_clearPad m = some r) : CTi yX3_clearPad cX3_clearPad 1 (some .int) rm_X3_clearPad [.ref 0] m r := CT_i (by decide +kernel) rfl (Nat.le_of_ble_eq_true rfl) (ok_X3_clearPad  _  E)
theorem hy_X3_clearPad : yX3_clearPad.cls = RX3 ∧ yX3_clearPad.cls ≠ "java/lang/invoke/MethodHandle" ∧ yX3_clearPad.cls ≠ "java/lang/invoke/VarHandle" ∧ (parseMethodDescriptor yX3_clearPad.desc).map (fun d => d.parameters.length) = some 0 := by decide +kernel
abbrev rm_X3_undo : Room := { frames := 3, cells := 0, slots := 0, locals := 69 }
noncomputable def f_X3_undo (m : Mem) : Option (Int × Mem) :=
  (f_X0_giveLatestTo 1 m).bind (fun q1 => if q1.1 = 0 then
(some ((-5), q1.2))
else
((f_X0_size q1.2).bind (fun q4 => some (q4.1, q4.2))))
set_option maxRecDepth 100000 in
set_option maxHeartbeats 4000000 in
theorem ok_X3_undo {r : Int × Mem} : ∀ (m : Mem), f_X3_undo m = some r → VV RX3 cX3_undo 1 rm_X3_undo mmG0 (mmPi r) 0 [(0, .ref 0)] [] m := by
  intro m E
  unfold f_X3_undo at E
  refine V_aload_n 0 dX3_undo_0 rfl ?_
  refine V_geta (ci := 3) (k := 4) (N := 6) (T := TX3) (o' := 19) dX3_undo_1 iuX3 fl_X3_29 rfl (by decide) rfl sh_0 rfl ?_
  refine V_aload_n 0 dX3_undo_4 rfl ?_
  refine V_geta (ci := 3) (k := 0) (N := 6) (T := TX3) (o' := 1) dX3_undo_5 iuX3 fl_X3_12 rfl (by decide) rfl sh_0 rfl ?_
  obtain ⟨q1, hq1, E⟩ := mmB_e E
  refine V_callV (ci := 0) (q := (RX0, TX0, 2)) (Cn := RX0) (st := []) 1 dX3_undo_8 (ct_X0_giveLatestTo sh_1 hq1) ml_X3_86 im_X0_giveLatestTo sl_X0_giveLatestTo it_X0 cd_X0_giveLatestTo hy_X0_giveLatestTo ⟨rfl, rfl, by decide, by decide⟩ sh_19 rfl rfl rfl rfl (Nat.le_of_ble_eq_true rfl) (fun hv2 => ?_)
  refine V_if_ne 17 dX3_undo_11 (by decide) hv2 (fun c3 => ?_) (fun c3 => ?_)
  · replace E := mmI_f c3 E
    refine V_aload_n 0 dX3_undo_17 rfl ?_
    refine V_geta (ci := 3) (k := 4) (N := 6) (T := TX3) (o' := 19) dX3_undo_18 iuX3 fl_X3_29 rfl (by decide) rfl sh_0 rfl ?_
    obtain ⟨q4, hq4, E⟩ := mmB_e E
    refine V_callV (ci := 0) (q := (RX0, TX0, 2)) (Cn := RX0) (st := []) 0 dX3_undo_21 (ct_X0_size hq4) ml_X3_90 im_X0_size sl_X0_size it_X0 cd_X0_size hy_X0_size ⟨rfl, rfl, by decide, by decide⟩ sh_19 rfl rfl rfl rfl (Nat.le_of_ble_eq_true rfl) (fun hv5 => ?_)
    obtain rfl := Option.some.inj E
    exact V_reti dX3_undo_24 ⟨rfl, rfl, hv5⟩
  · replace E := mmI_t c3 E
    refine V_bipush (v := (-5)) dX3_undo_14 (by decide) ?_
    obtain rfl := Option.some.inj E
    exact V_reti dX3_undo_16 ⟨rfl, rfl, ir_m5⟩
theorem ct_X3_undo {m : Mem} {r : Int × Mem} (E : f_X3_undo m = some r) : CTi yX3_undo cX3_undo 1 (some .int) rm_X3_undo [.ref 0] m r := CT_i (by decide +kernel) rfl (Nat.le_of_ble_eq_true rfl) (ok_X3_undo  _  E)
theorem hy_X3_undo : yX3_undo.cls = RX3 ∧ yX3_undo.cls ≠ "java/lang/invoke/MethodHandle" ∧ yX3_undo.cls ≠ "java/lang/invoke/VarHandle" ∧ (parseMethodDescriptor yX3_undo.desc).map (fun d => d.parameters.length) = some 0 := by decide +kernel
abbrev rm_X3_entry : Room := { frames := 4, cells := 0, slots := 0, locals := 88 }
noncomputable def f_X3_entry (l1 : Int) (l2 : Int) (m : Mem) : Option (Int × Mem) :=
  (f_X2_tellEntry 1 l1 l2 m).bind (fun q1 => some (q1.1, q1.2))
set_option maxRecDepth 100000 in
set_option maxHeartbeats 4000000 in
theorem ok_X3_entry {r : Int × Mem} : ∀ (l1 : Int) (l2 : Int) (m : Mem), inR l1 → inR l2 → f_X3_entry l1 l2 m = some r → VV RX3 cX3_entry 3 rm_X3_entry mmG0 (mmPi r) 0 [(0, .ref 0), (1, vi l1), (2, vi l2)] [] m := by
  intro l1 l2 m hr1 hr2 E
  unfold f_X3_entry at E
  refine V_aload_n 0 dX3_entry_0 rfl ?_
  refine V_geta (ci := 3) (k := 0) (N := 6) (T := TX3) (o' := 1) dX3_entry_1 iuX3 fl_X3_12 rfl (by decide) rfl sh_0 rfl ?_
  refine V_iload_n 1 dX3_entry_4 rfl ?_
  refine V_iload_n 2 dX3_entry_5 rfl ?_
  obtain ⟨q1, hq1, E⟩ := mmB_e E
  refine V_callV (ci := 2) (q := (RX2, TX2, 10)) (Cn := RX2) (st := []) 2 dX3_entry_6 (ct_X2_tellEntry sh_1 hr1 hr2 hq1) ml_X3_94 im_X2_tellEntry sl_X2_tellEntry it_X2 cd_X2_tellEntry hy_X2_tellEntry ⟨rfl, rfl, by decide, by decide⟩ sh_1 rfl rfl rfl rfl (Nat.le_of_ble_eq_true rfl) (fun hv2 => ?_)
  obtain rfl := Option.some.inj E
  exact V_reti dX3_entry_9 ⟨rfl, rfl, hv2⟩
theorem ct_X3_entry {l1 : Int} {l2 : Int} {m : Mem} {r : Int × Mem} (hr1 : inR l1) (hr2 : inR l2) (E : f_X3_entry l1 l2 m = some r) : CTi yX3_entry cX3_entry 3 (some .int) rm_X3_entry [.ref 0, vi l1, vi l2] m r := CT_i (by decide +kernel) rfl (Nat.le_of_ble_eq_true rfl) (ok_X3_entry _ _ _ hr1 hr2 E)
theorem hy_X3_entry : yX3_entry.cls = RX3 ∧ yX3_entry.cls ≠ "java/lang/invoke/MethodHandle" ∧ yX3_entry.cls ≠ "java/lang/invoke/VarHandle" ∧ (parseMethodDescriptor yX3_entry.desc).map (fun d => d.parameters.length) = some 2 := by decide +kernel
abbrev rm_X3_named : Room := { frames := 2, cells := 0, slots := 0, locals := 42 }
noncomputable def f_X3_named (l1 : Int) (m : Mem) : Option (Int × Mem) :=
  (f_X2_tellName 1 l1 m).bind (fun q1 => some (q1.1, q1.2))
set_option maxRecDepth 100000 in
set_option maxHeartbeats 4000000 in
theorem ok_X3_named {r : Int × Mem} : ∀ (l1 : Int) (m : Mem), inR l1 → f_X3_named l1 m = some r → VV RX3 cX3_named 2 rm_X3_named mmG0 (mmPi r) 0 [(0, .ref 0), (1, vi l1)] [] m := by
  intro l1 m hr1 E
  unfold f_X3_named at E
  refine V_aload_n 0 dX3_named_0 rfl ?_
  refine V_geta (ci := 3) (k := 0) (N := 6) (T := TX3) (o' := 1) dX3_named_1 iuX3 fl_X3_12 rfl (by decide) rfl sh_0 rfl ?_
  refine V_iload_n 1 dX3_named_4 rfl ?_
  obtain ⟨q1, hq1, E⟩ := mmB_e E
  refine V_callV (ci := 2) (q := (RX2, TX2, 10)) (Cn := RX2) (st := []) 1 dX3_named_5 (ct_X2_tellName sh_1 hr1 hq1) ml_X3_97 im_X2_tellName sl_X2_tellName it_X2 cd_X2_tellName hy_X2_tellName ⟨rfl, rfl, by decide, by decide⟩ sh_1 rfl rfl rfl rfl (Nat.le_of_ble_eq_true rfl) (fun hv2 => ?_)
  obtain rfl := Option.some.inj E
  exact V_reti dX3_named_8 ⟨rfl, rfl, hv2⟩
theorem ct_X3_named {l1 : Int} {m : Mem} {r : Int × Mem} (hr1 : inR l1) (E : f_X3_named l1 m = some r) : CTi yX3_named cX3_named 2 (some .int) rm_X3_named [.ref 0, vi l1] m r := CT_i (by decide +kernel) rfl (Nat.le_of_ble_eq_true rfl) (ok_X3_named _ _ hr1 E)
theorem hy_X3_named : yX3_named.cls = RX3 ∧ yX3_named.cls ≠ "java/lang/invoke/MethodHandle" ∧ yX3_named.cls ≠ "java/lang/invoke/VarHandle" ∧ (parseMethodDescriptor yX3_named.desc).map (fun d => d.parameters.length) = some 1 := by decide +kernel
abbrev rm_X3_at : Room := { frames := 1, cells := 0, slots := 0, locals := 22 }
noncomputable def f_X3_at (l1 : Int) (m : Mem) : Option (Int × Mem) :=
  (f_X2_tellUnit 1 l1 m).bind (fun q1 => some (q1.1, q1.2))
set_option maxRecDepth 100000 in
set_option maxHeartbeats 4000000 in
theorem ok_X3_at {r : Int × Mem} : ∀ (l1 : Int) (m : Mem), inR l1 → f_X3_at l1 m = some r → VV RX3 cX3_at 2 rm_X3_at mmG0 (mmPi r) 0 [(0, .ref 0), (1, vi l1)] [] m := by
  intro l1 m hr1 E
  unfold f_X3_at at E
  refine V_aload_n 0 dX3_at_0 rfl ?_
  refine V_geta (ci := 3) (k := 0) (N := 6) (T := TX3) (o' := 1) dX3_at_1 iuX3 fl_X3_12 rfl (by decide) rfl sh_0 rfl ?_
  refine V_iload_n 1 dX3_at_4 rfl ?_
  obtain ⟨q1, hq1, E⟩ := mmB_e E
  refine V_callV (ci := 2) (q := (RX2, TX2, 10)) (Cn := RX2) (st := []) 1 dX3_at_5 (ct_X2_tellUnit sh_1 hr1 hq1) ml_X3_103 im_X2_tellUnit sl_X2_tellUnit it_X2 cd_X2_tellUnit hy_X2_tellUnit ⟨rfl, rfl, by decide, by decide⟩ sh_1 rfl rfl rfl rfl (Nat.le_of_ble_eq_true rfl) (fun hv2 => ?_)
  obtain rfl := Option.some.inj E
  exact V_reti dX3_at_8 ⟨rfl, rfl, hv2⟩
theorem ct_X3_at {l1 : Int} {m : Mem} {r : Int × Mem} (hr1 : inR l1) (E : f_X3_at l1 m = some r) : CTi yX3_at cX3_at 2 (some .int) rm_X3_at [.ref 0, vi l1] m r := CT_i (by decide +kernel) rfl (Nat.le_of_ble_eq_true rfl) (ok_X3_at _ _ hr1 E)
theorem hy_X3_at : yX3_at.cls = RX3 ∧ yX3_at.cls ≠ "java/lang/invoke/MethodHandle" ∧ yX3_at.cls ≠ "java/lang/invoke/VarHandle" ∧ (parseMethodDescriptor yX3_at.desc).map (fun d => d.parameters.length) = some 1 := by decide +kernel
abbrev rm_X3_fits : Room := { frames := 4, cells := 0, slots := 0, locals := 86 }
noncomputable def f_X3_fits (l1 : Int) (m : Mem) : Option (Int × Mem) :=
  (f_X2_tellFit 1 l1 m).bind (fun q1 => some (q1.1, q1.2))
set_option maxRecDepth 100000 in
set_option maxHeartbeats 4000000 in
theorem ok_X3_fits {r : Int × Mem} : ∀ (l1 : Int) (m : Mem), inR l1 → f_X3_fits l1 m = some r → VV RX3 cX3_fits 2 rm_X3_fits mmG0 (mmPi r) 0 [(0, .ref 0), (1, vi l1)] [] m := by
  intro l1 m hr1 E
  unfold f_X3_fits at E
  refine V_aload_n 0 dX3_fits_0 rfl ?_
  refine V_geta (ci := 3) (k := 0) (N := 6) (T := TX3) (o' := 1) dX3_fits_1 iuX3 fl_X3_12 rfl (by decide) rfl sh_0 rfl ?_
  refine V_iload_n 1 dX3_fits_4 rfl ?_
  obtain ⟨q1, hq1, E⟩ := mmB_e E
  refine V_callV (ci := 2) (q := (RX2, TX2, 10)) (Cn := RX2) (st := []) 1 dX3_fits_5 (ct_X2_tellFit sh_1 hr1 hq1) ml_X3_106 im_X2_tellFit sl_X2_tellFit it_X2 cd_X2_tellFit hy_X2_tellFit ⟨rfl, rfl, by decide, by decide⟩ sh_1 rfl rfl rfl rfl (Nat.le_of_ble_eq_true rfl) (fun hv2 => ?_)
  obtain rfl := Option.some.inj E
  exact V_reti dX3_fits_8 ⟨rfl, rfl, hv2⟩
theorem ct_X3_fits {l1 : Int} {m : Mem} {r : Int × Mem} (hr1 : inR l1) (E : f_X3_fits l1 m = some r) : CTi yX3_fits cX3_fits 2 (some .int) rm_X3_fits [.ref 0, vi l1] m r := CT_i (by decide +kernel) rfl (Nat.le_of_ble_eq_true rfl) (ok_X3_fits _ _ hr1 E)
theorem hy_X3_fits : yX3_fits.cls = RX3 ∧ yX3_fits.cls ≠ "java/lang/invoke/MethodHandle" ∧ yX3_fits.cls ≠ "java/lang/invoke/VarHandle" ∧ (parseMethodDescriptor yX3_fits.desc).map (fun d => d.parameters.length) = some 1 := by decide +kernel
abbrev rm_X3_beginning : Room := { frames := 3, cells := 0, slots := 0, locals := 66 }
noncomputable def f_X3_beginning (l1 : Int) (l2 : Int) (m : Mem) : Option (Int × Mem) :=
  (f_X2_tellBeginning 1 l1 l2 m).bind (fun q1 => some (q1.1, q1.2))
set_option maxRecDepth 100000 in
set_option maxHeartbeats 4000000 in
theorem ok_X3_beginning {r : Int × Mem} : ∀ (l1 : Int) (l2 : Int) (m : Mem), inR l1 → inR l2 → f_X3_beginning l1 l2 m = some r → VV RX3 cX3_beginning 3 rm_X3_beginning mmG0 (mmPi r) 0 [(0, .ref 0), (1, vi l1), (2, vi l2)] [] m := by
  intro l1 l2 m hr1 hr2 E
  unfold f_X3_beginning at E
  refine V_aload_n 0 dX3_beginning_0 rfl ?_
  refine V_geta (ci := 3) (k := 0) (N := 6) (T := TX3) (o' := 1) dX3_beginning_1 iuX3 fl_X3_12 rfl (by decide) rfl sh_0 rfl ?_
  refine V_iload_n 1 dX3_beginning_4 rfl ?_
  refine V_iload_n 2 dX3_beginning_5 rfl ?_
  obtain ⟨q1, hq1, E⟩ := mmB_e E
  refine V_callV (ci := 2) (q := (RX2, TX2, 10)) (Cn := RX2) (st := []) 2 dX3_beginning_6 (ct_X2_tellBeginning sh_1 hr1 hr2 hq1) ml_X3_109 im_X2_tellBeginning sl_X2_tellBeginning it_X2 cd_X2_tellBeginning hy_X2_tellBeginning ⟨rfl, rfl, by decide, by decide⟩ sh_1 rfl rfl rfl rfl (Nat.le_of_ble_eq_true rfl) (fun hv2 => ?_)
  obtain rfl := Option.some.inj E
  exact V_reti dX3_beginning_9 ⟨rfl, rfl, hv2⟩
theorem ct_X3_beginning {l1 : Int} {l2 : Int} {m : Mem} {r : Int × Mem} (hr1 : inR l1) (hr2 : inR l2) (E : f_X3_beginning l1 l2 m = some r) : CTi yX3_beginning cX3_beginning 3 (some .int) rm_X3_beginning [.ref 0, vi l1, vi l2] m r := CT_i (by decide +kernel) rfl (Nat.le_of_ble_eq_true rfl) (ok_X3_beginning _ _ _ hr1 hr2 E)
theorem hy_X3_beginning : yX3_beginning.cls = RX3 ∧ yX3_beginning.cls ≠ "java/lang/invoke/MethodHandle" ∧ yX3_beginning.cls ≠ "java/lang/invoke/VarHandle" ∧ (parseMethodDescriptor yX3_beginning.desc).map (fun d => d.parameters.length) = some 2 := by decide +kernel
abbrev rm_X3_count : Room := { frames := 5, cells := 0, slots := 0, locals := 107 }
noncomputable def f_X3_count (l1 : Int) (m : Mem) : Option (Int × Mem) :=
  if l1 = 13 then
((f_X0_size m).bind (fun q2 => some (q2.1, q2.2)))
else (
if l1 = 14 then
((f_X1_length m).bind (fun q5 => some (q5.1, q5.2)))
else (
((f_X2_tellCount 1 l1 m).bind (fun q7 => some (q7.1, q7.2)))))
set_option maxRecDepth 100000 in
set_option maxHeartbeats 4000000 in
theorem ok_X3_count {r : Int × Mem} : ∀ (l1 : Int) (m : Mem), inR l1 → f_X3_count l1 m = some r → VV RX3 cX3_count 2 rm_X3_count mmG0 (mmPi r) 0 [(0, .ref 0), (1, vi l1)] [] m := by
  intro l1 m hr1 E
  unfold f_X3_count at E
  refine V_iload_n 1 dX3_count_0 rfl ?_
  by_cases c1 : l1 = 13
  · replace E := mmI_t c1 E
    refine V_lookup (off := 27) 28 dX3_count_1 hr1 (by decide) (by first | (rw [c1]; done) | (rw [c1]; rfl)) (by decide) ?_
    refine V_aload_n 0 dX3_count_28 rfl ?_
    refine V_geta (ci := 3) (k := 4) (N := 6) (T := TX3) (o' := 19) dX3_count_29 iuX3 fl_X3_29 rfl (by decide) rfl sh_0 rfl ?_
    obtain ⟨q2, hq2, E⟩ := mmB_e E
    refine V_callV (ci := 0) (q := (RX0, TX0, 2)) (Cn := RX0) (st := []) 0 dX3_count_32 (ct_X0_size hq2) ml_X3_90 im_X0_size sl_X0_size it_X0 cd_X0_size hy_X0_size ⟨rfl, rfl, by decide, by decide⟩ sh_19 rfl rfl rfl rfl (Nat.le_of_ble_eq_true rfl) (fun hv3 => ?_)
    obtain rfl := Option.some.inj E
    exact V_reti dX3_count_35 ⟨rfl, rfl, hv3⟩
  replace E := mmI_f c1 E
  by_cases c4 : l1 = 14
  · replace E := mmI_t c4 E
    refine V_lookup (off := 35) 36 dX3_count_1 hr1 (by decide) (by first | (rw [c4]; done) | (rw [c4]; rfl)) (by decide) ?_
    refine V_aload_n 0 dX3_count_36 rfl ?_
    refine V_geta (ci := 3) (k := 5) (N := 6) (T := TX3) (o' := 45) dX3_count_37 iuX3 fl_X3_36 rfl (by decide) rfl sh_0 rfl ?_
    obtain ⟨q5, hq5, E⟩ := mmB_e E
    refine V_callV (ci := 1) (q := (RX1, TX1, 8)) (Cn := RX1) (st := []) 0 dX3_count_40 (ct_X1_length hq5) ml_X3_112 im_X1_length sl_X1_length it_X1 cd_X1_length hy_X1_length ⟨rfl, rfl, by decide, by decide⟩ sh_45 rfl rfl rfl rfl (Nat.le_of_ble_eq_true rfl) (fun hv6 => ?_)
    obtain rfl := Option.some.inj E
    exact V_reti dX3_count_43 ⟨rfl, rfl, hv6⟩
  replace E := mmI_f c4 E
  refine V_lookup (off := 43) 44 dX3_count_1 hr1 (by decide) (by simp only [Op.lookupswitch.offset]; rw [if_neg (fun z => c1 z.symm)]; rw [if_neg (fun z => c4 z.symm)]) (by decide) ?_
  refine V_aload_n 0 dX3_count_44 rfl ?_
  refine V_geta (ci := 3) (k := 0) (N := 6) (T := TX3) (o' := 1) dX3_count_45 iuX3 fl_X3_12 rfl (by decide) rfl sh_0 rfl ?_
  refine V_iload_n 1 dX3_count_48 rfl ?_
  obtain ⟨q7, hq7, E⟩ := mmB_e E
  refine V_callV (ci := 2) (q := (RX2, TX2, 10)) (Cn := RX2) (st := []) 1 dX3_count_49 (ct_X2_tellCount sh_1 hr1 hq7) ml_X3_115 im_X2_tellCount sl_X2_tellCount it_X2 cd_X2_tellCount hy_X2_tellCount ⟨rfl, rfl, by decide, by decide⟩ sh_1 rfl rfl rfl rfl (Nat.le_of_ble_eq_true rfl) (fun hv8 => ?_)
  obtain rfl := Option.some.inj E
  exact V_reti dX3_count_52 ⟨rfl, rfl, hv8⟩
theorem ct_X3_count {l1 : Int} {m : Mem} {r : Int × Mem} (hr1 : inR l1) (E : f_X3_count l1 m = some r) : CTi yX3_count cX3_count 2 (some .int) rm_X3_count [.ref 0, vi l1] m r := CT_i (by decide +kernel) rfl (Nat.le_of_ble_eq_true rfl) (ok_X3_count _ _ hr1 E)
theorem hy_X3_count : yX3_count.cls = RX3 ∧ yX3_count.cls ≠ "java/lang/invoke/MethodHandle" ∧ yX3_count.cls ≠ "java/lang/invoke/VarHandle" ∧ (parseMethodDescriptor yX3_count.desc).map (fun d => d.parameters.length) = some 1 := by decide +kernel
end
