theorem dX2_tellFit_25 : decode cX2_tellFit 25 = .ok (.iadd, 1) := by decide +kernel
theorem dX2_tellFit_26 : decode cX2_tellFit 26 = .ok (.bipush 100, 2) := by decide +kernel
theorem dX2_tellFit_28 : decode cX2_tellFit 28 = .ok (.if_icmp .gt 7, 3) := by decide +kernel
theorem dX2_tellFit_31 : decode cX2_tellFit 31 = .ok (.iconst 1, 1) := by decide +kernel
theorem dX2_tellFit_32 : decode cX2_tellFit 32 = .ok (.goto 4, 3) := by decide +kernel
theorem dX2_tellFit_35 : decode cX2_tellFit 35 = .ok (.iconst 2, 1) := by decide +kernel
theorem dX2_tellFit_36 : decode cX2_tellFit 36 = .ok (.ireturn, 1) := by decide +kernel
theorem dX2_tellBeginning_0 : decode cX2_tellBeginning 0 = .ok (.iload_n 1, 1) := by decide +kernel
theorem dX2_tellBeginning_1 : decode cX2_tellBeginning 1 = .ok (.ifCond .lt 13, 3) := by decide +kernel
theorem dX2_tellBeginning_4 : decode cX2_tellBeginning 4 = .ok (.iload_n 1, 1) := by decide +kernel
theorem dX2_tellBeginning_5 : decode cX2_tellBeginning 5 = .ok (.bipush 26, 2) := by decide +kernel
theorem dX2_tellBeginning_7 : decode cX2_tellBeginning 7 = .ok (.if_icmp .ge 7, 3) := by decide +kernel
theorem dX2_tellBeginning_10 : decode cX2_tellBeginning 10 = .ok (.iload_n 2, 1) := by decide +kernel
theorem dX2_tellBeginning_11 : decode cX2_tellBeginning 11 = .ok (.ifCond .ge 6, 3) := by decide +kernel
theorem dX2_tellBeginning_14 : decode cX2_tellBeginning 14 = .ok (.bipush (-2), 2) := by decide +kernel
theorem dX2_tellBeginning_16 : decode cX2_tellBeginning 16 = .ok (.ireturn, 1) := by decide +kernel
theorem dX2_tellBeginning_17 : decode cX2_tellBeginning 17 = .ok (.aload_n 0, 1) := by decide +kernel
theorem dX2_tellBeginning_18 : decode cX2_tellBeginning 18 = .ok (.iload_n 1, 1) := by decide +kernel
theorem dX2_tellBeginning_19 : decode cX2_tellBeginning 19 = .ok (.bipush 26, 2) := by decide +kernel
theorem dX2_tellBeginning_21 : decode cX2_tellBeginning 21 = .ok (.imul, 1) := by decide +kernel
theorem dX2_tellBeginning_22 : decode cX2_tellBeginning 22 = .ok (.invokevirtual 123, 3) := by decide +kernel
theorem dX2_tellBeginning_25 : decode cX2_tellBeginning 25 = .ok (.istore_n 3, 1) := by decide +kernel
theorem dX2_tellBeginning_26 : decode cX2_tellBeginning 26 = .ok (.aload_n 0, 1) := by decide +kernel
theorem dX2_tellBeginning_27 : decode cX2_tellBeginning 27 = .ok (.iload_n 1, 1) := by decide +kernel
theorem dX2_tellBeginning_28 : decode cX2_tellBeginning 28 = .ok (.iconst 1, 1) := by decide +kernel
theorem dX2_tellBeginning_29 : decode cX2_tellBeginning 29 = .ok (.iadd, 1) := by decide +kernel
theorem dX2_tellBeginning_30 : decode cX2_tellBeginning 30 = .ok (.bipush 26, 2) := by decide +kernel
theorem dX2_tellBeginning_32 : decode cX2_tellBeginning 32 = .ok (.imul, 1) := by decide +kernel
theorem dX2_tellBeginning_33 : decode cX2_tellBeginning 33 = .ok (.invokevirtual 123, 3) := by decide +kernel
theorem dX2_tellBeginning_36 : decode cX2_tellBeginning 36 = .ok (.iload_n 3, 1) := by decide +kernel
theorem dX2_tellBeginning_37 : decode cX2_tellBeginning 37 = .ok (.isub, 1) := by decide +kernel
theorem dX2_tellBeginning_38 : decode cX2_tellBeginning 38 = .ok (.istore 4, 2) := by decide +kernel
theorem dX2_tellBeginning_40 : decode cX2_tellBeginning 40 = .ok (.iload_n 2, 1) := by decide +kernel
theorem dX2_tellBeginning_41 : decode cX2_tellBeginning 41 = .ok (.iload 4, 2) := by decide +kernel
theorem dX2_tellBeginning_43 : decode cX2_tellBeginning 43 = .ok (.if_icmp .ge 13, 3) := by decide +kernel
theorem dX2_tellBeginning_46 : decode cX2_tellBeginning 46 = .ok (.aload_n 0, 1) := by decide +kernel
theorem dX2_tellBeginning_47 : decode cX2_tellBeginning 47 = .ok (.iload_n 3, 1) := by decide +kernel
theorem dX2_tellBeginning_48 : decode cX2_tellBeginning 48 = .ok (.iload_n 2, 1) := by decide +kernel
theorem dX2_tellBeginning_49 : decode cX2_tellBeginning 49 = .ok (.iadd, 1) := by decide +kernel
theorem dX2_tellBeginning_50 : decode cX2_tellBeginning 50 = .ok (.invokevirtual 117, 3) := by decide +kernel
theorem dX2_tellBeginning_53 : decode cX2_tellBeginning 53 = .ok (.goto 5, 3) := by decide +kernel
theorem dX2_tellBeginning_56 : decode cX2_tellBeginning 56 = .ok (.bipush (-5), 2) := by decide +kernel
theorem dX2_tellBeginning_58 : decode cX2_tellBeginning 58 = .ok (.ireturn, 1) := by decide +kernel
theorem dX2_tellCount_0 : decode cX2_tellCount 0 = .ok (.iload_n 1, 1) := by decide +kernel
theorem dX2_tellCount_1 : decode cX2_tellCount 1 = .ok (.tableswitch 147 0 12 #[67, 72, 82, 87, 92, 97, 109, 114, 119, 124, 132, 137, 142], 67) := by decide +kernel
theorem dX2_tellCount_68 : decode cX2_tellCount 68 = .ok (.aload_n 0, 1) := by decide +kernel
theorem dX2_tellCount_69 : decode cX2_tellCount 69 = .ok (.getfield 27, 3) := by decide +kernel
theorem dX2_tellCount_72 : decode cX2_tellCount 72 = .ok (.ireturn, 1) := by decide +kernel
theorem dX2_tellCount_73 : decode cX2_tellCount 73 = .ok (.aload_n 0, 1) := by decide +kernel
theorem dX2_tellCount_74 : decode cX2_tellCount 74 = .ok (.getfield 27, 3) := by decide +kernel
theorem dX2_tellCount_77 : decode cX2_tellCount 77 = .ok (.aload_n 0, 1) := by decide +kernel
theorem dX2_tellCount_78 : decode cX2_tellCount 78 = .ok (.invokevirtual 126, 3) := by decide +kernel
theorem dX2_tellCount_81 : decode cX2_tellCount 81 = .ok (.isub, 1) := by decide +kernel
theorem dX2_tellCount_82 : decode cX2_tellCount 82 = .ok (.ireturn, 1) := by decide +kernel
theorem dX2_tellCount_83 : decode cX2_tellCount 83 = .ok (.aload_n 0, 1) := by decide +kernel
theorem dX2_tellCount_84 : decode cX2_tellCount 84 = .ok (.invokevirtual 126, 3) := by decide +kernel
theorem dX2_tellCount_87 : decode cX2_tellCount 87 = .ok (.ireturn, 1) := by decide +kernel
theorem dX2_tellCount_88 : decode cX2_tellCount 88 = .ok (.aload_n 0, 1) := by decide +kernel
theorem dX2_tellCount_89 : decode cX2_tellCount 89 = .ok (.invokevirtual 129, 3) := by decide +kernel
theorem dX2_tellCount_92 : decode cX2_tellCount 92 = .ok (.ireturn, 1) := by decide +kernel
theorem dX2_tellCount_93 : decode cX2_tellCount 93 = .ok (.aload_n 0, 1) := by decide +kernel
theorem dX2_tellCount_94 : decode cX2_tellCount 94 = .ok (.getfield 31, 3) := by decide +kernel
theorem dX2_tellCount_97 : decode cX2_tellCount 97 = .ok (.ireturn, 1) := by decide +kernel
theorem dX2_tellCount_98 : decode cX2_tellCount 98 = .ok (.aload_n 0, 1) := by decide +kernel
theorem dX2_tellCount_99 : decode cX2_tellCount 99 = .ok (.getfield 31, 3) := by decide +kernel
theorem dX2_tellCount_102 : decode cX2_tellCount 102 = .ok (.iconst 4, 1) := by decide +kernel
theorem dX2_tellCount_103 : decode cX2_tellCount 103 = .ok (.imul, 1) := by decide +kernel
theorem dX2_tellCount_104 : decode cX2_tellCount 104 = .ok (.aload_n 0, 1) := by decide +kernel
theorem dX2_tellCount_105 : decode cX2_tellCount 105 = .ok (.getfield 27, 3) := by decide +kernel
theorem dX2_tellCount_108 : decode cX2_tellCount 108 = .ok (.isub, 1) := by decide +kernel
theorem dX2_tellCount_109 : decode cX2_tellCount 109 = .ok (.ireturn, 1) := by decide +kernel
theorem dX2_tellCount_110 : decode cX2_tellCount 110 = .ok (.aload_n 0, 1) := by decide +kernel
theorem dX2_tellCount_111 : decode cX2_tellCount 111 = .ok (.getfield 34, 3) := by decide +kernel
theorem dX2_tellCount_114 : decode cX2_tellCount 114 = .ok (.ireturn, 1) := by decide +kernel
theorem dX2_tellCount_115 : decode cX2_tellCount 115 = .ok (.aload_n 0, 1) := by decide +kernel
theorem dX2_tellCount_116 : decode cX2_tellCount 116 = .ok (.invokevirtual 120, 3) := by decide +kernel
theorem dX2_tellCount_119 : decode cX2_tellCount 119 = .ok (.ireturn, 1) := by decide +kernel
theorem dX2_tellCount_120 : decode cX2_tellCount 120 = .ok (.aload_n 0, 1) := by decide +kernel
theorem dX2_tellCount_121 : decode cX2_tellCount 121 = .ok (.invokevirtual 95, 3) := by decide +kernel
theorem dX2_tellCount_124 : decode cX2_tellCount 124 = .ok (.ireturn, 1) := by decide +kernel
theorem dX2_tellCount_125 : decode cX2_tellCount 125 = .ok (.bipush 100, 2) := by decide +kernel
theorem dX2_tellCount_127 : decode cX2_tellCount 127 = .ok (.aload_n 0, 1) := by decide +kernel
theorem dX2_tellCount_128 : decode cX2_tellCount 128 = .ok (.getfield 34, 3) := by decide +kernel
theorem dX2_tellCount_131 : decode cX2_tellCount 131 = .ok (.isub, 1) := by decide +kernel
theorem dX2_tellCount_132 : decode cX2_tellCount 132 = .ok (.ireturn, 1) := by decide +kernel
theorem dX2_tellCount_133 : decode cX2_tellCount 133 = .ok (.aload_n 0, 1) := by decide +kernel
theorem dX2_tellCount_134 : decode cX2_tellCount 134 = .ok (.invokevirtual 132, 3) := by decide +kernel
theorem dX2_tellCount_137 : decode cX2_tellCount 137 = .ok (.ireturn, 1) := by decide +kernel
theorem dX2_tellCount_138 : decode cX2_tellCount 138 = .ok (.aload_n 0, 1) := by decide +kernel
theorem dX2_tellCount_139 : decode cX2_tellCount 139 = .ok (.getfield 37, 3) := by decide +kernel
theorem dX2_tellCount_142 : decode cX2_tellCount 142 = .ok (.ireturn, 1) := by decide +kernel
theorem dX2_tellCount_143 : decode cX2_tellCount 143 = .ok (.aload_n 0, 1) := by decide +kernel
theorem dX2_tellCount_144 : decode cX2_tellCount 144 = .ok (.getfield 40, 3) := by decide +kernel
theorem dX2_tellCount_147 : decode cX2_tellCount 147 = .ok (.ireturn, 1) := by decide +kernel
theorem dX2_tellCount_148 : decode cX2_tellCount 148 = .ok (.bipush (-2), 2) := by decide +kernel
theorem dX2_tellCount_150 : decode cX2_tellCount 150 = .ok (.ireturn, 1) := by decide +kernel
theorem dX2_isName_0 : decode cX2_isName 0 = .ok (.iload_n 0, 1) := by decide +kernel
theorem dX2_isName_1 : decode cX2_isName 1 = .ok (.ifCond .lt 14, 3) := by decide +kernel
theorem dX2_isName_4 : decode cX2_isName 4 = .ok (.iload_n 0, 1) := by decide +kernel
theorem dX2_isName_5 : decode cX2_isName 5 = .ok (.sipush 676, 3) := by decide +kernel
theorem dX2_isName_8 : decode cX2_isName 8 = .ok (.if_icmp .ge 7, 3) := by decide +kernel
theorem dX2_isName_11 : decode cX2_isName 11 = .ok (.iconst 1, 1) := by decide +kernel
theorem dX2_isName_12 : decode cX2_isName 12 = .ok (.goto 4, 3) := by decide +kernel
theorem dX2_isName_15 : decode cX2_isName 15 = .ok (.iconst 0, 1) := by decide +kernel
theorem dX2_isName_16 : decode cX2_isName 16 = .ok (.ireturn, 1) := by decide +kernel
theorem dX2_isLength_0 : decode cX2_isLength 0 = .ok (.iload_n 0, 1) := by decide +kernel
theorem dX2_isLength_1 : decode cX2_isLength 1 = .ok (.iconst 1, 1) := by decide +kernel
theorem dX2_isLength_2 : decode cX2_isLength 2 = .ok (.if_icmp .lt 13, 3) := by decide +kernel
theorem dX2_isLength_5 : decode cX2_isLength 5 = .ok (.iload_n 0, 1) := by decide +kernel
theorem dX2_isLength_6 : decode cX2_isLength 6 = .ok (.bipush 40, 2) := by decide +kernel
theorem dX2_isLength_8 : decode cX2_isLength 8 = .ok (.if_icmp .gt 7, 3) := by decide +kernel
theorem dX2_isLength_11 : decode cX2_isLength 11 = .ok (.iconst 1, 1) := by decide +kernel
theorem dX2_isLength_12 : decode cX2_isLength 12 = .ok (.goto 4, 3) := by decide +kernel
theorem dX2_isLength_15 : decode cX2_isLength 15 = .ok (.iconst 0, 1) := by decide +kernel
theorem dX2_isLength_16 : decode cX2_isLength 16 = .ok (.ireturn, 1) := by decide +kernel
theorem dX2_isMark_0 : decode cX2_isMark 0 = .ok (.iload_n 0, 1) := by decide +kernel
theorem dX2_isMark_1 : decode cX2_isMark 1 = .ok (.ifCond .lt 14, 3) := by decide +kernel
theorem dX2_isMark_4 : decode cX2_isMark 4 = .ok (.iload_n 0, 1) := by decide +kernel
theorem dX2_isMark_5 : decode cX2_isMark 5 = .ok (.sipush 9999, 3) := by decide +kernel
theorem dX2_isMark_8 : decode cX2_isMark 8 = .ok (.if_icmp .gt 7, 3) := by decide +kernel
theorem dX2_isMark_11 : decode cX2_isMark 11 = .ok (.iconst 1, 1) := by decide +kernel
theorem dX2_isMark_12 : decode cX2_isMark 12 = .ok (.goto 4, 3) := by decide +kernel
theorem dX2_isMark_15 : decode cX2_isMark 15 = .ok (.iconst 0, 1) := by decide +kernel
theorem dX2_isMark_16 : decode cX2_isMark 16 = .ok (.ireturn, 1) := by decide +kernel
theorem dX2_isRank_0 : decode cX2_isRank 0 = .ok (.iload_n 1, 1) := by decide +kernel
theorem dX2_isRank_1 : decode cX2_isRank 1 = .ok (.ifCond .lt 15, 3) := by decide +kernel
theorem dX2_isRank_4 : decode cX2_isRank 4 = .ok (.iload_n 1, 1) := by decide +kernel
theorem dX2_isRank_5 : decode cX2_isRank 5 = .ok (.aload_n 0, 1) := by decide +kernel
theorem dX2_isRank_6 : decode cX2_isRank 6 = .ok (.getfield 27, 3) := by decide +kernel
theorem dX2_isRank_9 : decode cX2_isRank 9 = .ok (.if_icmp .ge 7, 3) := by decide +kernel
theorem dX2_isRank_12 : decode cX2_isRank 12 = .ok (.iconst 1, 1) := by decide +kernel
theorem dX2_isRank_13 : decode cX2_isRank 13 = .ok (.goto 4, 3) := by decide +kernel
theorem dX2_isRank_16 : decode cX2_isRank 16 = .ok (.iconst 0, 1) := by decide +kernel
theorem dX2_isRank_17 : decode cX2_isRank 17 = .ok (.ireturn, 1) := by decide +kernel
theorem dX2_isMember_0 : decode cX2_isMember 0 = .ok (.aload_n 0, 1) := by decide +kernel
theorem dX2_isMember_1 : decode cX2_isMember 1 = .ok (.iload_n 1, 1) := by decide +kernel
theorem dX2_isMember_2 : decode cX2_isMember 2 = .ok (.invokevirtual 63, 3) := by decide +kernel
theorem dX2_isMember_5 : decode cX2_isMember 5 = .ok (.ifCond .eq 18, 3) := by decide +kernel
theorem dX2_isMember_8 : decode cX2_isMember 8 = .ok (.aload_n 0, 1) := by decide +kernel
theorem dX2_isMember_9 : decode cX2_isMember 9 = .ok (.getfield 15, 3) := by decide +kernel
theorem dX2_isMember_12 : decode cX2_isMember 12 = .ok (.iload_n 1, 1) := by decide +kernel
theorem dX2_isMember_13 : decode cX2_isMember 13 = .ok (.iaload, 1) := by decide +kernel
theorem dX2_isMember_14 : decode cX2_isMember 14 = .ok (.bipush (-5), 2) := by decide +kernel
theorem dX2_isMember_16 : decode cX2_isMember 16 = .ok (.if_icmp .ne 7, 3) := by decide +kernel
theorem dX2_isMember_19 : decode cX2_isMember 19 = .ok (.iconst 1, 1) := by decide +kernel
theorem dX2_isMember_20 : decode cX2_isMember 20 = .ok (.goto 4, 3) := by decide +kernel
theorem dX2_isMember_23 : decode cX2_isMember 23 = .ok (.iconst 0, 1) := by decide +kernel
theorem dX2_isMember_24 : decode cX2_isMember 24 = .ok (.ireturn, 1) := by decide +kernel
theorem dX2_isLost_0 : decode cX2_isLost 0 = .ok (.aload_n 0, 1) := by decide +kernel
theorem dX2_isLost_1 : decode cX2_isLost 1 = .ok (.iload_n 1, 1) := by decide +kernel
theorem dX2_isLost_2 : decode cX2_isLost 2 = .ok (.invokevirtual 63, 3) := by decide +kernel
theorem dX2_isLost_5 : decode cX2_isLost 5 = .ok (.ifCond .eq 11, 3) := by decide +kernel
theorem dX2_isLost_8 : decode cX2_isLost 8 = .ok (.aload_n 0, 1) := by decide +kernel
theorem dX2_isLost_9 : decode cX2_isLost 9 = .ok (.iload_n 1, 1) := by decide +kernel
theorem dX2_isLost_10 : decode cX2_isLost 10 = .ok (.invokevirtual 80, 3) := by decide +kernel
theorem dX2_isLost_13 : decode cX2_isLost 13 = .ok (.ifCond .eq 5, 3) := by decide +kernel
theorem dX2_isLost_16 : decode cX2_isLost 16 = .ok (.iconst 0, 1) := by decide +kernel
theorem dX2_isLost_17 : decode cX2_isLost 17 = .ok (.ireturn, 1) := by decide +kernel
theorem dX2_isLost_18 : decode cX2_isLost 18 = .ok (.aload_n 0, 1) := by decide +kernel
theorem dX2_isLost_19 : decode cX2_isLost 19 = .ok (.aload_n 0, 1) := by decide +kernel
theorem dX2_isLost_20 : decode cX2_isLost 20 = .ok (.getfield 15, 3) := by decide +kernel
theorem dX2_isLost_23 : decode cX2_isLost 23 = .ok (.iload_n 1, 1) := by decide +kernel
theorem dX2_isLost_24 : decode cX2_isLost 24 = .ok (.iaload, 1) := by decide +kernel
theorem dX2_isLost_25 : decode cX2_isLost 25 = .ok (.invokevirtual 59, 3) := by decide +kernel
theorem dX2_isLost_28 : decode cX2_isLost 28 = .ok (.istore_n 2, 1) := by decide +kernel
theorem dX2_isLost_29 : decode cX2_isLost 29 = .ok (.aload_n 0, 1) := by decide +kernel
theorem dX2_isLost_30 : decode cX2_isLost 30 = .ok (.iload_n 2, 1) := by decide +kernel
theorem dX2_isLost_31 : decode cX2_isLost 31 = .ok (.invokevirtual 80, 3) := by decide +kernel
theorem dX2_isLost_34 : decode cX2_isLost 34 = .ok (.ifCond .eq 18, 3) := by decide +kernel
theorem dX2_isLost_37 : decode cX2_isLost 37 = .ok (.aload_n 0, 1) := by decide +kernel
theorem dX2_isLost_38 : decode cX2_isLost 38 = .ok (.getfield 18, 3) := by decide +kernel
theorem dX2_isLost_41 : decode cX2_isLost 41 = .ok (.iload_n 2, 1) := by decide +kernel
theorem dX2_isLost_42 : decode cX2_isLost 42 = .ok (.iaload, 1) := by decide +kernel
theorem dX2_isLost_43 : decode cX2_isLost 43 = .ok (.aload_n 0, 1) := by decide +kernel
theorem dX2_isLost_44 : decode cX2_isLost 44 = .ok (.getfield 18, 3) := by decide +kernel
theorem dX2_isLost_47 : decode cX2_isLost 47 = .ok (.iload_n 1, 1) := by decide +kernel
theorem dX2_isLost_48 : decode cX2_isLost 48 = .ok (.iaload, 1) := by decide +kernel
theorem dX2_isLost_49 : decode cX2_isLost 49 = .ok (.if_icmp .eq 7, 3) := by decide +kernel
theorem dX2_isLost_52 : decode cX2_isLost 52 = .ok (.iconst 1, 1) := by decide +kernel
theorem dX2_isLost_53 : decode cX2_isLost 53 = .ok (.goto 4, 3) := by decide +kernel
theorem dX2_isLost_56 : decode cX2_isLost 56 = .ok (.iconst 0, 1) := by decide +kernel
theorem dX2_isLost_57 : decode cX2_isLost 57 = .ok (.ireturn, 1) := by decide +kernel
theorem dX2_isFirstOfText_0 : decode cX2_isFirstOfText 0 = .ok (.aload_n 0, 1) := by decide +kernel
theorem dX2_isFirstOfText_1 : decode cX2_isFirstOfText 1 = .ok (.iload_n 1, 1) := by decide +kernel
theorem dX2_isFirstOfText_2 : decode cX2_isFirstOfText 2 = .ok (.invokevirtual 63, 3) := by decide +kernel
theorem dX2_isFirstOfText_5 : decode cX2_isFirstOfText 5 = .ok (.ifCond .ne 5, 3) := by decide +kernel
theorem dX2_isFirstOfText_8 : decode cX2_isFirstOfText 8 = .ok (.iconst 0, 1) := by decide +kernel
theorem dX2_isFirstOfText_9 : decode cX2_isFirstOfText 9 = .ok (.ireturn, 1) := by decide +kernel
theorem dX2_isFirstOfText_10 : decode cX2_isFirstOfText 10 = .ok (.iconst 0, 1) := by decide +kernel
theorem dX2_isFirstOfText_11 : decode cX2_isFirstOfText 11 = .ok (.istore_n 2, 1) := by decide +kernel
theorem dX2_isFirstOfText_12 : decode cX2_isFirstOfText 12 = .ok (.iload_n 2, 1) := by decide +kernel
theorem dX2_isFirstOfText_13 : decode cX2_isFirstOfText 13 = .ok (.iload_n 1, 1) := by decide +kernel
theorem dX2_isFirstOfText_14 : decode cX2_isFirstOfText 14 = .ok (.if_icmp .ge 26, 3) := by decide +kernel
theorem dX2_isFirstOfText_17 : decode cX2_isFirstOfText 17 = .ok (.aload_n 0, 1) := by decide +kernel
theorem dX2_isFirstOfText_18 : decode cX2_isFirstOfText 18 = .ok (.getfield 18, 3) := by decide +kernel
theorem dX2_isFirstOfText_21 : decode cX2_isFirstOfText 21 = .ok (.iload_n 2, 1) := by decide +kernel
theorem dX2_isFirstOfText_22 : decode cX2_isFirstOfText 22 = .ok (.iaload, 1) := by decide +kernel
theorem dX2_isFirstOfText_23 : decode cX2_isFirstOfText 23 = .ok (.aload_n 0, 1) := by decide +kernel
theorem dX2_isFirstOfText_24 : decode cX2_isFirstOfText 24 = .ok (.getfield 18, 3) := by decide +kernel
theorem dX2_isFirstOfText_27 : decode cX2_isFirstOfText 27 = .ok (.iload_n 1, 1) := by decide +kernel
theorem dX2_isFirstOfText_28 : decode cX2_isFirstOfText 28 = .ok (.iaload, 1) := by decide +kernel
theorem dX2_isFirstOfText_29 : decode cX2_isFirstOfText 29 = .ok (.if_icmp .ne 5, 3) := by decide +kernel
theorem dX2_isFirstOfText_32 : decode cX2_isFirstOfText 32 = .ok (.iconst 0, 1) := by decide +kernel
theorem dX2_isFirstOfText_33 : decode cX2_isFirstOfText 33 = .ok (.ireturn, 1) := by decide +kernel
theorem dX2_isFirstOfText_34 : decode cX2_isFirstOfText 34 = .ok (.iinc 2 1, 3) := by decide +kernel
theorem dX2_isFirstOfText_37 : decode cX2_isFirstOfText 37 = .ok (.goto (-25), 3) := by decide +kernel
theorem dX2_isFirstOfText_40 : decode cX2_isFirstOfText 40 = .ok (.iconst 1, 1) := by decide +kernel
theorem dX2_isFirstOfText_41 : decode cX2_isFirstOfText 41 = .ok (.ireturn, 1) := by decide +kernel
theorem dX2_isDirectoryFull_0 : decode cX2_isDirectoryFull 0 = .ok (.aload_n 0, 1) := by decide +kernel
theorem dX2_isDirectoryFull_1 : decode cX2_isDirectoryFull 1 = .ok (.getfield 27, 3) := by decide +kernel
theorem dX2_isDirectoryFull_4 : decode cX2_isDirectoryFull 4 = .ok (.aload_n 0, 1) := by decide +kernel
theorem dX2_isDirectoryFull_5 : decode cX2_isDirectoryFull 5 = .ok (.getfield 31, 3) := by decide +kernel
theorem dX2_isDirectoryFull_8 : decode cX2_isDirectoryFull 8 = .ok (.iconst 4, 1) := by decide +kernel
theorem dX2_isDirectoryFull_9 : decode cX2_isDirectoryFull 9 = .ok (.imul, 1) := by decide +kernel
theorem dX2_isDirectoryFull_10 : decode cX2_isDirectoryFull 10 = .ok (.if_icmp .lt 7, 3) := by decide +kernel
theorem dX2_isDirectoryFull_13 : decode cX2_isDirectoryFull 13 = .ok (.iconst 1, 1) := by decide +kernel
theorem dX2_isDirectoryFull_14 : decode cX2_isDirectoryFull 14 = .ok (.goto 4, 3) := by decide +kernel
theorem dX2_isDirectoryFull_17 : decode cX2_isDirectoryFull 17 = .ok (.iconst 0, 1) := by decide +kernel
theorem dX2_isDirectoryFull_18 : decode cX2_isDirectoryFull 18 = .ok (.ireturn, 1) := by decide +kernel
theorem dX2_hasRoom_0 : decode cX2_hasRoom 0 = .ok (.aload_n 0, 1) := by decide +kernel
theorem dX2_hasRoom_1 : decode cX2_hasRoom 1 = .ok (.getfield 34, 3) := by decide +kernel
theorem dX2_hasRoom_4 : decode cX2_hasRoom 4 = .ok (.iload_n 1, 1) := by decide +kernel
theorem dX2_hasRoom_5 : decode cX2_hasRoom 5 = .ok (.iadd, 1) := by decide +kernel
theorem dX2_hasRoom_6 : decode cX2_hasRoom 6 = .ok (.bipush 100, 2) := by decide +kernel
theorem dX2_hasRoom_8 : decode cX2_hasRoom 8 = .ok (.if_icmp .gt 7, 3) := by decide +kernel
theorem dX2_hasRoom_11 : decode cX2_hasRoom 11 = .ok (.iconst 1, 1) := by decide +kernel
theorem dX2_hasRoom_12 : decode cX2_hasRoom 12 = .ok (.goto 4, 3) := by decide +kernel
theorem dX2_hasRoom_15 : decode cX2_hasRoom 15 = .ok (.iconst 0, 1) := by decide +kernel
theorem dX2_hasRoom_16 : decode cX2_hasRoom 16 = .ok (.ireturn, 1) := by decide +kernel
theorem dX2_rankOf_0 : decode cX2_rankOf 0 = .ok (.iconst 0, 1) := by decide +kernel
theorem dX2_rankOf_1 : decode cX2_rankOf 1 = .ok (.istore_n 2, 1) := by decide +kernel
theorem dX2_rankOf_2 : decode cX2_rankOf 2 = .ok (.iload_n 2, 1) := by decide +kernel
theorem dX2_rankOf_3 : decode cX2_rankOf 3 = .ok (.aload_n 0, 1) := by decide +kernel
theorem dX2_rankOf_4 : decode cX2_rankOf 4 = .ok (.getfield 27, 3) := by decide +kernel
theorem dX2_rankOf_7 : decode cX2_rankOf 7 = .ok (.if_icmp .ge 21, 3) := by decide +kernel
theorem dX2_rankOf_10 : decode cX2_rankOf 10 = .ok (.aload_n 0, 1) := by decide +kernel
theorem dX2_rankOf_11 : decode cX2_rankOf 11 = .ok (.getfield 9, 3) := by decide +kernel
theorem dX2_rankOf_14 : decode cX2_rankOf 14 = .ok (.iload_n 2, 1) := by decide +kernel
theorem dX2_rankOf_15 : decode cX2_rankOf 15 = .ok (.iaload, 1) := by decide +kernel
theorem dX2_rankOf_16 : decode cX2_rankOf 16 = .ok (.iload_n 1, 1) := by decide +kernel
theorem dX2_rankOf_17 : decode cX2_rankOf 17 = .ok (.if_icmp .ne 5, 3) := by decide +kernel
theorem dX2_rankOf_20 : decode cX2_rankOf 20 = .ok (.iload_n 2, 1) := by decide +kernel
theorem dX2_rankOf_21 : decode cX2_rankOf 21 = .ok (.ireturn, 1) := by decide +kernel
theorem dX2_rankOf_22 : decode cX2_rankOf 22 = .ok (.iinc 2 1, 3) := by decide +kernel
theorem dX2_rankOf_25 : decode cX2_rankOf 25 = .ok (.goto (-23), 3) := by decide +kernel
theorem dX2_rankOf_28 : decode cX2_rankOf 28 = .ok (.iconst (-1), 1) := by decide +kernel
theorem dX2_rankOf_29 : decode cX2_rankOf 29 = .ok (.ireturn, 1) := by decide +kernel
theorem dX2_namesBelow_0 : decode cX2_namesBelow 0 = .ok (.iconst 0, 1) := by decide +kernel
theorem dX2_namesBelow_1 : decode cX2_namesBelow 1 = .ok (.istore_n 2, 1) := by decide +kernel
theorem dX2_namesBelow_2 : decode cX2_namesBelow 2 = .ok (.iconst 0, 1) := by decide +kernel
theorem dX2_namesBelow_3 : decode cX2_namesBelow 3 = .ok (.istore_n 3, 1) := by decide +kernel
theorem dX2_namesBelow_4 : decode cX2_namesBelow 4 = .ok (.iload_n 3, 1) := by decide +kernel
theorem dX2_namesBelow_5 : decode cX2_namesBelow 5 = .ok (.aload_n 0, 1) := by decide +kernel
theorem dX2_namesBelow_6 : decode cX2_namesBelow 6 = .ok (.getfield 27, 3) := by decide +kernel
theorem dX2_namesBelow_9 : decode cX2_namesBelow 9 = .ok (.if_icmp .ge 22, 3) := by decide +kernel
theorem dX2_namesBelow_12 : decode cX2_namesBelow 12 = .ok (.aload_n 0, 1) := by decide +kernel
theorem dX2_namesBelow_13 : decode cX2_namesBelow 13 = .ok (.getfield 9, 3) := by decide +kernel
theorem dX2_namesBelow_16 : decode cX2_namesBelow 16 = .ok (.iload_n 3, 1) := by decide +kernel
theorem dX2_namesBelow_17 : decode cX2_namesBelow 17 = .ok (.iaload, 1) := by decide +kernel
theorem dX2_namesBelow_18 : decode cX2_namesBelow 18 = .ok (.iload_n 1, 1) := by decide +kernel
theorem dX2_namesBelow_19 : decode cX2_namesBelow 19 = .ok (.if_icmp .ge 6, 3) := by decide +kernel
theorem dX2_namesBelow_22 : decode cX2_namesBelow 22 = .ok (.iinc 2 1, 3) := by decide +kernel
theorem dX2_namesBelow_25 : decode cX2_namesBelow 25 = .ok (.iinc 3 1, 3) := by decide +kernel
theorem dX2_namesBelow_28 : decode cX2_namesBelow 28 = .ok (.goto (-24), 3) := by decide +kernel
theorem dX2_namesBelow_31 : decode cX2_namesBelow 31 = .ok (.iload_n 2, 1) := by decide +kernel
theorem dX2_namesBelow_32 : decode cX2_namesBelow 32 = .ok (.ireturn, 1) := by decide +kernel
theorem dX2_aliases_0 : decode cX2_aliases 0 = .ok (.iconst 0, 1) := by decide +kernel
theorem dX2_aliases_1 : decode cX2_aliases 1 = .ok (.istore_n 1, 1) := by decide +kernel
theorem dX2_aliases_2 : decode cX2_aliases 2 = .ok (.iconst 0, 1) := by decide +kernel
theorem dX2_aliases_3 : decode cX2_aliases 3 = .ok (.istore_n 2, 1) := by decide +kernel
theorem dX2_aliases_4 : decode cX2_aliases 4 = .ok (.iload_n 2, 1) := by decide +kernel
theorem dX2_aliases_5 : decode cX2_aliases 5 = .ok (.aload_n 0, 1) := by decide +kernel
theorem dX2_aliases_6 : decode cX2_aliases 6 = .ok (.getfield 27, 3) := by decide +kernel
theorem dX2_aliases_9 : decode cX2_aliases 9 = .ok (.if_icmp .ge 20, 3) := by decide +kernel
theorem dX2_aliases_12 : decode cX2_aliases 12 = .ok (.aload_n 0, 1) := by decide +kernel
theorem dX2_aliases_13 : decode cX2_aliases 13 = .ok (.iload_n 2, 1) := by decide +kernel
theorem dX2_aliases_14 : decode cX2_aliases 14 = .ok (.invokevirtual 80, 3) := by decide +kernel
theorem dX2_aliases_17 : decode cX2_aliases 17 = .ok (.ifCond .ne 6, 3) := by decide +kernel
theorem dX2_aliases_20 : decode cX2_aliases 20 = .ok (.iinc 1 1, 3) := by decide +kernel
theorem dX2_aliases_23 : decode cX2_aliases 23 = .ok (.iinc 2 1, 3) := by decide +kernel
theorem dX2_aliases_26 : decode cX2_aliases 26 = .ok (.goto (-22), 3) := by decide +kernel
theorem dX2_aliases_29 : decode cX2_aliases 29 = .ok (.iload_n 1, 1) := by decide +kernel
theorem dX2_aliases_30 : decode cX2_aliases 30 = .ok (.ireturn, 1) := by decide +kernel
theorem dX2_lostAliases_0 : decode cX2_lostAliases 0 = .ok (.iconst 0, 1) := by decide +kernel
theorem dX2_lostAliases_1 : decode cX2_lostAliases 1 = .ok (.istore_n 1, 1) := by decide +kernel
theorem dX2_lostAliases_2 : decode cX2_lostAliases 2 = .ok (.iconst 0, 1) := by decide +kernel
theorem dX2_lostAliases_3 : decode cX2_lostAliases 3 = .ok (.istore_n 2, 1) := by decide +kernel
theorem dX2_lostAliases_4 : decode cX2_lostAliases 4 = .ok (.iload_n 2, 1) := by decide +kernel
theorem dX2_lostAliases_5 : decode cX2_lostAliases 5 = .ok (.aload_n 0, 1) := by decide +kernel
theorem dX2_lostAliases_6 : decode cX2_lostAliases 6 = .ok (.getfield 27, 3) := by decide +kernel
theorem dX2_lostAliases_9 : decode cX2_lostAliases 9 = .ok (.if_icmp .ge 20, 3) := by decide +kernel
theorem dX2_lostAliases_12 : decode cX2_lostAliases 12 = .ok (.aload_n 0, 1) := by decide +kernel
theorem dX2_lostAliases_13 : decode cX2_lostAliases 13 = .ok (.iload_n 2, 1) := by decide +kernel
theorem dX2_lostAliases_14 : decode cX2_lostAliases 14 = .ok (.invokevirtual 105, 3) := by decide +kernel
theorem dX2_lostAliases_17 : decode cX2_lostAliases 17 = .ok (.ifCond .eq 6, 3) := by decide +kernel
theorem dX2_lostAliases_20 : decode cX2_lostAliases 20 = .ok (.iinc 1 1, 3) := by decide +kernel
theorem dX2_lostAliases_23 : decode cX2_lostAliases 23 = .ok (.iinc 2 1, 3) := by decide +kernel
theorem dX2_lostAliases_26 : decode cX2_lostAliases 26 = .ok (.goto (-22), 3) := by decide +kernel
theorem dX2_lostAliases_29 : decode cX2_lostAliases 29 = .ok (.iload_n 1, 1) := by decide +kernel
theorem dX2_lostAliases_30 : decode cX2_lostAliases 30 = .ok (.ireturn, 1) := by decide +kernel
theorem dX2_aliasesOf_0 : decode cX2_aliasesOf 0 = .ok (.iconst 0, 1) := by decide +kernel
theorem dX2_aliasesOf_1 : decode cX2_aliasesOf 1 = .ok (.istore_n 2, 1) := by decide +kernel
theorem dX2_aliasesOf_2 : decode cX2_aliasesOf 2 = .ok (.iconst 0, 1) := by decide +kernel
theorem dX2_aliasesOf_3 : decode cX2_aliasesOf 3 = .ok (.istore_n 3, 1) := by decide +kernel
theorem dX2_aliasesOf_4 : decode cX2_aliasesOf 4 = .ok (.iload_n 3, 1) := by decide +kernel
theorem dX2_aliasesOf_5 : decode cX2_aliasesOf 5 = .ok (.aload_n 0, 1) := by decide +kernel
theorem dX2_aliasesOf_6 : decode cX2_aliasesOf 6 = .ok (.getfield 27, 3) := by decide +kernel
theorem dX2_aliasesOf_9 : decode cX2_aliasesOf 9 = .ok (.if_icmp .ge 30, 3) := by decide +kernel
theorem dX2_aliasesOf_12 : decode cX2_aliasesOf 12 = .ok (.aload_n 0, 1) := by decide +kernel
theorem dX2_aliasesOf_13 : decode cX2_aliasesOf 13 = .ok (.getfield 18, 3) := by decide +kernel
theorem dX2_aliasesOf_16 : decode cX2_aliasesOf 16 = .ok (.iload_n 3, 1) := by decide +kernel
theorem dX2_aliasesOf_17 : decode cX2_aliasesOf 17 = .ok (.iaload, 1) := by decide +kernel
theorem dX2_aliasesOf_18 : decode cX2_aliasesOf 18 = .ok (.iload_n 1, 1) := by decide +kernel
theorem dX2_aliasesOf_19 : decode cX2_aliasesOf 19 = .ok (.if_icmp .ne 14, 3) := by decide +kernel
theorem dX2_aliasesOf_22 : decode cX2_aliasesOf 22 = .ok (.aload_n 0, 1) := by decide +kernel
theorem dX2_aliasesOf_23 : decode cX2_aliasesOf 23 = .ok (.iload_n 3, 1) := by decide +kernel
theorem dX2_aliasesOf_24 : decode cX2_aliasesOf 24 = .ok (.invokevirtual 80, 3) := by decide +kernel
theorem dX2_aliasesOf_27 : decode cX2_aliasesOf 27 = .ok (.ifCond .ne 6, 3) := by decide +kernel
theorem dX2_aliasesOf_30 : decode cX2_aliasesOf 30 = .ok (.iinc 2 1, 3) := by decide +kernel
theorem dX2_aliasesOf_33 : decode cX2_aliasesOf 33 = .ok (.iinc 3 1, 3) := by decide +kernel
theorem dX2_aliasesOf_36 : decode cX2_aliasesOf 36 = .ok (.goto (-32), 3) := by decide +kernel
theorem dX2_aliasesOf_39 : decode cX2_aliasesOf 39 = .ok (.iload_n 2, 1) := by decide +kernel
theorem dX2_aliasesOf_40 : decode cX2_aliasesOf 40 = .ok (.ireturn, 1) := by decide +kernel
theorem dX2_livingTexts_0 : decode cX2_livingTexts 0 = .ok (.iconst 0, 1) := by decide +kernel
theorem dX2_livingTexts_1 : decode cX2_livingTexts 1 = .ok (.istore_n 1, 1) := by decide +kernel
theorem dX2_livingTexts_2 : decode cX2_livingTexts 2 = .ok (.iconst 0, 1) := by decide +kernel
theorem dX2_livingTexts_3 : decode cX2_livingTexts 3 = .ok (.istore_n 2, 1) := by decide +kernel
theorem dX2_livingTexts_4 : decode cX2_livingTexts 4 = .ok (.iload_n 2, 1) := by decide +kernel
theorem dX2_livingTexts_5 : decode cX2_livingTexts 5 = .ok (.aload_n 0, 1) := by decide +kernel
theorem dX2_livingTexts_6 : decode cX2_livingTexts 6 = .ok (.getfield 27, 3) := by decide +kernel
theorem dX2_livingTexts_9 : decode cX2_livingTexts 9 = .ok (.if_icmp .ge 20, 3) := by decide +kernel
theorem dX2_livingTexts_12 : decode cX2_livingTexts 12 = .ok (.aload_n 0, 1) := by decide +kernel
theorem dX2_livingTexts_13 : decode cX2_livingTexts 13 = .ok (.iload_n 2, 1) := by decide +kernel
theorem dX2_livingTexts_14 : decode cX2_livingTexts 14 = .ok (.invokevirtual 135, 3) := by decide +kernel
theorem dX2_livingTexts_17 : decode cX2_livingTexts 17 = .ok (.ifCond .eq 6, 3) := by decide +kernel
theorem dX2_livingTexts_20 : decode cX2_livingTexts 20 = .ok (.iinc 1 1, 3) := by decide +kernel
theorem dX2_livingTexts_23 : decode cX2_livingTexts 23 = .ok (.iinc 2 1, 3) := by decide +kernel
theorem dX2_livingTexts_26 : decode cX2_livingTexts 26 = .ok (.goto (-22), 3) := by decide +kernel
theorem dX2_livingTexts_29 : decode cX2_livingTexts 29 = .ok (.iload_n 1, 1) := by decide +kernel
theorem dX2_livingTexts_30 : decode cX2_livingTexts 30 = .ok (.ireturn, 1) := by decide +kernel
theorem dX2_livingUnits_0 : decode cX2_livingUnits 0 = .ok (.iconst 0, 1) := by decide +kernel
theorem dX2_livingUnits_1 : decode cX2_livingUnits 1 = .ok (.istore_n 1, 1) := by decide +kernel
theorem dX2_livingUnits_2 : decode cX2_livingUnits 2 = .ok (.iconst 0, 1) := by decide +kernel
theorem dX2_livingUnits_3 : decode cX2_livingUnits 3 = .ok (.istore_n 2, 1) := by decide +kernel
theorem dX2_livingUnits_4 : decode cX2_livingUnits 4 = .ok (.iload_n 2, 1) := by decide +kernel
theorem dX2_livingUnits_5 : decode cX2_livingUnits 5 = .ok (.aload_n 0, 1) := by decide +kernel
theorem dX2_livingUnits_6 : decode cX2_livingUnits 6 = .ok (.getfield 27, 3) := by decide +kernel
theorem dX2_livingUnits_9 : decode cX2_livingUnits 9 = .ok (.if_icmp .ge 26, 3) := by decide +kernel
theorem dX2_livingUnits_12 : decode cX2_livingUnits 12 = .ok (.aload_n 0, 1) := by decide +kernel
theorem dX2_livingUnits_13 : decode cX2_livingUnits 13 = .ok (.iload_n 2, 1) := by decide +kernel
theorem dX2_livingUnits_14 : decode cX2_livingUnits 14 = .ok (.invokevirtual 135, 3) := by decide +kernel
theorem dX2_livingUnits_17 : decode cX2_livingUnits 17 = .ok (.ifCond .eq 12, 3) := by decide +kernel
theorem dX2_livingUnits_20 : decode cX2_livingUnits 20 = .ok (.iload_n 1, 1) := by decide +kernel
theorem dX2_livingUnits_21 : decode cX2_livingUnits 21 = .ok (.aload_n 0, 1) := by decide +kernel
theorem dX2_livingUnits_22 : decode cX2_livingUnits 22 = .ok (.getfield 21, 3) := by decide +kernel
theorem dX2_livingUnits_25 : decode cX2_livingUnits 25 = .ok (.iload_n 2, 1) := by decide +kernel
theorem dX2_livingUnits_26 : decode cX2_livingUnits 26 = .ok (.iaload, 1) := by decide +kernel
theorem dX2_livingUnits_27 : decode cX2_livingUnits 27 = .ok (.iadd, 1) := by decide +kernel
theorem dX2_livingUnits_28 : decode cX2_livingUnits 28 = .ok (.istore_n 1, 1) := by decide +kernel
theorem dX2_livingUnits_29 : decode cX2_livingUnits 29 = .ok (.iinc 2 1, 3) := by decide +kernel
theorem dX2_livingUnits_32 : decode cX2_livingUnits 32 = .ok (.goto (-28), 3) := by decide +kernel
theorem dX2_livingUnits_35 : decode cX2_livingUnits 35 = .ok (.iload_n 1, 1) := by decide +kernel
theorem dX2_livingUnits_36 : decode cX2_livingUnits 36 = .ok (.ireturn, 1) := by decide +kernel
theorem dX2_deadUnits_0 : decode cX2_deadUnits 0 = .ok (.aload_n 0, 1) := by decide +kernel
theorem dX2_deadUnits_1 : decode cX2_deadUnits 1 = .ok (.getfield 34, 3) := by decide +kernel
theorem dX2_deadUnits_4 : decode cX2_deadUnits 4 = .ok (.aload_n 0, 1) := by decide +kernel
theorem dX2_deadUnits_5 : decode cX2_deadUnits 5 = .ok (.invokevirtual 120, 3) := by decide +kernel
theorem dX2_deadUnits_8 : decode cX2_deadUnits 8 = .ok (.isub, 1) := by decide +kernel
theorem dX2_deadUnits_9 : decode cX2_deadUnits 9 = .ok (.ireturn, 1) := by decide +kernel
theorem dX2_layText_0 : decode cX2_layText 0 = .ok (.aload_n 0, 1) := by decide +kernel
theorem dX2_layText_1 : decode cX2_layText 1 = .ok (.getfield 34, 3) := by decide +kernel
theorem dX2_layText_4 : decode cX2_layText 4 = .ok (.istore_n 2, 1) := by decide +kernel
theorem dX2_layText_5 : decode cX2_layText 5 = .ok (.aload_n 0, 1) := by decide +kernel
theorem dX2_layText_6 : decode cX2_layText 6 = .ok (.dup, 1) := by decide +kernel
theorem dX2_layText_7 : decode cX2_layText 7 = .ok (.getfield 34, 3) := by decide +kernel
theorem dX2_layText_10 : decode cX2_layText 10 = .ok (.iload_n 1, 1) := by decide +kernel
theorem dX2_layText_11 : decode cX2_layText 11 = .ok (.iadd, 1) := by decide +kernel
theorem dX2_layText_12 : decode cX2_layText 12 = .ok (.putfield 34, 3) := by decide +kernel
theorem dX2_layText_15 : decode cX2_layText 15 = .ok (.iload_n 2, 1) := by decide +kernel
theorem dX2_layText_16 : decode cX2_layText 16 = .ok (.ireturn, 1) := by decide +kernel
theorem dX2_tellAliases_0 : decode cX2_tellAliases 0 = .ok (.iconst 0, 1) := by decide +kernel
theorem dX2_tellAliases_1 : decode cX2_tellAliases 1 = .ok (.istore_n 3, 1) := by decide +kernel
theorem dX2_tellAliases_2 : decode cX2_tellAliases 2 = .ok (.iload_n 3, 1) := by decide +kernel
theorem dX2_tellAliases_3 : decode cX2_tellAliases 3 = .ok (.aload_n 0, 1) := by decide +kernel
theorem dX2_tellAliases_4 : decode cX2_tellAliases 4 = .ok (.getfield 27, 3) := by decide +kernel
theorem dX2_tellAliases_7 : decode cX2_tellAliases 7 = .ok (.if_icmp .ge 26, 3) := by decide +kernel
theorem dX2_tellAliases_10 : decode cX2_tellAliases 10 = .ok (.aload_n 0, 1) := by decide +kernel
theorem dX2_tellAliases_11 : decode cX2_tellAliases 11 = .ok (.getfield 15, 3) := by decide +kernel
theorem dX2_tellAliases_14 : decode cX2_tellAliases 14 = .ok (.iload_n 3, 1) := by decide +kernel
theorem dX2_tellAliases_15 : decode cX2_tellAliases 15 = .ok (.iaload, 1) := by decide +kernel
theorem dX2_tellAliases_16 : decode cX2_tellAliases 16 = .ok (.iload_n 1, 1) := by decide +kernel
theorem dX2_tellAliases_17 : decode cX2_tellAliases 17 = .ok (.if_icmp .ne 10, 3) := by decide +kernel
theorem dX2_tellAliases_20 : decode cX2_tellAliases 20 = .ok (.aload_n 0, 1) := by decide +kernel
theorem dX2_tellAliases_21 : decode cX2_tellAliases 21 = .ok (.getfield 15, 3) := by decide +kernel
theorem dX2_tellAliases_24 : decode cX2_tellAliases 24 = .ok (.iload_n 3, 1) := by decide +kernel
theorem dX2_tellAliases_25 : decode cX2_tellAliases 25 = .ok (.iload_n 2, 1) := by decide +kernel
theorem dX2_tellAliases_26 : decode cX2_tellAliases 26 = .ok (.iastore, 1) := by decide +kernel
theorem dX2_tellAliases_27 : decode cX2_tellAliases 27 = .ok (.iinc 3 1, 3) := by decide +kernel
theorem dX2_tellAliases_30 : decode cX2_tellAliases 30 = .ok (.goto (-28), 3) := by decide +kernel
theorem dX2_tellAliases_33 : decode cX2_tellAliases 33 = .ok (.return_, 1) := by decide +kernel
theorem dX2_insertEntry_0 : decode cX2_insertEntry 0 = .ok (.aload_n 0, 1) := by decide +kernel
theorem dX2_insertEntry_1 : decode cX2_insertEntry 1 = .ok (.invokevirtual 66, 3) := by decide +kernel
theorem dX2_insertEntry_4 : decode cX2_insertEntry 4 = .ok (.ifCond .eq 6, 3) := by decide +kernel
theorem dX2_insertEntry_7 : decode cX2_insertEntry 7 = .ok (.bipush (-6), 2) := by decide +kernel
theorem dX2_insertEntry_9 : decode cX2_insertEntry 9 = .ok (.ireturn, 1) := by decide +kernel
theorem dX2_insertEntry_10 : decode cX2_insertEntry 10 = .ok (.aload_n 0, 1) := by decide +kernel
theorem dX2_insertEntry_11 : decode cX2_insertEntry 11 = .ok (.iload_n 1, 1) := by decide +kernel
theorem dX2_insertEntry_12 : decode cX2_insertEntry 12 = .ok (.invokevirtual 123, 3) := by decide +kernel
theorem dX2_insertEntry_15 : decode cX2_insertEntry 15 = .ok (.istore 6, 2) := by decide +kernel
theorem dX2_insertEntry_17 : decode cX2_insertEntry 17 = .ok (.aload_n 0, 1) := by decide +kernel
theorem dX2_insertEntry_18 : decode cX2_insertEntry 18 = .ok (.iload 6, 2) := by decide +kernel
theorem dX2_insertEntry_20 : decode cX2_insertEntry 20 = .ok (.iload 6, 2) := by decide +kernel
theorem dX2_insertEntry_22 : decode cX2_insertEntry 22 = .ok (.iconst 1, 1) := by decide +kernel
theorem dX2_insertEntry_23 : decode cX2_insertEntry 23 = .ok (.iadd, 1) := by decide +kernel
theorem dX2_insertEntry_24 : decode cX2_insertEntry 24 = .ok (.aload_n 0, 1) := by decide +kernel
theorem dX2_insertEntry_25 : decode cX2_insertEntry 25 = .ok (.getfield 27, 3) := by decide +kernel
theorem dX2_insertEntry_28 : decode cX2_insertEntry 28 = .ok (.iload 6, 2) := by decide +kernel
theorem dX2_insertEntry_30 : decode cX2_insertEntry 30 = .ok (.isub, 1) := by decide +kernel
theorem dX2_insertEntry_31 : decode cX2_insertEntry 31 = .ok (.invokevirtual 138, 3) := by decide +kernel
theorem dX2_insertEntry_34 : decode cX2_insertEntry 34 = .ok (.aload_n 0, 1) := by decide +kernel
theorem dX2_insertEntry_35 : decode cX2_insertEntry 35 = .ok (.dup, 1) := by decide +kernel
theorem dX2_insertEntry_36 : decode cX2_insertEntry 36 = .ok (.getfield 27, 3) := by decide +kernel
theorem dX2_insertEntry_39 : decode cX2_insertEntry 39 = .ok (.iconst 1, 1) := by decide +kernel
theorem dX2_insertEntry_40 : decode cX2_insertEntry 40 = .ok (.iadd, 1) := by decide +kernel
theorem dX2_insertEntry_41 : decode cX2_insertEntry 41 = .ok (.putfield 27, 3) := by decide +kernel
theorem dX2_insertEntry_44 : decode cX2_insertEntry 44 = .ok (.aload_n 0, 1) := by decide +kernel
theorem dX2_insertEntry_45 : decode cX2_insertEntry 45 = .ok (.iload 6, 2) := by decide +kernel
theorem dX2_insertEntry_47 : decode cX2_insertEntry 47 = .ok (.iload_n 1, 1) := by decide +kernel
theorem dX2_insertEntry_48 : decode cX2_insertEntry 48 = .ok (.iload_n 2, 1) := by decide +kernel
theorem dX2_insertEntry_49 : decode cX2_insertEntry 49 = .ok (.iload_n 3, 1) := by decide +kernel
theorem dX2_insertEntry_50 : decode cX2_insertEntry 50 = .ok (.iload 4, 2) := by decide +kernel
theorem dX2_insertEntry_52 : decode cX2_insertEntry 52 = .ok (.iload 5, 2) := by decide +kernel
theorem dX2_insertEntry_54 : decode cX2_insertEntry 54 = .ok (.invokevirtual 83, 3) := by decide +kernel
theorem dX2_insertEntry_57 : decode cX2_insertEntry 57 = .ok (.iload 6, 2) := by decide +kernel
theorem dX2_insertEntry_59 : decode cX2_insertEntry 59 = .ok (.ireturn, 1) := by decide +kernel
theorem dX2_takeOut_0 : decode cX2_takeOut 0 = .ok (.aload_n 0, 1) := by decide +kernel
theorem dX2_takeOut_1 : decode cX2_takeOut 1 = .ok (.iload_n 1, 1) := by decide +kernel
theorem dX2_takeOut_2 : decode cX2_takeOut 2 = .ok (.invokevirtual 63, 3) := by decide +kernel
theorem dX2_takeOut_5 : decode cX2_takeOut 5 = .ok (.ifCond .eq 29, 3) := by decide +kernel
theorem dX2_takeOut_8 : decode cX2_takeOut 8 = .ok (.aload_n 0, 1) := by decide +kernel
theorem dX2_takeOut_9 : decode cX2_takeOut 9 = .ok (.iload_n 1, 1) := by decide +kernel
theorem dX2_takeOut_10 : decode cX2_takeOut 10 = .ok (.iconst 1, 1) := by decide +kernel
theorem dX2_takeOut_11 : decode cX2_takeOut 11 = .ok (.iadd, 1) := by decide +kernel
theorem dX2_takeOut_12 : decode cX2_takeOut 12 = .ok (.iload_n 1, 1) := by decide +kernel
theorem dX2_takeOut_13 : decode cX2_takeOut 13 = .ok (.aload_n 0, 1) := by decide +kernel
theorem dX2_takeOut_14 : decode cX2_takeOut 14 = .ok (.getfield 27, 3) := by decide +kernel
theorem dX2_takeOut_17 : decode cX2_takeOut 17 = .ok (.iload_n 1, 1) := by decide +kernel
theorem dX2_takeOut_18 : decode cX2_takeOut 18 = .ok (.isub, 1) := by decide +kernel
theorem dX2_takeOut_19 : decode cX2_takeOut 19 = .ok (.iconst 1, 1) := by decide +kernel
theorem dX2_takeOut_20 : decode cX2_takeOut 20 = .ok (.isub, 1) := by decide +kernel
theorem dX2_takeOut_21 : decode cX2_takeOut 21 = .ok (.invokevirtual 138, 3) := by decide +kernel
theorem dX2_takeOut_24 : decode cX2_takeOut 24 = .ok (.aload_n 0, 1) := by decide +kernel
theorem dX2_takeOut_25 : decode cX2_takeOut 25 = .ok (.dup, 1) := by decide +kernel
theorem dX2_takeOut_26 : decode cX2_takeOut 26 = .ok (.getfield 27, 3) := by decide +kernel
theorem dX2_takeOut_29 : decode cX2_takeOut 29 = .ok (.iconst 1, 1) := by decide +kernel
theorem dX2_takeOut_30 : decode cX2_takeOut 30 = .ok (.isub, 1) := by decide +kernel
theorem dX2_takeOut_31 : decode cX2_takeOut 31 = .ok (.putfield 27, 3) := by decide +kernel
theorem dX2_takeOut_34 : decode cX2_takeOut 34 = .ok (.return_, 1) := by decide +kernel
theorem dX2_setEntry_0 : decode cX2_setEntry 0 = .ok (.aload_n 0, 1) := by decide +kernel
theorem dX2_setEntry_1 : decode cX2_setEntry 1 = .ok (.iload_n 1, 1) := by decide +kernel
theorem dX2_setEntry_2 : decode cX2_setEntry 2 = .ok (.invokevirtual 63, 3) := by decide +kernel
theorem dX2_setEntry_5 : decode cX2_setEntry 5 = .ok (.ifCond .eq 41, 3) := by decide +kernel
theorem dX2_setEntry_8 : decode cX2_setEntry 8 = .ok (.aload_n 0, 1) := by decide +kernel
theorem dX2_setEntry_9 : decode cX2_setEntry 9 = .ok (.getfield 9, 3) := by decide +kernel
theorem dX2_setEntry_12 : decode cX2_setEntry 12 = .ok (.iload_n 1, 1) := by decide +kernel
theorem dX2_setEntry_13 : decode cX2_setEntry 13 = .ok (.iload_n 2, 1) := by decide +kernel
theorem dX2_setEntry_14 : decode cX2_setEntry 14 = .ok (.iastore, 1) := by decide +kernel
theorem dX2_setEntry_15 : decode cX2_setEntry 15 = .ok (.aload_n 0, 1) := by decide +kernel
theorem dX2_setEntry_16 : decode cX2_setEntry 16 = .ok (.getfield 15, 3) := by decide +kernel
theorem dX2_setEntry_19 : decode cX2_setEntry 19 = .ok (.iload_n 1, 1) := by decide +kernel
theorem dX2_setEntry_20 : decode cX2_setEntry 20 = .ok (.iload_n 3, 1) := by decide +kernel
theorem dX2_setEntry_21 : decode cX2_setEntry 21 = .ok (.iastore, 1) := by decide +kernel
theorem dX2_setEntry_22 : decode cX2_setEntry 22 = .ok (.aload_n 0, 1) := by decide +kernel
theorem dX2_setEntry_23 : decode cX2_setEntry 23 = .ok (.getfield 18, 3) := by decide +kernel
theorem dX2_setEntry_26 : decode cX2_setEntry 26 = .ok (.iload_n 1, 1) := by decide +kernel
theorem dX2_setEntry_27 : decode cX2_setEntry 27 = .ok (.iload 4, 2) := by decide +kernel
theorem dX2_setEntry_29 : decode cX2_setEntry 29 = .ok (.iastore, 1) := by decide +kernel
theorem dX2_setEntry_30 : decode cX2_setEntry 30 = .ok (.aload_n 0, 1) := by decide +kernel
theorem dX2_setEntry_31 : decode cX2_setEntry 31 = .ok (.getfield 21, 3) := by decide +kernel
theorem dX2_setEntry_34 : decode cX2_setEntry 34 = .ok (.iload_n 1, 1) := by decide +kernel
theorem dX2_setEntry_35 : decode cX2_setEntry 35 = .ok (.iload 5, 2) := by decide +kernel
theorem dX2_setEntry_37 : decode cX2_setEntry 37 = .ok (.iastore, 1) := by decide +kernel
theorem dX2_setEntry_38 : decode cX2_setEntry 38 = .ok (.aload_n 0, 1) := by decide +kernel
theorem dX2_setEntry_39 : decode cX2_setEntry 39 = .ok (.getfield 24, 3) := by decide +kernel
theorem dX2_setEntry_42 : decode cX2_setEntry 42 = .ok (.iload_n 1, 1) := by decide +kernel
theorem dX2_setEntry_43 : decode cX2_setEntry 43 = .ok (.iload 6, 2) := by decide +kernel
theorem dX2_setEntry_45 : decode cX2_setEntry 45 = .ok (.iastore, 1) := by decide +kernel
theorem dX2_setEntry_46 : decode cX2_setEntry 46 = .ok (.return_, 1) := by decide +kernel
theorem dX2_moveEntries_0 : decode cX2_moveEntries 0 = .ok (.iload_n 1, 1) := by decide +kernel
theorem dX2_moveEntries_1 : decode cX2_moveEntries 1 = .ok (.ifCond .lt 23, 3) := by decide +kernel
theorem dX2_moveEntries_4 : decode cX2_moveEntries 4 = .ok (.iload_n 2, 1) := by decide +kernel
theorem dX2_moveEntries_5 : decode cX2_moveEntries 5 = .ok (.ifCond .lt 19, 3) := by decide +kernel
theorem dX2_moveEntries_8 : decode cX2_moveEntries 8 = .ok (.iload_n 3, 1) := by decide +kernel
theorem dX2_moveEntries_9 : decode cX2_moveEntries 9 = .ok (.ifCond .lt 15, 3) := by decide +kernel
theorem dX2_moveEntries_12 : decode cX2_moveEntries 12 = .ok (.iload_n 1, 1) := by decide +kernel
theorem dX2_moveEntries_13 : decode cX2_moveEntries 13 = .ok (.iload_n 2, 1) := by decide +kernel
theorem dX2_moveEntries_14 : decode cX2_moveEntries 14 = .ok (.invokestatic 114, 3) := by decide +kernel
theorem dX2_moveEntries_17 : decode cX2_moveEntries 17 = .ok (.bipush 24, 2) := by decide +kernel
theorem dX2_moveEntries_19 : decode cX2_moveEntries 19 = .ok (.iload_n 3, 1) := by decide +kernel
theorem dX2_moveEntries_20 : decode cX2_moveEntries 20 = .ok (.isub, 1) := by decide +kernel
theorem dX2_moveEntries_21 : decode cX2_moveEntries 21 = .ok (.if_icmp .le 4, 3) := by decide +kernel
theorem dX2_moveEntries_24 : decode cX2_moveEntries 24 = .ok (.return_, 1) := by decide +kernel
theorem dX2_moveEntries_25 : decode cX2_moveEntries 25 = .ok (.aload_n 0, 1) := by decide +kernel
theorem dX2_moveEntries_26 : decode cX2_moveEntries 26 = .ok (.getfield 9, 3) := by decide +kernel
theorem dX2_moveEntries_29 : decode cX2_moveEntries 29 = .ok (.iload_n 1, 1) := by decide +kernel
theorem dX2_moveEntries_30 : decode cX2_moveEntries 30 = .ok (.aload_n 0, 1) := by decide +kernel
theorem dX2_moveEntries_31 : decode cX2_moveEntries 31 = .ok (.getfield 9, 3) := by decide +kernel
theorem dX2_moveEntries_34 : decode cX2_moveEntries 34 = .ok (.iload_n 2, 1) := by decide +kernel
theorem dX2_moveEntries_35 : decode cX2_moveEntries 35 = .ok (.iload_n 3, 1) := by decide +kernel
theorem dX2_moveEntries_36 : decode cX2_moveEntries 36 = .ok (.invokestatic 43, 3) := by decide +kernel
theorem dX2_moveEntries_39 : decode cX2_moveEntries 39 = .ok (.aload_n 0, 1) := by decide +kernel
theorem dX2_moveEntries_40 : decode cX2_moveEntries 40 = .ok (.getfield 15, 3) := by decide +kernel
theorem dX2_moveEntries_43 : decode cX2_moveEntries 43 = .ok (.iload_n 1, 1) := by decide +kernel
theorem dX2_moveEntries_44 : decode cX2_moveEntries 44 = .ok (.aload_n 0, 1) := by decide +kernel
theorem dX2_moveEntries_45 : decode cX2_moveEntries 45 = .ok (.getfield 15, 3) := by decide +kernel
theorem dX2_moveEntries_48 : decode cX2_moveEntries 48 = .ok (.iload_n 2, 1) := by decide +kernel
theorem dX2_moveEntries_49 : decode cX2_moveEntries 49 = .ok (.iload_n 3, 1) := by decide +kernel
theorem dX2_moveEntries_50 : decode cX2_moveEntries 50 = .ok (.invokestatic 43, 3) := by decide +kernel
theorem dX2_moveEntries_53 : decode cX2_moveEntries 53 = .ok (.aload_n 0, 1) := by decide +kernel
theorem dX2_moveEntries_54 : decode cX2_moveEntries 54 = .ok (.getfield 18, 3) := by decide +kernel
theorem dX2_moveEntries_57 : decode cX2_moveEntries 57 = .ok (.iload_n 1, 1) := by decide +kernel
theorem dX2_moveEntries_58 : decode cX2_moveEntries 58 = .ok (.aload_n 0, 1) := by decide +kernel
theorem dX2_moveEntries_59 : decode cX2_moveEntries 59 = .ok (.getfield 18, 3) := by decide +kernel
theorem dX2_moveEntries_62 : decode cX2_moveEntries 62 = .ok (.iload_n 2, 1) := by decide +kernel
theorem dX2_moveEntries_63 : decode cX2_moveEntries 63 = .ok (.iload_n 3, 1) := by decide +kernel
theorem dX2_moveEntries_64 : decode cX2_moveEntries 64 = .ok (.invokestatic 43, 3) := by decide +kernel
theorem dX2_moveEntries_67 : decode cX2_moveEntries 67 = .ok (.aload_n 0, 1) := by decide +kernel
theorem dX2_moveEntries_68 : decode cX2_moveEntries 68 = .ok (.getfield 21, 3) := by decide +kernel
theorem dX2_moveEntries_71 : decode cX2_moveEntries 71 = .ok (.iload_n 1, 1) := by decide +kernel
theorem dX2_moveEntries_72 : decode cX2_moveEntries 72 = .ok (.aload_n 0, 1) := by decide +kernel
theorem dX2_moveEntries_73 : decode cX2_moveEntries 73 = .ok (.getfield 21, 3) := by decide +kernel
theorem dX2_moveEntries_76 : decode cX2_moveEntries 76 = .ok (.iload_n 2, 1) := by decide +kernel
theorem dX2_moveEntries_77 : decode cX2_moveEntries 77 = .ok (.iload_n 3, 1) := by decide +kernel
theorem dX2_moveEntries_78 : decode cX2_moveEntries 78 = .ok (.invokestatic 43, 3) := by decide +kernel
theorem dX2_moveEntries_81 : decode cX2_moveEntries 81 = .ok (.aload_n 0, 1) := by decide +kernel
theorem dX2_moveEntries_82 : decode cX2_moveEntries 82 = .ok (.getfield 24, 3) := by decide +kernel
theorem dX2_moveEntries_85 : decode cX2_moveEntries 85 = .ok (.iload_n 1, 1) := by decide +kernel
theorem dX2_moveEntries_86 : decode cX2_moveEntries 86 = .ok (.aload_n 0, 1) := by decide +kernel
theorem dX2_moveEntries_87 : decode cX2_moveEntries 87 = .ok (.getfield 24, 3) := by decide +kernel
theorem dX2_moveEntries_90 : decode cX2_moveEntries 90 = .ok (.iload_n 2, 1) := by decide +kernel
theorem dX2_moveEntries_91 : decode cX2_moveEntries 91 = .ok (.iload_n 3, 1) := by decide +kernel
theorem dX2_moveEntries_92 : decode cX2_moveEntries 92 = .ok (.invokestatic 43, 3) := by decide +kernel
theorem dX2_moveEntries_95 : decode cX2_moveEntries 95 = .ok (.return_, 1) := by decide +kernel
theorem dX2_closeUp_0 : decode cX2_closeUp 0 = .ok (.iconst 0, 1) := by decide +kernel
theorem dX2_closeUp_1 : decode cX2_closeUp 1 = .ok (.istore_n 1, 1) := by decide +kernel
theorem dX2_closeUp_2 : decode cX2_closeUp 2 = .ok (.iconst 0, 1) := by decide +kernel
theorem dX2_closeUp_3 : decode cX2_closeUp 3 = .ok (.istore_n 2, 1) := by decide +kernel
theorem dX2_closeUp_4 : decode cX2_closeUp 4 = .ok (.iload_n 2, 1) := by decide +kernel
theorem dX2_closeUp_5 : decode cX2_closeUp 5 = .ok (.bipush 100, 2) := by decide +kernel
theorem dX2_closeUp_7 : decode cX2_closeUp 7 = .ok (.if_icmp .ge 18, 3) := by decide +kernel
theorem dX2_closeUp_10 : decode cX2_closeUp 10 = .ok (.iload_n 1, 1) := by decide +kernel
theorem dX2_closeUp_11 : decode cX2_closeUp 11 = .ok (.aload_n 0, 1) := by decide +kernel
theorem dX2_closeUp_12 : decode cX2_closeUp 12 = .ok (.iload_n 2, 1) := by decide +kernel
theorem dX2_closeUp_13 : decode cX2_closeUp 13 = .ok (.iload_n 1, 1) := by decide +kernel
theorem dX2_closeUp_14 : decode cX2_closeUp 14 = .ok (.invokevirtual 142, 3) := by decide +kernel
theorem dX2_closeUp_17 : decode cX2_closeUp 17 = .ok (.iadd, 1) := by decide +kernel
theorem dX2_closeUp_18 : decode cX2_closeUp 18 = .ok (.istore_n 1, 1) := by decide +kernel
theorem dX2_closeUp_19 : decode cX2_closeUp 19 = .ok (.iinc 2 1, 3) := by decide +kernel
theorem dX2_closeUp_22 : decode cX2_closeUp 22 = .ok (.goto (-18), 3) := by decide +kernel
theorem dX2_closeUp_25 : decode cX2_closeUp 25 = .ok (.aload_n 0, 1) := by decide +kernel
theorem dX2_closeUp_26 : decode cX2_closeUp 26 = .ok (.getfield 34, 3) := by decide +kernel
theorem dX2_closeUp_29 : decode cX2_closeUp 29 = .ok (.iload_n 1, 1) := by decide +kernel
theorem dX2_closeUp_30 : decode cX2_closeUp 30 = .ok (.isub, 1) := by decide +kernel
theorem dX2_closeUp_31 : decode cX2_closeUp 31 = .ok (.istore_n 2, 1) := by decide +kernel
theorem dX2_closeUp_32 : decode cX2_closeUp 32 = .ok (.aload_n 0, 1) := by decide +kernel
theorem dX2_closeUp_33 : decode cX2_closeUp 33 = .ok (.iload_n 1, 1) := by decide +kernel
theorem dX2_closeUp_34 : decode cX2_closeUp 34 = .ok (.putfield 34, 3) := by decide +kernel
theorem dX2_closeUp_37 : decode cX2_closeUp 37 = .ok (.aload_n 0, 1) := by decide +kernel
theorem dX2_closeUp_38 : decode cX2_closeUp 38 = .ok (.dup, 1) := by decide +kernel
theorem dX2_closeUp_39 : decode cX2_closeUp 39 = .ok (.getfield 37, 3) := by decide +kernel
theorem dX2_closeUp_42 : decode cX2_closeUp 42 = .ok (.iconst 1, 1) := by decide +kernel
theorem dX2_closeUp_43 : decode cX2_closeUp 43 = .ok (.iadd, 1) := by decide +kernel
theorem dX2_closeUp_44 : decode cX2_closeUp 44 = .ok (.putfield 37, 3) := by decide +kernel
theorem dX2_closeUp_47 : decode cX2_closeUp 47 = .ok (.aload_n 0, 1) := by decide +kernel
theorem dX2_closeUp_48 : decode cX2_closeUp 48 = .ok (.dup, 1) := by decide +kernel
theorem dX2_closeUp_49 : decode cX2_closeUp 49 = .ok (.getfield 40, 3) := by decide +kernel
theorem dX2_closeUp_52 : decode cX2_closeUp 52 = .ok (.iload_n 2, 1) := by decide +kernel
theorem dX2_closeUp_53 : decode cX2_closeUp 53 = .ok (.iadd, 1) := by decide +kernel
theorem dX2_closeUp_54 : decode cX2_closeUp 54 = .ok (.putfield 40, 3) := by decide +kernel
theorem dX2_closeUp_57 : decode cX2_closeUp 57 = .ok (.iload_n 2, 1) := by decide +kernel
theorem dX2_closeUp_58 : decode cX2_closeUp 58 = .ok (.ireturn, 1) := by decide +kernel
theorem dX2_moveText_0 : decode cX2_moveText 0 = .ok (.iconst 0, 1) := by decide +kernel
theorem dX2_moveText_1 : decode cX2_moveText 1 = .ok (.istore_n 3, 1) := by decide +kernel
theorem dX2_moveText_2 : decode cX2_moveText 2 = .ok (.iconst 0, 1) := by decide +kernel
theorem dX2_moveText_3 : decode cX2_moveText 3 = .ok (.istore 4, 2) := by decide +kernel
theorem dX2_moveText_5 : decode cX2_moveText 5 = .ok (.iload 4, 2) := by decide +kernel
theorem dX2_moveText_7 : decode cX2_moveText 7 = .ok (.aload_n 0, 1) := by decide +kernel
theorem dX2_moveText_8 : decode cX2_moveText 8 = .ok (.getfield 27, 3) := by decide +kernel
theorem dX2_moveText_11 : decode cX2_moveText 11 = .ok (.if_icmp .ge 36, 3) := by decide +kernel
theorem dX2_moveText_14 : decode cX2_moveText 14 = .ok (.aload_n 0, 1) := by decide +kernel
theorem dX2_moveText_15 : decode cX2_moveText 15 = .ok (.getfield 18, 3) := by decide +kernel
theorem dX2_moveText_18 : decode cX2_moveText 18 = .ok (.iload 4, 2) := by decide +kernel
theorem dX2_moveText_20 : decode cX2_moveText 20 = .ok (.iaload, 1) := by decide +kernel
theorem dX2_moveText_21 : decode cX2_moveText 21 = .ok (.iload_n 1, 1) := by decide +kernel
theorem dX2_moveText_22 : decode cX2_moveText 22 = .ok (.if_icmp .ne 19, 3) := by decide +kernel
theorem dX2_moveText_25 : decode cX2_moveText 25 = .ok (.aload_n 0, 1) := by decide +kernel
theorem dX2_moveText_26 : decode cX2_moveText 26 = .ok (.getfield 18, 3) := by decide +kernel
theorem dX2_moveText_29 : decode cX2_moveText 29 = .ok (.iload 4, 2) := by decide +kernel
theorem dX2_moveText_31 : decode cX2_moveText 31 = .ok (.iload_n 2, 1) := by decide +kernel
theorem dX2_moveText_32 : decode cX2_moveText 32 = .ok (.iastore, 1) := by decide +kernel
theorem dX2_moveText_33 : decode cX2_moveText 33 = .ok (.aload_n 0, 1) := by decide +kernel
theorem dX2_moveText_34 : decode cX2_moveText 34 = .ok (.getfield 21, 3) := by decide +kernel
theorem dX2_moveText_37 : decode cX2_moveText 37 = .ok (.iload 4, 2) := by decide +kernel
theorem dX2_moveText_39 : decode cX2_moveText 39 = .ok (.iaload, 1) := by decide +kernel
theorem dX2_moveText_40 : decode cX2_moveText 40 = .ok (.istore_n 3, 1) := by decide +kernel
theorem dX2_moveText_41 : decode cX2_moveText 41 = .ok (.iinc 4 1, 3) := by decide +kernel
theorem dX2_moveText_44 : decode cX2_moveText 44 = .ok (.goto (-39), 3) := by decide +kernel
theorem dX2_moveText_47 : decode cX2_moveText 47 = .ok (.iload_n 3, 1) := by decide +kernel
theorem dX2_moveText_48 : decode cX2_moveText 48 = .ok (.ireturn, 1) := by decide +kernel
theorem dX3_init_0 : decode cX3_init 0 = .ok (.aload_n 0, 1) := by decide +kernel
theorem dX3_init_1 : decode cX3_init 1 = .ok (.invokespecial 3, 3) := by decide +kernel
theorem dX3_init_4 : decode cX3_init 4 = .ok (.aload_n 0, 1) := by decide +kernel
theorem dX3_init_5 : decode cX3_init 5 = .ok (.new 9, 3) := by decide +kernel
theorem dX3_init_8 : decode cX3_init 8 = .ok (.dup, 1) := by decide +kernel
theorem dX3_init_9 : decode cX3_init 9 = .ok (.invokespecial 11, 3) := by decide +kernel
theorem dX3_init_12 : decode cX3_init 12 = .ok (.putfield 12, 3) := by decide +kernel
theorem dX3_init_15 : decode cX3_init 15 = .ok (.aload_n 0, 1) := by decide +kernel
theorem dX3_init_16 : decode cX3_init 16 = .ok (.new 9, 3) := by decide +kernel
theorem dX3_init_19 : decode cX3_init 19 = .ok (.dup, 1) := by decide +kernel
theorem dX3_init_20 : decode cX3_init 20 = .ok (.invokespecial 11, 3) := by decide +kernel
theorem dX3_init_23 : decode cX3_init 23 = .ok (.putfield 16, 3) := by decide +kernel
theorem dX3_init_26 : decode cX3_init 26 = .ok (.aload_n 0, 1) := by decide +kernel
theorem dX3_init_27 : decode cX3_init 27 = .ok (.new 9, 3) := by decide +kernel
theorem dX3_init_30 : decode cX3_init 30 = .ok (.dup, 1) := by decide +kernel
theorem dX3_init_31 : decode cX3_init 31 = .ok (.invokespecial 11, 3) := by decide +kernel
theorem dX3_init_34 : decode cX3_init 34 = .ok (.putfield 19, 3) := by decide +kernel
theorem dX3_init_37 : decode cX3_init 37 = .ok (.aload_n 0, 1) := by decide +kernel
theorem dX3_init_38 : decode cX3_init 38 = .ok (.iconst 0, 1) := by decide +kernel
theorem dX3_init_39 : decode cX3_init 39 = .ok (.putfield 22, 3) := by decide +kernel
theorem dX3_init_42 : decode cX3_init 42 = .ok (.aload_n 0, 1) := by decide +kernel
theorem dX3_init_43 : decode cX3_init 43 = .ok (.new 26, 3) := by decide +kernel
theorem dX3_init_46 : decode cX3_init 46 = .ok (.dup, 1) := by decide +kernel
theorem dX3_init_47 : decode cX3_init 47 = .ok (.invokespecial 28, 3) := by decide +kernel
theorem dX3_init_50 : decode cX3_init 50 = .ok (.putfield 29, 3) := by decide +kernel
theorem dX3_init_53 : decode cX3_init 53 = .ok (.aload_n 0, 1) := by decide +kernel
theorem dX3_init_54 : decode cX3_init 54 = .ok (.new 33, 3) := by decide +kernel
theorem dX3_init_57 : decode cX3_init 57 = .ok (.dup, 1) := by decide +kernel
theorem dX3_init_58 : decode cX3_init 58 = .ok (.invokespecial 35, 3) := by decide +kernel
theorem dX3_init_61 : decode cX3_init 61 = .ok (.putfield 36, 3) := by decide +kernel
theorem dX3_init_64 : decode cX3_init 64 = .ok (.return_, 1) := by decide +kernel
theorem dX3_add_0 : decode cX3_add 0 = .ok (.aload_n 0, 1) := by decide +kernel
theorem dX3_add_1 : decode cX3_add 1 = .ok (.getfield 16, 3) := by decide +kernel
theorem dX3_add_4 : decode cX3_add 4 = .ok (.aload_n 0, 1) := by decide +kernel
theorem dX3_add_5 : decode cX3_add 5 = .ok (.getfield 12, 3) := by decide +kernel
theorem dX3_add_8 : decode cX3_add 8 = .ok (.invokevirtual 40, 3) := by decide +kernel
theorem dX3_add_11 : decode cX3_add 11 = .ok (.aload_n 0, 1) := by decide +kernel
theorem dX3_add_12 : decode cX3_add 12 = .ok (.aload_n 0, 1) := by decide +kernel
theorem dX3_add_13 : decode cX3_add 13 = .ok (.getfield 16, 3) := by decide +kernel
theorem dX3_add_16 : decode cX3_add 16 = .ok (.iload_n 1, 1) := by decide +kernel
theorem dX3_add_17 : decode cX3_add 17 = .ok (.iload_n 2, 1) := by decide +kernel
theorem dX3_add_18 : decode cX3_add 18 = .ok (.iload_n 3, 1) := by decide +kernel
theorem dX3_add_19 : decode cX3_add 19 = .ok (.invokevirtual 44, 3) := by decide +kernel
theorem dX3_add_22 : decode cX3_add 22 = .ok (.invokevirtual 48, 3) := by decide +kernel
theorem dX3_add_25 : decode cX3_add 25 = .ok (.ireturn, 1) := by decide +kernel
theorem dX3_replace_0 : decode cX3_replace 0 = .ok (.aload_n 0, 1) := by decide +kernel
theorem dX3_replace_1 : decode cX3_replace 1 = .ok (.getfield 16, 3) := by decide +kernel
theorem dX3_replace_4 : decode cX3_replace 4 = .ok (.aload_n 0, 1) := by decide +kernel
theorem dX3_replace_5 : decode cX3_replace 5 = .ok (.getfield 12, 3) := by decide +kernel
theorem dX3_replace_8 : decode cX3_replace 8 = .ok (.invokevirtual 40, 3) := by decide +kernel
theorem dX3_replace_11 : decode cX3_replace 11 = .ok (.aload_n 0, 1) := by decide +kernel
theorem dX3_replace_12 : decode cX3_replace 12 = .ok (.aload_n 0, 1) := by decide +kernel
theorem dX3_replace_13 : decode cX3_replace 13 = .ok (.getfield 16, 3) := by decide +kernel
theorem dX3_replace_16 : decode cX3_replace 16 = .ok (.iload_n 1, 1) := by decide +kernel
theorem dX3_replace_17 : decode cX3_replace 17 = .ok (.iload_n 2, 1) := by decide +kernel
theorem dX3_replace_18 : decode cX3_replace 18 = .ok (.iload_n 3, 1) := by decide +kernel
theorem dX3_replace_19 : decode cX3_replace 19 = .ok (.invokevirtual 52, 3) := by decide +kernel
theorem dX3_replace_22 : decode cX3_replace 22 = .ok (.invokevirtual 48, 3) := by decide +kernel
theorem dX3_replace_25 : decode cX3_replace 25 = .ok (.ireturn, 1) := by decide +kernel
theorem dX3_remove_0 : decode cX3_remove 0 = .ok (.aload_n 0, 1) := by decide +kernel
theorem dX3_remove_1 : decode cX3_remove 1 = .ok (.getfield 16, 3) := by decide +kernel
theorem dX3_remove_4 : decode cX3_remove 4 = .ok (.aload_n 0, 1) := by decide +kernel
theorem dX3_remove_5 : decode cX3_remove 5 = .ok (.getfield 12, 3) := by decide +kernel
theorem dX3_remove_8 : decode cX3_remove 8 = .ok (.invokevirtual 40, 3) := by decide +kernel
theorem dX3_remove_11 : decode cX3_remove 11 = .ok (.aload_n 0, 1) := by decide +kernel
theorem dX3_remove_12 : decode cX3_remove 12 = .ok (.aload_n 0, 1) := by decide +kernel
theorem dX3_remove_13 : decode cX3_remove 13 = .ok (.getfield 16, 3) := by decide +kernel
theorem dX3_remove_16 : decode cX3_remove 16 = .ok (.iload_n 1, 1) := by decide +kernel
theorem dX3_remove_17 : decode cX3_remove 17 = .ok (.invokevirtual 55, 3) := by decide +kernel
theorem dX3_remove_20 : decode cX3_remove 20 = .ok (.invokevirtual 48, 3) := by decide +kernel
theorem dX3_remove_23 : decode cX3_remove 23 = .ok (.ireturn, 1) := by decide +kernel
theorem dX3_rename_0 : decode cX3_rename 0 = .ok (.aload_n 0, 1) := by decide +kernel
theorem dX3_rename_1 : decode cX3_rename 1 = .ok (.getfield 16, 3) := by decide +kernel
theorem dX3_rename_4 : decode cX3_rename 4 = .ok (.aload_n 0, 1) := by decide +kernel
theorem dX3_rename_5 : decode cX3_rename 5 = .ok (.getfield 12, 3) := by decide +kernel
theorem dX3_rename_8 : decode cX3_rename 8 = .ok (.invokevirtual 40, 3) := by decide +kernel
theorem dX3_rename_11 : decode cX3_rename 11 = .ok (.aload_n 0, 1) := by decide +kernel
theorem dX3_rename_12 : decode cX3_rename 12 = .ok (.aload_n 0, 1) := by decide +kernel
theorem dX3_rename_13 : decode cX3_rename 13 = .ok (.getfield 16, 3) := by decide +kernel
theorem dX3_rename_16 : decode cX3_rename 16 = .ok (.iload_n 1, 1) := by decide +kernel
theorem dX3_rename_17 : decode cX3_rename 17 = .ok (.iload_n 2, 1) := by decide +kernel
theorem dX3_rename_18 : decode cX3_rename 18 = .ok (.invokevirtual 58, 3) := by decide +kernel
theorem dX3_rename_21 : decode cX3_rename 21 = .ok (.invokevirtual 48, 3) := by decide +kernel
theorem dX3_rename_24 : decode cX3_rename 24 = .ok (.ireturn, 1) := by decide +kernel
theorem dX3_alias_0 : decode cX3_alias 0 = .ok (.aload_n 0, 1) := by decide +kernel
theorem dX3_alias_1 : decode cX3_alias 1 = .ok (.getfield 16, 3) := by decide +kernel
theorem dX3_alias_4 : decode cX3_alias 4 = .ok (.aload_n 0, 1) := by decide +kernel
theorem dX3_alias_5 : decode cX3_alias 5 = .ok (.getfield 12, 3) := by decide +kernel
theorem dX3_alias_8 : decode cX3_alias 8 = .ok (.invokevirtual 40, 3) := by decide +kernel
theorem dX3_alias_11 : decode cX3_alias 11 = .ok (.aload_n 0, 1) := by decide +kernel
theorem dX3_alias_12 : decode cX3_alias 12 = .ok (.aload_n 0, 1) := by decide +kernel
theorem dX3_alias_13 : decode cX3_alias 13 = .ok (.getfield 16, 3) := by decide +kernel
theorem dX3_alias_16 : decode cX3_alias 16 = .ok (.iload_n 1, 1) := by decide +kernel
theorem dX3_alias_17 : decode cX3_alias 17 = .ok (.iload_n 2, 1) := by decide +kernel
theorem dX3_alias_18 : decode cX3_alias 18 = .ok (.invokevirtual 62, 3) := by decide +kernel
theorem dX3_alias_21 : decode cX3_alias 21 = .ok (.invokevirtual 48, 3) := by decide +kernel
theorem dX3_alias_24 : decode cX3_alias 24 = .ok (.ireturn, 1) := by decide +kernel
theorem dX3_addAll_0 : decode cX3_addAll 0 = .ok (.aload_n 0, 1) := by decide +kernel
theorem dX3_addAll_1 : decode cX3_addAll 1 = .ok (.getfield 36, 3) := by decide +kernel
theorem dX3_addAll_4 : decode cX3_addAll 4 = .ok (.invokevirtual 65, 3) := by decide +kernel
theorem dX3_addAll_7 : decode cX3_addAll 7 = .ok (.istore_n 1, 1) := by decide +kernel
theorem dX3_addAll_8 : decode cX3_addAll 8 = .ok (.iload_n 1, 1) := by decide +kernel
theorem dX3_addAll_9 : decode cX3_addAll 9 = .ok (.iconst (-1), 1) := by decide +kernel
theorem dX3_addAll_10 : decode cX3_addAll 10 = .ok (.if_icmp .eq 8, 3) := by decide +kernel
theorem dX3_addAll_13 : decode cX3_addAll 13 = .ok (.bipush (-100), 2) := by decide +kernel
theorem dX3_addAll_15 : decode cX3_addAll 15 = .ok (.iload_n 1, 1) := by decide +kernel
theorem dX3_addAll_16 : decode cX3_addAll 16 = .ok (.isub, 1) := by decide +kernel
theorem dX3_addAll_17 : decode cX3_addAll 17 = .ok (.ireturn, 1) := by decide +kernel
theorem dX3_addAll_18 : decode cX3_addAll 18 = .ok (.aload_n 0, 1) := by decide +kernel
theorem dX3_addAll_19 : decode cX3_addAll 19 = .ok (.getfield 16, 3) := by decide +kernel
theorem dX3_addAll_22 : decode cX3_addAll 22 = .ok (.aload_n 0, 1) := by decide +kernel
theorem dX3_addAll_23 : decode cX3_addAll 23 = .ok (.getfield 12, 3) := by decide +kernel
theorem dX3_addAll_26 : decode cX3_addAll 26 = .ok (.invokevirtual 40, 3) := by decide +kernel
theorem dX3_addAll_29 : decode cX3_addAll 29 = .ok (.aload_n 0, 1) := by decide +kernel
theorem dX3_addAll_30 : decode cX3_addAll 30 = .ok (.aload_n 0, 1) := by decide +kernel
theorem dX3_addAll_31 : decode cX3_addAll 31 = .ok (.getfield 36, 3) := by decide +kernel
theorem dX3_addAll_34 : decode cX3_addAll 34 = .ok (.aload_n 0, 1) := by decide +kernel
theorem dX3_addAll_35 : decode cX3_addAll 35 = .ok (.getfield 16, 3) := by decide +kernel
theorem dX3_addAll_38 : decode cX3_addAll 38 = .ok (.invokevirtual 69, 3) := by decide +kernel
theorem dX3_addAll_41 : decode cX3_addAll 41 = .ok (.invokevirtual 48, 3) := by decide +kernel
theorem dX3_addAll_44 : decode cX3_addAll 44 = .ok (.ireturn, 1) := by decide +kernel
theorem dX3_squeeze_0 : decode cX3_squeeze 0 = .ok (.aload_n 0, 1) := by decide +kernel
theorem dX3_squeeze_1 : decode cX3_squeeze 1 = .ok (.getfield 16, 3) := by decide +kernel
theorem dX3_squeeze_4 : decode cX3_squeeze 4 = .ok (.aload_n 0, 1) := by decide +kernel
theorem dX3_squeeze_5 : decode cX3_squeeze 5 = .ok (.getfield 12, 3) := by decide +kernel
theorem dX3_squeeze_8 : decode cX3_squeeze 8 = .ok (.invokevirtual 40, 3) := by decide +kernel
theorem dX3_squeeze_11 : decode cX3_squeeze 11 = .ok (.aload_n 0, 1) := by decide +kernel
theorem dX3_squeeze_12 : decode cX3_squeeze 12 = .ok (.aload_n 0, 1) := by decide +kernel
theorem dX3_squeeze_13 : decode cX3_squeeze 13 = .ok (.getfield 16, 3) := by decide +kernel
theorem dX3_squeeze_16 : decode cX3_squeeze 16 = .ok (.invokevirtual 73, 3) := by decide +kernel
theorem dX3_squeeze_19 : decode cX3_squeeze 19 = .ok (.invokevirtual 48, 3) := by decide +kernel
theorem dX3_squeeze_22 : decode cX3_squeeze 22 = .ok (.ireturn, 1) := by decide +kernel
theorem dX3_makeAnew_0 : decode cX3_makeAnew 0 = .ok (.aload_n 0, 1) := by decide +kernel
theorem dX3_makeAnew_1 : decode cX3_makeAnew 1 = .ok (.getfield 16, 3) := by decide +kernel
theorem dX3_makeAnew_4 : decode cX3_makeAnew 4 = .ok (.aload_n 0, 1) := by decide +kernel
theorem dX3_makeAnew_5 : decode cX3_makeAnew 5 = .ok (.getfield 12, 3) := by decide +kernel
theorem dX3_makeAnew_8 : decode cX3_makeAnew 8 = .ok (.invokevirtual 40, 3) := by decide +kernel
theorem dX3_makeAnew_11 : decode cX3_makeAnew 11 = .ok (.aload_n 0, 1) := by decide +kernel
theorem dX3_makeAnew_12 : decode cX3_makeAnew 12 = .ok (.aload_n 0, 1) := by decide +kernel
theorem dX3_makeAnew_13 : decode cX3_makeAnew 13 = .ok (.getfield 16, 3) := by decide +kernel
theorem dX3_makeAnew_16 : decode cX3_makeAnew 16 = .ok (.iload_n 1, 1) := by decide +kernel
theorem dX3_makeAnew_17 : decode cX3_makeAnew 17 = .ok (.invokevirtual 76, 3) := by decide +kernel
theorem dX3_makeAnew_20 : decode cX3_makeAnew 20 = .ok (.invokevirtual 48, 3) := by decide +kernel
theorem dX3_makeAnew_23 : decode cX3_makeAnew 23 = .ok (.ireturn, 1) := by decide +kernel
theorem dX3_type_0 : decode cX3_type 0 = .ok (.aload_n 0, 1) := by decide +kernel
theorem dX3_type_1 : decode cX3_type 1 = .ok (.getfield 36, 3) := by decide +kernel
theorem dX3_type_4 : decode cX3_type 4 = .ok (.iload_n 1, 1) := by decide +kernel
theorem dX3_type_5 : decode cX3_type 5 = .ok (.invokevirtual 79, 3) := by decide +kernel
theorem dX3_type_8 : decode cX3_type 8 = .ok (.ireturn, 1) := by decide +kernel
theorem dX3_clearPad_0 : decode cX3_clearPad 0 = .ok (.aload_n 0, 1) := by decide +kernel
theorem dX3_clearPad_1 : decode cX3_clearPad 1 = .ok (.getfield 36, 3) := by decide +kernel
theorem dX3_clearPad_4 : decode cX3_clearPad 4 = .ok (.invokevirtual 83, 3) := by decide +kernel
theorem dX3_clearPad_7 : decode cX3_clearPad 7 = .ok (.ireturn, 1) := by decide +kernel
theorem dX3_undo_0 : decode cX3_undo 0 = .ok (.aload_n 0, 1) := by decide +kernel
theorem dX3_undo_1 : decode cX3_undo 1 = .ok (.getfield 29, 3) := by decide +kernel
theorem dX3_undo_4 : decode cX3_undo 4 = .ok (.aload_n 0, 1) := by decide +kernel
theorem dX3_undo_5 : decode cX3_undo 5 = .ok (.getfield 12, 3) := by decide +kernel
theorem dX3_undo_8 : decode cX3_undo 8 = .ok (.invokevirtual 86, 3) := by decide +kernel
theorem dX3_undo_11 : decode cX3_undo 11 = .ok (.ifCond .ne 6, 3) := by decide +kernel
theorem dX3_undo_14 : decode cX3_undo 14 = .ok (.bipush (-5), 2) := by decide +kernel
theorem dX3_undo_16 : decode cX3_undo 16 = .ok (.ireturn, 1) := by decide +kernel
theorem dX3_undo_17 : decode cX3_undo 17 = .ok (.aload_n 0, 1) := by decide +kernel
theorem dX3_undo_18 : decode cX3_undo 18 = .ok (.getfield 29, 3) := by decide +kernel
theorem dX3_undo_21 : decode cX3_undo 21 = .ok (.invokevirtual 90, 3) := by decide +kernel
theorem dX3_undo_24 : decode cX3_undo 24 = .ok (.ireturn, 1) := by decide +kernel
theorem dX3_keep_0 : decode cX3_keep 0 = .ok (.aload_n 0, 1) := by decide +kernel
theorem dX3_keep_1 : decode cX3_keep 1 = .ok (.getfield 19, 3) := by decide +kernel
theorem dX3_keep_4 : decode cX3_keep 4 = .ok (.aload_n 0, 1) := by decide +kernel
theorem dX3_keep_5 : decode cX3_keep 5 = .ok (.getfield 12, 3) := by decide +kernel
theorem dX3_keep_8 : decode cX3_keep 8 = .ok (.invokevirtual 40, 3) := by decide +kernel
theorem dX3_keep_11 : decode cX3_keep 11 = .ok (.aload_n 0, 1) := by decide +kernel
theorem dX3_keep_12 : decode cX3_keep 12 = .ok (.iconst 1, 1) := by decide +kernel
theorem dX3_keep_13 : decode cX3_keep 13 = .ok (.putfield 22, 3) := by decide +kernel
theorem dX3_keep_16 : decode cX3_keep 16 = .ok (.aload_n 0, 1) := by decide +kernel
theorem dX3_keep_17 : decode cX3_keep 17 = .ok (.getfield 12, 3) := by decide +kernel
theorem dX3_keep_20 : decode cX3_keep 20 = .ok (.invokevirtual 93, 3) := by decide +kernel
theorem dX3_keep_23 : decode cX3_keep 23 = .ok (.ireturn, 1) := by decide +kernel
theorem dX3_restore_0 : decode cX3_restore 0 = .ok (.aload_n 0, 1) := by decide +kernel
theorem dX3_restore_1 : decode cX3_restore 1 = .ok (.getfield 22, 3) := by decide +kernel
theorem dX3_restore_4 : decode cX3_restore 4 = .ok (.ifCond .ne 6, 3) := by decide +kernel
theorem dX3_restore_7 : decode cX3_restore 7 = .ok (.bipush (-5), 2) := by decide +kernel
theorem dX3_restore_9 : decode cX3_restore 9 = .ok (.ireturn, 1) := by decide +kernel
theorem dX3_restore_10 : decode cX3_restore 10 = .ok (.aload_n 0, 1) := by decide +kernel
theorem dX3_restore_11 : decode cX3_restore 11 = .ok (.getfield 16, 3) := by decide +kernel
theorem dX3_restore_14 : decode cX3_restore 14 = .ok (.aload_n 0, 1) := by decide +kernel
theorem dX3_restore_15 : decode cX3_restore 15 = .ok (.getfield 19, 3) := by decide +kernel
theorem dX3_restore_18 : decode cX3_restore 18 = .ok (.invokevirtual 40, 3) := by decide +kernel
theorem dX3_restore_21 : decode cX3_restore 21 = .ok (.aload_n 0, 1) := by decide +kernel
theorem dX3_restore_22 : decode cX3_restore 22 = .ok (.aload_n 0, 1) := by decide +kernel
theorem dX3_restore_23 : decode cX3_restore 23 = .ok (.getfield 16, 3) := by decide +kernel
theorem dX3_restore_26 : decode cX3_restore 26 = .ok (.invokevirtual 93, 3) := by decide +kernel
theorem dX3_restore_29 : decode cX3_restore 29 = .ok (.invokevirtual 48, 3) := by decide +kernel
theorem dX3_restore_32 : decode cX3_restore 32 = .ok (.ireturn, 1) := by decide +kernel
theorem dX3_entry_0 : decode cX3_entry 0 = .ok (.aload_n 0, 1) := by decide +kernel
theorem dX3_entry_1 : decode cX3_entry 1 = .ok (.getfield 12, 3) := by decide +kernel
theorem dX3_entry_4 : decode cX3_entry 4 = .ok (.iload_n 1, 1) := by decide +kernel
theorem dX3_entry_5 : decode cX3_entry 5 = .ok (.iload_n 2, 1) := by decide +kernel
theorem dX3_entry_6 : decode cX3_entry 6 = .ok (.invokevirtual 94, 3) := by decide +kernel
theorem dX3_entry_9 : decode cX3_entry 9 = .ok (.ireturn, 1) := by decide +kernel
theorem dX3_named_0 : decode cX3_named 0 = .ok (.aload_n 0, 1) := by decide +kernel
theorem dX3_named_1 : decode cX3_named 1 = .ok (.getfield 12, 3) := by decide +kernel
theorem dX3_named_4 : decode cX3_named 4 = .ok (.iload_n 1, 1) := by decide +kernel
theorem dX3_named_5 : decode cX3_named 5 = .ok (.invokevirtual 97, 3) := by decide +kernel
theorem dX3_named_8 : decode cX3_named 8 = .ok (.ireturn, 1) := by decide +kernel
theorem dX3_block_0 : decode cX3_block 0 = .ok (.aload_n 0, 1) := by decide +kernel
theorem dX3_block_1 : decode cX3_block 1 = .ok (.getfield 12, 3) := by decide +kernel
theorem dX3_block_4 : decode cX3_block 4 = .ok (.iload_n 1, 1) := by decide +kernel
theorem dX3_block_5 : decode cX3_block 5 = .ok (.iload_n 2, 1) := by decide +kernel
theorem dX3_block_6 : decode cX3_block 6 = .ok (.invokevirtual 100, 3) := by decide +kernel
theorem dX3_block_9 : decode cX3_block 9 = .ok (.ireturn, 1) := by decide +kernel
theorem dX3_at_0 : decode cX3_at 0 = .ok (.aload_n 0, 1) := by decide +kernel
theorem dX3_at_1 : decode cX3_at 1 = .ok (.getfield 12, 3) := by decide +kernel
theorem dX3_at_4 : decode cX3_at 4 = .ok (.iload_n 1, 1) := by decide +kernel
theorem dX3_at_5 : decode cX3_at 5 = .ok (.invokevirtual 103, 3) := by decide +kernel
theorem dX3_at_8 : decode cX3_at 8 = .ok (.ireturn, 1) := by decide +kernel
theorem dX3_fits_0 : decode cX3_fits 0 = .ok (.aload_n 0, 1) := by decide +kernel
theorem dX3_fits_1 : decode cX3_fits 1 = .ok (.getfield 12, 3) := by decide +kernel
theorem dX3_fits_4 : decode cX3_fits 4 = .ok (.iload_n 1, 1) := by decide +kernel
theorem dX3_fits_5 : decode cX3_fits 5 = .ok (.invokevirtual 106, 3) := by decide +kernel
theorem dX3_fits_8 : decode cX3_fits 8 = .ok (.ireturn, 1) := by decide +kernel
theorem dX3_beginning_0 : decode cX3_beginning 0 = .ok (.aload_n 0, 1) := by decide +kernel
theorem dX3_beginning_1 : decode cX3_beginning 1 = .ok (.getfield 12, 3) := by decide +kernel
theorem dX3_beginning_4 : decode cX3_beginning 4 = .ok (.iload_n 1, 1) := by decide +kernel
theorem dX3_beginning_5 : decode cX3_beginning 5 = .ok (.iload_n 2, 1) := by decide +kernel
theorem dX3_beginning_6 : decode cX3_beginning 6 = .ok (.invokevirtual 109, 3) := by decide +kernel
theorem dX3_beginning_9 : decode cX3_beginning 9 = .ok (.ireturn, 1) := by decide +kernel
theorem dX3_count_0 : decode cX3_count 0 = .ok (.iload_n 1, 1) := by decide +kernel
theorem dX3_count_1 : decode cX3_count 1 = .ok (.lookupswitch 43 #[(13, 27), (14, 35)], 27) := by decide +kernel
theorem dX3_count_28 : decode cX3_count 28 = .ok (.aload_n 0, 1) := by decide +kernel
theorem dX3_count_29 : decode cX3_count 29 = .ok (.getfield 29, 3) := by decide +kernel
theorem dX3_count_32 : decode cX3_count 32 = .ok (.invokevirtual 90, 3) := by decide +kernel
theorem dX3_count_35 : decode cX3_count 35 = .ok (.ireturn, 1) := by decide +kernel
theorem dX3_count_36 : decode cX3_count 36 = .ok (.aload_n 0, 1) := by decide +kernel
theorem dX3_count_37 : decode cX3_count 37 = .ok (.getfield 36, 3) := by decide +kernel
theorem dX3_count_40 : decode cX3_count 40 = .ok (.invokevirtual 112, 3) := by decide +kernel
theorem dX3_count_43 : decode cX3_count 43 = .ok (.ireturn, 1) := by decide +kernel
theorem dX3_count_44 : decode cX3_count 44 = .ok (.aload_n 0, 1) := by decide +kernel
theorem dX3_count_45 : decode cX3_count 45 = .ok (.getfield 12, 3) := by decide +kernel
theorem dX3_count_48 : decode cX3_count 48 = .ok (.iload_n 1, 1) := by decide +kernel
theorem dX3_count_49 : decode cX3_count 49 = .ok (.invokevirtual 115, 3) := by decide +kernel
theorem dX3_count_52 : decode cX3_count 52 = .ok (.ireturn, 1) := by decide +kernel
theorem dX3_settle_0 : decode cX3_settle 0 = .ok (.iload_n 1, 1) := by decide +kernel
theorem dX3_settle_1 : decode cX3_settle 1 = .ok (.ifCond .lt 25, 3) := by decide +kernel
theorem dX3_settle_4 : decode cX3_settle 4 = .ok (.aload_n 0, 1) := by decide +kernel
theorem dX3_settle_5 : decode cX3_settle 5 = .ok (.getfield 29, 3) := by decide +kernel
theorem dX3_settle_8 : decode cX3_settle 8 = .ok (.aload_n 0, 1) := by decide +kernel
theorem dX3_settle_9 : decode cX3_settle 9 = .ok (.getfield 12, 3) := by decide +kernel
theorem dX3_settle_12 : decode cX3_settle 12 = .ok (.invokevirtual 118, 3) := by decide +kernel
theorem dX3_settle_15 : decode cX3_settle 15 = .ok (.aload_n 0, 1) := by decide +kernel
theorem dX3_settle_16 : decode cX3_settle 16 = .ok (.getfield 12, 3) := by decide +kernel
theorem dX3_settle_19 : decode cX3_settle 19 = .ok (.aload_n 0, 1) := by decide +kernel
theorem dX3_settle_20 : decode cX3_settle 20 = .ok (.getfield 16, 3) := by decide +kernel
theorem dX3_settle_23 : decode cX3_settle 23 = .ok (.invokevirtual 40, 3) := by decide +kernel
theorem dX3_settle_26 : decode cX3_settle 26 = .ok (.iload_n 1, 1) := by decide +kernel
theorem dX3_settle_27 : decode cX3_settle 27 = .ok (.ireturn, 1) := by decide +kernel
theorem dX4_init_0 : decode cX4_init 0 = .ok (.aload_n 0, 1) := by decide +kernel
theorem dX4_init_1 : decode cX4_init 1 = .ok (.invokespecial 1, 3) := by decide +kernel
theorem dX4_init_4 : decode cX4_init 4 = .ok (.aload_n 0, 1) := by decide +kernel
theorem dX4_init_5 : decode cX4_init 5 = .ok (.sipush 149, 3) := by decide +kernel
theorem dX4_init_8 : decode cX4_init 8 = .ok (.newarray .int, 2) := by decide +kernel
theorem dX4_init_10 : decode cX4_init 10 = .ok (.putfield 7, 3) := by decide +kernel
theorem dX4_init_13 : decode cX4_init 13 = .ok (.aload_n 0, 1) := by decide +kernel
theorem dX4_init_14 : decode cX4_init 14 = .ok (.sipush 149, 3) := by decide +kernel
theorem dX4_init_17 : decode cX4_init 17 = .ok (.newarray .int, 2) := by decide +kernel
theorem dX4_init_19 : decode cX4_init 19 = .ok (.putfield 13, 3) := by decide +kernel
theorem dX4_init_22 : decode cX4_init 22 = .ok (.aload_n 0, 1) := by decide +kernel
theorem dX4_init_23 : decode cX4_init 23 = .ok (.sipush 596, 3) := by decide +kernel
theorem dX4_init_26 : decode cX4_init 26 = .ok (.newarray .int, 2) := by decide +kernel
theorem dX4_init_28 : decode cX4_init 28 = .ok (.putfield 16, 3) := by decide +kernel
theorem dX4_init_31 : decode cX4_init 31 = .ok (.aload_n 0, 1) := by decide +kernel
theorem dX4_init_32 : decode cX4_init 32 = .ok (.sipush 149, 3) := by decide +kernel
theorem dX4_init_35 : decode cX4_init 35 = .ok (.newarray .int, 2) := by decide +kernel
theorem dX4_init_37 : decode cX4_init 37 = .ok (.putfield 19, 3) := by decide +kernel
theorem dX4_init_40 : decode cX4_init 40 = .ok (.aload_n 0, 1) := by decide +kernel
theorem dX4_init_41 : decode cX4_init 41 = .ok (.bipush 6, 2) := by decide +kernel
theorem dX4_init_43 : decode cX4_init 43 = .ok (.newarray .int, 2) := by decide +kernel
theorem dX4_init_45 : decode cX4_init 45 = .ok (.putfield 22, 3) := by decide +kernel
theorem dX4_init_48 : decode cX4_init 48 = .ok (.aload_n 0, 1) := by decide +kernel
theorem dX4_init_49 : decode cX4_init 49 = .ok (.bipush 60, 2) := by decide +kernel
theorem dX4_init_51 : decode cX4_init 51 = .ok (.newarray .int, 2) := by decide +kernel
theorem dX4_init_53 : decode cX4_init 53 = .ok (.putfield 25, 3) := by decide +kernel
theorem dX4_init_56 : decode cX4_init 56 = .ok (.aload_n 0, 1) := by decide +kernel
theorem dX4_init_57 : decode cX4_init 57 = .ok (.getfield 7, 3) := by decide +kernel
theorem dX4_init_60 : decode cX4_init 60 = .ok (.iconst 1, 1) := by decide +kernel
theorem dX4_init_61 : decode cX4_init 61 = .ok (.iconst 2, 1) := by decide +kernel
theorem dX4_init_62 : decode cX4_init 62 = .ok (.iastore, 1) := by decide +kernel
theorem dX4_init_63 : decode cX4_init 63 = .ok (.return_, 1) := by decide +kernel
theorem dX4_in_0 : decode cX4_in 0 = .ok (.lload_n 0, 1) := by decide +kernel
theorem dX4_in_1 : decode cX4_in 1 = .ok (.lload_n 2, 1) := by decide +kernel
theorem dX4_in_2 : decode cX4_in 2 = .ok (.lcmp, 1) := by decide +kernel
theorem dX4_in_3 : decode cX4_in 3 = .ok (.ifCond .lt 14, 3) := by decide +kernel
theorem dX4_in_6 : decode cX4_in 6 = .ok (.lload_n 0, 1) := by decide +kernel
theorem dX4_in_7 : decode cX4_in 7 = .ok (.lload 4, 2) := by decide +kernel
theorem dX4_in_9 : decode cX4_in 9 = .ok (.lcmp, 1) := by decide +kernel
theorem dX4_in_10 : decode cX4_in 10 = .ok (.ifCond .gt 7, 3) := by decide +kernel
theorem dX4_in_13 : decode cX4_in 13 = .ok (.iconst 1, 1) := by decide +kernel
theorem dX4_in_14 : decode cX4_in 14 = .ok (.goto 4, 3) := by decide +kernel
theorem dX4_in_17 : decode cX4_in 17 = .ok (.iconst 0, 1) := by decide +kernel
theorem dX4_in_18 : decode cX4_in 18 = .ok (.ireturn, 1) := by decide +kernel
theorem dX4_remember_0 : decode cX4_remember 0 = .ok (.iconst 0, 1) := by decide +kernel
theorem dX4_remember_1 : decode cX4_remember 1 = .ok (.istore_n 1, 1) := by decide +kernel
theorem dX4_remember_2 : decode cX4_remember 2 = .ok (.iload_n 1, 1) := by decide +kernel
theorem dX4_remember_3 : decode cX4_remember 3 = .ok (.sipush 149, 3) := by decide +kernel
theorem dX4_remember_6 : decode cX4_remember 6 = .ok (.if_icmp .ge 21, 3) := by decide +kernel
theorem dX4_remember_9 : decode cX4_remember 9 = .ok (.aload_n 0, 1) := by decide +kernel
theorem dX4_remember_10 : decode cX4_remember 10 = .ok (.getfield 13, 3) := by decide +kernel
theorem dX4_remember_13 : decode cX4_remember 13 = .ok (.iload_n 1, 1) := by decide +kernel
theorem dX4_remember_14 : decode cX4_remember 14 = .ok (.aload_n 0, 1) := by decide +kernel
theorem dX4_remember_15 : decode cX4_remember 15 = .ok (.getfield 7, 3) := by decide +kernel
theorem dX4_remember_18 : decode cX4_remember 18 = .ok (.iload_n 1, 1) := by decide +kernel
theorem dX4_remember_19 : decode cX4_remember 19 = .ok (.iaload, 1) := by decide +kernel
theorem dX4_remember_20 : decode cX4_remember 20 = .ok (.iastore, 1) := by decide +kernel
theorem dX4_remember_21 : decode cX4_remember 21 = .ok (.iinc 1 1, 3) := by decide +kernel
theorem dX4_remember_24 : decode cX4_remember 24 = .ok (.goto (-22), 3) := by decide +kernel
theorem dX4_remember_27 : decode cX4_remember 27 = .ok (.return_, 1) := by decide +kernel
theorem dX4_acted_0 : decode cX4_acted 0 = .ok (.aload_n 0, 1) := by decide +kernel
theorem dX4_acted_1 : decode cX4_acted 1 = .ok (.getfield 28, 3) := by decide +kernel
theorem dX4_acted_4 : decode cX4_acted 4 = .ok (.iconst 4, 1) := by decide +kernel
theorem dX4_acted_5 : decode cX4_acted 5 = .ok (.if_icmp .ne 44, 3) := by decide +kernel
theorem dX4_acted_8 : decode cX4_acted 8 = .ok (.iconst 0, 1) := by decide +kernel
theorem dX4_acted_9 : decode cX4_acted 9 = .ok (.istore_n 2, 1) := by decide +kernel
theorem dX4_acted_10 : decode cX4_acted 10 = .ok (.iload_n 2, 1) := by decide +kernel
theorem dX4_acted_11 : decode cX4_acted 11 = .ok (.sipush 447, 3) := by decide +kernel
theorem dX4_acted_14 : decode cX4_acted 14 = .ok (.if_icmp .ge 25, 3) := by decide +kernel
theorem dX4_acted_17 : decode cX4_acted 17 = .ok (.aload_n 0, 1) := by decide +kernel
theorem dX4_acted_18 : decode cX4_acted 18 = .ok (.getfield 16, 3) := by decide +kernel
theorem dX4_acted_21 : decode cX4_acted 21 = .ok (.iload_n 2, 1) := by decide +kernel
theorem dX4_acted_22 : decode cX4_acted 22 = .ok (.aload_n 0, 1) := by decide +kernel
theorem dX4_acted_23 : decode cX4_acted 23 = .ok (.getfield 16, 3) := by decide +kernel
theorem dX4_acted_26 : decode cX4_acted 26 = .ok (.iload_n 2, 1) := by decide +kernel
theorem dX4_acted_27 : decode cX4_acted 27 = .ok (.sipush 149, 3) := by decide +kernel
theorem dX4_acted_30 : decode cX4_acted 30 = .ok (.iadd, 1) := by decide +kernel
theorem dX4_acted_31 : decode cX4_acted 31 = .ok (.iaload, 1) := by decide +kernel
theorem dX4_acted_32 : decode cX4_acted 32 = .ok (.iastore, 1) := by decide +kernel
theorem dX4_acted_33 : decode cX4_acted 33 = .ok (.iinc 2 1, 3) := by decide +kernel
theorem dX4_acted_36 : decode cX4_acted 36 = .ok (.goto (-26), 3) := by decide +kernel
theorem dX4_acted_39 : decode cX4_acted 39 = .ok (.aload_n 0, 1) := by decide +kernel
theorem dX4_acted_40 : decode cX4_acted 40 = .ok (.dup, 1) := by decide +kernel
theorem dX4_acted_41 : decode cX4_acted 41 = .ok (.getfield 28, 3) := by decide +kernel
theorem dX4_acted_44 : decode cX4_acted 44 = .ok (.iconst 1, 1) := by decide +kernel
theorem dX4_acted_45 : decode cX4_acted 45 = .ok (.isub, 1) := by decide +kernel
theorem dX4_acted_46 : decode cX4_acted 46 = .ok (.putfield 28, 3) := by decide +kernel
theorem dX4_acted_49 : decode cX4_acted 49 = .ok (.iconst 0, 1) := by decide +kernel
theorem dX4_acted_50 : decode cX4_acted 50 = .ok (.istore_n 2, 1) := by decide +kernel
theorem dX4_acted_51 : decode cX4_acted 51 = .ok (.iload_n 2, 1) := by decide +kernel
theorem dX4_acted_52 : decode cX4_acted 52 = .ok (.sipush 149, 3) := by decide +kernel
theorem dX4_acted_55 : decode cX4_acted 55 = .ok (.if_icmp .ge 30, 3) := by decide +kernel
theorem dX4_acted_58 : decode cX4_acted 58 = .ok (.aload_n 0, 1) := by decide +kernel
theorem dX4_acted_59 : decode cX4_acted 59 = .ok (.getfield 16, 3) := by decide +kernel
theorem dX4_acted_62 : decode cX4_acted 62 = .ok (.sipush 149, 3) := by decide +kernel
theorem dX4_acted_65 : decode cX4_acted 65 = .ok (.aload_n 0, 1) := by decide +kernel
theorem dX4_acted_66 : decode cX4_acted 66 = .ok (.getfield 28, 3) := by decide +kernel
theorem dX4_acted_69 : decode cX4_acted 69 = .ok (.imul, 1) := by decide +kernel
theorem dX4_acted_70 : decode cX4_acted 70 = .ok (.iload_n 2, 1) := by decide +kernel
theorem dX4_acted_71 : decode cX4_acted 71 = .ok (.iadd, 1) := by decide +kernel
theorem dX4_acted_72 : decode cX4_acted 72 = .ok (.aload_n 0, 1) := by decide +kernel
theorem dX4_acted_73 : decode cX4_acted 73 = .ok (.getfield 13, 3) := by decide +kernel
theorem dX4_acted_76 : decode cX4_acted 76 = .ok (.iload_n 2, 1) := by decide +kernel
theorem dX4_acted_77 : decode cX4_acted 77 = .ok (.iaload, 1) := by decide +kernel
theorem dX4_acted_78 : decode cX4_acted 78 = .ok (.iastore, 1) := by decide +kernel
theorem dX4_acted_79 : decode cX4_acted 79 = .ok (.iinc 2 1, 3) := by decide +kernel
theorem dX4_acted_82 : decode cX4_acted 82 = .ok (.goto (-31), 3) := by decide +kernel
theorem dX4_acted_85 : decode cX4_acted 85 = .ok (.aload_n 0, 1) := by decide +kernel
theorem dX4_acted_86 : decode cX4_acted 86 = .ok (.dup, 1) := by decide +kernel
theorem dX4_acted_87 : decode cX4_acted 87 = .ok (.getfield 28, 3) := by decide +kernel
theorem dX4_acted_90 : decode cX4_acted 90 = .ok (.iconst 1, 1) := by decide +kernel
theorem dX4_acted_91 : decode cX4_acted 91 = .ok (.iadd, 1) := by decide +kernel
theorem dX4_acted_92 : decode cX4_acted 92 = .ok (.putfield 28, 3) := by decide +kernel
theorem dX4_acted_95 : decode cX4_acted 95 = .ok (.iload_n 1, 1) := by decide +kernel
theorem dX4_acted_96 : decode cX4_acted 96 = .ok (.ireturn, 1) := by decide +kernel
theorem dX4_of_0 : decode cX4_of 0 = .ok (.aload_n 0, 1) := by decide +kernel
theorem dX4_of_1 : decode cX4_of 1 = .ok (.getfield 7, 3) := by decide +kernel
theorem dX4_of_4 : decode cX4_of 4 = .ok (.iconst 5, 1) := by decide +kernel
theorem dX4_of_5 : decode cX4_of 5 = .ok (.bipush 6, 2) := by decide +kernel
theorem dX4_of_7 : decode cX4_of 7 = .ok (.iload_n 1, 1) := by decide +kernel
theorem dX4_of_8 : decode cX4_of 8 = .ok (.imul, 1) := by decide +kernel
theorem dX4_of_9 : decode cX4_of 9 = .ok (.iadd, 1) := by decide +kernel
theorem dX4_of_10 : decode cX4_of 10 = .ok (.iload_n 2, 1) := by decide +kernel
theorem dX4_of_11 : decode cX4_of 11 = .ok (.iadd, 1) := by decide +kernel
theorem dX4_of_12 : decode cX4_of 12 = .ok (.iaload, 1) := by decide +kernel
theorem dX4_of_13 : decode cX4_of 13 = .ok (.ireturn, 1) := by decide +kernel
theorem dX4_sets_0 : decode cX4_sets 0 = .ok (.aload_n 0, 1) := by decide +kernel
theorem dX4_sets_1 : decode cX4_sets 1 = .ok (.getfield 7, 3) := by decide +kernel
theorem dX4_sets_4 : decode cX4_sets 4 = .ok (.iconst 5, 1) := by decide +kernel
theorem dX4_sets_5 : decode cX4_sets 5 = .ok (.bipush 6, 2) := by decide +kernel
theorem dX4_sets_7 : decode cX4_sets 7 = .ok (.iload_n 1, 1) := by decide +kernel
theorem dX4_sets_8 : decode cX4_sets 8 = .ok (.imul, 1) := by decide +kernel
theorem dX4_sets_9 : decode cX4_sets 9 = .ok (.iadd, 1) := by decide +kernel
theorem dX4_sets_10 : decode cX4_sets 10 = .ok (.iload_n 2, 1) := by decide +kernel
theorem dX4_sets_11 : decode cX4_sets 11 = .ok (.iadd, 1) := by decide +kernel
theorem dX4_sets_12 : decode cX4_sets 12 = .ok (.iload_n 3, 1) := by decide +kernel
theorem dX4_sets_13 : decode cX4_sets 13 = .ok (.iastore, 1) := by decide +kernel
theorem dX4_sets_14 : decode cX4_sets 14 = .ok (.return_, 1) := by decide +kernel
theorem dX4_isName_0 : decode cX4_isName 0 = .ok (.iload_n 0, 1) := by decide +kernel
theorem dX4_isName_1 : decode cX4_isName 1 = .ok (.i2l, 1) := by decide +kernel
theorem dX4_isName_2 : decode cX4_isName 2 = .ok (.lconst 0, 1) := by decide +kernel
theorem dX4_isName_3 : decode cX4_isName 3 = .ok (.ldc2_w 32, 3) := by decide +kernel
theorem dX4_isName_6 : decode cX4_isName 6 = .ok (.invokestatic 34, 3) := by decide +kernel
theorem dX4_isName_9 : decode cX4_isName 9 = .ok (.ireturn, 1) := by decide +kernel
theorem dX4_rankOf_0 : decode cX4_rankOf 0 = .ok (.iconst 0, 1) := by decide +kernel
theorem dX4_rankOf_1 : decode cX4_rankOf 1 = .ok (.istore_n 2, 1) := by decide +kernel
theorem dX4_rankOf_2 : decode cX4_rankOf 2 = .ok (.iload_n 2, 1) := by decide +kernel
theorem dX4_rankOf_3 : decode cX4_rankOf 3 = .ok (.aload_n 0, 1) := by decide +kernel
theorem dX4_rankOf_4 : decode cX4_rankOf 4 = .ok (.getfield 7, 3) := by decide +kernel
theorem dX4_rankOf_7 : decode cX4_rankOf 7 = .ok (.iconst 0, 1) := by decide +kernel
theorem dX4_rankOf_8 : decode cX4_rankOf 8 = .ok (.iaload, 1) := by decide +kernel
theorem dX4_rankOf_9 : decode cX4_rankOf 9 = .ok (.if_icmp .ge 21, 3) := by decide +kernel
theorem dX4_rankOf_12 : decode cX4_rankOf 12 = .ok (.aload_n 0, 1) := by decide +kernel
theorem dX4_rankOf_13 : decode cX4_rankOf 13 = .ok (.iload_n 2, 1) := by decide +kernel
theorem dX4_rankOf_14 : decode cX4_rankOf 14 = .ok (.iconst 0, 1) := by decide +kernel
theorem dX4_rankOf_15 : decode cX4_rankOf 15 = .ok (.invokevirtual 38, 3) := by decide +kernel
theorem dX4_rankOf_18 : decode cX4_rankOf 18 = .ok (.iload_n 1, 1) := by decide +kernel
theorem dX4_rankOf_19 : decode cX4_rankOf 19 = .ok (.if_icmp .ne 5, 3) := by decide +kernel
theorem dX4_rankOf_22 : decode cX4_rankOf 22 = .ok (.iload_n 2, 1) := by decide +kernel
theorem dX4_rankOf_23 : decode cX4_rankOf 23 = .ok (.ireturn, 1) := by decide +kernel
theorem dX4_rankOf_24 : decode cX4_rankOf 24 = .ok (.iinc 2 1, 3) := by decide +kernel
theorem dX4_rankOf_27 : decode cX4_rankOf 27 = .ok (.goto (-25), 3) := by decide +kernel
theorem dX4_rankOf_30 : decode cX4_rankOf 30 = .ok (.bipush (-5), 2) := by decide +kernel
theorem dX4_rankOf_32 : decode cX4_rankOf 32 = .ok (.ireturn, 1) := by decide +kernel
theorem dX4_isMember_0 : decode cX4_isMember 0 = .ok (.iload_n 1, 1) := by decide +kernel
theorem dX4_isMember_1 : decode cX4_isMember 1 = .ok (.bipush (-5), 2) := by decide +kernel
theorem dX4_isMember_3 : decode cX4_isMember 3 = .ok (.if_icmp .eq 16, 3) := by decide +kernel
theorem dX4_isMember_6 : decode cX4_isMember 6 = .ok (.aload_n 0, 1) := by decide +kernel
theorem dX4_isMember_7 : decode cX4_isMember 7 = .ok (.iload_n 1, 1) := by decide +kernel
theorem dX4_isMember_8 : decode cX4_isMember 8 = .ok (.iconst 1, 1) := by decide +kernel
theorem dX4_isMember_9 : decode cX4_isMember 9 = .ok (.invokevirtual 38, 3) := by decide +kernel
theorem dX4_isMember_12 : decode cX4_isMember 12 = .ok (.ifCond .ne 7, 3) := by decide +kernel
theorem dX4_isMember_15 : decode cX4_isMember 15 = .ok (.iconst 1, 1) := by decide +kernel
theorem dX4_isMember_16 : decode cX4_isMember 16 = .ok (.goto 4, 3) := by decide +kernel
theorem dX4_isMember_19 : decode cX4_isMember 19 = .ok (.iconst 0, 1) := by decide +kernel
theorem dX4_isMember_20 : decode cX4_isMember 20 = .ok (.ireturn, 1) := by decide +kernel
theorem dX4_isDirectoryFull_0 : decode cX4_isDirectoryFull 0 = .ok (.aload_n 0, 1) := by decide +kernel
theorem dX4_isDirectoryFull_1 : decode cX4_isDirectoryFull 1 = .ok (.getfield 7, 3) := by decide +kernel
theorem dX4_isDirectoryFull_4 : decode cX4_isDirectoryFull 4 = .ok (.iconst 0, 1) := by decide +kernel
theorem dX4_isDirectoryFull_5 : decode cX4_isDirectoryFull 5 = .ok (.iaload, 1) := by decide +kernel
theorem dX4_isDirectoryFull_6 : decode cX4_isDirectoryFull 6 = .ok (.iconst 4, 1) := by decide +kernel
theorem dX4_isDirectoryFull_7 : decode cX4_isDirectoryFull 7 = .ok (.aload_n 0, 1) := by decide +kernel
theorem dX4_isDirectoryFull_8 : decode cX4_isDirectoryFull 8 = .ok (.getfield 7, 3) := by decide +kernel
theorem dX4_isDirectoryFull_11 : decode cX4_isDirectoryFull 11 = .ok (.iconst 1, 1) := by decide +kernel
theorem dX4_isDirectoryFull_12 : decode cX4_isDirectoryFull 12 = .ok (.iaload, 1) := by decide +kernel
theorem dX4_isDirectoryFull_13 : decode cX4_isDirectoryFull 13 = .ok (.imul, 1) := by decide +kernel
theorem dX4_isDirectoryFull_14 : decode cX4_isDirectoryFull 14 = .ok (.if_icmp .ne 7, 3) := by decide +kernel
theorem dX4_isDirectoryFull_17 : decode cX4_isDirectoryFull 17 = .ok (.iconst 1, 1) := by decide +kernel
theorem dX4_isDirectoryFull_18 : decode cX4_isDirectoryFull 18 = .ok (.goto 4, 3) := by decide +kernel
theorem dX4_isDirectoryFull_21 : decode cX4_isDirectoryFull 21 = .ok (.iconst 0, 1) := by decide +kernel
theorem dX4_isDirectoryFull_22 : decode cX4_isDirectoryFull 22 = .ok (.ireturn, 1) := by decide +kernel
theorem dX4_takesOut_0 : decode cX4_takesOut 0 = .ok (.iconst 0, 1) := by decide +kernel
theorem dX4_takesOut_1 : decode cX4_takesOut 1 = .ok (.istore_n 2, 1) := by decide +kernel
theorem dX4_takesOut_2 : decode cX4_takesOut 2 = .ok (.iload_n 2, 1) := by decide +kernel
theorem dX4_takesOut_3 : decode cX4_takesOut 3 = .ok (.bipush 6, 2) := by decide +kernel
theorem dX4_takesOut_5 : decode cX4_takesOut 5 = .ok (.if_icmp .ge 21, 3) := by decide +kernel
theorem dX4_takesOut_8 : decode cX4_takesOut 8 = .ok (.aload_n 0, 1) := by decide +kernel
theorem dX4_takesOut_9 : decode cX4_takesOut 9 = .ok (.getfield 22, 3) := by decide +kernel
theorem dX4_takesOut_12 : decode cX4_takesOut 12 = .ok (.iload_n 2, 1) := by decide +kernel
theorem dX4_takesOut_13 : decode cX4_takesOut 13 = .ok (.aload_n 0, 1) := by decide +kernel
theorem dX4_takesOut_14 : decode cX4_takesOut 14 = .ok (.iload_n 1, 1) := by decide +kernel
theorem dX4_takesOut_15 : decode cX4_takesOut 15 = .ok (.iload_n 2, 1) := by decide +kernel
theorem dX4_takesOut_16 : decode cX4_takesOut 16 = .ok (.invokevirtual 38, 3) := by decide +kernel
theorem dX4_takesOut_19 : decode cX4_takesOut 19 = .ok (.iastore, 1) := by decide +kernel
theorem dX4_takesOut_20 : decode cX4_takesOut 20 = .ok (.iinc 2 1, 3) := by decide +kernel
theorem dX4_takesOut_23 : decode cX4_takesOut 23 = .ok (.goto (-21), 3) := by decide +kernel
theorem dX4_takesOut_26 : decode cX4_takesOut 26 = .ok (.aload_n 0, 1) := by decide +kernel
theorem dX4_takesOut_27 : decode cX4_takesOut 27 = .ok (.getfield 7, 3) := by decide +kernel
theorem dX4_takesOut_30 : decode cX4_takesOut 30 = .ok (.iconst 0, 1) := by decide +kernel
theorem dX4_takesOut_31 : decode cX4_takesOut 31 = .ok (.dup2, 1) := by decide +kernel
theorem dX4_takesOut_32 : decode cX4_takesOut 32 = .ok (.iaload, 1) := by decide +kernel
theorem dX4_takesOut_33 : decode cX4_takesOut 33 = .ok (.iconst 1, 1) := by decide +kernel
theorem dX4_takesOut_34 : decode cX4_takesOut 34 = .ok (.isub, 1) := by decide +kernel
theorem dX4_takesOut_35 : decode cX4_takesOut 35 = .ok (.iastore, 1) := by decide +kernel
theorem dX4_takesOut_36 : decode cX4_takesOut 36 = .ok (.iconst 5, 1) := by decide +kernel
theorem dX4_takesOut_37 : decode cX4_takesOut 37 = .ok (.bipush 6, 2) := by decide +kernel
theorem dX4_takesOut_39 : decode cX4_takesOut 39 = .ok (.iload_n 1, 1) := by decide +kernel
theorem dX4_takesOut_40 : decode cX4_takesOut 40 = .ok (.imul, 1) := by decide +kernel
theorem dX4_takesOut_41 : decode cX4_takesOut 41 = .ok (.iadd, 1) := by decide +kernel
theorem dX4_takesOut_42 : decode cX4_takesOut 42 = .ok (.istore_n 2, 1) := by decide +kernel
theorem dX4_takesOut_43 : decode cX4_takesOut 43 = .ok (.iload_n 2, 1) := by decide +kernel
theorem dX4_takesOut_44 : decode cX4_takesOut 44 = .ok (.iconst 5, 1) := by decide +kernel
theorem dX4_takesOut_45 : decode cX4_takesOut 45 = .ok (.bipush 6, 2) := by decide +kernel
theorem dX4_takesOut_47 : decode cX4_takesOut 47 = .ok (.aload_n 0, 1) := by decide +kernel
theorem dX4_takesOut_48 : decode cX4_takesOut 48 = .ok (.getfield 7, 3) := by decide +kernel
theorem dX4_takesOut_51 : decode cX4_takesOut 51 = .ok (.iconst 0, 1) := by decide +kernel
theorem dX4_takesOut_52 : decode cX4_takesOut 52 = .ok (.iaload, 1) := by decide +kernel
theorem dX4_takesOut_53 : decode cX4_takesOut 53 = .ok (.imul, 1) := by decide +kernel
theorem dX4_takesOut_54 : decode cX4_takesOut 54 = .ok (.iadd, 1) := by decide +kernel
theorem dX4_takesOut_55 : decode cX4_takesOut 55 = .ok (.if_icmp .ge 24, 3) := by decide +kernel
theorem dX4_takesOut_58 : decode cX4_takesOut 58 = .ok (.aload_n 0, 1) := by decide +kernel
theorem dX4_takesOut_59 : decode cX4_takesOut 59 = .ok (.getfield 7, 3) := by decide +kernel
theorem dX4_takesOut_62 : decode cX4_takesOut 62 = .ok (.iload_n 2, 1) := by decide +kernel
theorem dX4_takesOut_63 : decode cX4_takesOut 63 = .ok (.aload_n 0, 1) := by decide +kernel
theorem dX4_takesOut_64 : decode cX4_takesOut 64 = .ok (.getfield 7, 3) := by decide +kernel
theorem dX4_takesOut_67 : decode cX4_takesOut 67 = .ok (.iload_n 2, 1) := by decide +kernel
