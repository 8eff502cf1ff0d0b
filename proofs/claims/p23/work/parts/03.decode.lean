theorem dX2_tellCount_69 : decode cX2_tellCount 69 = .ok (.getfield 27, 3) := by decide +kernel
theorem dX2_tellCount_72 : decode cX2_tellCount 72 = .ok (.ireturn, 1) := by decide +kernel
theorem dX2_tellCount_73 : decode cX2_tellCount 73 = .ok (.aload_n 0, 1) := by decide +kernel
theorem dX2_tellCount_74 : decode cX2_tellCount 74 = .ok (.getfield 27, 3) := by decide +kernel
theorem dX2_tellCount_77 : decode cX2_tellCount 77 = .ok (.aload_n 0, 1) := by decide +kernel
theorem dX2_tellCount_78 : decode cX2_tellCount 78 = .ok (.invokevirtual 126, 3) := by decide +kernel
theorem dX2_tellCount_81 : decode cX2_tellCount 81 = .ok (.isub, 1) := by decide +kernel
theorem dX2_tellCount_82 : decode cX2_tellCount 82 = .ok (.ireturn, 1) := by decide +kernel
theorem dX2_tellCount_83 : decode cX2_tellCount 83 = .ok (.aload_n 0, 1) := by decide +kernel
theorem dX2_tellCount_84 : decode cX2_tellCount 84 = .ok (.invokevirtual 126, 3) := by decide +kernel
theorem dX2_tellCount_87 : decode cX2_tellCount 87 = .ok (.ireturn, 1) := by decide +kernel
theorem dX2_tellCount_88 : decode cX2_tellCount 88 = .ok (.aload_n 0, 1) := by decide +kernel
theorem dX2_tellCount_89 : decode cX2_tellCount 89 = .ok (.invokevirtual 129, 3) := by decide +kernel
theorem dX2_tellCount_92 : decode cX2_tellCount 92 = .ok (.ireturn, 1) := by decide +kernel
theorem dX2_tellCount_93 : decode cX2_tellCount 93 = .ok (.aload_n 0, 1) := by decide +kernel
theorem dX2_tellCount_94 : decode cX2_tellCount 94 = .ok (.getfield 31, 3) := by decide +kernel
theorem dX2_tellCount_97 : decode cX2_tellCount 97 = .ok (.ireturn, 1) := by decide +kernel
theorem dX2_tellCount_98 : decode cX2_tellCount 98 = .ok (.aload_n 0, 1) := by decide +kernel
theorem dX2_tellCount_99 : decode cX2_tellCount 99 = .ok (.getfield 31, 3) := by decide +kernel
theorem dX2_tellCount_102 : decode cX2_tellCount 102 = .ok (.iconst 4, 1) := by decide +kernel
theorem dX2_tellCount_103 : decode cX2_tellCount 103 = .ok (.imul, 1) := by decide +kernel
theorem dX2_tellCount_104 : decode cX2_tellCount 104 = .ok (.aload_n 0, 1) := by decide +kernel
theorem dX2_tellCount_105 : decode cX2_tellCount 105 = .ok (.getfield 27, 3) := by decide +kernel
theorem dX2_tellCount_108 : decode cX2_tellCount 108 = .ok (.isub, 1) := by decide +kernel
theorem dX2_tellCount_109 : decode cX2_tellCount 109 = .ok (.ireturn, 1) := by decide +kernel
theorem dX2_tellCount_110 : decode cX2_tellCount 110 = .ok (.aload_n 0, 1) := by decide +kernel
theorem dX2_tellCount_111 : decode cX2_tellCount 111 = .ok (.getfield 34, 3) := by decide +kernel
theorem dX2_tellCount_114 : decode cX2_tellCount 114 = .ok (.ireturn, 1) := by decide +kernel
theorem dX2_tellCount_115 : decode cX2_tellCount 115 = .ok (.aload_n 0, 1) := by decide +kernel
theorem dX2_tellCount_116 : decode cX2_tellCount 116 = .ok (.invokevirtual 120, 3) := by decide +kernel
theorem dX2_tellCount_119 : decode cX2_tellCount 119 = .ok (.ireturn, 1) := by decide +kernel
theorem dX2_tellCount_120 : decode cX2_tellCount 120 = .ok (.aload_n 0, 1) := by decide +kernel
theorem dX2_tellCount_121 : decode cX2_tellCount 121 = .ok (.invokevirtual 95, 3) := by decide +kernel
theorem dX2_tellCount_124 : decode cX2_tellCount 124 = .ok (.ireturn, 1) := by decide +kernel
theorem dX2_tellCount_125 : decode cX2_tellCount 125 = .ok (.bipush 100, 2) := by decide +kernel
theorem dX2_tellCount_127 : decode cX2_tellCount 127 = .ok (.aload_n 0, 1) := by decide +kernel
theorem dX2_tellCount_128 : decode cX2_tellCount 128 = .ok (.getfield 34, 3) := by decide +kernel
theorem dX2_tellCount_131 : decode cX2_tellCount 131 = .ok (.isub, 1) := by decide +kernel
theorem dX2_tellCount_132 : decode cX2_tellCount 132 = .ok (.ireturn, 1) := by decide +kernel
theorem dX2_tellCount_133 : decode cX2_tellCount 133 = .ok (.aload_n 0, 1) := by decide +kernel
theorem dX2_tellCount_134 : decode cX2_tellCount 134 = .ok (.invokevirtual 132, 3) := by decide +kernel
theorem dX2_tellCount_137 : decode cX2_tellCount 137 = .ok (.ireturn, 1) := by decide +kernel
theorem dX2_tellCount_138 : decode cX2_tellCount 138 = .ok (.aload_n 0, 1) := by decide +kernel
theorem dX2_tellCount_139 : decode cX2_tellCount 139 = .ok (.getfield 37, 3) := by decide +kernel
theorem dX2_tellCount_142 : decode cX2_tellCount 142 = .ok (.ireturn, 1) := by decide +kernel
theorem dX2_tellCount_143 : decode cX2_tellCount 143 = .ok (.aload_n 0, 1) := by decide +kernel
theorem dX2_tellCount_144 : decode cX2_tellCount 144 = .ok (.getfield 40, 3) := by decide +kernel
theorem dX2_tellCount_147 : decode cX2_tellCount 147 = .ok (.ireturn, 1) := by decide +kernel
theorem dX2_tellCount_148 : decode cX2_tellCount 148 = .ok (.bipush (-2), 2) := by decide +kernel
theorem dX2_tellCount_150 : decode cX2_tellCount 150 = .ok (.ireturn, 1) := by decide +kernel
theorem dX2_isName_0 : decode cX2_isName 0 = .ok (.iload_n 0, 1) := by decide +kernel
theorem dX2_isName_1 : decode cX2_isName 1 = .ok (.ifCond .lt 14, 3) := by decide +kernel
theorem dX2_isName_4 : decode cX2_isName 4 = .ok (.iload_n 0, 1) := by decide +kernel
theorem dX2_isName_5 : decode cX2_isName 5 = .ok (.sipush 676, 3) := by decide +kernel
theorem dX2_isName_8 : decode cX2_isName 8 = .ok (.if_icmp .ge 7, 3) := by decide +kernel
theorem dX2_isName_11 : decode cX2_isName 11 = .ok (.iconst 1, 1) := by decide +kernel
theorem dX2_isName_12 : decode cX2_isName 12 = .ok (.goto 4, 3) := by decide +kernel
theorem dX2_isName_15 : decode cX2_isName 15 = .ok (.iconst 0, 1) := by decide +kernel
theorem dX2_isName_16 : decode cX2_isName 16 = .ok (.ireturn, 1) := by decide +kernel
theorem dX2_isLength_0 : decode cX2_isLength 0 = .ok (.iload_n 0, 1) := by decide +kernel
theorem dX2_isLength_1 : decode cX2_isLength 1 = .ok (.iconst 1, 1) := by decide +kernel
theorem dX2_isLength_2 : decode cX2_isLength 2 = .ok (.if_icmp .lt 13, 3) := by decide +kernel
theorem dX2_isLength_5 : decode cX2_isLength 5 = .ok (.iload_n 0, 1) := by decide +kernel
theorem dX2_isLength_6 : decode cX2_isLength 6 = .ok (.bipush 40, 2) := by decide +kernel
theorem dX2_isLength_8 : decode cX2_isLength 8 = .ok (.if_icmp .gt 7, 3) := by decide +kernel
theorem dX2_isLength_11 : decode cX2_isLength 11 = .ok (.iconst 1, 1) := by decide +kernel
theorem dX2_isLength_12 : decode cX2_isLength 12 = .ok (.goto 4, 3) := by decide +kernel
theorem dX2_isLength_15 : decode cX2_isLength 15 = .ok (.iconst 0, 1) := by decide +kernel
theorem dX2_isLength_16 : decode cX2_isLength 16 = .ok (.ireturn, 1) := by decide +kernel
theorem dX2_isMark_0 : decode cX2_isMark 0 = .ok (.iload_n 0, 1) := by decide +kernel
theorem dX2_isMark_1 : decode cX2_isMark 1 = .ok (.ifCond .lt 14, 3) := by decide +kernel
theorem dX2_isMark_4 : decode cX2_isMark 4 = .ok (.iload_n 0, 1) := by decide +kernel
theorem dX2_isMark_5 : decode cX2_isMark 5 = .ok (.sipush 9999, 3) := by decide +kernel
theorem dX2_isMark_8 : decode cX2_isMark 8 = .ok (.if_icmp .gt 7, 3) := by decide +kernel
theorem dX2_isMark_11 : decode cX2_isMark 11 = .ok (.iconst 1, 1) := by decide +kernel
theorem dX2_isMark_12 : decode cX2_isMark 12 = .ok (.goto 4, 3) := by decide +kernel
theorem dX2_isMark_15 : decode cX2_isMark 15 = .ok (.iconst 0, 1) := by decide +kernel
theorem dX2_isMark_16 : decode cX2_isMark 16 = .ok (.ireturn, 1) := by decide +kernel
theorem dX2_isRank_0 : decode cX2_isRank 0 = .ok (.iload_n 1, 1) := by decide +kernel
theorem dX2_isRank_1 : decode cX2_isRank 1 = .ok (.ifCond .lt 15, 3) := by decide +kernel
theorem dX2_isRank_4 : decode cX2_isRank 4 = .ok (.iload_n 1, 1) := by decide +kernel
theorem dX2_isRank_5 : decode cX2_isRank 5 = .ok (.aload_n 0, 1) := by decide +kernel
theorem dX2_isRank_6 : decode cX2_isRank 6 = .ok (.getfield 27, 3) := by decide +kernel
theorem dX2_isRank_9 : decode cX2_isRank 9 = .ok (.if_icmp .ge 7, 3) := by decide +kernel
theorem dX2_isRank_12 : decode cX2_isRank 12 = .ok (.iconst 1, 1) := by decide +kernel
theorem dX2_isRank_13 : decode cX2_isRank 13 = .ok (.goto 4, 3) := by decide +kernel
theorem dX2_isRank_16 : decode cX2_isRank 16 = .ok (.iconst 0, 1) := by decide +kernel
theorem dX2_isRank_17 : decode cX2_isRank 17 = .ok (.ireturn, 1) := by decide +kernel
theorem dX2_isMember_0 : decode cX2_isMember 0 = .ok (.aload_n 0, 1) := by decide +kernel
theorem dX2_isMember_1 : decode cX2_isMember 1 = .ok (.iload_n 1, 1) := by decide +kernel
theorem dX2_isMember_2 : decode cX2_isMember 2 = .ok (.invokevirtual 63, 3) := by decide +kernel
theorem dX2_isMember_5 : decode cX2_isMember 5 = .ok (.ifCond .eq 18, 3) := by decide +kernel
theorem dX2_isMember_8 : decode cX2_isMember 8 = .ok (.aload_n 0, 1) := by decide +kernel
theorem dX2_isMember_9 : decode cX2_isMember 9 = .ok (.getfield 15, 3) := by decide +kernel
theorem dX2_isMember_12 : decode cX2_isMember 12 = .ok (.iload_n 1, 1) := by decide +kernel
theorem dX2_isMember_13 : decode cX2_isMember 13 = .ok (.iaload, 1) := by decide +kernel
theorem dX2_isMember_14 : decode cX2_isMember 14 = .ok (.bipush (-5), 2) := by decide +kernel
theorem dX2_isMember_16 : decode cX2_isMember 16 = .ok (.if_icmp .ne 7, 3) := by decide +kernel
theorem dX2_isMember_19 : decode cX2_isMember 19 = .ok (.iconst 1, 1) := by decide +kernel
theorem dX2_isMember_20 : decode cX2_isMember 20 = .ok (.goto 4, 3) := by decide +kernel
theorem dX2_isMember_23 : decode cX2_isMember 23 = .ok (.iconst 0, 1) := by decide +kernel
theorem dX2_isMember_24 : decode cX2_isMember 24 = .ok (.ireturn, 1) := by decide +kernel
theorem dX2_isLost_0 : decode cX2_isLost 0 = .ok (.aload_n 0, 1) := by decide +kernel
theorem dX2_isLost_1 : decode cX2_isLost 1 = .ok (.iload_n 1, 1) := by decide +kernel
theorem dX2_isLost_2 : decode cX2_isLost 2 = .ok (.invokevirtual 63, 3) := by decide +kernel
theorem dX2_isLost_5 : decode cX2_isLost 5 = .ok (.ifCond .eq 11, 3) := by decide +kernel
theorem dX2_isLost_8 : decode cX2_isLost 8 = .ok (.aload_n 0, 1) := by decide +kernel
theorem dX2_isLost_9 : decode cX2_isLost 9 = .ok (.iload_n 1, 1) := by decide +kernel
theorem dX2_isLost_10 : decode cX2_isLost 10 = .ok (.invokevirtual 80, 3) := by decide +kernel
theorem dX2_isLost_13 : decode cX2_isLost 13 = .ok (.ifCond .eq 5, 3) := by decide +kernel
theorem dX2_isLost_16 : decode cX2_isLost 16 = .ok (.iconst 0, 1) := by decide +kernel
theorem dX2_isLost_17 : decode cX2_isLost 17 = .ok (.ireturn, 1) := by decide +kernel
theorem dX2_isLost_18 : decode cX2_isLost 18 = .ok (.aload_n 0, 1) := by decide +kernel
theorem dX2_isLost_19 : decode cX2_isLost 19 = .ok (.aload_n 0, 1) := by decide +kernel
theorem dX2_isLost_20 : decode cX2_isLost 20 = .ok (.getfield 15, 3) := by decide +kernel
theorem dX2_isLost_23 : decode cX2_isLost 23 = .ok (.iload_n 1, 1) := by decide +kernel
theorem dX2_isLost_24 : decode cX2_isLost 24 = .ok (.iaload, 1) := by decide +kernel
theorem dX2_isLost_25 : decode cX2_isLost 25 = .ok (.invokevirtual 59, 3) := by decide +kernel
theorem dX2_isLost_28 : decode cX2_isLost 28 = .ok (.istore_n 2, 1) := by decide +kernel
theorem dX2_isLost_29 : decode cX2_isLost 29 = .ok (.aload_n 0, 1) := by decide +kernel
theorem dX2_isLost_30 : decode cX2_isLost 30 = .ok (.iload_n 2, 1) := by decide +kernel
theorem dX2_isLost_31 : decode cX2_isLost 31 = .ok (.invokevirtual 80, 3) := by decide +kernel
theorem dX2_isLost_34 : decode cX2_isLost 34 = .ok (.ifCond .eq 18, 3) := by decide +kernel
theorem dX2_isLost_37 : decode cX2_isLost 37 = .ok (.aload_n 0, 1) := by decide +kernel
theorem dX2_isLost_38 : decode cX2_isLost 38 = .ok (.getfield 18, 3) := by decide +kernel
theorem dX2_isLost_41 : decode cX2_isLost 41 = .ok (.iload_n 2, 1) := by decide +kernel
theorem dX2_isLost_42 : decode cX2_isLost 42 = .ok (.iaload, 1) := by decide +kernel
theorem dX2_isLost_43 : decode cX2_isLost 43 = .ok (.aload_n 0, 1) := by decide +kernel
theorem dX2_isLost_44 : decode cX2_isLost 44 = .ok (.getfield 18, 3) := by decide +kernel
theorem dX2_isLost_47 : decode cX2_isLost 47 = .ok (.iload_n 1, 1) := by decide +kernel
theorem dX2_isLost_48 : decode cX2_isLost 48 = .ok (.iaload, 1) := by decide +kernel
theorem dX2_isLost_49 : decode cX2_isLost 49 = .ok (.if_icmp .eq 7, 3) := by decide +kernel
theorem dX2_isLost_52 : decode cX2_isLost 52 = .ok (.iconst 1, 1) := by decide +kernel
theorem dX2_isLost_53 : decode cX2_isLost 53 = .ok (.goto 4, 3) := by decide +kernel
theorem dX2_isLost_56 : decode cX2_isLost 56 = .ok (.iconst 0, 1) := by decide +kernel
theorem dX2_isLost_57 : decode cX2_isLost 57 = .ok (.ireturn, 1) := by decide +kernel
theorem dX2_isFirstOfText_0 : decode cX2_isFirstOfText 0 = .ok (.aload_n 0, 1) := by decide +kernel
theorem dX2_isFirstOfText_1 : decode cX2_isFirstOfText 1 = .ok (.iload_n 1, 1) := by decide +kernel
theorem dX2_isFirstOfText_2 : decode cX2_isFirstOfText 2 = .ok (.invokevirtual 63, 3) := by decide +kernel
theorem dX2_isFirstOfText_5 : decode cX2_isFirstOfText 5 = .ok (.ifCond .ne 5, 3) := by decide +kernel
theorem dX2_isFirstOfText_8 : decode cX2_isFirstOfText 8 = .ok (.iconst 0, 1) := by decide +kernel
theorem dX2_isFirstOfText_9 : decode cX2_isFirstOfText 9 = .ok (.ireturn, 1) := by decide +kernel
theorem dX2_isFirstOfText_10 : decode cX2_isFirstOfText 10 = .ok (.iconst 0, 1) := by decide +kernel
theorem dX2_isFirstOfText_11 : decode cX2_isFirstOfText 11 = .ok (.istore_n 2, 1) := by decide +kernel
theorem dX2_isFirstOfText_12 : decode cX2_isFirstOfText 12 = .ok (.iload_n 2, 1) := by decide +kernel
theorem dX2_isFirstOfText_13 : decode cX2_isFirstOfText 13 = .ok (.iload_n 1, 1) := by decide +kernel
theorem dX2_isFirstOfText_14 : decode cX2_isFirstOfText 14 = .ok (.if_icmp .ge 26, 3) := by decide +kernel
theorem dX2_isFirstOfText_17 : decode cX2_isFirstOfText 17 = .ok (.aload_n 0, 1) := by decide +kernel
theorem dX2_isFirstOfText_18 : decode cX2_isFirstOfText 18 = .ok (.getfield 18, 3) := by decide +kernel
theorem dX2_isFirstOfText_21 : decode cX2_isFirstOfText 21 = .ok (.iload_n 2, 1) := by decide +kernel
theorem dX2_isFirstOfText_22 : decode cX2_isFirstOfText 22 = .ok (.iaload, 1) := by decide +kernel
theorem dX2_isFirstOfText_23 : decode cX2_isFirstOfText 23 = .ok (.aload_n 0, 1) := by decide +kernel
theorem dX2_isFirstOfText_24 : decode cX2_isFirstOfText 24 = .ok (.getfield 18, 3) := by decide +kernel
theorem dX2_isFirstOfText_27 : decode cX2_isFirstOfText 27 = .ok (.iload_n 1, 1) := by decide +kernel
theorem dX2_isFirstOfText_28 : decode cX2_isFirstOfText 28 = .ok (.iaload, 1) := by decide +kernel
theorem dX2_isFirstOfText_29 : decode cX2_isFirstOfText 29 = .ok (.if_icmp .ne 5, 3) := by decide +kernel
theorem dX2_isFirstOfText_32 : decode cX2_isFirstOfText 32 = .ok (.iconst 0, 1) := by decide +kernel
theorem dX2_isFirstOfText_33 : decode cX2_isFirstOfText 33 = .ok (.ireturn, 1) := by decide +kernel
theorem dX2_isFirstOfText_34 : decode cX2_isFirstOfText 34 = .ok (.iinc 2 1, 3) := by decide +kernel
theorem dX2_isFirstOfText_37 : decode cX2_isFirstOfText 37 = .ok (.goto (-25), 3) := by decide +kernel
theorem dX2_isFirstOfText_40 : decode cX2_isFirstOfText 40 = .ok (.iconst 1, 1) := by decide +kernel
theorem dX2_isFirstOfText_41 : decode cX2_isFirstOfText 41 = .ok (.ireturn, 1) := by decide +kernel
theorem dX2_isDirectoryFull_0 : decode cX2_isDirectoryFull 0 = .ok (.aload_n 0, 1) := by decide +kernel
theorem dX2_isDirectoryFull_1 : decode cX2_isDirectoryFull 1 = .ok (.getfield 27, 3) := by decide +kernel
theorem dX2_isDirectoryFull_4 : decode cX2_isDirectoryFull 4 = .ok (.aload_n 0, 1) := by decide +kernel
theorem dX2_isDirectoryFull_5 : decode cX2_isDirectoryFull 5 = .ok (.getfield 31, 3) := by decide +kernel
theorem dX2_isDirectoryFull_8 : decode cX2_isDirectoryFull 8 = .ok (.iconst 4, 1) := by decide +kernel
theorem dX2_isDirectoryFull_9 : decode cX2_isDirectoryFull 9 = .ok (.imul, 1) := by decide +kernel
theorem dX2_isDirectoryFull_10 : decode cX2_isDirectoryFull 10 = .ok (.if_icmp .lt 7, 3) := by decide +kernel
theorem dX2_isDirectoryFull_13 : decode cX2_isDirectoryFull 13 = .ok (.iconst 1, 1) := by decide +kernel
theorem dX2_isDirectoryFull_14 : decode cX2_isDirectoryFull 14 = .ok (.goto 4, 3) := by decide +kernel
theorem dX2_isDirectoryFull_17 : decode cX2_isDirectoryFull 17 = .ok (.iconst 0, 1) := by decide +kernel
theorem dX2_isDirectoryFull_18 : decode cX2_isDirectoryFull 18 = .ok (.ireturn, 1) := by decide +kernel
theorem dX2_hasRoom_0 : decode cX2_hasRoom 0 = .ok (.aload_n 0, 1) := by decide +kernel
theorem dX2_hasRoom_1 : decode cX2_hasRoom 1 = .ok (.getfield 34, 3) := by decide +kernel
theorem dX2_hasRoom_4 : decode cX2_hasRoom 4 = .ok (.iload_n 1, 1) := by decide +kernel
theorem dX2_hasRoom_5 : decode cX2_hasRoom 5 = .ok (.iadd, 1) := by decide +kernel
theorem dX2_hasRoom_6 : decode cX2_hasRoom 6 = .ok (.bipush 100, 2) := by decide +kernel
theorem dX2_hasRoom_8 : decode cX2_hasRoom 8 = .ok (.if_icmp .gt 7, 3) := by decide +kernel
theorem dX2_hasRoom_11 : decode cX2_hasRoom 11 = .ok (.iconst 1, 1) := by decide +kernel
theorem dX2_hasRoom_12 : decode cX2_hasRoom 12 = .ok (.goto 4, 3) := by decide +kernel
theorem dX2_hasRoom_15 : decode cX2_hasRoom 15 = .ok (.iconst 0, 1) := by decide +kernel
theorem dX2_hasRoom_16 : decode cX2_hasRoom 16 = .ok (.ireturn, 1) := by decide +kernel
theorem dX2_rankOf_0 : decode cX2_rankOf 0 = .ok (.iconst 0, 1) := by decide +kernel
theorem dX2_rankOf_1 : decode cX2_rankOf 1 = .ok (.istore_n 2, 1) := by decide +kernel
theorem dX2_rankOf_2 : decode cX2_rankOf 2 = .ok (.iload_n 2, 1) := by decide +kernel
theorem dX2_rankOf_3 : decode cX2_rankOf 3 = .ok (.aload_n 0, 1) := by decide +kernel
theorem dX2_rankOf_4 : decode cX2_rankOf 4 = .ok (.getfield 27, 3) := by decide +kernel
theorem dX2_rankOf_7 : decode cX2_rankOf 7 = .ok (.if_icmp .ge 21, 3) := by decide +kernel
theorem dX2_rankOf_10 : decode cX2_rankOf 10 = .ok (.aload_n 0, 1) := by decide +kernel
theorem dX2_rankOf_11 : decode cX2_rankOf 11 = .ok (.getfield 9, 3) := by decide +kernel
theorem dX2_rankOf_14 : decode cX2_rankOf 14 = .ok (.iload_n 2, 1) := by decide +kernel
theorem dX2_rankOf_15 : decode cX2_rankOf 15 = .ok (.iaload, 1) := by decide +kernel
theorem dX2_rankOf_16 : decode cX2_rankOf 16 = .ok (.iload_n 1, 1) := by decide +kernel
theorem dX2_rankOf_17 : decode cX2_rankOf 17 = .ok (.if_icmp .ne 5, 3) := by decide +kernel
theorem dX2_rankOf_20 : decode cX2_rankOf 20 = .ok (.iload_n 2, 1) := by decide +kernel
theorem dX2_rankOf_21 : decode cX2_rankOf 21 = .ok (.ireturn, 1) := by decide +kernel
theorem dX2_rankOf_22 : decode cX2_rankOf 22 = .ok (.iinc 2 1, 3) := by decide +kernel
theorem dX2_rankOf_25 : decode cX2_rankOf 25 = .ok (.goto (-23), 3) := by decide +kernel
theorem dX2_rankOf_28 : decode cX2_rankOf 28 = .ok (.iconst (-1), 1) := by decide +kernel
theorem dX2_rankOf_29 : decode cX2_rankOf 29 = .ok (.ireturn, 1) := by decide +kernel
theorem dX2_namesBelow_0 : decode cX2_namesBelow 0 = .ok (.iconst 0, 1) := by decide +kernel
theorem dX2_namesBelow_1 : decode cX2_namesBelow 1 = .ok (.istore_n 2, 1) := by decide +kernel
theorem dX2_namesBelow_2 : decode cX2_namesBelow 2 = .ok (.iconst 0, 1) := by decide +kernel
theorem dX2_namesBelow_3 : decode cX2_namesBelow 3 = .ok (.istore_n 3, 1) := by decide +kernel
theorem dX2_namesBelow_4 : decode cX2_namesBelow 4 = .ok (.iload_n 3, 1) := by decide +kernel
theorem dX2_namesBelow_5 : decode cX2_namesBelow 5 = .ok (.aload_n 0, 1) := by decide +kernel
theorem dX2_namesBelow_6 : decode cX2_namesBelow 6 = .ok (.getfield 27, 3) := by decide +kernel
theorem dX2_namesBelow_9 : decode cX2_namesBelow 9 = .ok (.if_icmp .ge 22, 3) := by decide +kernel
theorem dX2_namesBelow_12 : decode cX2_namesBelow 12 = .ok (.aload_n 0, 1) := by decide +kernel
theorem dX2_namesBelow_13 : decode cX2_namesBelow 13 = .ok (.getfield 9, 3) := by decide +kernel
theorem dX2_namesBelow_16 : decode cX2_namesBelow 16 = .ok (.iload_n 3, 1) := by decide +kernel
theorem dX2_namesBelow_17 : decode cX2_namesBelow 17 = .ok (.iaload, 1) := by decide +kernel
theorem dX2_namesBelow_18 : decode cX2_namesBelow 18 = .ok (.iload_n 1, 1) := by decide +kernel
theorem dX2_namesBelow_19 : decode cX2_namesBelow 19 = .ok (.if_icmp .ge 6, 3) := by decide +kernel
theorem dX2_namesBelow_22 : decode cX2_namesBelow 22 = .ok (.iinc 2 1, 3) := by decide +kernel
theorem dX2_namesBelow_25 : decode cX2_namesBelow 25 = .ok (.iinc 3 1, 3) := by decide +kernel
theorem dX2_namesBelow_28 : decode cX2_namesBelow 28 = .ok (.goto (-24), 3) := by decide +kernel
theorem dX2_namesBelow_31 : decode cX2_namesBelow 31 = .ok (.iload_n 2, 1) := by decide +kernel
theorem dX2_namesBelow_32 : decode cX2_namesBelow 32 = .ok (.ireturn, 1) := by decide +kernel
theorem dX2_aliases_0 : decode cX2_aliases 0 = .ok (.iconst 0, 1) := by decide +kernel
theorem dX2_aliases_1 : decode cX2_aliases 1 = .ok (.istore_n 1, 1) := by decide +kernel
theorem dX2_aliases_2 : decode cX2_aliases 2 = .ok (.iconst 0, 1) := by decide +kernel
theorem dX2_aliases_3 : decode cX2_aliases 3 = .ok (.istore_n 2, 1) := by decide +kernel
theorem dX2_aliases_4 : decode cX2_aliases 4 = .ok (.iload_n 2, 1) := by decide +kernel
theorem dX2_aliases_5 : decode cX2_aliases 5 = .ok (.aload_n 0, 1) := by decide +kernel
theorem dX2_aliases_6 : decode cX2_aliases 6 = .ok (.getfield 27, 3) := by decide +kernel
theorem dX2_aliases_9 : decode cX2_aliases 9 = .ok (.if_icmp .ge 20, 3) := by decide +kernel
theorem dX2_aliases_12 : decode cX2_aliases 12 = .ok (.aload_n 0, 1) := by decide +kernel
theorem dX2_aliases_13 : decode cX2_aliases 13 = .ok (.iload_n 2, 1) := by decide +kernel
theorem dX2_aliases_14 : decode cX2_aliases 14 = .ok (.invokevirtual 80, 3) := by decide +kernel
theorem dX2_aliases_17 : decode cX2_aliases 17 = .ok (.ifCond .ne 6, 3) := by decide +kernel
theorem dX2_aliases_20 : decode cX2_aliases 20 = .ok (.iinc 1 1, 3) := by decide +kernel
theorem dX2_aliases_23 : decode cX2_aliases 23 = .ok (.iinc 2 1, 3) := by decide +kernel
theorem dX2_aliases_26 : decode cX2_aliases 26 = .ok (.goto (-22), 3) := by decide +kernel
theorem dX2_aliases_29 : decode cX2_aliases 29 = .ok (.iload_n 1, 1) := by decide +kernel
theorem dX2_aliases_30 : decode cX2_aliases 30 = .ok (.ireturn, 1) := by decide +kernel
theorem dX2_lostAliases_0 : decode cX2_lostAliases 0 = .ok (.iconst 0, 1) := by decide +kernel
theorem dX2_lostAliases_1 : decode cX2_lostAliases 1 = .ok (.istore_n 1, 1) := by decide +kernel
theorem dX2_lostAliases_2 : decode cX2_lostAliases 2 = .ok (.iconst 0, 1) := by decide +kernel
theorem dX2_lostAliases_3 : decode cX2_lostAliases 3 = .ok (.istore_n 2, 1) := by decide +kernel
theorem dX2_lostAliases_4 : decode cX2_lostAliases 4 = .ok (.iload_n 2, 1) := by decide +kernel
theorem dX2_lostAliases_5 : decode cX2_lostAliases 5 = .ok (.aload_n 0, 1) := by decide +kernel
theorem dX2_lostAliases_6 : decode cX2_lostAliases 6 = .ok (.getfield 27, 3) := by decide +kernel
theorem dX2_lostAliases_9 : decode cX2_lostAliases 9 = .ok (.if_icmp .ge 20, 3) := by decide +kernel
theorem dX2_lostAliases_12 : decode cX2_lostAliases 12 = .ok (.aload_n 0, 1) := by decide +kernel
theorem dX2_lostAliases_13 : decode cX2_lostAliases 13 = .ok (.iload_n 2, 1) := by decide +kernel
theorem dX2_lostAliases_14 : decode cX2_lostAliases 14 = .ok (.invokevirtual 105, 3) := by decide +kernel
theorem dX2_lostAliases_17 : decode cX2_lostAliases 17 = .ok (.ifCond .eq 6, 3) := by decide +kernel
theorem dX2_lostAliases_20 : decode cX2_lostAliases 20 = .ok (.iinc 1 1, 3) := by decide +kernel
theorem dX2_lostAliases_23 : decode cX2_lostAliases 23 = .ok (.iinc 2 1, 3) := by decide +kernel
theorem dX2_lostAliases_26 : decode cX2_lostAliases 26 = .ok (.goto (-22), 3) := by decide +kernel
theorem dX2_lostAliases_29 : decode cX2_lostAliases 29 = .ok (.iload_n 1, 1) := by decide +kernel
theorem dX2_lostAliases_30 : decode cX2_lostAliases 30 = .ok (.ireturn, 1) := by decide +kernel
theorem dX2_aliasesOf_0 : decode cX2_aliasesOf 0 = .ok (.iconst 0, 1) := by decide +kernel
theorem dX2_aliasesOf_1 : decode cX2_aliasesOf 1 = .ok (.istore_n 2, 1) := by decide +kernel
theorem dX2_aliasesOf_2 : decode cX2_aliasesOf 2 = .ok (.iconst 0, 1) := by decide +kernel
theorem dX2_aliasesOf_3 : decode cX2_aliasesOf 3 = .ok (.istore_n 3, 1) := by decide +kernel
theorem dX2_aliasesOf_4 : decode cX2_aliasesOf 4 = .ok (.iload_n 3, 1) := by decide +kernel
theorem dX2_aliasesOf_5 : decode cX2_aliasesOf 5 = .ok (.aload_n 0, 1) := by decide +kernel
theorem dX2_aliasesOf_6 : decode cX2_aliasesOf 6 = .ok (.getfield 27, 3) := by decide +kernel
theorem dX2_aliasesOf_9 : decode cX2_aliasesOf 9 = .ok (.if_icmp .ge 30, 3) := by decide +kernel
theorem dX2_aliasesOf_12 : decode cX2_aliasesOf 12 = .ok (.aload_n 0, 1) := by decide +kernel
theorem dX2_aliasesOf_13 : decode cX2_aliasesOf 13 = .ok (.getfield 18, 3) := by decide +kernel
theorem dX2_aliasesOf_16 : decode cX2_aliasesOf 16 = .ok (.iload_n 3, 1) := by decide +kernel
theorem dX2_aliasesOf_17 : decode cX2_aliasesOf 17 = .ok (.iaload, 1) := by decide +kernel
theorem dX2_aliasesOf_18 : decode cX2_aliasesOf 18 = .ok (.iload_n 1, 1) := by decide +kernel
theorem dX2_aliasesOf_19 : decode cX2_aliasesOf 19 = .ok (.if_icmp .ne 14, 3) := by decide +kernel
theorem dX2_aliasesOf_22 : decode cX2_aliasesOf 22 = .ok (.aload_n 0, 1) := by decide +kernel
theorem dX2_aliasesOf_23 : decode cX2_aliasesOf 23 = .ok (.iload_n 3, 1) := by decide +kernel
theorem dX2_aliasesOf_24 : decode cX2_aliasesOf 24 = .ok (.invokevirtual 80, 3) := by decide +kernel
theorem dX2_aliasesOf_27 : decode cX2_aliasesOf 27 = .ok (.ifCond .ne 6, 3) := by decide +kernel
theorem dX2_aliasesOf_30 : decode cX2_aliasesOf 30 = .ok (.iinc 2 1, 3) := by decide +kernel
theorem dX2_aliasesOf_33 : decode cX2_aliasesOf 33 = .ok (.iinc 3 1, 3) := by decide +kernel
theorem dX2_aliasesOf_36 : decode cX2_aliasesOf 36 = .ok (.goto (-32), 3) := by decide +kernel
theorem dX2_aliasesOf_39 : decode cX2_aliasesOf 39 = .ok (.iload_n 2, 1) := by decide +kernel
theorem dX2_aliasesOf_40 : decode cX2_aliasesOf 40 = .ok (.ireturn, 1) := by decide +kernel
theorem dX2_livingTexts_0 : decode cX2_livingTexts 0 = .ok (.iconst 0, 1) := by decide +kernel
theorem dX2_livingTexts_1 : decode cX2_livingTexts 1 = .ok (.istore_n 1, 1) := by decide +kernel
theorem dX2_livingTexts_2 : decode cX2_livingTexts 2 = .ok (.iconst 0, 1) := by decide +kernel
theorem dX2_livingTexts_3 : decode cX2_livingTexts 3 = .ok (.istore_n 2, 1) := by decide +kernel
theorem dX2_livingTexts_4 : decode cX2_livingTexts 4 = .ok (.iload_n 2, 1) := by decide +kernel
theorem dX2_livingTexts_5 : decode cX2_livingTexts 5 = .ok (.aload_n 0, 1) := by decide +kernel
theorem dX2_livingTexts_6 : decode cX2_livingTexts 6 = .ok (.getfield 27, 3) := by decide +kernel
theorem dX2_livingTexts_9 : decode cX2_livingTexts 9 = .ok (.if_icmp .ge 20, 3) := by decide +kernel
theorem dX2_livingTexts_12 : decode cX2_livingTexts 12 = .ok (.aload_n 0, 1) := by decide +kernel
theorem dX2_livingTexts_13 : decode cX2_livingTexts 13 = .ok (.iload_n 2, 1) := by decide +kernel
theorem dX2_livingTexts_14 : decode cX2_livingTexts 14 = .ok (.invokevirtual 135, 3) := by decide +kernel
theorem dX2_livingTexts_17 : decode cX2_livingTexts 17 = .ok (.ifCond .eq 6, 3) := by decide +kernel
theorem dX2_livingTexts_20 : decode cX2_livingTexts 20 = .ok (.iinc 1 1, 3) := by decide +kernel
theorem dX2_livingTexts_23 : decode cX2_livingTexts 23 = .ok (.iinc 2 1, 3) := by decide +kernel
theorem dX2_livingTexts_26 : decode cX2_livingTexts 26 = .ok (.goto (-22), 3) := by decide +kernel
theorem dX2_livingTexts_29 : decode cX2_livingTexts 29 = .ok (.iload_n 1, 1) := by decide +kernel
theorem dX2_livingTexts_30 : decode cX2_livingTexts 30 = .ok (.ireturn, 1) := by decide +kernel
theorem dX2_livingUnits_0 : decode cX2_livingUnits 0 = .ok (.iconst 0, 1) := by decide +kernel
theorem dX2_livingUnits_1 : decode cX2_livingUnits 1 = .ok (.istore_n 1, 1) := by decide +kernel
theorem dX2_livingUnits_2 : decode cX2_livingUnits 2 = .ok (.iconst 0, 1) := by decide +kernel
theorem dX2_livingUnits_3 : decode cX2_livingUnits 3 = .ok (.istore_n 2, 1) := by decide +kernel
theorem dX2_livingUnits_4 : decode cX2_livingUnits 4 = .ok (.iload_n 2, 1) := by decide +kernel
theorem dX2_livingUnits_5 : decode cX2_livingUnits 5 = .ok (.aload_n 0, 1) := by decide +kernel
theorem dX2_livingUnits_6 : decode cX2_livingUnits 6 = .ok (.getfield 27, 3) := by decide +kernel
theorem dX2_livingUnits_9 : decode cX2_livingUnits 9 = .ok (.if_icmp .ge 26, 3) := by decide +kernel
theorem dX2_livingUnits_12 : decode cX2_livingUnits 12 = .ok (.aload_n 0, 1) := by decide +kernel
theorem dX2_livingUnits_13 : decode cX2_livingUnits 13 = .ok (.iload_n 2, 1) := by decide +kernel
theorem dX2_livingUnits_14 : decode cX2_livingUnits 14 = .ok (.invokevirtual 135, 3) := by decide +kernel
theorem dX2_livingUnits_17 : decode cX2_livingUnits 17 = .ok (.ifCond .eq 12, 3) := by decide +kernel
theorem dX2_livingUnits_20 : decode cX2_livingUnits 20 = .ok (.iload_n 1, 1) := by decide +kernel
theorem dX2_livingUnits_21 : decode cX2_livingUnits 21 = .ok (.aload_n 0, 1) := by decide +kernel
theorem dX2_livingUnits_22 : decode cX2_livingUnits 22 = .ok (.getfield 21, 3) := by decide +kernel
theorem dX2_livingUnits_25 : decode cX2_livingUnits 25 = .ok (.iload_n 2, 1) := by decide +kernel
theorem dX2_livingUnits_26 : decode cX2_livingUnits 26 = .ok (.iaload, 1) := by decide +kernel
theorem dX2_livingUnits_27 : decode cX2_livingUnits 27 = .ok (.iadd, 1) := by decide +kernel
theorem dX2_livingUnits_28 : decode cX2_livingUnits 28 = .ok (.istore_n 1, 1) := by decide +kernel
theorem dX2_livingUnits_29 : decode cX2_livingUnits 29 = .ok (.iinc 2 1, 3) := by decide +kernel
theorem dX2_livingUnits_32 : decode cX2_livingUnits 32 = .ok (.goto (-28), 3) := by decide +kernel
theorem dX2_livingUnits_35 : decode cX2_livingUnits 35 = .ok (.iload_n 1, 1) := by decide +kernel
theorem dX2_livingUnits_36 : decode cX2_livingUnits 36 = .ok (.ireturn, 1) := by decide +kernel
theorem dX2_deadUnits_0 : decode cX2_deadUnits 0 = .ok (.aload_n 0, 1) := by decide +kernel
theorem dX2_deadUnits_1 : decode cX2_deadUnits 1 = .ok (.getfield 34, 3) := by decide +kernel
theorem dX2_deadUnits_4 : decode cX2_deadUnits 4 = .ok (.aload_n 0, 1) := by decide +kernel
theorem dX2_deadUnits_5 : decode cX2_deadUnits 5 = .ok (.invokevirtual 120, 3) := by decide +kernel
theorem dX2_deadUnits_8 : decode cX2_deadUnits 8 = .ok (.isub, 1) := by decide +kernel
theorem dX2_deadUnits_9 : decode cX2_deadUnits 9 = .ok (.ireturn, 1) := by decide +kernel
theorem dX2_layText_0 : decode cX2_layText 0 = .ok (.aload_n 0, 1) := by decide +kernel
theorem dX2_layText_1 : decode cX2_layText 1 = .ok (.getfield 34, 3) := by decide +kernel
theorem dX2_layText_4 : decode cX2_layText 4 = .ok (.istore_n 2, 1) := by decide +kernel
theorem dX2_layText_5 : decode cX2_layText 5 = .ok (.aload_n 0, 1) := by decide +kernel
theorem dX2_layText_6 : decode cX2_layText 6 = .ok (.dup, 1) := by decide +kernel
theorem dX2_layText_7 : decode cX2_layText 7 = .ok (.getfield 34, 3) := by decide +kernel
theorem dX2_layText_10 : decode cX2_layText 10 = .ok (.iload_n 1, 1) := by decide +kernel
theorem dX2_layText_11 : decode cX2_layText 11 = .ok (.iadd, 1) := by decide +kernel
theorem dX2_layText_12 : decode cX2_layText 12 = .ok (.putfield 34, 3) := by decide +kernel
theorem dX2_layText_15 : decode cX2_layText 15 = .ok (.iload_n 2, 1) := by decide +kernel
theorem dX2_layText_16 : decode cX2_layText 16 = .ok (.ireturn, 1) := by decide +kernel
theorem dX2_tellAliases_0 : decode cX2_tellAliases 0 = .ok (.iconst 0, 1) := by decide +kernel
theorem dX2_tellAliases_1 : decode cX2_tellAliases 1 = .ok (.istore_n 3, 1) := by decide +kernel
theorem dX2_tellAliases_2 : decode cX2_tellAliases 2 = .ok (.iload_n 3, 1) := by decide +kernel
theorem dX2_tellAliases_3 : decode cX2_tellAliases 3 = .ok (.aload_n 0, 1) := by decide +kernel
theorem dX2_tellAliases_4 : decode cX2_tellAliases 4 = .ok (.getfield 27, 3) := by decide +kernel
theorem dX2_tellAliases_7 : decode cX2_tellAliases 7 = .ok (.if_icmp .ge 26, 3) := by decide +kernel
theorem dX2_tellAliases_10 : decode cX2_tellAliases 10 = .ok (.aload_n 0, 1) := by decide +kernel
theorem dX2_tellAliases_11 : decode cX2_tellAliases 11 = .ok (.getfield 15, 3) := by decide +kernel
theorem dX2_tellAliases_14 : decode cX2_tellAliases 14 = .ok (.iload_n 3, 1) := by decide +kernel
theorem dX2_tellAliases_15 : decode cX2_tellAliases 15 = .ok (.iaload, 1) := by decide +kernel
theorem dX2_tellAliases_16 : decode cX2_tellAliases 16 = .ok (.iload_n 1, 1) := by decide +kernel
theorem dX2_tellAliases_17 : decode cX2_tellAliases 17 = .ok (.if_icmp .ne 10, 3) := by decide +kernel
theorem dX2_tellAliases_20 : decode cX2_tellAliases 20 = .ok (.aload_n 0, 1) := by decide +kernel
theorem dX2_tellAliases_21 : decode cX2_tellAliases 21 = .ok (.getfield 15, 3) := by decide +kernel
theorem dX2_tellAliases_24 : decode cX2_tellAliases 24 = .ok (.iload_n 3, 1) := by decide +kernel
theorem dX2_tellAliases_25 : decode cX2_tellAliases 25 = .ok (.iload_n 2, 1) := by decide +kernel
theorem dX2_tellAliases_26 : decode cX2_tellAliases 26 = .ok (.iastore, 1) := by decide +kernel
theorem dX2_tellAliases_27 : decode cX2_tellAliases 27 = .ok (.iinc 3 1, 3) := by decide +kernel
theorem dX2_tellAliases_30 : decode cX2_tellAliases 30 = .ok (.goto (-28), 3) := by decide +kernel
theorem dX2_tellAliases_33 : decode cX2_tellAliases 33 = .ok (.return_, 1) := by decide +kernel
theorem dX2_insertEntry_0 : decode cX2_insertEntry 0 = .ok (.aload_n 0, 1) := by decide +kernel
theorem dX2_insertEntry_1 : decode cX2_insertEntry 1 = .ok (.invokevirtual 66, 3) := by decide +kernel
theorem dX2_insertEntry_4 : decode cX2_insertEntry 4 = .ok (.ifCond .eq 6, 3) := by decide +kernel
theorem dX2_insertEntry_7 : decode cX2_insertEntry 7 = .ok (.bipush (-6), 2) := by decide +kernel
theorem dX2_insertEntry_9 : decode cX2_insertEntry 9 = .ok (.ireturn, 1) := by decide +kernel
theorem dX2_insertEntry_10 : decode cX2_insertEntry 10 = .ok (.aload_n 0, 1) := by decide +kernel
theorem dX2_insertEntry_11 : decode cX2_insertEntry 11 = .ok (.iload_n 1, 1) := by decide +kernel
theorem dX2_insertEntry_12 : decode cX2_insertEntry 12 = .ok (.invokevirtual 123, 3) := by decide +kernel
theorem dX2_insertEntry_15 : decode cX2_insertEntry 15 = .ok (.istore 6, 2) := by decide +kernel
theorem dX2_insertEntry_17 : decode cX2_insertEntry 17 = .ok (.aload_n 0, 1) := by decide +kernel
theorem dX2_insertEntry_18 : decode cX2_insertEntry 18 = .ok (.iload 6, 2) := by decide +kernel
theorem dX2_insertEntry_20 : decode cX2_insertEntry 20 = .ok (.iload 6, 2) := by decide +kernel
theorem dX2_insertEntry_22 : decode cX2_insertEntry 22 = .ok (.iconst 1, 1) := by decide +kernel
theorem dX2_insertEntry_23 : decode cX2_insertEntry 23 = .ok (.iadd, 1) := by decide +kernel
theorem dX2_insertEntry_24 : decode cX2_insertEntry 24 = .ok (.aload_n 0, 1) := by decide +kernel
theorem dX2_insertEntry_25 : decode cX2_insertEntry 25 = .ok (.getfield 27, 3) := by decide +kernel
theorem dX2_insertEntry_28 : decode cX2_insertEntry 28 = .ok (.iload 6, 2) := by decide +kernel
theorem dX2_insertEntry_30 : decode cX2_insertEntry 30 = .ok (.isub, 1) := by decide +kernel
theorem dX2_insertEntry_31 : decode cX2_insertEntry 31 = .ok (.invokevirtual 138, 3) := by decide +kernel
theorem dX2_insertEntry_34 : decode cX2_insertEntry 34 = .ok (.aload_n 0, 1) := by decide +kernel
theorem dX2_insertEntry_35 : decode cX2_insertEntry 35 = .ok (.dup, 1) := by decide +kernel
theorem dX2_insertEntry_36 : decode cX2_insertEntry 36 = .ok (.getfield 27, 3) := by decide +kernel
theorem dX2_insertEntry_39 : decode cX2_insertEntry 39 = .ok (.iconst 1, 1) := by decide +kernel
theorem dX2_insertEntry_40 : decode cX2_insertEntry 40 = .ok (.iadd, 1) := by decide +kernel
theorem dX2_insertEntry_41 : decode cX2_insertEntry 41 = .ok (.putfield 27, 3) := by decide +kernel
theorem dX2_insertEntry_44 : decode cX2_insertEntry 44 = .ok (.aload_n 0, 1) := by decide +kernel
theorem dX2_insertEntry_45 : decode cX2_insertEntry 45 = .ok (.iload 6, 2) := by decide +kernel
theorem dX2_insertEntry_47 : decode cX2_insertEntry 47 = .ok (.iload_n 1, 1) := by decide +kernel
theorem dX2_insertEntry_48 : decode cX2_insertEntry 48 = .ok (.iload_n 2, 1) := by decide +kernel
theorem dX2_insertEntry_49 : decode cX2_insertEntry 49 = .ok (.iload_n 3, 1) := by decide +kernel
theorem dX2_insertEntry_50 : decode cX2_insertEntry 50 = .ok (.iload 4, 2) := by decide +kernel
theorem dX2_insertEntry_52 : decode cX2_insertEntry 52 = .ok (.iload 5, 2) := by decide +kernel
theorem dX2_insertEntry_54 : decode cX2_insertEntry 54 = .ok (.invokevirtual 83, 3) := by decide +kernel
theorem dX2_insertEntry_57 : decode cX2_insertEntry 57 = .ok (.iload 6, 2) := by decide +kernel
theorem dX2_insertEntry_59 : decode cX2_insertEntry 59 = .ok (.ireturn, 1) := by decide +kernel
theorem dX2_takeOut_0 : decode cX2_takeOut 0 = .ok (.aload_n 0, 1) := by decide +kernel
theorem dX2_takeOut_1 : decode cX2_takeOut 1 = .ok (.iload_n 1, 1) := by decide +kernel
theorem dX2_takeOut_2 : decode cX2_takeOut 2 = .ok (.invokevirtual 63, 3) := by decide +kernel
theorem dX2_takeOut_5 : decode cX2_takeOut 5 = .ok (.ifCond .eq 29, 3) := by decide +kernel
theorem dX2_takeOut_8 : decode cX2_takeOut 8 = .ok (.aload_n 0, 1) := by decide +kernel
theorem dX2_takeOut_9 : decode cX2_takeOut 9 = .ok (.iload_n 1, 1) := by decide +kernel
theorem dX2_takeOut_10 : decode cX2_takeOut 10 = .ok (.iconst 1, 1) := by decide +kernel
theorem dX2_takeOut_11 : decode cX2_takeOut 11 = .ok (.iadd, 1) := by decide +kernel
theorem dX2_takeOut_12 : decode cX2_takeOut 12 = .ok (.iload_n 1, 1) := by decide +kernel
theorem dX2_takeOut_13 : decode cX2_takeOut 13 = .ok (.aload_n 0, 1) := by decide +kernel
theorem dX2_takeOut_14 : decode cX2_takeOut 14 = .ok (.getfield 27, 3) := by decide +kernel
theorem dX2_takeOut_17 : decode cX2_takeOut 17 = .ok (.iload_n 1, 1) := by decide +kernel
theorem dX2_takeOut_18 : decode cX2_takeOut 18 = .ok (.isub, 1) := by decide +kernel
theorem dX2_takeOut_19 : decode cX2_takeOut 19 = .ok (.iconst 1, 1) := by decide +kernel
theorem dX2_takeOut_20 : decode cX2_takeOut 20 = .ok (.isub, 1) := by decide +kernel
theorem dX2_takeOut_21 : decode cX2_takeOut 21 = .ok (.invokevirtual 138, 3) := by decide +kernel
theorem dX2_takeOut_24 : decode cX2_takeOut 24 = .ok (.aload_n 0, 1) := by decide +kernel
theorem dX2_takeOut_25 : decode cX2_takeOut 25 = .ok (.dup, 1) := by decide +kernel
theorem dX2_takeOut_26 : decode cX2_takeOut 26 = .ok (.getfield 27, 3) := by decide +kernel
theorem dX2_takeOut_29 : decode cX2_takeOut 29 = .ok (.iconst 1, 1) := by decide +kernel
theorem dX2_takeOut_30 : decode cX2_takeOut 30 = .ok (.isub, 1) := by decide +kernel
theorem dX2_takeOut_31 : decode cX2_takeOut 31 = .ok (.putfield 27, 3) := by decide +kernel
theorem dX2_takeOut_34 : decode cX2_takeOut 34 = .ok (.return_, 1) := by decide +kernel
theorem dX2_setEntry_0 : decode cX2_setEntry 0 = .ok (.aload_n 0, 1) := by decide +kernel
theorem dX2_setEntry_1 : decode cX2_setEntry 1 = .ok (.iload_n 1, 1) := by decide +kernel
theorem dX2_setEntry_2 : decode cX2_setEntry 2 = .ok (.invokevirtual 63, 3) := by decide +kernel
theorem dX2_setEntry_5 : decode cX2_setEntry 5 = .ok (.ifCond .eq 41, 3) := by decide +kernel
theorem dX2_setEntry_8 : decode cX2_setEntry 8 = .ok (.aload_n 0, 1) := by decide +kernel
theorem dX2_setEntry_9 : decode cX2_setEntry 9 = .ok (.getfield 9, 3) := by decide +kernel
theorem dX2_setEntry_12 : decode cX2_setEntry 12 = .ok (.iload_n 1, 1) := by decide +kernel
theorem dX2_setEntry_13 : decode cX2_setEntry 13 = .ok (.iload_n 2, 1) := by decide +kernel
theorem dX2_setEntry_14 : decode cX2_setEntry 14 = .ok (.iastore, 1) := by decide +kernel
theorem dX2_setEntry_15 : decode cX2_setEntry 15 = .ok (.aload_n 0, 1) := by decide +kernel
theorem dX2_setEntry_16 : decode cX2_setEntry 16 = .ok (.getfield 15, 3) := by decide +kernel
theorem dX2_setEntry_19 : decode cX2_setEntry 19 = .ok (.iload_n 1, 1) := by decide +kernel
theorem dX2_setEntry_20 : decode cX2_setEntry 20 = .ok (.iload_n 3, 1) := by decide +kernel
theorem dX2_setEntry_21 : decode cX2_setEntry 21 = .ok (.iastore, 1) := by decide +kernel
theorem dX2_setEntry_22 : decode cX2_setEntry 22 = .ok (.aload_n 0, 1) := by decide +kernel
theorem dX2_setEntry_23 : decode cX2_setEntry 23 = .ok (.getfield 18, 3) := by decide +kernel
theorem dX2_setEntry_26 : decode cX2_setEntry 26 = .ok (.iload_n 1, 1) := by decide +kernel
theorem dX2_setEntry_27 : decode cX2_setEntry 27 = .ok (.iload 4, 2) := by decide +kernel
theorem dX2_setEntry_29 : decode cX2_setEntry 29 = .ok (.iastore, 1) := by decide +kernel
theorem dX2_setEntry_30 : decode cX2_setEntry 30 = .ok (.aload_n 0, 1) := by decide +kernel
theorem dX2_setEntry_31 : decode cX2_setEntry 31 = .ok (.getfield 21, 3) := by decide +kernel
theorem dX2_setEntry_34 : decode cX2_setEntry 34 = .ok (.iload_n 1, 1) := by decide +kernel
theorem dX2_setEntry_35 : decode cX2_setEntry 35 = .ok (.iload 5, 2) := by decide +kernel
theorem dX2_setEntry_37 : decode cX2_setEntry 37 = .ok (.iastore, 1) := by decide +kernel
theorem dX2_setEntry_38 : decode cX2_setEntry 38 = .ok (.aload_n 0, 1) := by decide +kernel
theorem dX2_setEntry_39 : decode cX2_setEntry 39 = .ok (.getfield 24, 3) := by decide +kernel
theorem dX2_setEntry_42 : decode cX2_setEntry 42 = .ok (.iload_n 1, 1) := by decide +kernel
theorem dX2_setEntry_43 : decode cX2_setEntry 43 = .ok (.iload 6, 2) := by decide +kernel
theorem dX2_setEntry_45 : decode cX2_setEntry 45 = .ok (.iastore, 1) := by decide +kernel
theorem dX2_setEntry_46 : decode cX2_setEntry 46 = .ok (.return_, 1) := by decide +kernel
theorem dX2_moveEntries_0 : decode cX2_moveEntries 0 = .ok (.iload_n 1, 1) := by decide +kernel
theorem dX2_moveEntries_1 : decode cX2_moveEntries 1 = .ok (.ifCond .lt 23, 3) := by decide +kernel
theorem dX2_moveEntries_4 : decode cX2_moveEntries 4 = .ok (.iload_n 2, 1) := by decide +kernel
theorem dX2_moveEntries_5 : decode cX2_moveEntries 5 = .ok (.ifCond .lt 19, 3) := by decide +kernel
theorem dX2_moveEntries_8 : decode cX2_moveEntries 8 = .ok (.iload_n 3, 1) := by decide +kernel
theorem dX2_moveEntries_9 : decode cX2_moveEntries 9 = .ok (.ifCond .lt 15, 3) := by decide +kernel
theorem dX2_moveEntries_12 : decode cX2_moveEntries 12 = .ok (.iload_n 1, 1) := by decide +kernel
theorem dX2_moveEntries_13 : decode cX2_moveEntries 13 = .ok (.iload_n 2, 1) := by decide +kernel
theorem dX2_moveEntries_14 : decode cX2_moveEntries 14 = .ok (.invokestatic 114, 3) := by decide +kernel
theorem dX2_moveEntries_17 : decode cX2_moveEntries 17 = .ok (.bipush 24, 2) := by decide +kernel
theorem dX2_moveEntries_19 : decode cX2_moveEntries 19 = .ok (.iload_n 3, 1) := by decide +kernel
theorem dX2_moveEntries_20 : decode cX2_moveEntries 20 = .ok (.isub, 1) := by decide +kernel
theorem dX2_moveEntries_21 : decode cX2_moveEntries 21 = .ok (.if_icmp .le 4, 3) := by decide +kernel
theorem dX2_moveEntries_24 : decode cX2_moveEntries 24 = .ok (.return_, 1) := by decide +kernel
theorem dX2_moveEntries_25 : decode cX2_moveEntries 25 = .ok (.aload_n 0, 1) := by decide +kernel
theorem dX2_moveEntries_26 : decode cX2_moveEntries 26 = .ok (.getfield 9, 3) := by decide +kernel
theorem dX2_moveEntries_29 : decode cX2_moveEntries 29 = .ok (.iload_n 1, 1) := by decide +kernel
theorem dX2_moveEntries_30 : decode cX2_moveEntries 30 = .ok (.aload_n 0, 1) := by decide +kernel
theorem dX2_moveEntries_31 : decode cX2_moveEntries 31 = .ok (.getfield 9, 3) := by decide +kernel
theorem dX2_moveEntries_34 : decode cX2_moveEntries 34 = .ok (.iload_n 2, 1) := by decide +kernel
theorem dX2_moveEntries_35 : decode cX2_moveEntries 35 = .ok (.iload_n 3, 1) := by decide +kernel
theorem dX2_moveEntries_36 : decode cX2_moveEntries 36 = .ok (.invokestatic 43, 3) := by decide +kernel
theorem dX2_moveEntries_39 : decode cX2_moveEntries 39 = .ok (.aload_n 0, 1) := by decide +kernel
theorem dX2_moveEntries_40 : decode cX2_moveEntries 40 = .ok (.getfield 15, 3) := by decide +kernel
theorem dX2_moveEntries_43 : decode cX2_moveEntries 43 = .ok (.iload_n 1, 1) := by decide +kernel
theorem dX2_moveEntries_44 : decode cX2_moveEntries 44 = .ok (.aload_n 0, 1) := by decide +kernel
theorem dX2_moveEntries_45 : decode cX2_moveEntries 45 = .ok (.getfield 15, 3) := by decide +kernel
theorem dX2_moveEntries_48 : decode cX2_moveEntries 48 = .ok (.iload_n 2, 1) := by decide +kernel
theorem dX2_moveEntries_49 : decode cX2_moveEntries 49 = .ok (.iload_n 3, 1) := by decide +kernel
theorem dX2_moveEntries_50 : decode cX2_moveEntries 50 = .ok (.invokestatic 43, 3) := by decide +kernel
theorem dX2_moveEntries_53 : decode cX2_moveEntries 53 = .ok (.aload_n 0, 1) := by decide +kernel
theorem dX2_moveEntries_54 : decode cX2_moveEntries 54 = .ok (.getfield 18, 3) := by decide +kernel
theorem dX2_moveEntries_57 : decode cX2_moveEntries 57 = .ok (.iload_n 1, 1) := by decide +kernel
theorem dX2_moveEntries_58 : decode cX2_moveEntries 58 = .ok (.aload_n 0, 1) := by decide +kernel
theorem dX2_moveEntries_59 : decode cX2_moveEntries 59 = .ok (.getfield 18, 3) := by decide +kernel
theorem dX2_moveEntries_62 : decode cX2_moveEntries 62 = .ok (.iload_n 2, 1) := by decide +kernel
theorem dX2_moveEntries_63 : decode cX2_moveEntries 63 = .ok (.iload_n 3, 1) := by decide +kernel
theorem dX2_moveEntries_64 : decode cX2_moveEntries 64 = .ok (.invokestatic 43, 3) := by decide +kernel
theorem dX2_moveEntries_67 : decode cX2_moveEntries 67 = .ok (.aload_n 0, 1) := by decide +kernel
theorem dX2_moveEntries_68 : decode cX2_moveEntries 68 = .ok (.getfield 21, 3) := by decide +kernel
theorem dX2_moveEntries_71 : decode cX2_moveEntries 71 = .ok (.iload_n 1, 1) := by decide +kernel
theorem dX2_moveEntries_72 : decode cX2_moveEntries 72 = .ok (.aload_n 0, 1) := by decide +kernel
theorem dX2_moveEntries_73 : decode cX2_moveEntries 73 = .ok (.getfield 21, 3) := by decide +kernel
theorem dX2_moveEntries_76 : decode cX2_moveEntries 76 = .ok (.iload_n 2, 1) := by decide +kernel
theorem dX2_moveEntries_77 : decode cX2_moveEntries 77 = .ok (.iload_n 3, 1) := by decide +kernel
theorem dX2_moveEntries_78 : decode cX2_moveEntries 78 = .ok (.invokestatic 43, 3) := by decide +kernel
theorem dX2_moveEntries_81 : decode cX2_moveEntries 81 = .ok (.aload_n 0, 1) := by decide +kernel
theorem dX2_moveEntries_82 : decode cX2_moveEntries 82 = .ok (.getfield 24, 3) := by decide +kernel
theorem dX2_moveEntries_85 : decode cX2_moveEntries 85 = .ok (.iload_n 1, 1) := by decide +kernel
theorem dX2_moveEntries_86 : decode cX2_moveEntries 86 = .ok (.aload_n 0, 1) := by decide +kernel
theorem dX2_moveEntries_87 : decode cX2_moveEntries 87 = .ok (.getfield 24, 3) := by decide +kernel
theorem dX2_moveEntries_90 : decode cX2_moveEntries 90 = .ok (.iload_n 2, 1) := by decide +kernel
theorem dX2_moveEntries_91 : decode cX2_moveEntries 91 = .ok (.iload_n 3, 1) := by decide +kernel
theorem dX2_moveEntries_92 : decode cX2_moveEntries 92 = .ok (.invokestatic 43, 3) := by decide +kernel
theorem dX2_moveEntries_95 : decode cX2_moveEntries 95 = .ok (.return_, 1) := by decide +kernel
theorem dX2_closeUp_0 : decode cX2_closeUp 0 = .ok (.iconst 0, 1) := by decide +kernel
theorem dX2_closeUp_1 : decode cX2_closeUp 1 = .ok (.istore_n 1, 1) := by decide +kernel
theorem dX2_closeUp_2 : decode cX2_closeUp 2 = .ok (.iconst 0, 1) := by decide +kernel
theorem dX2_closeUp_3 : decode cX2_closeUp 3 = .ok (.istore_n 2, 1) := by decide +kernel
theorem dX2_closeUp_4 : decode cX2_closeUp 4 = .ok (.iload_n 2, 1) := by decide +kernel
theorem dX2_closeUp_5 : decode cX2_closeUp 5 = .ok (.bipush 100, 2) := by decide +kernel
theorem dX2_closeUp_7 : decode cX2_closeUp 7 = .ok (.if_icmp .ge 18, 3) := by decide +kernel
theorem dX2_closeUp_10 : decode cX2_closeUp 10 = .ok (.iload_n 1, 1) := by decide +kernel
theorem dX2_closeUp_11 : decode cX2_closeUp 11 = .ok (.aload_n 0, 1) := by decide +kernel
theorem dX2_closeUp_12 : decode cX2_closeUp 12 = .ok (.iload_n 2, 1) := by decide +kernel
theorem dX2_closeUp_13 : decode cX2_closeUp 13 = .ok (.iload_n 1, 1) := by decide +kernel
theorem dX2_closeUp_14 : decode cX2_closeUp 14 = .ok (.invokevirtual 142, 3) := by decide +kernel
theorem dX2_closeUp_17 : decode cX2_closeUp 17 = .ok (.iadd, 1) := by decide +kernel
theorem dX2_closeUp_18 : decode cX2_closeUp 18 = .ok (.istore_n 1, 1) := by decide +kernel
theorem dX2_closeUp_19 : decode cX2_closeUp 19 = .ok (.iinc 2 1, 3) := by decide +kernel
theorem dX2_closeUp_22 : decode cX2_closeUp 22 = .ok (.goto (-18), 3) := by decide +kernel
theorem dX2_closeUp_25 : decode cX2_closeUp 25 = .ok (.aload_n 0, 1) := by decide +kernel
theorem dX2_closeUp_26 : decode cX2_closeUp 26 = .ok (.getfield 34, 3) := by decide +kernel
theorem dX2_closeUp_29 : decode cX2_closeUp 29 = .ok (.iload_n 1, 1) := by decide +kernel
theorem dX2_closeUp_30 : decode cX2_closeUp 30 = .ok (.isub, 1) := by decide +kernel
theorem dX2_closeUp_31 : decode cX2_closeUp 31 = .ok (.istore_n 2, 1) := by decide +kernel
theorem dX2_closeUp_32 : decode cX2_closeUp 32 = .ok (.aload_n 0, 1) := by decide +kernel
theorem dX2_closeUp_33 : decode cX2_closeUp 33 = .ok (.iload_n 1, 1) := by decide +kernel
theorem dX2_closeUp_34 : decode cX2_closeUp 34 = .ok (.putfield 34, 3) := by decide +kernel
theorem dX2_closeUp_37 : decode cX2_closeUp 37 = .ok (.aload_n 0, 1) := by decide +kernel
theorem dX2_closeUp_38 : decode cX2_closeUp 38 = .ok (.dup, 1) := by decide +kernel
theorem dX2_closeUp_39 : decode cX2_closeUp 39 = .ok (.getfield 37, 3) := by decide +kernel
theorem dX2_closeUp_42 : decode cX2_closeUp 42 = .ok (.iconst 1, 1) := by decide +kernel
theorem dX2_closeUp_43 : decode cX2_closeUp 43 = .ok (.iadd, 1) := by decide +kernel
theorem dX2_closeUp_44 : decode cX2_closeUp 44 = .ok (.putfield 37, 3) := by decide +kernel
theorem dX2_closeUp_47 : decode cX2_closeUp 47 = .ok (.aload_n 0, 1) := by decide +kernel
theorem dX2_closeUp_48 : decode cX2_closeUp 48 = .ok (.dup, 1) := by decide +kernel
theorem dX2_closeUp_49 : decode cX2_closeUp 49 = .ok (.getfield 40, 3) := by decide +kernel
theorem dX2_closeUp_52 : decode cX2_closeUp 52 = .ok (.iload_n 2, 1) := by decide +kernel
theorem dX2_closeUp_53 : decode cX2_closeUp 53 = .ok (.iadd, 1) := by decide +kernel
theorem dX2_closeUp_54 : decode cX2_closeUp 54 = .ok (.putfield 40, 3) := by decide +kernel
theorem dX2_closeUp_57 : decode cX2_closeUp 57 = .ok (.iload_n 2, 1) := by decide +kernel
theorem dX2_closeUp_58 : decode cX2_closeUp 58 = .ok (.ireturn, 1) := by decide +kernel
theorem dX2_moveText_0 : decode cX2_moveText 0 = .ok (.iconst 0, 1) := by decide +kernel
theorem dX2_moveText_1 : decode cX2_moveText 1 = .ok (.istore_n 3, 1) := by decide +kernel
theorem dX2_moveText_2 : decode cX2_moveText 2 = .ok (.iconst 0, 1) := by decide +kernel
theorem dX2_moveText_3 : decode cX2_moveText 3 = .ok (.istore 4, 2) := by decide +kernel
theorem dX2_moveText_5 : decode cX2_moveText 5 = .ok (.iload 4, 2) := by decide +kernel
theorem dX2_moveText_7 : decode cX2_moveText 7 = .ok (.aload_n 0, 1) := by decide +kernel
theorem dX2_moveText_8 : decode cX2_moveText 8 = .ok (.getfield 27, 3) := by decide +kernel
theorem dX2_moveText_11 : decode cX2_moveText 11 = .ok (.if_icmp .ge 36, 3) := by decide +kernel
theorem dX2_moveText_14 : decode cX2_moveText 14 = .ok (.aload_n 0, 1) := by decide +kernel
theorem dX2_moveText_15 : decode cX2_moveText 15 = .ok (.getfield 18, 3) := by decide +kernel
theorem dX2_moveText_18 : decode cX2_moveText 18 = .ok (.iload 4, 2) := by decide +kernel
theorem dX2_moveText_20 : decode cX2_moveText 20 = .ok (.iaload, 1) := by decide +kernel
theorem dX2_moveText_21 : decode cX2_moveText 21 = .ok (.iload_n 1, 1) := by decide +kernel
theorem dX2_moveText_22 : decode cX2_moveText 22 = .ok (.if_icmp .ne 19, 3) := by decide +kernel
theorem dX2_moveText_25 : decode cX2_moveText 25 = .ok (.aload_n 0, 1) := by decide +kernel
theorem dX2_moveText_26 : decode cX2_moveText 26 = .ok (.getfield 18, 3) := by decide +kernel
theorem dX2_moveText_29 : decode cX2_moveText 29 = .ok (.iload 4, 2) := by decide +kernel
theorem dX2_moveText_31 : decode cX2_moveText 31 = .ok (.iload_n 2, 1) := by decide +kernel
theorem dX2_moveText_32 : decode cX2_moveText 32 = .ok (.iastore, 1) := by decide +kernel
theorem dX2_moveText_33 : decode cX2_moveText 33 = .ok (.aload_n 0, 1) := by decide +kernel
theorem dX2_moveText_34 : decode cX2_moveText 34 = .ok (.getfield 21, 3) := by decide +kernel
theorem dX2_moveText_37 : decode cX2_moveText 37 = .ok (.iload 4, 2) := by decide +kernel
theorem dX2_moveText_39 : decode cX2_moveText 39 = .ok (.iaload, 1) := by decide +kernel
theorem dX2_moveText_40 : decode cX2_moveText 40 = .ok (.istore_n 3, 1) := by decide +kernel
theorem dX2_moveText_41 : decode cX2_moveText 41 = .ok (.iinc 4 1, 3) := by decide +kernel
theorem dX2_moveText_44 : decode cX2_moveText 44 = .ok (.goto (-39), 3) := by decide +kernel
theorem dX2_moveText_47 : decode cX2_moveText 47 = .ok (.iload_n 3, 1) := by decide +kernel
theorem dX2_moveText_48 : decode cX2_moveText 48 = .ok (.ireturn, 1) := by decide +kernel
theorem dX3_init_0 : decode cX3_init 0 = .ok (.aload_n 0, 1) := by decide +kernel
theorem dX3_init_1 : decode cX3_init 1 = .ok (.invokespecial 3, 3) := by decide +kernel
theorem dX3_init_4 : decode cX3_init 4 = .ok (.aload_n 0, 1) := by decide +kernel
theorem dX3_init_5 : decode cX3_init 5 = .ok (.new 9, 3) := by decide +kernel
theorem dX3_init_8 : decode cX3_init 8 = .ok (.dup, 1) := by decide +kernel
theorem dX3_init_9 : decode cX3_init 9 = .ok (.invokespecial 11, 3) := by decide +kernel
theorem dX3_init_12 : decode cX3_init 12 = .ok (.putfield 12, 3) := by decide +kernel
theorem dX3_init_15 : decode cX3_init 15 = .ok (.aload_n 0, 1) := by decide +kernel
theorem dX3_init_16 : decode cX3_init 16 = .ok (.new 9, 3) := by decide +kernel
theorem dX3_init_19 : decode cX3_init 19 = .ok (.dup, 1) := by decide +kernel
theorem dX3_init_20 : decode cX3_init 20 = .ok (.invokespecial 11, 3) := by decide +kernel
theorem dX3_init_23 : decode cX3_init 23 = .ok (.putfield 16, 3) := by decide +kernel
theorem dX3_init_26 : decode cX3_init 26 = .ok (.aload_n 0, 1) := by decide +kernel
theorem dX3_init_27 : decode cX3_init 27 = .ok (.new 9, 3) := by decide +kernel
theorem dX3_init_30 : decode cX3_init 30 = .ok (.dup, 1) := by decide +kernel
theorem dX3_init_31 : decode cX3_init 31 = .ok (.invokespecial 11, 3) := by decide +kernel
theorem dX3_init_34 : decode cX3_init 34 = .ok (.putfield 19, 3) := by decide +kernel
theorem dX3_init_37 : decode cX3_init 37 = .ok (.aload_n 0, 1) := by decide +kernel
theorem dX3_init_38 : decode cX3_init 38 = .ok (.iconst 0, 1) := by decide +kernel
theorem dX3_init_39 : decode cX3_init 39 = .ok (.putfield 22, 3) := by decide +kernel
theorem dX3_init_42 : decode cX3_init 42 = .ok (.aload_n 0, 1) := by decide +kernel
theorem dX3_init_43 : decode cX3_init 43 = .ok (.new 26, 3) := by decide +kernel
theorem dX3_init_46 : decode cX3_init 46 = .ok (.dup, 1) := by decide +kernel
theorem dX3_init_47 : decode cX3_init 47 = .ok (.invokespecial 28, 3) := by decide +kernel
theorem dX3_init_50 : decode cX3_init 50 = .ok (.putfield 29, 3) := by decide +kernel
theorem dX3_init_53 : decode cX3_init 53 = .ok (.aload_n 0, 1) := by decide +kernel
theorem dX3_init_54 : decode cX3_init 54 = .ok (.new 33, 3) := by decide +kernel
theorem dX3_init_57 : decode cX3_init 57 = .ok (.dup, 1) := by decide +kernel
theorem dX3_init_58 : decode cX3_init 58 = .ok (.invokespecial 35, 3) := by decide +kernel
theorem dX3_init_61 : decode cX3_init 61 = .ok (.putfield 36, 3) := by decide +kernel
theorem dX3_init_64 : decode cX3_init 64 = .ok (.return_, 1) := by decide +kernel
theorem dX3_add_0 : decode cX3_add 0 = .ok (.aload_n 0, 1) := by decide +kernel
theorem dX3_add_1 : decode cX3_add 1 = .ok (.getfield 16, 3) := by decide +kernel
theorem dX3_add_4 : decode cX3_add 4 = .ok (.aload_n 0, 1) := by decide +kernel
theorem dX3_add_5 : decode cX3_add 5 = .ok (.getfield 12, 3) := by decide +kernel
theorem dX3_add_8 : decode cX3_add 8 = .ok (.invokevirtual 40, 3) := by decide +kernel
theorem dX3_add_11 : decode cX3_add 11 = .ok (.aload_n 0, 1) := by decide +kernel
theorem dX3_add_12 : decode cX3_add 12 = .ok (.aload_n 0, 1) := by decide +kernel
theorem dX3_add_13 : decode cX3_add 13 = .ok (.getfield 16, 3) := by decide +kernel
theorem dX3_add_16 : decode cX3_add 16 = .ok (.iload_n 1, 1) := by decide +kernel
theorem dX3_add_17 : decode cX3_add 17 = .ok (.iload_n 2, 1) := by decide +kernel
theorem dX3_add_18 : decode cX3_add 18 = .ok (.iload_n 3, 1) := by decide +kernel
theorem dX3_add_19 : decode cX3_add 19 = .ok (.invokevirtual 44, 3) := by decide +kernel
theorem dX3_add_22 : decode cX3_add 22 = .ok (.invokevirtual 48, 3) := by decide +kernel
theorem dX3_add_25 : decode cX3_add 25 = .ok (.ireturn, 1) := by decide +kernel
theorem dX3_replace_0 : decode cX3_replace 0 = .ok (.aload_n 0, 1) := by decide +kernel
theorem dX3_replace_1 : decode cX3_replace 1 = .ok (.getfield 16, 3) := by decide +kernel
theorem dX3_replace_4 : decode cX3_replace 4 = .ok (.aload_n 0, 1) := by decide +kernel
theorem dX3_replace_5 : decode cX3_replace 5 = .ok (.getfield 12, 3) := by decide +kernel
theorem dX3_replace_8 : decode cX3_replace 8 = .ok (.invokevirtual 40, 3) := by decide +kernel
theorem dX3_replace_11 : decode cX3_replace 11 = .ok (.aload_n 0, 1) := by decide +kernel
theorem dX3_replace_12 : decode cX3_replace 12 = .ok (.aload_n 0, 1) := by decide +kernel
theorem dX3_replace_13 : decode cX3_replace 13 = .ok (.getfield 16, 3) := by decide +kernel
theorem dX3_replace_16 : decode cX3_replace 16 = .ok (.iload_n 1, 1) := by decide +kernel
theorem dX3_replace_17 : decode cX3_replace 17 = .ok (.iload_n 2, 1) := by decide +kernel
theorem dX3_replace_18 : decode cX3_replace 18 = .ok (.iload_n 3, 1) := by decide +kernel
theorem dX3_replace_19 : decode cX3_replace 19 = .ok (.invokevirtual 52, 3) := by decide +kernel
theorem dX3_replace_22 : decode cX3_replace 22 = .ok (.invokevirtual 48, 3) := by decide +kernel
theorem dX3_replace_25 : decode cX3_replace 25 = .ok (.ireturn, 1) := by decide +kernel
theorem dX3_remove_0 : decode cX3_remove 0 = .ok (.aload_n 0, 1) := by decide +kernel
theorem dX3_remove_1 : decode cX3_remove 1 = .ok (.getfield 16, 3) := by decide +kernel
theorem dX3_remove_4 : decode cX3_remove 4 = .ok (.aload_n 0, 1) := by decide +kernel
theorem dX3_remove_5 : decode cX3_remove 5 = .ok (.getfield 12, 3) := by decide +kernel
theorem dX3_remove_8 : decode cX3_remove 8 = .ok (.invokevirtual 40, 3) := by decide +kernel
theorem dX3_remove_11 : decode cX3_remove 11 = .ok (.aload_n 0, 1) := by decide +kernel
theorem dX3_remove_12 : decode cX3_remove 12 = .ok (.aload_n 0, 1) := by decide +kernel
theorem dX3_remove_13 : decode cX3_remove 13 = .ok (.getfield 16, 3) := by decide +kernel
theorem dX3_remove_16 : decode cX3_remove 16 = .ok (.iload_n 1, 1) := by decide +kernel
theorem dX3_remove_17 : decode cX3_remove 17 = .ok (.invokevirtual 55, 3) := by decide +kernel
theorem dX3_remove_20 : decode cX3_remove 20 = .ok (.invokevirtual 48, 3) := by decide +kernel
theorem dX3_remove_23 : decode cX3_remove 23 = .ok (.ireturn, 1) := by decide +kernel
theorem dX3_rename_0 : decode cX3_rename 0 = .ok (.aload_n 0, 1) := by decide +kernel
theorem dX3_rename_1 : decode cX3_rename 1 = .ok (.getfield 16, 3) := by decide +kernel
theorem dX3_rename_4 : decode cX3_rename 4 = .ok (.aload_n 0, 1) := by decide +kernel
theorem dX3_rename_5 : decode cX3_rename 5 = .ok (.getfield 12, 3) := by decide +kernel
theorem dX3_rename_8 : decode cX3_rename 8 = .ok (.invokevirtual 40, 3) := by decide +kernel
theorem dX3_rename_11 : decode cX3_rename 11 = .ok (.aload_n 0, 1) := by decide +kernel
theorem dX3_rename_12 : decode cX3_rename 12 = .ok (.aload_n 0, 1) := by decide +kernel
theorem dX3_rename_13 : decode cX3_rename 13 = .ok (.getfield 16, 3) := by decide +kernel
theorem dX3_rename_16 : decode cX3_rename 16 = .ok (.iload_n 1, 1) := by decide +kernel
theorem dX3_rename_17 : decode cX3_rename 17 = .ok (.iload_n 2, 1) := by decide +kernel
theorem dX3_rename_18 : decode cX3_rename 18 = .ok (.invokevirtual 58, 3) := by decide +kernel
theorem dX3_rename_21 : decode cX3_rename 21 = .ok (.invokevirtual 48, 3) := by decide +kernel
theorem dX3_rename_24 : decode cX3_rename 24 = .ok (.ireturn, 1) := by decide +kernel
theorem dX3_alias_0 : decode cX3_alias 0 = .ok (.aload_n 0, 1) := by decide +kernel
theorem dX3_alias_1 : decode cX3_alias 1 = .ok (.getfield 16, 3) := by decide +kernel
theorem dX3_alias_4 : decode cX3_alias 4 = .ok (.aload_n 0, 1) := by decide +kernel
theorem dX3_alias_5 : decode cX3_alias 5 = .ok (.getfield 12, 3) := by decide +kernel
theorem dX3_alias_8 : decode cX3_alias 8 = .ok (.invokevirtual 40, 3) := by decide +kernel
theorem dX3_alias_11 : decode cX3_alias 11 = .ok (.aload_n 0, 1) := by decide +kernel
theorem dX3_alias_12 : decode cX3_alias 12 = .ok (.aload_n 0, 1) := by decide +kernel
theorem dX3_alias_13 : decode cX3_alias 13 = .ok (.getfield 16, 3) := by decide +kernel
theorem dX3_alias_16 : decode cX3_alias 16 = .ok (.iload_n 1, 1) := by decide +kernel
theorem dX3_alias_17 : decode cX3_alias 17 = .ok (.iload_n 2, 1) := by decide +kernel
theorem dX3_alias_18 : decode cX3_alias 18 = .ok (.invokevirtual 62, 3) := by decide +kernel
theorem dX3_alias_21 : decode cX3_alias 21 = .ok (.invokevirtual 48, 3) := by decide +kernel
theorem dX3_alias_24 : decode cX3_alias 24 = .ok (.ireturn, 1) := by decide +kernel
theorem dX3_addAll_0 : decode cX3_addAll 0 = .ok (.aload_n 0, 1) := by decide +kernel
theorem dX3_addAll_1 : decode cX3_addAll 1 = .ok (.getfield 36, 3) := by decide +kernel
theorem dX3_addAll_4 : decode cX3_addAll 4 = .ok (.invokevirtual 65, 3) := by decide +kernel
theorem dX3_addAll_7 : decode cX3_addAll 7 = .ok (.istore_n 1, 1) := by decide +kernel
theorem dX3_addAll_8 : decode cX3_addAll 8 = .ok (.iload_n 1, 1) := by decide +kernel
theorem dX3_addAll_9 : decode cX3_addAll 9 = .ok (.iconst (-1), 1) := by decide +kernel
theorem dX3_addAll_10 : decode cX3_addAll 10 = .ok (.if_icmp .eq 8, 3) := by decide +kernel
theorem dX3_addAll_13 : decode cX3_addAll 13 = .ok (.bipush (-100), 2) := by decide +kernel
theorem dX3_addAll_15 : decode cX3_addAll 15 = .ok (.iload_n 1, 1) := by decide +kernel
theorem dX3_addAll_16 : decode cX3_addAll 16 = .ok (.isub, 1) := by decide +kernel
theorem dX3_addAll_17 : decode cX3_addAll 17 = .ok (.ireturn, 1) := by decide +kernel
theorem dX3_addAll_18 : decode cX3_addAll 18 = .ok (.aload_n 0, 1) := by decide +kernel
theorem dX3_addAll_19 : decode cX3_addAll 19 = .ok (.getfield 16, 3) := by decide +kernel
theorem dX3_addAll_22 : decode cX3_addAll 22 = .ok (.aload_n 0, 1) := by decide +kernel
theorem dX3_addAll_23 : decode cX3_addAll 23 = .ok (.getfield 12, 3) := by decide +kernel
theorem dX3_addAll_26 : decode cX3_addAll 26 = .ok (.invokevirtual 40, 3) := by decide +kernel
theorem dX3_addAll_29 : decode cX3_addAll 29 = .ok (.aload_n 0, 1) := by decide +kernel
theorem dX3_addAll_30 : decode cX3_addAll 30 = .ok (.aload_n 0, 1) := by decide +kernel
theorem dX3_addAll_31 : decode cX3_addAll 31 = .ok (.getfield 36, 3) := by decide +kernel
theorem dX3_addAll_34 : decode cX3_addAll 34 = .ok (.aload_n 0, 1) := by decide +kernel
theorem dX3_addAll_35 : decode cX3_addAll 35 = .ok (.getfield 16, 3) := by decide +kernel
theorem dX3_addAll_38 : decode cX3_addAll 38 = .ok (.invokevirtual 69, 3) := by decide +kernel
theorem dX3_addAll_41 : decode cX3_addAll 41 = .ok (.invokevirtual 48, 3) := by decide +kernel
theorem dX3_addAll_44 : decode cX3_addAll 44 = .ok (.ireturn, 1) := by decide +kernel
theorem dX3_squeeze_0 : decode cX3_squeeze 0 = .ok (.aload_n 0, 1) := by decide +kernel
theorem dX3_squeeze_1 : decode cX3_squeeze 1 = .ok (.getfield 16, 3) := by decide +kernel
theorem dX3_squeeze_4 : decode cX3_squeeze 4 = .ok (.aload_n 0, 1) := by decide +kernel
theorem dX3_squeeze_5 : decode cX3_squeeze 5 = .ok (.getfield 12, 3) := by decide +kernel
theorem dX3_squeeze_8 : decode cX3_squeeze 8 = .ok (.invokevirtual 40, 3) := by decide +kernel
theorem dX3_squeeze_11 : decode cX3_squeeze 11 = .ok (.aload_n 0, 1) := by decide +kernel
theorem dX3_squeeze_12 : decode cX3_squeeze 12 = .ok (.aload_n 0, 1) := by decide +kernel
theorem dX3_squeeze_13 : decode cX3_squeeze 13 = .ok (.getfield 16, 3) := by decide +kernel
theorem dX3_squeeze_16 : decode cX3_squeeze 16 = .ok (.invokevirtual 73, 3) := by decide +kernel
theorem dX3_squeeze_19 : decode cX3_squeeze 19 = .ok (.invokevirtual 48, 3) := by decide +kernel
theorem dX3_squeeze_22 : decode cX3_squeeze 22 = .ok (.ireturn, 1) := by decide +kernel
theorem dX3_makeAnew_0 : decode cX3_makeAnew 0 = .ok (.aload_n 0, 1) := by decide +kernel
theorem dX3_makeAnew_1 : decode cX3_makeAnew 1 = .ok (.getfield 16, 3) := by decide +kernel
theorem dX3_makeAnew_4 : decode cX3_makeAnew 4 = .ok (.aload_n 0, 1) := by decide +kernel
theorem dX3_makeAnew_5 : decode cX3_makeAnew 5 = .ok (.getfield 12, 3) := by decide +kernel
theorem dX3_makeAnew_8 : decode cX3_makeAnew 8 = .ok (.invokevirtual 40, 3) := by decide +kernel
theorem dX3_makeAnew_11 : decode cX3_makeAnew 11 = .ok (.aload_n 0, 1) := by decide +kernel
theorem dX3_makeAnew_12 : decode cX3_makeAnew 12 = .ok (.aload_n 0, 1) := by decide +kernel
theorem dX3_makeAnew_13 : decode cX3_makeAnew 13 = .ok (.getfield 16, 3) := by decide +kernel
theorem dX3_makeAnew_16 : decode cX3_makeAnew 16 = .ok (.iload_n 1, 1) := by decide +kernel
theorem dX3_makeAnew_17 : decode cX3_makeAnew 17 = .ok (.invokevirtual 76, 3) := by decide +kernel
theorem dX3_makeAnew_20 : decode cX3_makeAnew 20 = .ok (.invokevirtual 48, 3) := by decide +kernel
theorem dX3_makeAnew_23 : decode cX3_makeAnew 23 = .ok (.ireturn, 1) := by decide +kernel
theorem dX3_type_0 : decode cX3_type 0 = .ok (.aload_n 0, 1) := by decide +kernel
theorem dX3_type_1 : decode cX3_type 1 = .ok (.getfield 36, 3) := by decide +kernel
theorem dX3_type_4 : decode cX3_type 4 = .ok (.iload_n 1, 1) := by decide +kernel
theorem dX3_type_5 : decode cX3_type 5 = .ok (.invokevirtual 79, 3) := by decide +kernel
theorem dX3_type_8 : decode cX3_type 8 = .ok (.ireturn, 1) := by decide +kernel
theorem dX3_clearPad_0 : decode cX3_clearPad 0 = .ok (.aload_n 0, 1) := by decide +kernel
theorem dX3_clearPad_1 : decode cX3_clearPad 1 = .ok (.getfield 36, 3) := by decide +kernel
theorem dX3_clearPad_4 : decode cX3_clearPad 4 = .ok (.invokevirtual 83, 3) := by decide +kernel
theorem dX3_clearPad_7 : decode cX3_clearPad 7 = .ok (.ireturn, 1) := by decide +kernel
theorem dX3_undo_0 : decode cX3_undo 0 = .ok (.aload_n 0, 1) := by decide +kernel
theorem dX3_undo_1 : decode cX3_undo 1 = .ok (.getfield 29, 3) := by decide +kernel
theorem dX3_undo_4 : decode cX3_undo 4 = .ok (.aload_n 0, 1) := by decide +kernel
theorem dX3_undo_5 : decode cX3_undo 5 = .ok (.getfield 12, 3) := by decide +kernel
theorem dX3_undo_8 : decode cX3_undo 8 = .ok (.invokevirtual 86, 3) := by decide +kernel
theorem dX3_undo_11 : decode cX3_undo 11 = .ok (.ifCond .ne 6, 3) := by decide +kernel
theorem dX3_undo_14 : decode cX3_undo 14 = .ok (.bipush (-5), 2) := by decide +kernel
theorem dX3_undo_16 : decode cX3_undo 16 = .ok (.ireturn, 1) := by decide +kernel
theorem dX3_undo_17 : decode cX3_undo 17 = .ok (.aload_n 0, 1) := by decide +kernel
theorem dX3_undo_18 : decode cX3_undo 18 = .ok (.getfield 29, 3) := by decide +kernel
theorem dX3_undo_21 : decode cX3_undo 21 = .ok (.invokevirtual 90, 3) := by decide +kernel
theorem dX3_undo_24 : decode cX3_undo 24 = .ok (.ireturn, 1) := by decide +kernel
theorem dX3_entry_0 : decode cX3_entry 0 = .ok (.aload_n 0, 1) := by decide +kernel
theorem dX3_entry_1 : decode cX3_entry 1 = .ok (.getfield 12, 3) := by decide +kernel
theorem dX3_entry_4 : decode cX3_entry 4 = .ok (.iload_n 1, 1) := by decide +kernel
theorem dX3_entry_5 : decode cX3_entry 5 = .ok (.iload_n 2, 1) := by decide +kernel
theorem dX3_entry_6 : decode cX3_entry 6 = .ok (.invokevirtual 94, 3) := by decide +kernel
theorem dX3_entry_9 : decode cX3_entry 9 = .ok (.ireturn, 1) := by decide +kernel
theorem dX3_named_0 : decode cX3_named 0 = .ok (.aload_n 0, 1) := by decide +kernel
theorem dX3_named_1 : decode cX3_named 1 = .ok (.getfield 12, 3) := by decide +kernel
theorem dX3_named_4 : decode cX3_named 4 = .ok (.iload_n 1, 1) := by decide +kernel
theorem dX3_named_5 : decode cX3_named 5 = .ok (.invokevirtual 97, 3) := by decide +kernel
theorem dX3_named_8 : decode cX3_named 8 = .ok (.ireturn, 1) := by decide +kernel
theorem dX3_at_0 : decode cX3_at 0 = .ok (.aload_n 0, 1) := by decide +kernel
theorem dX3_at_1 : decode cX3_at 1 = .ok (.getfield 12, 3) := by decide +kernel
theorem dX3_at_4 : decode cX3_at 4 = .ok (.iload_n 1, 1) := by decide +kernel
theorem dX3_at_5 : decode cX3_at 5 = .ok (.invokevirtual 103, 3) := by decide +kernel
theorem dX3_at_8 : decode cX3_at 8 = .ok (.ireturn, 1) := by decide +kernel
theorem dX3_fits_0 : decode cX3_fits 0 = .ok (.aload_n 0, 1) := by decide +kernel
theorem dX3_fits_1 : decode cX3_fits 1 = .ok (.getfield 12, 3) := by decide +kernel
theorem dX3_fits_4 : decode cX3_fits 4 = .ok (.iload_n 1, 1) := by decide +kernel
theorem dX3_fits_5 : decode cX3_fits 5 = .ok (.invokevirtual 106, 3) := by decide +kernel
theorem dX3_fits_8 : decode cX3_fits 8 = .ok (.ireturn, 1) := by decide +kernel
theorem dX3_beginning_0 : decode cX3_beginning 0 = .ok (.aload_n 0, 1) := by decide +kernel
theorem dX3_beginning_1 : decode cX3_beginning 1 = .ok (.getfield 12, 3) := by decide +kernel
theorem dX3_beginning_4 : decode cX3_beginning 4 = .ok (.iload_n 1, 1) := by decide +kernel
theorem dX3_beginning_5 : decode cX3_beginning 5 = .ok (.iload_n 2, 1) := by decide +kernel
theorem dX3_beginning_6 : decode cX3_beginning 6 = .ok (.invokevirtual 109, 3) := by decide +kernel
theorem dX3_beginning_9 : decode cX3_beginning 9 = .ok (.ireturn, 1) := by decide +kernel
theorem dX3_count_0 : decode cX3_count 0 = .ok (.iload_n 1, 1) := by decide +kernel
theorem dX3_count_1 : decode cX3_count 1 = .ok (.lookupswitch 43 #[(13, 27), (14, 35)], 27) := by decide +kernel
theorem dX3_count_28 : decode cX3_count 28 = .ok (.aload_n 0, 1) := by decide +kernel
theorem dX3_count_29 : decode cX3_count 29 = .ok (.getfield 29, 3) := by decide +kernel
theorem dX3_count_32 : decode cX3_count 32 = .ok (.invokevirtual 90, 3) := by decide +kernel
theorem dX3_count_35 : decode cX3_count 35 = .ok (.ireturn, 1) := by decide +kernel
theorem dX3_count_36 : decode cX3_count 36 = .ok (.aload_n 0, 1) := by decide +kernel
theorem dX3_count_37 : decode cX3_count 37 = .ok (.getfield 36, 3) := by decide +kernel
theorem dX3_count_40 : decode cX3_count 40 = .ok (.invokevirtual 112, 3) := by decide +kernel
theorem dX3_count_43 : decode cX3_count 43 = .ok (.ireturn, 1) := by decide +kernel
theorem dX3_count_44 : decode cX3_count 44 = .ok (.aload_n 0, 1) := by decide +kernel
theorem dX3_count_45 : decode cX3_count 45 = .ok (.getfield 12, 3) := by decide +kernel
theorem dX3_count_48 : decode cX3_count 48 = .ok (.iload_n 1, 1) := by decide +kernel
theorem dX3_count_49 : decode cX3_count 49 = .ok (.invokevirtual 115, 3) := by decide +kernel
theorem dX3_count_52 : decode cX3_count 52 = .ok (.ireturn, 1) := by decide +kernel
theorem dX3_settle_0 : decode cX3_settle 0 = .ok (.iload_n 1, 1) := by decide +kernel
theorem dX3_settle_1 : decode cX3_settle 1 = .ok (.ifCond .lt 25, 3) := by decide +kernel
theorem dX3_settle_4 : decode cX3_settle 4 = .ok (.aload_n 0, 1) := by decide +kernel
theorem dX3_settle_5 : decode cX3_settle 5 = .ok (.getfield 29, 3) := by decide +kernel
theorem dX3_settle_8 : decode cX3_settle 8 = .ok (.aload_n 0, 1) := by decide +kernel
theorem dX3_settle_9 : decode cX3_settle 9 = .ok (.getfield 12, 3) := by decide +kernel
theorem dX3_settle_12 : decode cX3_settle 12 = .ok (.invokevirtual 118, 3) := by decide +kernel
theorem dX3_settle_15 : decode cX3_settle 15 = .ok (.aload_n 0, 1) := by decide +kernel
theorem dX3_settle_16 : decode cX3_settle 16 = .ok (.getfield 12, 3) := by decide +kernel
theorem dX3_settle_19 : decode cX3_settle 19 = .ok (.aload_n 0, 1) := by decide +kernel
theorem dX3_settle_20 : decode cX3_settle 20 = .ok (.getfield 16, 3) := by decide +kernel
theorem dX3_settle_23 : decode cX3_settle 23 = .ok (.invokevirtual 40, 3) := by decide +kernel
theorem dX3_settle_26 : decode cX3_settle 26 = .ok (.iload_n 1, 1) := by decide +kernel
theorem dX3_settle_27 : decode cX3_settle 27 = .ok (.ireturn, 1) := by decide +kernel
theorem dJ9_max_7cf53_0 : decode cJ9_max_7cf53 0 = .ok (.iload_n 0, 1) := by decide +kernel
theorem dJ9_max_7cf53_1 : decode cJ9_max_7cf53 1 = .ok (.iload_n 1, 1) := by decide +kernel
theorem dJ9_max_7cf53_2 : decode cJ9_max_7cf53 2 = .ok (.if_icmp .lt 7, 3) := by decide +kernel
theorem dJ9_max_7cf53_5 : decode cJ9_max_7cf53 5 = .ok (.iload_n 0, 1) := by decide +kernel
theorem dJ9_max_7cf53_6 : decode cJ9_max_7cf53 6 = .ok (.goto 4, 3) := by decide +kernel
theorem dJ9_max_7cf53_9 : decode cJ9_max_7cf53 9 = .ok (.iload_n 1, 1) := by decide +kernel
theorem dJ9_max_7cf53_10 : decode cJ9_max_7cf53 10 = .ok (.ireturn, 1) := by decide +kernel
theorem dL_cell_0 : decode cL_cell 0 = .ok (.iload_n 1, 1) := by decide +kernel
theorem dL_cell_1 : decode cL_cell 1 = .ok (.aload_n 0, 1) := by decide +kernel
theorem dL_cell_2 : decode cL_cell 2 = .ok (.arraylength, 1) := by decide +kernel
theorem dL_cell_3 : decode cL_cell 3 = .ok (.if_icmp .ge 9, 3) := by decide +kernel
theorem dL_cell_6 : decode cL_cell 6 = .ok (.aload_n 0, 1) := by decide +kernel
theorem dL_cell_7 : decode cL_cell 7 = .ok (.iload_n 1, 1) := by decide +kernel
theorem dL_cell_8 : decode cL_cell 8 = .ok (.iaload, 1) := by decide +kernel
theorem dL_cell_9 : decode cL_cell 9 = .ok (.goto 11, 3) := by decide +kernel
theorem dL_cell_12 : decode cL_cell 12 = .ok (.ldc 7, 2) := by decide +kernel
theorem dL_cell_14 : decode cL_cell 14 = .ok (.iload_n 1, 1) := by decide +kernel
theorem dL_cell_15 : decode cL_cell 15 = .ok (.sipush 1091, 3) := by decide +kernel
theorem dL_cell_18 : decode cL_cell 18 = .ok (.iadd, 1) := by decide +kernel
theorem dL_cell_19 : decode cL_cell 19 = .ok (.imul, 1) := by decide +kernel
theorem dL_cell_20 : decode cL_cell 20 = .ok (.ireturn, 1) := by decide +kernel
theorem dL_up_0 : decode cL_up 0 = .ok (.iload_n 0, 1) := by decide +kernel
theorem dL_up_1 : decode cL_up 1 = .ok (.ldc 8, 2) := by decide +kernel
theorem dL_up_3 : decode cL_up 3 = .ok (.iand, 1) := by decide +kernel
theorem dL_up_4 : decode cL_up 4 = .ok (.iload_n 1, 1) := by decide +kernel
theorem dL_up_5 : decode cL_up 5 = .ok (.irem, 1) := by decide +kernel
theorem dL_up_6 : decode cL_up 6 = .ok (.ireturn, 1) := by decide +kernel
theorem dL_there_0 : decode cL_there 0 = .ok (.iload_n 0, 1) := by decide +kernel
theorem dL_there_1 : decode cL_there 1 = .ok (.ifCond .lt 10, 3) := by decide +kernel
theorem dL_there_4 : decode cL_there 4 = .ok (.iload_n 0, 1) := by decide +kernel
theorem dL_there_5 : decode cL_there 5 = .ok (.sipush 1000, 3) := by decide +kernel
theorem dL_there_8 : decode cL_there 8 = .ok (.if_icmp .ne 7, 3) := by decide +kernel
theorem dL_there_11 : decode cL_there 11 = .ok (.iload_n 0, 1) := by decide +kernel
theorem dL_there_12 : decode cL_there 12 = .ok (.goto 8, 3) := by decide +kernel
theorem dL_there_15 : decode cL_there 15 = .ok (.iload_n 0, 1) := by decide +kernel
theorem dL_there_16 : decode cL_there 16 = .ok (.sipush 338, 3) := by decide +kernel
theorem dL_there_19 : decode cL_there 19 = .ok (.iadd, 1) := by decide +kernel
theorem dL_there_20 : decode cL_there 20 = .ok (.ireturn, 1) := by decide +kernel
theorem dL_name_0 : decode cL_name 0 = .ok (.aload_n 0, 1) := by decide +kernel
theorem dL_name_1 : decode cL_name 1 = .ok (.bipush 65, 2) := by decide +kernel
theorem dL_name_3 : decode cL_name 3 = .ok (.iload_n 1, 1) := by decide +kernel
theorem dL_name_4 : decode cL_name 4 = .ok (.bipush 26, 2) := by decide +kernel
theorem dL_name_6 : decode cL_name 6 = .ok (.idiv, 1) := by decide +kernel
theorem dL_name_7 : decode cL_name 7 = .ok (.iadd, 1) := by decide +kernel
theorem dL_name_8 : decode cL_name 8 = .ok (.i2c, 1) := by decide +kernel
theorem dL_name_9 : decode cL_name 9 = .ok (.invokevirtual 11, 3) := by decide +kernel
theorem dL_name_12 : decode cL_name 12 = .ok (.ifCond .le 22, 3) := by decide +kernel
theorem dL_name_15 : decode cL_name 15 = .ok (.aload_n 0, 1) := by decide +kernel
theorem dL_name_16 : decode cL_name 16 = .ok (.bipush 65, 2) := by decide +kernel
theorem dL_name_18 : decode cL_name 18 = .ok (.iload_n 1, 1) := by decide +kernel
theorem dL_name_19 : decode cL_name 19 = .ok (.bipush 26, 2) := by decide +kernel
theorem dL_name_21 : decode cL_name 21 = .ok (.irem, 1) := by decide +kernel
theorem dL_name_22 : decode cL_name 22 = .ok (.iadd, 1) := by decide +kernel
theorem dL_name_23 : decode cL_name 23 = .ok (.i2c, 1) := by decide +kernel
theorem dL_name_24 : decode cL_name 24 = .ok (.invokevirtual 11, 3) := by decide +kernel
theorem dL_name_27 : decode cL_name 27 = .ok (.ifCond .le 7, 3) := by decide +kernel
theorem dL_name_30 : decode cL_name 30 = .ok (.iconst 1, 1) := by decide +kernel
theorem dL_name_31 : decode cL_name 31 = .ok (.goto 4, 3) := by decide +kernel
theorem dL_name_34 : decode cL_name 34 = .ok (.iconst 0, 1) := by decide +kernel
theorem dL_name_35 : decode cL_name 35 = .ok (.ireturn, 1) := by decide +kernel
theorem dL_number_0 : decode cL_number 0 = .ok (.iconst 1, 1) := by decide +kernel
theorem dL_number_1 : decode cL_number 1 = .ok (.istore_n 2, 1) := by decide +kernel
theorem dL_number_2 : decode cL_number 2 = .ok (.iload_n 1, 1) := by decide +kernel
theorem dL_number_3 : decode cL_number 3 = .ok (.sipush 999, 3) := by decide +kernel
theorem dL_number_6 : decode cL_number 6 = .ok (.if_icmp .le 9, 3) := by decide +kernel
theorem dL_number_9 : decode cL_number 9 = .ok (.sipush 1000, 3) := by decide +kernel
theorem dL_number_12 : decode cL_number 12 = .ok (.goto 26, 3) := by decide +kernel
theorem dL_number_15 : decode cL_number 15 = .ok (.iload_n 1, 1) := by decide +kernel
theorem dL_number_16 : decode cL_number 16 = .ok (.bipush 99, 2) := by decide +kernel
theorem dL_number_18 : decode cL_number 18 = .ok (.if_icmp .le 8, 3) := by decide +kernel
theorem dL_number_21 : decode cL_number 21 = .ok (.bipush 100, 2) := by decide +kernel
theorem dL_number_23 : decode cL_number 23 = .ok (.goto 15, 3) := by decide +kernel
theorem dL_number_26 : decode cL_number 26 = .ok (.iload_n 1, 1) := by decide +kernel
theorem dL_number_27 : decode cL_number 27 = .ok (.bipush 9, 2) := by decide +kernel
theorem dL_number_29 : decode cL_number 29 = .ok (.if_icmp .le 8, 3) := by decide +kernel
theorem dL_number_32 : decode cL_number 32 = .ok (.bipush 10, 2) := by decide +kernel
theorem dL_number_34 : decode cL_number 34 = .ok (.goto 4, 3) := by decide +kernel
theorem dL_number_37 : decode cL_number 37 = .ok (.iconst 1, 1) := by decide +kernel
theorem dL_number_38 : decode cL_number 38 = .ok (.istore_n 3, 1) := by decide +kernel
theorem dL_number_39 : decode cL_number 39 = .ok (.iload_n 3, 1) := by decide +kernel
theorem dL_number_40 : decode cL_number 40 = .ok (.ifCond .le 38, 3) := by decide +kernel
theorem dL_number_43 : decode cL_number 43 = .ok (.iload_n 2, 1) := by decide +kernel
theorem dL_number_44 : decode cL_number 44 = .ok (.ifCond .eq 24, 3) := by decide +kernel
theorem dL_number_47 : decode cL_number 47 = .ok (.aload_n 0, 1) := by decide +kernel
theorem dL_number_48 : decode cL_number 48 = .ok (.bipush 48, 2) := by decide +kernel
theorem dL_number_50 : decode cL_number 50 = .ok (.iload_n 1, 1) := by decide +kernel
theorem dL_number_51 : decode cL_number 51 = .ok (.iload_n 3, 1) := by decide +kernel
theorem dL_number_52 : decode cL_number 52 = .ok (.idiv, 1) := by decide +kernel
theorem dL_number_53 : decode cL_number 53 = .ok (.bipush 10, 2) := by decide +kernel
theorem dL_number_55 : decode cL_number 55 = .ok (.irem, 1) := by decide +kernel
theorem dL_number_56 : decode cL_number 56 = .ok (.iadd, 1) := by decide +kernel
theorem dL_number_57 : decode cL_number 57 = .ok (.i2c, 1) := by decide +kernel
theorem dL_number_58 : decode cL_number 58 = .ok (.invokevirtual 11, 3) := by decide +kernel
theorem dL_number_61 : decode cL_number 61 = .ok (.ifCond .le 7, 3) := by decide +kernel
theorem dL_number_64 : decode cL_number 64 = .ok (.iconst 1, 1) := by decide +kernel
theorem dL_number_65 : decode cL_number 65 = .ok (.goto 4, 3) := by decide +kernel
theorem dL_number_68 : decode cL_number 68 = .ok (.iconst 0, 1) := by decide +kernel
theorem dL_number_69 : decode cL_number 69 = .ok (.istore_n 2, 1) := by decide +kernel
theorem dL_number_70 : decode cL_number 70 = .ok (.iload_n 3, 1) := by decide +kernel
theorem dL_number_71 : decode cL_number 71 = .ok (.bipush 10, 2) := by decide +kernel
theorem dL_number_73 : decode cL_number 73 = .ok (.idiv, 1) := by decide +kernel
theorem dL_number_74 : decode cL_number 74 = .ok (.istore_n 3, 1) := by decide +kernel
theorem dL_number_75 : decode cL_number 75 = .ok (.goto (-36), 3) := by decide +kernel
theorem dL_number_78 : decode cL_number 78 = .ok (.iload_n 2, 1) := by decide +kernel
theorem dL_number_79 : decode cL_number 79 = .ok (.ireturn, 1) := by decide +kernel
theorem dL_isStep_0 : decode cL_isStep 0 = .ok (.iload_n 2, 1) := by decide +kernel
theorem dL_isStep_1 : decode cL_isStep 1 = .ok (.iconst 4, 1) := by decide +kernel
theorem dL_isStep_2 : decode cL_isStep 2 = .ok (.ishr, 1) := by decide +kernel
theorem dL_isStep_3 : decode cL_isStep 3 = .ok (.istore 4, 2) := by decide +kernel
theorem dL_isStep_5 : decode cL_isStep 5 = .ok (.bipush 26, 2) := by decide +kernel
theorem dL_isStep_7 : decode cL_isStep 7 = .ok (.iload 4, 2) := by decide +kernel
theorem dL_isStep_9 : decode cL_isStep 9 = .ok (.iconst 3, 1) := by decide +kernel
theorem dL_isStep_10 : decode cL_isStep 10 = .ok (.invokestatic 17, 3) := by decide +kernel
theorem dL_isStep_13 : decode cL_isStep 13 = .ok (.imul, 1) := by decide +kernel
theorem dL_isStep_14 : decode cL_isStep 14 = .ok (.iload 4, 2) := by decide +kernel
theorem dL_isStep_16 : decode cL_isStep 16 = .ok (.iconst 2, 1) := by decide +kernel
theorem dL_isStep_17 : decode cL_isStep 17 = .ok (.ishr, 1) := by decide +kernel
theorem dL_isStep_18 : decode cL_isStep 18 = .ok (.iconst 5, 1) := by decide +kernel
theorem dL_isStep_19 : decode cL_isStep 19 = .ok (.invokestatic 17, 3) := by decide +kernel
theorem dL_isStep_22 : decode cL_isStep 22 = .ok (.iadd, 1) := by decide +kernel
theorem dL_isStep_23 : decode cL_isStep 23 = .ok (.istore 5, 2) := by decide +kernel
theorem dL_isStep_25 : decode cL_isStep 25 = .ok (.bipush 26, 2) := by decide +kernel
theorem dL_isStep_27 : decode cL_isStep 27 = .ok (.iload 4, 2) := by decide +kernel
theorem dL_isStep_29 : decode cL_isStep 29 = .ok (.iconst 5, 1) := by decide +kernel
theorem dL_isStep_30 : decode cL_isStep 30 = .ok (.ishr, 1) := by decide +kernel
theorem dL_isStep_31 : decode cL_isStep 31 = .ok (.iconst 3, 1) := by decide +kernel
theorem dL_isStep_32 : decode cL_isStep 32 = .ok (.invokestatic 17, 3) := by decide +kernel
theorem dL_isStep_35 : decode cL_isStep 35 = .ok (.imul, 1) := by decide +kernel
theorem dL_isStep_36 : decode cL_isStep 36 = .ok (.iload 4, 2) := by decide +kernel
theorem dL_isStep_38 : decode cL_isStep 38 = .ok (.bipush 7, 2) := by decide +kernel
theorem dL_isStep_40 : decode cL_isStep 40 = .ok (.ishr, 1) := by decide +kernel
theorem dL_isStep_41 : decode cL_isStep 41 = .ok (.iconst 5, 1) := by decide +kernel
theorem dL_isStep_42 : decode cL_isStep 42 = .ok (.invokestatic 17, 3) := by decide +kernel
theorem dL_isStep_45 : decode cL_isStep 45 = .ok (.iadd, 1) := by decide +kernel
theorem dL_isStep_46 : decode cL_isStep 46 = .ok (.istore 6, 2) := by decide +kernel
theorem dL_isStep_48 : decode cL_isStep 48 = .ok (.iconst 1, 1) := by decide +kernel
theorem dL_isStep_49 : decode cL_isStep 49 = .ok (.iload_n 3, 1) := by decide +kernel
theorem dL_isStep_50 : decode cL_isStep 50 = .ok (.iload_n 3, 1) := by decide +kernel
theorem dL_isStep_51 : decode cL_isStep 51 = .ok (.bipush 6, 2) := by decide +kernel
theorem dL_isStep_53 : decode cL_isStep 53 = .ok (.ishr, 1) := by decide +kernel
theorem dL_isStep_54 : decode cL_isStep 54 = .ok (.iconst 3, 1) := by decide +kernel
theorem dL_isStep_55 : decode cL_isStep 55 = .ok (.invokestatic 17, 3) := by decide +kernel
theorem dL_isStep_58 : decode cL_isStep 58 = .ok (.ifCond .ne 8, 3) := by decide +kernel
theorem dL_isStep_61 : decode cL_isStep 61 = .ok (.bipush 40, 2) := by decide +kernel
theorem dL_isStep_63 : decode cL_isStep 63 = .ok (.goto 5, 3) := by decide +kernel
theorem dL_isStep_66 : decode cL_isStep 66 = .ok (.bipush 10, 2) := by decide +kernel
theorem dL_isStep_68 : decode cL_isStep 68 = .ok (.invokestatic 17, 3) := by decide +kernel
theorem dL_isStep_71 : decode cL_isStep 71 = .ok (.iadd, 1) := by decide +kernel
theorem dL_isStep_72 : decode cL_isStep 72 = .ok (.istore 7, 2) := by decide +kernel
theorem dL_isStep_74 : decode cL_isStep 74 = .ok (.iload_n 3, 1) := by decide +kernel
theorem dL_isStep_75 : decode cL_isStep 75 = .ok (.bipush 8, 2) := by decide +kernel
theorem dL_isStep_77 : decode cL_isStep 77 = .ok (.ishr, 1) := by decide +kernel
theorem dL_isStep_78 : decode cL_isStep 78 = .ok (.sipush 10000, 3) := by decide +kernel
theorem dL_isStep_81 : decode cL_isStep 81 = .ok (.invokestatic 17, 3) := by decide +kernel
theorem dL_isStep_84 : decode cL_isStep 84 = .ok (.istore 8, 2) := by decide +kernel
theorem dL_isStep_86 : decode cL_isStep 86 = .ok (.aload_n 0, 1) := by decide +kernel
theorem dL_isStep_87 : decode cL_isStep 87 = .ok (.iconst 0, 1) := by decide +kernel
theorem dL_isStep_88 : decode cL_isStep 88 = .ok (.invokevirtual 21, 3) := by decide +kernel
theorem dL_isStep_91 : decode cL_isStep 91 = .ok (.istore 9, 2) := by decide +kernel
theorem dL_isStep_93 : decode cL_isStep 93 = .ok (.aload_n 0, 1) := by decide +kernel
theorem dL_isStep_94 : decode cL_isStep 94 = .ok (.bipush 6, 2) := by decide +kernel
theorem dL_isStep_96 : decode cL_isStep 96 = .ok (.invokevirtual 21, 3) := by decide +kernel
theorem dL_isStep_99 : decode cL_isStep 99 = .ok (.istore 10, 2) := by decide +kernel
theorem dL_isStep_101 : decode cL_isStep 101 = .ok (.aload_n 0, 1) := by decide +kernel
theorem dL_isStep_102 : decode cL_isStep 102 = .ok (.iload 5, 2) := by decide +kernel
theorem dL_isStep_104 : decode cL_isStep 104 = .ok (.iconst 2, 1) := by decide +kernel
theorem dL_isStep_105 : decode cL_isStep 105 = .ok (.invokevirtual 25, 3) := by decide +kernel
theorem dL_isStep_108 : decode cL_isStep 108 = .ok (.istore 11, 2) := by decide +kernel
theorem dL_isStep_110 : decode cL_isStep 110 = .ok (.iload_n 2, 1) := by decide +kernel
theorem dL_isStep_111 : decode cL_isStep 111 = .ok (.bipush 15, 2) := by decide +kernel
theorem dL_isStep_113 : decode cL_isStep 113 = .ok (.invokestatic 17, 3) := by decide +kernel
theorem dL_isStep_116 : decode cL_isStep 116 = .ok (.tableswitch 960 0 13 #[72, 72, 72, 72, 301, 301, 418, 486, 486, 637, 637, 637, 802, 871], 72) := by decide +kernel
theorem dL_isStep_188 : decode cL_isStep 188 = .ok (.aload_n 0, 1) := by decide +kernel
theorem dL_isStep_189 : decode cL_isStep 189 = .ok (.iload 5, 2) := by decide +kernel
theorem dL_isStep_191 : decode cL_isStep 191 = .ok (.iload 7, 2) := by decide +kernel
theorem dL_isStep_193 : decode cL_isStep 193 = .ok (.iload 8, 2) := by decide +kernel
theorem dL_isStep_195 : decode cL_isStep 195 = .ok (.invokevirtual 28, 3) := by decide +kernel
theorem dL_isStep_198 : decode cL_isStep 198 = .ok (.istore 12, 2) := by decide +kernel
theorem dL_isStep_200 : decode cL_isStep 200 = .ok (.iload_n 3, 1) := by decide +kernel
theorem dL_isStep_201 : decode cL_isStep 201 = .ok (.iconst 3, 1) := by decide +kernel
theorem dL_isStep_202 : decode cL_isStep 202 = .ok (.ishr, 1) := by decide +kernel
theorem dL_isStep_203 : decode cL_isStep 203 = .ok (.iconst 2, 1) := by decide +kernel
theorem dL_isStep_204 : decode cL_isStep 204 = .ok (.invokestatic 17, 3) := by decide +kernel
theorem dL_isStep_207 : decode cL_isStep 207 = .ok (.ifCond .ne 23, 3) := by decide +kernel
theorem dL_isStep_210 : decode cL_isStep 210 = .ok (.aload_n 1, 1) := by decide +kernel
theorem dL_isStep_211 : decode cL_isStep 211 = .ok (.iload 5, 2) := by decide +kernel
theorem dL_isStep_213 : decode cL_isStep 213 = .ok (.invokestatic 32, 3) := by decide +kernel
theorem dL_isStep_216 : decode cL_isStep 216 = .ok (.iload 7, 2) := by decide +kernel
theorem dL_isStep_218 : decode cL_isStep 218 = .ok (.sipush 9999, 3) := by decide +kernel
theorem dL_isStep_221 : decode cL_isStep 221 = .ok (.iload 8, 2) := by decide +kernel
theorem dL_isStep_223 : decode cL_isStep 223 = .ok (.isub, 1) := by decide +kernel
theorem dL_isStep_224 : decode cL_isStep 224 = .ok (.invokevirtual 28, 3) := by decide +kernel
theorem dL_isStep_227 : decode cL_isStep 227 = .ok (.goto 4, 3) := by decide +kernel
theorem dL_isStep_230 : decode cL_isStep 230 = .ok (.iconst 0, 1) := by decide +kernel
theorem dL_isStep_231 : decode cL_isStep 231 = .ok (.istore 13, 2) := by decide +kernel
theorem dL_isStep_233 : decode cL_isStep 233 = .ok (.iload_n 3, 1) := by decide +kernel
theorem dL_isStep_234 : decode cL_isStep 234 = .ok (.iconst 3, 1) := by decide +kernel
theorem dL_isStep_235 : decode cL_isStep 235 = .ok (.ishr, 1) := by decide +kernel
theorem dL_isStep_236 : decode cL_isStep 236 = .ok (.iconst 2, 1) := by decide +kernel
theorem dL_isStep_237 : decode cL_isStep 237 = .ok (.invokestatic 17, 3) := by decide +kernel
theorem dL_isStep_240 : decode cL_isStep 240 = .ok (.ifCond .le 103, 3) := by decide +kernel
theorem dL_isStep_243 : decode cL_isStep 243 = .ok (.aload_n 1, 1) := by decide +kernel
theorem dL_isStep_244 : decode cL_isStep 244 = .ok (.invokevirtual 35, 3) := by decide +kernel
theorem dL_isStep_247 : decode cL_isStep 247 = .ok (.ifCond .lt 59, 3) := by decide +kernel
theorem dL_isStep_250 : decode cL_isStep 250 = .ok (.aload_n 1, 1) := by decide +kernel
theorem dL_isStep_251 : decode cL_isStep 251 = .ok (.iload 5, 2) := by decide +kernel
theorem dL_isStep_253 : decode cL_isStep 253 = .ok (.invokestatic 32, 3) := by decide +kernel
theorem dL_isStep_256 : decode cL_isStep 256 = .ok (.invokestatic 39, 3) := by decide +kernel
theorem dL_isStep_259 : decode cL_isStep 259 = .ok (.ifCond .eq 47, 3) := by decide +kernel
theorem dL_isStep_262 : decode cL_isStep 262 = .ok (.aload_n 1, 1) := by decide +kernel
theorem dL_isStep_263 : decode cL_isStep 263 = .ok (.bipush 61, 2) := by decide +kernel
theorem dL_isStep_265 : decode cL_isStep 265 = .ok (.invokevirtual 11, 3) := by decide +kernel
theorem dL_isStep_268 : decode cL_isStep 268 = .ok (.ifCond .le 38, 3) := by decide +kernel
theorem dL_isStep_271 : decode cL_isStep 271 = .ok (.aload_n 1, 1) := by decide +kernel
theorem dL_isStep_272 : decode cL_isStep 272 = .ok (.iload 7, 2) := by decide +kernel
theorem dL_isStep_274 : decode cL_isStep 274 = .ok (.invokestatic 43, 3) := by decide +kernel
theorem dL_isStep_277 : decode cL_isStep 277 = .ok (.ifCond .eq 29, 3) := by decide +kernel
theorem dL_isStep_280 : decode cL_isStep 280 = .ok (.aload_n 1, 1) := by decide +kernel
theorem dL_isStep_281 : decode cL_isStep 281 = .ok (.bipush 44, 2) := by decide +kernel
theorem dL_isStep_283 : decode cL_isStep 283 = .ok (.invokevirtual 11, 3) := by decide +kernel
theorem dL_isStep_286 : decode cL_isStep 286 = .ok (.ifCond .le 20, 3) := by decide +kernel
theorem dL_isStep_289 : decode cL_isStep 289 = .ok (.aload_n 1, 1) := by decide +kernel
theorem dL_isStep_290 : decode cL_isStep 290 = .ok (.sipush 9999, 3) := by decide +kernel
theorem dL_isStep_293 : decode cL_isStep 293 = .ok (.iload 8, 2) := by decide +kernel
theorem dL_isStep_295 : decode cL_isStep 295 = .ok (.isub, 1) := by decide +kernel
theorem dL_isStep_296 : decode cL_isStep 296 = .ok (.invokestatic 43, 3) := by decide +kernel
theorem dL_isStep_299 : decode cL_isStep 299 = .ok (.ifCond .eq 7, 3) := by decide +kernel
theorem dL_isStep_302 : decode cL_isStep 302 = .ok (.iconst 1, 1) := by decide +kernel
theorem dL_isStep_303 : decode cL_isStep 303 = .ok (.goto 4, 3) := by decide +kernel
theorem dL_isStep_306 : decode cL_isStep 306 = .ok (.iconst 0, 1) := by decide +kernel
theorem dL_isStep_307 : decode cL_isStep 307 = .ok (.istore 14, 2) := by decide +kernel
theorem dL_isStep_309 : decode cL_isStep 309 = .ok (.aload_n 1, 1) := by decide +kernel
theorem dL_isStep_310 : decode cL_isStep 310 = .ok (.invokevirtual 46, 3) := by decide +kernel
theorem dL_isStep_313 : decode cL_isStep 313 = .ok (.istore 15, 2) := by decide +kernel
theorem dL_isStep_315 : decode cL_isStep 315 = .ok (.iload 14, 2) := by decide +kernel
theorem dL_isStep_317 : decode cL_isStep 317 = .ok (.ifCond .eq 22, 3) := by decide +kernel
theorem dL_isStep_320 : decode cL_isStep 320 = .ok (.iload 15, 2) := by decide +kernel
theorem dL_isStep_322 : decode cL_isStep 322 = .ok (.iconst 1, 1) := by decide +kernel
theorem dL_isStep_323 : decode cL_isStep 323 = .ok (.if_icmp .ne 16, 3) := by decide +kernel
theorem dL_isStep_326 : decode cL_isStep 326 = .ok (.aload_n 1, 1) := by decide +kernel
theorem dL_isStep_327 : decode cL_isStep 327 = .ok (.iload 5, 2) := by decide +kernel
theorem dL_isStep_329 : decode cL_isStep 329 = .ok (.invokestatic 32, 3) := by decide +kernel
theorem dL_isStep_332 : decode cL_isStep 332 = .ok (.iconst 3, 1) := by decide +kernel
theorem dL_isStep_333 : decode cL_isStep 333 = .ok (.invokevirtual 25, 3) := by decide +kernel
theorem dL_isStep_336 : decode cL_isStep 336 = .ok (.goto 5, 3) := by decide +kernel
theorem dL_isStep_339 : decode cL_isStep 339 = .ok (.iload 15, 2) := by decide +kernel
theorem dL_isStep_341 : decode cL_isStep 341 = .ok (.istore 13, 2) := by decide +kernel
theorem dL_isStep_343 : decode cL_isStep 343 = .ok (.iload 11, 2) := by decide +kernel
theorem dL_isStep_345 : decode cL_isStep 345 = .ok (.ifCond .lt 7, 3) := by decide +kernel
theorem dL_isStep_348 : decode cL_isStep 348 = .ok (.iconst 1, 1) := by decide +kernel
theorem dL_isStep_349 : decode cL_isStep 349 = .ok (.goto 4, 3) := by decide +kernel
theorem dL_isStep_352 : decode cL_isStep 352 = .ok (.iconst 0, 1) := by decide +kernel
theorem dL_isStep_353 : decode cL_isStep 353 = .ok (.istore 14, 2) := by decide +kernel
theorem dL_isStep_355 : decode cL_isStep 355 = .ok (.iload 12, 2) := by decide +kernel
theorem dL_isStep_357 : decode cL_isStep 357 = .ok (.iload 13, 2) := by decide +kernel
theorem dL_isStep_359 : decode cL_isStep 359 = .ok (.if_icmp .ne 56, 3) := by decide +kernel
theorem dL_isStep_362 : decode cL_isStep 362 = .ok (.iload 12, 2) := by decide +kernel
theorem dL_isStep_364 : decode cL_isStep 364 = .ok (.iload 14, 2) := by decide +kernel
theorem dL_isStep_366 : decode cL_isStep 366 = .ok (.ifCond .eq 8, 3) := by decide +kernel
theorem dL_isStep_369 : decode cL_isStep 369 = .ok (.bipush (-7), 2) := by decide +kernel
theorem dL_isStep_371 : decode cL_isStep 371 = .ok (.goto 37, 3) := by decide +kernel
theorem dL_isStep_374 : decode cL_isStep 374 = .ok (.iload 9, 2) := by decide +kernel
theorem dL_isStep_376 : decode cL_isStep 376 = .ok (.iconst 4, 1) := by decide +kernel
theorem dL_isStep_377 : decode cL_isStep 377 = .ok (.aload_n 0, 1) := by decide +kernel
theorem dL_isStep_378 : decode cL_isStep 378 = .ok (.iconst 4, 1) := by decide +kernel
theorem dL_isStep_379 : decode cL_isStep 379 = .ok (.invokevirtual 21, 3) := by decide +kernel
theorem dL_isStep_382 : decode cL_isStep 382 = .ok (.imul, 1) := by decide +kernel
theorem dL_isStep_383 : decode cL_isStep 383 = .ok (.if_icmp .ne 8, 3) := by decide +kernel
theorem dL_isStep_386 : decode cL_isStep 386 = .ok (.bipush (-6), 2) := by decide +kernel
theorem dL_isStep_388 : decode cL_isStep 388 = .ok (.goto 20, 3) := by decide +kernel
theorem dL_isStep_391 : decode cL_isStep 391 = .ok (.iload 10, 2) := by decide +kernel
theorem dL_isStep_393 : decode cL_isStep 393 = .ok (.iload 7, 2) := by decide +kernel
theorem dL_isStep_395 : decode cL_isStep 395 = .ok (.iadd, 1) := by decide +kernel
theorem dL_isStep_396 : decode cL_isStep 396 = .ok (.bipush 100, 2) := by decide +kernel
theorem dL_isStep_398 : decode cL_isStep 398 = .ok (.if_icmp .le 8, 3) := by decide +kernel
theorem dL_isStep_401 : decode cL_isStep 401 = .ok (.bipush (-3), 2) := by decide +kernel
theorem dL_isStep_403 : decode cL_isStep 403 = .ok (.goto 5, 3) := by decide +kernel
theorem dL_isStep_406 : decode cL_isStep 406 = .ok (.iload 10, 2) := by decide +kernel
theorem dL_isStep_408 : decode cL_isStep 408 = .ok (.if_icmp .ne 7, 3) := by decide +kernel
theorem dL_isStep_411 : decode cL_isStep 411 = .ok (.iconst 1, 1) := by decide +kernel
theorem dL_isStep_412 : decode cL_isStep 412 = .ok (.goto 4, 3) := by decide +kernel
theorem dL_isStep_415 : decode cL_isStep 415 = .ok (.iconst 0, 1) := by decide +kernel
theorem dL_isStep_416 : decode cL_isStep 416 = .ok (.ireturn, 1) := by decide +kernel
theorem dL_isStep_417 : decode cL_isStep 417 = .ok (.aload_n 0, 1) := by decide +kernel
theorem dL_isStep_418 : decode cL_isStep 418 = .ok (.iload 7, 2) := by decide +kernel
theorem dL_isStep_420 : decode cL_isStep 420 = .ok (.invokevirtual 49, 3) := by decide +kernel
theorem dL_isStep_423 : decode cL_isStep 423 = .ok (.istore 12, 2) := by decide +kernel
theorem dL_isStep_425 : decode cL_isStep 425 = .ok (.aload_n 0, 1) := by decide +kernel
theorem dL_isStep_426 : decode cL_isStep 426 = .ok (.iload 5, 2) := by decide +kernel
theorem dL_isStep_428 : decode cL_isStep 428 = .ok (.iload 7, 2) := by decide +kernel
theorem dL_isStep_430 : decode cL_isStep 430 = .ok (.iload 8, 2) := by decide +kernel
theorem dL_isStep_432 : decode cL_isStep 432 = .ok (.invokevirtual 52, 3) := by decide +kernel
theorem dL_isStep_435 : decode cL_isStep 435 = .ok (.istore 13, 2) := by decide +kernel
theorem dL_isStep_437 : decode cL_isStep 437 = .ok (.iload 13, 2) := by decide +kernel
theorem dL_isStep_439 : decode cL_isStep 439 = .ok (.aload_n 1, 1) := by decide +kernel
theorem dL_isStep_440 : decode cL_isStep 440 = .ok (.iload 5, 2) := by decide +kernel
theorem dL_isStep_442 : decode cL_isStep 442 = .ok (.invokestatic 32, 3) := by decide +kernel
theorem dL_isStep_445 : decode cL_isStep 445 = .ok (.iload 7, 2) := by decide +kernel
theorem dL_isStep_447 : decode cL_isStep 447 = .ok (.sipush 9999, 3) := by decide +kernel
theorem dL_isStep_450 : decode cL_isStep 450 = .ok (.iload 8, 2) := by decide +kernel
theorem dL_isStep_452 : decode cL_isStep 452 = .ok (.isub, 1) := by decide +kernel
theorem dL_isStep_453 : decode cL_isStep 453 = .ok (.invokevirtual 52, 3) := by decide +kernel
theorem dL_isStep_456 : decode cL_isStep 456 = .ok (.if_icmp .ne 76, 3) := by decide +kernel
theorem dL_isStep_459 : decode cL_isStep 459 = .ok (.iload 13, 2) := by decide +kernel
theorem dL_isStep_461 : decode cL_isStep 461 = .ok (.iload 11, 2) := by decide +kernel
theorem dL_isStep_463 : decode cL_isStep 463 = .ok (.ifCond .eq 7, 3) := by decide +kernel
theorem dL_isStep_466 : decode cL_isStep 466 = .ok (.iconst (-1), 1) := by decide +kernel
theorem dL_isStep_467 : decode cL_isStep 467 = .ok (.goto 15, 3) := by decide +kernel
theorem dL_isStep_470 : decode cL_isStep 470 = .ok (.iload 12, 2) := by decide +kernel
theorem dL_isStep_472 : decode cL_isStep 472 = .ok (.ifCond .le 8, 3) := by decide +kernel
theorem dL_isStep_475 : decode cL_isStep 475 = .ok (.bipush (-3), 2) := by decide +kernel
theorem dL_isStep_477 : decode cL_isStep 477 = .ok (.goto 5, 3) := by decide +kernel
theorem dL_isStep_480 : decode cL_isStep 480 = .ok (.iload 10, 2) := by decide +kernel
theorem dL_isStep_482 : decode cL_isStep 482 = .ok (.if_icmp .ne 50, 3) := by decide +kernel
theorem dL_isStep_485 : decode cL_isStep 485 = .ok (.iload 13, 2) := by decide +kernel
theorem dL_isStep_487 : decode cL_isStep 487 = .ok (.ifCond .lt 41, 3) := by decide +kernel
