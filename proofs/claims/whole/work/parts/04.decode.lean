theorem dX4_takesOut_68 : decode cX4_takesOut 68 = .ok (.bipush 6, 2) := by decide +kernel
theorem dX4_takesOut_70 : decode cX4_takesOut 70 = .ok (.iadd, 1) := by decide +kernel
theorem dX4_takesOut_71 : decode cX4_takesOut 71 = .ok (.iaload, 1) := by decide +kernel
theorem dX4_takesOut_72 : decode cX4_takesOut 72 = .ok (.iastore, 1) := by decide +kernel
theorem dX4_takesOut_73 : decode cX4_takesOut 73 = .ok (.iinc 2 1, 3) := by decide +kernel
theorem dX4_takesOut_76 : decode cX4_takesOut 76 = .ok (.goto (-33), 3) := by decide +kernel
theorem dX4_takesOut_79 : decode cX4_takesOut 79 = .ok (.return_, 1) := by decide +kernel
theorem dX4_putsIn_0 : decode cX4_putsIn 0 = .ok (.iconst 0, 1) := by decide +kernel
theorem dX4_putsIn_1 : decode cX4_putsIn 1 = .ok (.istore_n 1, 1) := by decide +kernel
theorem dX4_putsIn_2 : decode cX4_putsIn 2 = .ok (.iload_n 1, 1) := by decide +kernel
theorem dX4_putsIn_3 : decode cX4_putsIn 3 = .ok (.aload_n 0, 1) := by decide +kernel
theorem dX4_putsIn_4 : decode cX4_putsIn 4 = .ok (.getfield 7, 3) := by decide +kernel
theorem dX4_putsIn_7 : decode cX4_putsIn 7 = .ok (.iconst 0, 1) := by decide +kernel
theorem dX4_putsIn_8 : decode cX4_putsIn 8 = .ok (.iaload, 1) := by decide +kernel
theorem dX4_putsIn_9 : decode cX4_putsIn 9 = .ok (.if_icmp .ge 24, 3) := by decide +kernel
theorem dX4_putsIn_12 : decode cX4_putsIn 12 = .ok (.aload_n 0, 1) := by decide +kernel
theorem dX4_putsIn_13 : decode cX4_putsIn 13 = .ok (.iload_n 1, 1) := by decide +kernel
theorem dX4_putsIn_14 : decode cX4_putsIn 14 = .ok (.iconst 0, 1) := by decide +kernel
theorem dX4_putsIn_15 : decode cX4_putsIn 15 = .ok (.invokevirtual 38, 3) := by decide +kernel
theorem dX4_putsIn_18 : decode cX4_putsIn 18 = .ok (.aload_n 0, 1) := by decide +kernel
theorem dX4_putsIn_19 : decode cX4_putsIn 19 = .ok (.getfield 22, 3) := by decide +kernel
theorem dX4_putsIn_22 : decode cX4_putsIn 22 = .ok (.iconst 0, 1) := by decide +kernel
theorem dX4_putsIn_23 : decode cX4_putsIn 23 = .ok (.iaload, 1) := by decide +kernel
theorem dX4_putsIn_24 : decode cX4_putsIn 24 = .ok (.if_icmp .ge 9, 3) := by decide +kernel
theorem dX4_putsIn_27 : decode cX4_putsIn 27 = .ok (.iinc 1 1, 3) := by decide +kernel
theorem dX4_putsIn_30 : decode cX4_putsIn 30 = .ok (.goto (-28), 3) := by decide +kernel
theorem dX4_putsIn_33 : decode cX4_putsIn 33 = .ok (.iconst 5, 1) := by decide +kernel
theorem dX4_putsIn_34 : decode cX4_putsIn 34 = .ok (.bipush 6, 2) := by decide +kernel
theorem dX4_putsIn_36 : decode cX4_putsIn 36 = .ok (.aload_n 0, 1) := by decide +kernel
theorem dX4_putsIn_37 : decode cX4_putsIn 37 = .ok (.getfield 7, 3) := by decide +kernel
theorem dX4_putsIn_40 : decode cX4_putsIn 40 = .ok (.iconst 0, 1) := by decide +kernel
theorem dX4_putsIn_41 : decode cX4_putsIn 41 = .ok (.iaload, 1) := by decide +kernel
theorem dX4_putsIn_42 : decode cX4_putsIn 42 = .ok (.imul, 1) := by decide +kernel
theorem dX4_putsIn_43 : decode cX4_putsIn 43 = .ok (.iadd, 1) := by decide +kernel
theorem dX4_putsIn_44 : decode cX4_putsIn 44 = .ok (.iconst 1, 1) := by decide +kernel
theorem dX4_putsIn_45 : decode cX4_putsIn 45 = .ok (.isub, 1) := by decide +kernel
theorem dX4_putsIn_46 : decode cX4_putsIn 46 = .ok (.istore_n 2, 1) := by decide +kernel
theorem dX4_putsIn_47 : decode cX4_putsIn 47 = .ok (.iload_n 2, 1) := by decide +kernel
theorem dX4_putsIn_48 : decode cX4_putsIn 48 = .ok (.iconst 5, 1) := by decide +kernel
theorem dX4_putsIn_49 : decode cX4_putsIn 49 = .ok (.bipush 6, 2) := by decide +kernel
theorem dX4_putsIn_51 : decode cX4_putsIn 51 = .ok (.iload_n 1, 1) := by decide +kernel
theorem dX4_putsIn_52 : decode cX4_putsIn 52 = .ok (.imul, 1) := by decide +kernel
theorem dX4_putsIn_53 : decode cX4_putsIn 53 = .ok (.iadd, 1) := by decide +kernel
theorem dX4_putsIn_54 : decode cX4_putsIn 54 = .ok (.if_icmp .lt 24, 3) := by decide +kernel
theorem dX4_putsIn_57 : decode cX4_putsIn 57 = .ok (.aload_n 0, 1) := by decide +kernel
theorem dX4_putsIn_58 : decode cX4_putsIn 58 = .ok (.getfield 7, 3) := by decide +kernel
theorem dX4_putsIn_61 : decode cX4_putsIn 61 = .ok (.iload_n 2, 1) := by decide +kernel
theorem dX4_putsIn_62 : decode cX4_putsIn 62 = .ok (.bipush 6, 2) := by decide +kernel
theorem dX4_putsIn_64 : decode cX4_putsIn 64 = .ok (.iadd, 1) := by decide +kernel
theorem dX4_putsIn_65 : decode cX4_putsIn 65 = .ok (.aload_n 0, 1) := by decide +kernel
theorem dX4_putsIn_66 : decode cX4_putsIn 66 = .ok (.getfield 7, 3) := by decide +kernel
theorem dX4_putsIn_69 : decode cX4_putsIn 69 = .ok (.iload_n 2, 1) := by decide +kernel
theorem dX4_putsIn_70 : decode cX4_putsIn 70 = .ok (.iaload, 1) := by decide +kernel
theorem dX4_putsIn_71 : decode cX4_putsIn 71 = .ok (.iastore, 1) := by decide +kernel
theorem dX4_putsIn_72 : decode cX4_putsIn 72 = .ok (.iinc 2 (-1), 3) := by decide +kernel
theorem dX4_putsIn_75 : decode cX4_putsIn 75 = .ok (.goto (-28), 3) := by decide +kernel
theorem dX4_putsIn_78 : decode cX4_putsIn 78 = .ok (.aload_n 0, 1) := by decide +kernel
theorem dX4_putsIn_79 : decode cX4_putsIn 79 = .ok (.getfield 7, 3) := by decide +kernel
theorem dX4_putsIn_82 : decode cX4_putsIn 82 = .ok (.iconst 0, 1) := by decide +kernel
theorem dX4_putsIn_83 : decode cX4_putsIn 83 = .ok (.dup2, 1) := by decide +kernel
theorem dX4_putsIn_84 : decode cX4_putsIn 84 = .ok (.iaload, 1) := by decide +kernel
theorem dX4_putsIn_85 : decode cX4_putsIn 85 = .ok (.iconst 1, 1) := by decide +kernel
theorem dX4_putsIn_86 : decode cX4_putsIn 86 = .ok (.iadd, 1) := by decide +kernel
theorem dX4_putsIn_87 : decode cX4_putsIn 87 = .ok (.iastore, 1) := by decide +kernel
theorem dX4_putsIn_88 : decode cX4_putsIn 88 = .ok (.iconst 0, 1) := by decide +kernel
theorem dX4_putsIn_89 : decode cX4_putsIn 89 = .ok (.istore_n 2, 1) := by decide +kernel
theorem dX4_putsIn_90 : decode cX4_putsIn 90 = .ok (.iload_n 2, 1) := by decide +kernel
theorem dX4_putsIn_91 : decode cX4_putsIn 91 = .ok (.bipush 6, 2) := by decide +kernel
theorem dX4_putsIn_93 : decode cX4_putsIn 93 = .ok (.if_icmp .ge 21, 3) := by decide +kernel
theorem dX4_putsIn_96 : decode cX4_putsIn 96 = .ok (.aload_n 0, 1) := by decide +kernel
theorem dX4_putsIn_97 : decode cX4_putsIn 97 = .ok (.iload_n 1, 1) := by decide +kernel
theorem dX4_putsIn_98 : decode cX4_putsIn 98 = .ok (.iload_n 2, 1) := by decide +kernel
theorem dX4_putsIn_99 : decode cX4_putsIn 99 = .ok (.aload_n 0, 1) := by decide +kernel
theorem dX4_putsIn_100 : decode cX4_putsIn 100 = .ok (.getfield 22, 3) := by decide +kernel
theorem dX4_putsIn_103 : decode cX4_putsIn 103 = .ok (.iload_n 2, 1) := by decide +kernel
theorem dX4_putsIn_104 : decode cX4_putsIn 104 = .ok (.iaload, 1) := by decide +kernel
theorem dX4_putsIn_105 : decode cX4_putsIn 105 = .ok (.invokevirtual 42, 3) := by decide +kernel
theorem dX4_putsIn_108 : decode cX4_putsIn 108 = .ok (.iinc 2 1, 3) := by decide +kernel
theorem dX4_putsIn_111 : decode cX4_putsIn 111 = .ok (.goto (-21), 3) := by decide +kernel
theorem dX4_putsIn_114 : decode cX4_putsIn 114 = .ok (.iload_n 1, 1) := by decide +kernel
theorem dX4_putsIn_115 : decode cX4_putsIn 115 = .ok (.ireturn, 1) := by decide +kernel
theorem dX4_isRoomFor_0 : decode cX4_isRoomFor 0 = .ok (.aload_n 0, 1) := by decide +kernel
theorem dX4_isRoomFor_1 : decode cX4_isRoomFor 1 = .ok (.getfield 7, 3) := by decide +kernel
theorem dX4_isRoomFor_4 : decode cX4_isRoomFor 4 = .ok (.iconst 2, 1) := by decide +kernel
theorem dX4_isRoomFor_5 : decode cX4_isRoomFor 5 = .ok (.iaload, 1) := by decide +kernel
theorem dX4_isRoomFor_6 : decode cX4_isRoomFor 6 = .ok (.iload_n 1, 1) := by decide +kernel
theorem dX4_isRoomFor_7 : decode cX4_isRoomFor 7 = .ok (.iadd, 1) := by decide +kernel
theorem dX4_isRoomFor_8 : decode cX4_isRoomFor 8 = .ok (.bipush 100, 2) := by decide +kernel
theorem dX4_isRoomFor_10 : decode cX4_isRoomFor 10 = .ok (.if_icmp .gt 7, 3) := by decide +kernel
theorem dX4_isRoomFor_13 : decode cX4_isRoomFor 13 = .ok (.iconst 1, 1) := by decide +kernel
theorem dX4_isRoomFor_14 : decode cX4_isRoomFor 14 = .ok (.goto 4, 3) := by decide +kernel
theorem dX4_isRoomFor_17 : decode cX4_isRoomFor 17 = .ok (.iconst 0, 1) := by decide +kernel
theorem dX4_isRoomFor_18 : decode cX4_isRoomFor 18 = .ok (.ireturn, 1) := by decide +kernel
theorem dX4_laysText_0 : decode cX4_laysText 0 = .ok (.aload_n 0, 1) := by decide +kernel
theorem dX4_laysText_1 : decode cX4_laysText 1 = .ok (.iload_n 1, 1) := by decide +kernel
theorem dX4_laysText_2 : decode cX4_laysText 2 = .ok (.iconst 2, 1) := by decide +kernel
theorem dX4_laysText_3 : decode cX4_laysText 3 = .ok (.aload_n 0, 1) := by decide +kernel
theorem dX4_laysText_4 : decode cX4_laysText 4 = .ok (.getfield 7, 3) := by decide +kernel
theorem dX4_laysText_7 : decode cX4_laysText 7 = .ok (.iconst 2, 1) := by decide +kernel
theorem dX4_laysText_8 : decode cX4_laysText 8 = .ok (.iaload, 1) := by decide +kernel
theorem dX4_laysText_9 : decode cX4_laysText 9 = .ok (.invokevirtual 42, 3) := by decide +kernel
theorem dX4_laysText_12 : decode cX4_laysText 12 = .ok (.aload_n 0, 1) := by decide +kernel
theorem dX4_laysText_13 : decode cX4_laysText 13 = .ok (.iload_n 1, 1) := by decide +kernel
theorem dX4_laysText_14 : decode cX4_laysText 14 = .ok (.iconst 3, 1) := by decide +kernel
theorem dX4_laysText_15 : decode cX4_laysText 15 = .ok (.iload_n 2, 1) := by decide +kernel
theorem dX4_laysText_16 : decode cX4_laysText 16 = .ok (.invokevirtual 42, 3) := by decide +kernel
theorem dX4_laysText_19 : decode cX4_laysText 19 = .ok (.aload_n 0, 1) := by decide +kernel
theorem dX4_laysText_20 : decode cX4_laysText 20 = .ok (.iload_n 1, 1) := by decide +kernel
theorem dX4_laysText_21 : decode cX4_laysText 21 = .ok (.iconst 4, 1) := by decide +kernel
theorem dX4_laysText_22 : decode cX4_laysText 22 = .ok (.iload_n 3, 1) := by decide +kernel
theorem dX4_laysText_23 : decode cX4_laysText 23 = .ok (.invokevirtual 42, 3) := by decide +kernel
theorem dX4_laysText_26 : decode cX4_laysText 26 = .ok (.aload_n 0, 1) := by decide +kernel
theorem dX4_laysText_27 : decode cX4_laysText 27 = .ok (.getfield 7, 3) := by decide +kernel
theorem dX4_laysText_30 : decode cX4_laysText 30 = .ok (.iconst 2, 1) := by decide +kernel
theorem dX4_laysText_31 : decode cX4_laysText 31 = .ok (.dup2, 1) := by decide +kernel
theorem dX4_laysText_32 : decode cX4_laysText 32 = .ok (.iaload, 1) := by decide +kernel
theorem dX4_laysText_33 : decode cX4_laysText 33 = .ok (.iload_n 2, 1) := by decide +kernel
theorem dX4_laysText_34 : decode cX4_laysText 34 = .ok (.iadd, 1) := by decide +kernel
theorem dX4_laysText_35 : decode cX4_laysText 35 = .ok (.iastore, 1) := by decide +kernel
theorem dX4_laysText_36 : decode cX4_laysText 36 = .ok (.return_, 1) := by decide +kernel
theorem dX4_nextText_0 : decode cX4_nextText 0 = .ok (.bipush (-5), 2) := by decide +kernel
theorem dX4_nextText_2 : decode cX4_nextText 2 = .ok (.istore_n 2, 1) := by decide +kernel
theorem dX4_nextText_3 : decode cX4_nextText 3 = .ok (.iconst 0, 1) := by decide +kernel
theorem dX4_nextText_4 : decode cX4_nextText 4 = .ok (.istore_n 3, 1) := by decide +kernel
theorem dX4_nextText_5 : decode cX4_nextText 5 = .ok (.iload_n 3, 1) := by decide +kernel
theorem dX4_nextText_6 : decode cX4_nextText 6 = .ok (.aload_n 0, 1) := by decide +kernel
theorem dX4_nextText_7 : decode cX4_nextText 7 = .ok (.getfield 7, 3) := by decide +kernel
theorem dX4_nextText_10 : decode cX4_nextText 10 = .ok (.iconst 0, 1) := by decide +kernel
theorem dX4_nextText_11 : decode cX4_nextText 11 = .ok (.iaload, 1) := by decide +kernel
theorem dX4_nextText_12 : decode cX4_nextText 12 = .ok (.if_icmp .ge 58, 3) := by decide +kernel
theorem dX4_nextText_15 : decode cX4_nextText 15 = .ok (.aload_n 0, 1) := by decide +kernel
theorem dX4_nextText_16 : decode cX4_nextText 16 = .ok (.iload_n 3, 1) := by decide +kernel
theorem dX4_nextText_17 : decode cX4_nextText 17 = .ok (.iconst 2, 1) := by decide +kernel
theorem dX4_nextText_18 : decode cX4_nextText 18 = .ok (.invokevirtual 38, 3) := by decide +kernel
theorem dX4_nextText_21 : decode cX4_nextText 21 = .ok (.iload_n 1, 1) := by decide +kernel
theorem dX4_nextText_22 : decode cX4_nextText 22 = .ok (.if_icmp .lt 28, 3) := by decide +kernel
theorem dX4_nextText_25 : decode cX4_nextText 25 = .ok (.iload_n 2, 1) := by decide +kernel
theorem dX4_nextText_26 : decode cX4_nextText 26 = .ok (.bipush (-5), 2) := by decide +kernel
theorem dX4_nextText_28 : decode cX4_nextText 28 = .ok (.if_icmp .eq 18, 3) := by decide +kernel
theorem dX4_nextText_31 : decode cX4_nextText 31 = .ok (.aload_n 0, 1) := by decide +kernel
theorem dX4_nextText_32 : decode cX4_nextText 32 = .ok (.iload_n 3, 1) := by decide +kernel
theorem dX4_nextText_33 : decode cX4_nextText 33 = .ok (.iconst 2, 1) := by decide +kernel
theorem dX4_nextText_34 : decode cX4_nextText 34 = .ok (.invokevirtual 38, 3) := by decide +kernel
theorem dX4_nextText_37 : decode cX4_nextText 37 = .ok (.aload_n 0, 1) := by decide +kernel
theorem dX4_nextText_38 : decode cX4_nextText 38 = .ok (.iload_n 2, 1) := by decide +kernel
theorem dX4_nextText_39 : decode cX4_nextText 39 = .ok (.iconst 2, 1) := by decide +kernel
theorem dX4_nextText_40 : decode cX4_nextText 40 = .ok (.invokevirtual 38, 3) := by decide +kernel
theorem dX4_nextText_43 : decode cX4_nextText 43 = .ok (.if_icmp .ge 7, 3) := by decide +kernel
theorem dX4_nextText_46 : decode cX4_nextText 46 = .ok (.iconst 1, 1) := by decide +kernel
theorem dX4_nextText_47 : decode cX4_nextText 47 = .ok (.goto 4, 3) := by decide +kernel
theorem dX4_nextText_50 : decode cX4_nextText 50 = .ok (.iconst 0, 1) := by decide +kernel
theorem dX4_nextText_51 : decode cX4_nextText 51 = .ok (.istore 4, 2) := by decide +kernel
theorem dX4_nextText_53 : decode cX4_nextText 53 = .ok (.iload 4, 2) := by decide +kernel
theorem dX4_nextText_55 : decode cX4_nextText 55 = .ok (.ifCond .eq 7, 3) := by decide +kernel
theorem dX4_nextText_58 : decode cX4_nextText 58 = .ok (.iload_n 3, 1) := by decide +kernel
theorem dX4_nextText_59 : decode cX4_nextText 59 = .ok (.goto 4, 3) := by decide +kernel
theorem dX4_nextText_62 : decode cX4_nextText 62 = .ok (.iload_n 2, 1) := by decide +kernel
theorem dX4_nextText_63 : decode cX4_nextText 63 = .ok (.istore_n 2, 1) := by decide +kernel
theorem dX4_nextText_64 : decode cX4_nextText 64 = .ok (.iinc 3 1, 3) := by decide +kernel
theorem dX4_nextText_67 : decode cX4_nextText 67 = .ok (.goto (-62), 3) := by decide +kernel
theorem dX4_nextText_70 : decode cX4_nextText 70 = .ok (.iload_n 2, 1) := by decide +kernel
theorem dX4_nextText_71 : decode cX4_nextText 71 = .ok (.ireturn, 1) := by decide +kernel
theorem dX4_living_0 : decode cX4_living 0 = .ok (.iconst 0, 1) := by decide +kernel
theorem dX4_living_1 : decode cX4_living 1 = .ok (.istore_n 2, 1) := by decide +kernel
theorem dX4_living_2 : decode cX4_living 2 = .ok (.aload_n 0, 1) := by decide +kernel
theorem dX4_living_3 : decode cX4_living 3 = .ok (.iconst 0, 1) := by decide +kernel
theorem dX4_living_4 : decode cX4_living 4 = .ok (.invokevirtual 46, 3) := by decide +kernel
theorem dX4_living_7 : decode cX4_living 7 = .ok (.istore_n 3, 1) := by decide +kernel
theorem dX4_living_8 : decode cX4_living 8 = .ok (.iload_n 3, 1) := by decide +kernel
theorem dX4_living_9 : decode cX4_living 9 = .ok (.bipush (-5), 2) := by decide +kernel
theorem dX4_living_11 : decode cX4_living 11 = .ok (.if_icmp .eq 36, 3) := by decide +kernel
theorem dX4_living_14 : decode cX4_living 14 = .ok (.iload_n 2, 1) := by decide +kernel
theorem dX4_living_15 : decode cX4_living 15 = .ok (.iload_n 1, 1) := by decide +kernel
theorem dX4_living_16 : decode cX4_living 16 = .ok (.ifCond .eq 12, 3) := by decide +kernel
theorem dX4_living_19 : decode cX4_living 19 = .ok (.aload_n 0, 1) := by decide +kernel
theorem dX4_living_20 : decode cX4_living 20 = .ok (.iload_n 3, 1) := by decide +kernel
theorem dX4_living_21 : decode cX4_living 21 = .ok (.iconst 3, 1) := by decide +kernel
theorem dX4_living_22 : decode cX4_living 22 = .ok (.invokevirtual 38, 3) := by decide +kernel
theorem dX4_living_25 : decode cX4_living 25 = .ok (.goto 4, 3) := by decide +kernel
theorem dX4_living_28 : decode cX4_living 28 = .ok (.iconst 1, 1) := by decide +kernel
theorem dX4_living_29 : decode cX4_living 29 = .ok (.iadd, 1) := by decide +kernel
theorem dX4_living_30 : decode cX4_living 30 = .ok (.istore_n 2, 1) := by decide +kernel
theorem dX4_living_31 : decode cX4_living 31 = .ok (.aload_n 0, 1) := by decide +kernel
theorem dX4_living_32 : decode cX4_living 32 = .ok (.aload_n 0, 1) := by decide +kernel
theorem dX4_living_33 : decode cX4_living 33 = .ok (.iload_n 3, 1) := by decide +kernel
theorem dX4_living_34 : decode cX4_living 34 = .ok (.iconst 2, 1) := by decide +kernel
theorem dX4_living_35 : decode cX4_living 35 = .ok (.invokevirtual 38, 3) := by decide +kernel
theorem dX4_living_38 : decode cX4_living 38 = .ok (.iconst 1, 1) := by decide +kernel
theorem dX4_living_39 : decode cX4_living 39 = .ok (.iadd, 1) := by decide +kernel
theorem dX4_living_40 : decode cX4_living 40 = .ok (.invokevirtual 46, 3) := by decide +kernel
theorem dX4_living_43 : decode cX4_living 43 = .ok (.istore_n 3, 1) := by decide +kernel
theorem dX4_living_44 : decode cX4_living 44 = .ok (.goto (-36), 3) := by decide +kernel
theorem dX4_living_47 : decode cX4_living 47 = .ok (.iload_n 2, 1) := by decide +kernel
theorem dX4_living_48 : decode cX4_living 48 = .ok (.ireturn, 1) := by decide +kernel
theorem dX4_squeezes_0 : decode cX4_squeezes 0 = .ok (.aload_n 0, 1) := by decide +kernel
theorem dX4_squeezes_1 : decode cX4_squeezes 1 = .ok (.getfield 7, 3) := by decide +kernel
theorem dX4_squeezes_4 : decode cX4_squeezes 4 = .ok (.iconst 2, 1) := by decide +kernel
theorem dX4_squeezes_5 : decode cX4_squeezes 5 = .ok (.iaload, 1) := by decide +kernel
theorem dX4_squeezes_6 : decode cX4_squeezes 6 = .ok (.istore_n 1, 1) := by decide +kernel
theorem dX4_squeezes_7 : decode cX4_squeezes 7 = .ok (.iconst 0, 1) := by decide +kernel
theorem dX4_squeezes_8 : decode cX4_squeezes 8 = .ok (.istore_n 2, 1) := by decide +kernel
theorem dX4_squeezes_9 : decode cX4_squeezes 9 = .ok (.aload_n 0, 1) := by decide +kernel
theorem dX4_squeezes_10 : decode cX4_squeezes 10 = .ok (.iconst 0, 1) := by decide +kernel
theorem dX4_squeezes_11 : decode cX4_squeezes 11 = .ok (.invokevirtual 46, 3) := by decide +kernel
theorem dX4_squeezes_14 : decode cX4_squeezes 14 = .ok (.istore_n 3, 1) := by decide +kernel
theorem dX4_squeezes_15 : decode cX4_squeezes 15 = .ok (.iload_n 3, 1) := by decide +kernel
theorem dX4_squeezes_16 : decode cX4_squeezes 16 = .ok (.bipush (-5), 2) := by decide +kernel
theorem dX4_squeezes_18 : decode cX4_squeezes 18 = .ok (.if_icmp .eq 87, 3) := by decide +kernel
theorem dX4_squeezes_21 : decode cX4_squeezes 21 = .ok (.aload_n 0, 1) := by decide +kernel
theorem dX4_squeezes_22 : decode cX4_squeezes 22 = .ok (.iload_n 3, 1) := by decide +kernel
theorem dX4_squeezes_23 : decode cX4_squeezes 23 = .ok (.iconst 2, 1) := by decide +kernel
theorem dX4_squeezes_24 : decode cX4_squeezes 24 = .ok (.invokevirtual 38, 3) := by decide +kernel
theorem dX4_squeezes_27 : decode cX4_squeezes 27 = .ok (.istore 4, 2) := by decide +kernel
theorem dX4_squeezes_29 : decode cX4_squeezes 29 = .ok (.aload_n 0, 1) := by decide +kernel
theorem dX4_squeezes_30 : decode cX4_squeezes 30 = .ok (.iload_n 3, 1) := by decide +kernel
theorem dX4_squeezes_31 : decode cX4_squeezes 31 = .ok (.iconst 3, 1) := by decide +kernel
theorem dX4_squeezes_32 : decode cX4_squeezes 32 = .ok (.invokevirtual 38, 3) := by decide +kernel
theorem dX4_squeezes_35 : decode cX4_squeezes 35 = .ok (.istore 5, 2) := by decide +kernel
theorem dX4_squeezes_37 : decode cX4_squeezes 37 = .ok (.iconst 0, 1) := by decide +kernel
theorem dX4_squeezes_38 : decode cX4_squeezes 38 = .ok (.istore 6, 2) := by decide +kernel
theorem dX4_squeezes_40 : decode cX4_squeezes 40 = .ok (.iload 6, 2) := by decide +kernel
theorem dX4_squeezes_42 : decode cX4_squeezes 42 = .ok (.aload_n 0, 1) := by decide +kernel
theorem dX4_squeezes_43 : decode cX4_squeezes 43 = .ok (.getfield 7, 3) := by decide +kernel
theorem dX4_squeezes_46 : decode cX4_squeezes 46 = .ok (.iconst 0, 1) := by decide +kernel
theorem dX4_squeezes_47 : decode cX4_squeezes 47 = .ok (.iaload, 1) := by decide +kernel
theorem dX4_squeezes_48 : decode cX4_squeezes 48 = .ok (.if_icmp .ge 39, 3) := by decide +kernel
theorem dX4_squeezes_51 : decode cX4_squeezes 51 = .ok (.aload_n 0, 1) := by decide +kernel
theorem dX4_squeezes_52 : decode cX4_squeezes 52 = .ok (.iload 6, 2) := by decide +kernel
theorem dX4_squeezes_54 : decode cX4_squeezes 54 = .ok (.iconst 2, 1) := by decide +kernel
theorem dX4_squeezes_55 : decode cX4_squeezes 55 = .ok (.aload_n 0, 1) := by decide +kernel
theorem dX4_squeezes_56 : decode cX4_squeezes 56 = .ok (.iload 6, 2) := by decide +kernel
theorem dX4_squeezes_58 : decode cX4_squeezes 58 = .ok (.iconst 2, 1) := by decide +kernel
theorem dX4_squeezes_59 : decode cX4_squeezes 59 = .ok (.invokevirtual 38, 3) := by decide +kernel
theorem dX4_squeezes_62 : decode cX4_squeezes 62 = .ok (.iload 4, 2) := by decide +kernel
theorem dX4_squeezes_64 : decode cX4_squeezes 64 = .ok (.if_icmp .ne 7, 3) := by decide +kernel
theorem dX4_squeezes_67 : decode cX4_squeezes 67 = .ok (.iload_n 2, 1) := by decide +kernel
theorem dX4_squeezes_68 : decode cX4_squeezes 68 = .ok (.goto 10, 3) := by decide +kernel
theorem dX4_squeezes_71 : decode cX4_squeezes 71 = .ok (.aload_n 0, 1) := by decide +kernel
theorem dX4_squeezes_72 : decode cX4_squeezes 72 = .ok (.iload 6, 2) := by decide +kernel
theorem dX4_squeezes_74 : decode cX4_squeezes 74 = .ok (.iconst 2, 1) := by decide +kernel
theorem dX4_squeezes_75 : decode cX4_squeezes 75 = .ok (.invokevirtual 38, 3) := by decide +kernel
theorem dX4_squeezes_78 : decode cX4_squeezes 78 = .ok (.invokevirtual 42, 3) := by decide +kernel
theorem dX4_squeezes_81 : decode cX4_squeezes 81 = .ok (.iinc 6 1, 3) := by decide +kernel
theorem dX4_squeezes_84 : decode cX4_squeezes 84 = .ok (.goto (-44), 3) := by decide +kernel
theorem dX4_squeezes_87 : decode cX4_squeezes 87 = .ok (.iload_n 2, 1) := by decide +kernel
theorem dX4_squeezes_88 : decode cX4_squeezes 88 = .ok (.iload 5, 2) := by decide +kernel
theorem dX4_squeezes_90 : decode cX4_squeezes 90 = .ok (.iadd, 1) := by decide +kernel
theorem dX4_squeezes_91 : decode cX4_squeezes 91 = .ok (.istore_n 2, 1) := by decide +kernel
theorem dX4_squeezes_92 : decode cX4_squeezes 92 = .ok (.aload_n 0, 1) := by decide +kernel
theorem dX4_squeezes_93 : decode cX4_squeezes 93 = .ok (.iload 4, 2) := by decide +kernel
theorem dX4_squeezes_95 : decode cX4_squeezes 95 = .ok (.iload 5, 2) := by decide +kernel
theorem dX4_squeezes_97 : decode cX4_squeezes 97 = .ok (.iadd, 1) := by decide +kernel
theorem dX4_squeezes_98 : decode cX4_squeezes 98 = .ok (.invokevirtual 46, 3) := by decide +kernel
theorem dX4_squeezes_101 : decode cX4_squeezes 101 = .ok (.istore_n 3, 1) := by decide +kernel
theorem dX4_squeezes_102 : decode cX4_squeezes 102 = .ok (.goto (-87), 3) := by decide +kernel
theorem dX4_squeezes_105 : decode cX4_squeezes 105 = .ok (.aload_n 0, 1) := by decide +kernel
theorem dX4_squeezes_106 : decode cX4_squeezes 106 = .ok (.getfield 7, 3) := by decide +kernel
theorem dX4_squeezes_109 : decode cX4_squeezes 109 = .ok (.iconst 2, 1) := by decide +kernel
theorem dX4_squeezes_110 : decode cX4_squeezes 110 = .ok (.iload_n 2, 1) := by decide +kernel
theorem dX4_squeezes_111 : decode cX4_squeezes 111 = .ok (.iastore, 1) := by decide +kernel
theorem dX4_squeezes_112 : decode cX4_squeezes 112 = .ok (.aload_n 0, 1) := by decide +kernel
theorem dX4_squeezes_113 : decode cX4_squeezes 113 = .ok (.getfield 7, 3) := by decide +kernel
theorem dX4_squeezes_116 : decode cX4_squeezes 116 = .ok (.iconst 3, 1) := by decide +kernel
theorem dX4_squeezes_117 : decode cX4_squeezes 117 = .ok (.dup2, 1) := by decide +kernel
theorem dX4_squeezes_118 : decode cX4_squeezes 118 = .ok (.iaload, 1) := by decide +kernel
theorem dX4_squeezes_119 : decode cX4_squeezes 119 = .ok (.iconst 1, 1) := by decide +kernel
theorem dX4_squeezes_120 : decode cX4_squeezes 120 = .ok (.iadd, 1) := by decide +kernel
theorem dX4_squeezes_121 : decode cX4_squeezes 121 = .ok (.iastore, 1) := by decide +kernel
theorem dX4_squeezes_122 : decode cX4_squeezes 122 = .ok (.aload_n 0, 1) := by decide +kernel
theorem dX4_squeezes_123 : decode cX4_squeezes 123 = .ok (.getfield 7, 3) := by decide +kernel
theorem dX4_squeezes_126 : decode cX4_squeezes 126 = .ok (.iconst 4, 1) := by decide +kernel
theorem dX4_squeezes_127 : decode cX4_squeezes 127 = .ok (.dup2, 1) := by decide +kernel
theorem dX4_squeezes_128 : decode cX4_squeezes 128 = .ok (.iaload, 1) := by decide +kernel
theorem dX4_squeezes_129 : decode cX4_squeezes 129 = .ok (.iload_n 1, 1) := by decide +kernel
theorem dX4_squeezes_130 : decode cX4_squeezes 130 = .ok (.iload_n 2, 1) := by decide +kernel
theorem dX4_squeezes_131 : decode cX4_squeezes 131 = .ok (.isub, 1) := by decide +kernel
theorem dX4_squeezes_132 : decode cX4_squeezes 132 = .ok (.iadd, 1) := by decide +kernel
theorem dX4_squeezes_133 : decode cX4_squeezes 133 = .ok (.iastore, 1) := by decide +kernel
theorem dX4_squeezes_134 : decode cX4_squeezes 134 = .ok (.iload_n 1, 1) := by decide +kernel
theorem dX4_squeezes_135 : decode cX4_squeezes 135 = .ok (.iload_n 2, 1) := by decide +kernel
theorem dX4_squeezes_136 : decode cX4_squeezes 136 = .ok (.isub, 1) := by decide +kernel
theorem dX4_squeezes_137 : decode cX4_squeezes 137 = .ok (.ireturn, 1) := by decide +kernel
theorem dX4_isLost_0 : decode cX4_isLost 0 = .ok (.aload_n 0, 1) := by decide +kernel
theorem dX4_isLost_1 : decode cX4_isLost 1 = .ok (.aload_n 0, 1) := by decide +kernel
theorem dX4_isLost_2 : decode cX4_isLost 2 = .ok (.iload_n 1, 1) := by decide +kernel
theorem dX4_isLost_3 : decode cX4_isLost 3 = .ok (.iconst 5, 1) := by decide +kernel
theorem dX4_isLost_4 : decode cX4_isLost 4 = .ok (.invokevirtual 38, 3) := by decide +kernel
theorem dX4_isLost_7 : decode cX4_isLost 7 = .ok (.invokevirtual 50, 3) := by decide +kernel
theorem dX4_isLost_10 : decode cX4_isLost 10 = .ok (.istore_n 2, 1) := by decide +kernel
theorem dX4_isLost_11 : decode cX4_isLost 11 = .ok (.aload_n 0, 1) := by decide +kernel
theorem dX4_isLost_12 : decode cX4_isLost 12 = .ok (.iload_n 1, 1) := by decide +kernel
theorem dX4_isLost_13 : decode cX4_isLost 13 = .ok (.iconst 1, 1) := by decide +kernel
theorem dX4_isLost_14 : decode cX4_isLost 14 = .ok (.invokevirtual 38, 3) := by decide +kernel
theorem dX4_isLost_17 : decode cX4_isLost 17 = .ok (.iconst 1, 1) := by decide +kernel
theorem dX4_isLost_18 : decode cX4_isLost 18 = .ok (.if_icmp .ne 30, 3) := by decide +kernel
theorem dX4_isLost_21 : decode cX4_isLost 21 = .ok (.aload_n 0, 1) := by decide +kernel
theorem dX4_isLost_22 : decode cX4_isLost 22 = .ok (.iload_n 2, 1) := by decide +kernel
theorem dX4_isLost_23 : decode cX4_isLost 23 = .ok (.invokevirtual 53, 3) := by decide +kernel
theorem dX4_isLost_26 : decode cX4_isLost 26 = .ok (.ifCond .eq 18, 3) := by decide +kernel
theorem dX4_isLost_29 : decode cX4_isLost 29 = .ok (.aload_n 0, 1) := by decide +kernel
theorem dX4_isLost_30 : decode cX4_isLost 30 = .ok (.iload_n 2, 1) := by decide +kernel
theorem dX4_isLost_31 : decode cX4_isLost 31 = .ok (.iconst 2, 1) := by decide +kernel
theorem dX4_isLost_32 : decode cX4_isLost 32 = .ok (.invokevirtual 38, 3) := by decide +kernel
theorem dX4_isLost_35 : decode cX4_isLost 35 = .ok (.aload_n 0, 1) := by decide +kernel
theorem dX4_isLost_36 : decode cX4_isLost 36 = .ok (.iload_n 1, 1) := by decide +kernel
theorem dX4_isLost_37 : decode cX4_isLost 37 = .ok (.iconst 2, 1) := by decide +kernel
theorem dX4_isLost_38 : decode cX4_isLost 38 = .ok (.invokevirtual 38, 3) := by decide +kernel
theorem dX4_isLost_41 : decode cX4_isLost 41 = .ok (.if_icmp .eq 7, 3) := by decide +kernel
theorem dX4_isLost_44 : decode cX4_isLost 44 = .ok (.iconst 1, 1) := by decide +kernel
theorem dX4_isLost_45 : decode cX4_isLost 45 = .ok (.goto 4, 3) := by decide +kernel
theorem dX4_isLost_48 : decode cX4_isLost 48 = .ok (.iconst 0, 1) := by decide +kernel
theorem dX4_isLost_49 : decode cX4_isLost 49 = .ok (.ireturn, 1) := by decide +kernel
theorem dX4_aliasesOf_0 : decode cX4_aliasesOf 0 = .ok (.iconst 0, 1) := by decide +kernel
theorem dX4_aliasesOf_1 : decode cX4_aliasesOf 1 = .ok (.istore_n 2, 1) := by decide +kernel
theorem dX4_aliasesOf_2 : decode cX4_aliasesOf 2 = .ok (.iconst 0, 1) := by decide +kernel
theorem dX4_aliasesOf_3 : decode cX4_aliasesOf 3 = .ok (.istore_n 3, 1) := by decide +kernel
theorem dX4_aliasesOf_4 : decode cX4_aliasesOf 4 = .ok (.iload_n 3, 1) := by decide +kernel
theorem dX4_aliasesOf_5 : decode cX4_aliasesOf 5 = .ok (.aload_n 0, 1) := by decide +kernel
theorem dX4_aliasesOf_6 : decode cX4_aliasesOf 6 = .ok (.getfield 7, 3) := by decide +kernel
theorem dX4_aliasesOf_9 : decode cX4_aliasesOf 9 = .ok (.iconst 0, 1) := by decide +kernel
theorem dX4_aliasesOf_10 : decode cX4_aliasesOf 10 = .ok (.iaload, 1) := by decide +kernel
theorem dX4_aliasesOf_11 : decode cX4_aliasesOf 11 = .ok (.if_icmp .ge 37, 3) := by decide +kernel
theorem dX4_aliasesOf_14 : decode cX4_aliasesOf 14 = .ok (.iload_n 2, 1) := by decide +kernel
theorem dX4_aliasesOf_15 : decode cX4_aliasesOf 15 = .ok (.aload_n 0, 1) := by decide +kernel
theorem dX4_aliasesOf_16 : decode cX4_aliasesOf 16 = .ok (.iload_n 3, 1) := by decide +kernel
theorem dX4_aliasesOf_17 : decode cX4_aliasesOf 17 = .ok (.iconst 1, 1) := by decide +kernel
theorem dX4_aliasesOf_18 : decode cX4_aliasesOf 18 = .ok (.invokevirtual 38, 3) := by decide +kernel
theorem dX4_aliasesOf_21 : decode cX4_aliasesOf 21 = .ok (.iconst 1, 1) := by decide +kernel
theorem dX4_aliasesOf_22 : decode cX4_aliasesOf 22 = .ok (.if_icmp .ne 17, 3) := by decide +kernel
theorem dX4_aliasesOf_25 : decode cX4_aliasesOf 25 = .ok (.aload_n 0, 1) := by decide +kernel
theorem dX4_aliasesOf_26 : decode cX4_aliasesOf 26 = .ok (.iload_n 3, 1) := by decide +kernel
theorem dX4_aliasesOf_27 : decode cX4_aliasesOf 27 = .ok (.iconst 2, 1) := by decide +kernel
theorem dX4_aliasesOf_28 : decode cX4_aliasesOf 28 = .ok (.invokevirtual 38, 3) := by decide +kernel
theorem dX4_aliasesOf_31 : decode cX4_aliasesOf 31 = .ok (.iload_n 1, 1) := by decide +kernel
theorem dX4_aliasesOf_32 : decode cX4_aliasesOf 32 = .ok (.if_icmp .ne 7, 3) := by decide +kernel
theorem dX4_aliasesOf_35 : decode cX4_aliasesOf 35 = .ok (.iconst 1, 1) := by decide +kernel
theorem dX4_aliasesOf_36 : decode cX4_aliasesOf 36 = .ok (.goto 4, 3) := by decide +kernel
theorem dX4_aliasesOf_39 : decode cX4_aliasesOf 39 = .ok (.iconst 0, 1) := by decide +kernel
theorem dX4_aliasesOf_40 : decode cX4_aliasesOf 40 = .ok (.iadd, 1) := by decide +kernel
theorem dX4_aliasesOf_41 : decode cX4_aliasesOf 41 = .ok (.istore_n 2, 1) := by decide +kernel
theorem dX4_aliasesOf_42 : decode cX4_aliasesOf 42 = .ok (.iinc 3 1, 3) := by decide +kernel
theorem dX4_aliasesOf_45 : decode cX4_aliasesOf 45 = .ok (.goto (-41), 3) := by decide +kernel
theorem dX4_aliasesOf_48 : decode cX4_aliasesOf 48 = .ok (.iload_n 2, 1) := by decide +kernel
theorem dX4_aliasesOf_49 : decode cX4_aliasesOf 49 = .ok (.ireturn, 1) := by decide +kernel
theorem dX4_doAdd_0 : decode cX4_doAdd 0 = .ok (.iload_n 1, 1) := by decide +kernel
theorem dX4_doAdd_1 : decode cX4_doAdd 1 = .ok (.invokestatic 57, 3) := by decide +kernel
theorem dX4_doAdd_4 : decode cX4_doAdd 4 = .ok (.ifCond .eq 27, 3) := by decide +kernel
theorem dX4_doAdd_7 : decode cX4_doAdd 7 = .ok (.iload_n 2, 1) := by decide +kernel
theorem dX4_doAdd_8 : decode cX4_doAdd 8 = .ok (.i2l, 1) := by decide +kernel
theorem dX4_doAdd_9 : decode cX4_doAdd 9 = .ok (.lconst 1, 1) := by decide +kernel
theorem dX4_doAdd_10 : decode cX4_doAdd 10 = .ok (.ldc2_w 60, 3) := by decide +kernel
theorem dX4_doAdd_13 : decode cX4_doAdd 13 = .ok (.invokestatic 34, 3) := by decide +kernel
theorem dX4_doAdd_16 : decode cX4_doAdd 16 = .ok (.ifCond .eq 15, 3) := by decide +kernel
theorem dX4_doAdd_19 : decode cX4_doAdd 19 = .ok (.iload_n 3, 1) := by decide +kernel
theorem dX4_doAdd_20 : decode cX4_doAdd 20 = .ok (.i2l, 1) := by decide +kernel
theorem dX4_doAdd_21 : decode cX4_doAdd 21 = .ok (.lconst 0, 1) := by decide +kernel
theorem dX4_doAdd_22 : decode cX4_doAdd 22 = .ok (.ldc2_w 62, 3) := by decide +kernel
theorem dX4_doAdd_25 : decode cX4_doAdd 25 = .ok (.invokestatic 34, 3) := by decide +kernel
theorem dX4_doAdd_28 : decode cX4_doAdd 28 = .ok (.ifCond .ne 6, 3) := by decide +kernel
theorem dX4_doAdd_31 : decode cX4_doAdd 31 = .ok (.bipush (-2), 2) := by decide +kernel
theorem dX4_doAdd_33 : decode cX4_doAdd 33 = .ok (.ireturn, 1) := by decide +kernel
theorem dX4_doAdd_34 : decode cX4_doAdd 34 = .ok (.aload_n 0, 1) := by decide +kernel
theorem dX4_doAdd_35 : decode cX4_doAdd 35 = .ok (.iload_n 1, 1) := by decide +kernel
theorem dX4_doAdd_36 : decode cX4_doAdd 36 = .ok (.invokevirtual 50, 3) := by decide +kernel
theorem dX4_doAdd_39 : decode cX4_doAdd 39 = .ok (.bipush (-5), 2) := by decide +kernel
theorem dX4_doAdd_41 : decode cX4_doAdd 41 = .ok (.if_icmp .eq 6, 3) := by decide +kernel
theorem dX4_doAdd_44 : decode cX4_doAdd 44 = .ok (.bipush (-7), 2) := by decide +kernel
theorem dX4_doAdd_46 : decode cX4_doAdd 46 = .ok (.ireturn, 1) := by decide +kernel
theorem dX4_doAdd_47 : decode cX4_doAdd 47 = .ok (.aload_n 0, 1) := by decide +kernel
theorem dX4_doAdd_48 : decode cX4_doAdd 48 = .ok (.invokevirtual 64, 3) := by decide +kernel
theorem dX4_doAdd_51 : decode cX4_doAdd 51 = .ok (.ifCond .eq 6, 3) := by decide +kernel
theorem dX4_doAdd_54 : decode cX4_doAdd 54 = .ok (.bipush (-6), 2) := by decide +kernel
theorem dX4_doAdd_56 : decode cX4_doAdd 56 = .ok (.ireturn, 1) := by decide +kernel
theorem dX4_doAdd_57 : decode cX4_doAdd 57 = .ok (.aload_n 0, 1) := by decide +kernel
theorem dX4_doAdd_58 : decode cX4_doAdd 58 = .ok (.iload_n 2, 1) := by decide +kernel
theorem dX4_doAdd_59 : decode cX4_doAdd 59 = .ok (.invokevirtual 68, 3) := by decide +kernel
theorem dX4_doAdd_62 : decode cX4_doAdd 62 = .ok (.ifCond .ne 6, 3) := by decide +kernel
theorem dX4_doAdd_65 : decode cX4_doAdd 65 = .ok (.bipush (-3), 2) := by decide +kernel
theorem dX4_doAdd_67 : decode cX4_doAdd 67 = .ok (.ireturn, 1) := by decide +kernel
theorem dX4_doAdd_68 : decode cX4_doAdd 68 = .ok (.aload_n 0, 1) := by decide +kernel
theorem dX4_doAdd_69 : decode cX4_doAdd 69 = .ok (.getfield 22, 3) := by decide +kernel
theorem dX4_doAdd_72 : decode cX4_doAdd 72 = .ok (.iconst 0, 1) := by decide +kernel
theorem dX4_doAdd_73 : decode cX4_doAdd 73 = .ok (.iload_n 1, 1) := by decide +kernel
theorem dX4_doAdd_74 : decode cX4_doAdd 74 = .ok (.iastore, 1) := by decide +kernel
theorem dX4_doAdd_75 : decode cX4_doAdd 75 = .ok (.aload_n 0, 1) := by decide +kernel
theorem dX4_doAdd_76 : decode cX4_doAdd 76 = .ok (.getfield 22, 3) := by decide +kernel
theorem dX4_doAdd_79 : decode cX4_doAdd 79 = .ok (.iconst 1, 1) := by decide +kernel
theorem dX4_doAdd_80 : decode cX4_doAdd 80 = .ok (.iconst 0, 1) := by decide +kernel
theorem dX4_doAdd_81 : decode cX4_doAdd 81 = .ok (.iastore, 1) := by decide +kernel
theorem dX4_doAdd_82 : decode cX4_doAdd 82 = .ok (.aload_n 0, 1) := by decide +kernel
theorem dX4_doAdd_83 : decode cX4_doAdd 83 = .ok (.getfield 22, 3) := by decide +kernel
theorem dX4_doAdd_86 : decode cX4_doAdd 86 = .ok (.iconst 5, 1) := by decide +kernel
theorem dX4_doAdd_87 : decode cX4_doAdd 87 = .ok (.bipush (-5), 2) := by decide +kernel
theorem dX4_doAdd_89 : decode cX4_doAdd 89 = .ok (.iastore, 1) := by decide +kernel
theorem dX4_doAdd_90 : decode cX4_doAdd 90 = .ok (.aload_n 0, 1) := by decide +kernel
theorem dX4_doAdd_91 : decode cX4_doAdd 91 = .ok (.invokevirtual 71, 3) := by decide +kernel
theorem dX4_doAdd_94 : decode cX4_doAdd 94 = .ok (.istore 4, 2) := by decide +kernel
theorem dX4_doAdd_96 : decode cX4_doAdd 96 = .ok (.aload_n 0, 1) := by decide +kernel
theorem dX4_doAdd_97 : decode cX4_doAdd 97 = .ok (.iload 4, 2) := by decide +kernel
theorem dX4_doAdd_99 : decode cX4_doAdd 99 = .ok (.iload_n 2, 1) := by decide +kernel
theorem dX4_doAdd_100 : decode cX4_doAdd 100 = .ok (.iload_n 3, 1) := by decide +kernel
theorem dX4_doAdd_101 : decode cX4_doAdd 101 = .ok (.invokevirtual 75, 3) := by decide +kernel
theorem dX4_doAdd_104 : decode cX4_doAdd 104 = .ok (.aload_n 0, 1) := by decide +kernel
theorem dX4_doAdd_105 : decode cX4_doAdd 105 = .ok (.iload 4, 2) := by decide +kernel
theorem dX4_doAdd_107 : decode cX4_doAdd 107 = .ok (.iconst 2, 1) := by decide +kernel
theorem dX4_doAdd_108 : decode cX4_doAdd 108 = .ok (.invokevirtual 38, 3) := by decide +kernel
theorem dX4_doAdd_111 : decode cX4_doAdd 111 = .ok (.ireturn, 1) := by decide +kernel
theorem dX4_doAlias_0 : decode cX4_doAlias 0 = .ok (.aload_n 0, 1) := by decide +kernel
theorem dX4_doAlias_1 : decode cX4_doAlias 1 = .ok (.iload_n 2, 1) := by decide +kernel
theorem dX4_doAlias_2 : decode cX4_doAlias 2 = .ok (.invokevirtual 50, 3) := by decide +kernel
theorem dX4_doAlias_5 : decode cX4_doAlias 5 = .ok (.istore_n 3, 1) := by decide +kernel
theorem dX4_doAlias_6 : decode cX4_doAlias 6 = .ok (.aload_n 0, 1) := by decide +kernel
theorem dX4_doAlias_7 : decode cX4_doAlias 7 = .ok (.iload_n 3, 1) := by decide +kernel
theorem dX4_doAlias_8 : decode cX4_doAlias 8 = .ok (.invokevirtual 53, 3) := by decide +kernel
theorem dX4_doAlias_11 : decode cX4_doAlias 11 = .ok (.ifCond .ne 5, 3) := by decide +kernel
theorem dX4_doAlias_14 : decode cX4_doAlias 14 = .ok (.iconst (-1), 1) := by decide +kernel
theorem dX4_doAlias_15 : decode cX4_doAlias 15 = .ok (.ireturn, 1) := by decide +kernel
theorem dX4_doAlias_16 : decode cX4_doAlias 16 = .ok (.iload_n 1, 1) := by decide +kernel
theorem dX4_doAlias_17 : decode cX4_doAlias 17 = .ok (.invokestatic 57, 3) := by decide +kernel
theorem dX4_doAlias_20 : decode cX4_doAlias 20 = .ok (.ifCond .ne 6, 3) := by decide +kernel
theorem dX4_doAlias_23 : decode cX4_doAlias 23 = .ok (.bipush (-2), 2) := by decide +kernel
theorem dX4_doAlias_25 : decode cX4_doAlias 25 = .ok (.ireturn, 1) := by decide +kernel
theorem dX4_doAlias_26 : decode cX4_doAlias 26 = .ok (.aload_n 0, 1) := by decide +kernel
theorem dX4_doAlias_27 : decode cX4_doAlias 27 = .ok (.iload_n 1, 1) := by decide +kernel
theorem dX4_doAlias_28 : decode cX4_doAlias 28 = .ok (.invokevirtual 50, 3) := by decide +kernel
theorem dX4_doAlias_31 : decode cX4_doAlias 31 = .ok (.istore 4, 2) := by decide +kernel
theorem dX4_doAlias_33 : decode cX4_doAlias 33 = .ok (.aload_n 0, 1) := by decide +kernel
theorem dX4_doAlias_34 : decode cX4_doAlias 34 = .ok (.iload 4, 2) := by decide +kernel
theorem dX4_doAlias_36 : decode cX4_doAlias 36 = .ok (.invokevirtual 53, 3) := by decide +kernel
theorem dX4_doAlias_39 : decode cX4_doAlias 39 = .ok (.ifCond .eq 6, 3) := by decide +kernel
theorem dX4_doAlias_42 : decode cX4_doAlias 42 = .ok (.bipush (-7), 2) := by decide +kernel
theorem dX4_doAlias_44 : decode cX4_doAlias 44 = .ok (.ireturn, 1) := by decide +kernel
theorem dX4_doAlias_45 : decode cX4_doAlias 45 = .ok (.iload 4, 2) := by decide +kernel
theorem dX4_doAlias_47 : decode cX4_doAlias 47 = .ok (.bipush (-5), 2) := by decide +kernel
theorem dX4_doAlias_49 : decode cX4_doAlias 49 = .ok (.if_icmp .ne 13, 3) := by decide +kernel
theorem dX4_doAlias_52 : decode cX4_doAlias 52 = .ok (.aload_n 0, 1) := by decide +kernel
theorem dX4_doAlias_53 : decode cX4_doAlias 53 = .ok (.invokevirtual 64, 3) := by decide +kernel
theorem dX4_doAlias_56 : decode cX4_doAlias 56 = .ok (.ifCond .eq 6, 3) := by decide +kernel
theorem dX4_doAlias_59 : decode cX4_doAlias 59 = .ok (.bipush (-6), 2) := by decide +kernel
theorem dX4_doAlias_61 : decode cX4_doAlias 61 = .ok (.ireturn, 1) := by decide +kernel
theorem dX4_doAlias_62 : decode cX4_doAlias 62 = .ok (.iload 4, 2) := by decide +kernel
theorem dX4_doAlias_64 : decode cX4_doAlias 64 = .ok (.bipush (-5), 2) := by decide +kernel
theorem dX4_doAlias_66 : decode cX4_doAlias 66 = .ok (.if_icmp .eq 33, 3) := by decide +kernel
theorem dX4_doAlias_69 : decode cX4_doAlias 69 = .ok (.aload_n 0, 1) := by decide +kernel
theorem dX4_doAlias_70 : decode cX4_doAlias 70 = .ok (.iload 4, 2) := by decide +kernel
theorem dX4_doAlias_72 : decode cX4_doAlias 72 = .ok (.iconst 2, 1) := by decide +kernel
theorem dX4_doAlias_73 : decode cX4_doAlias 73 = .ok (.invokevirtual 38, 3) := by decide +kernel
theorem dX4_doAlias_76 : decode cX4_doAlias 76 = .ok (.aload_n 0, 1) := by decide +kernel
theorem dX4_doAlias_77 : decode cX4_doAlias 77 = .ok (.iload_n 3, 1) := by decide +kernel
theorem dX4_doAlias_78 : decode cX4_doAlias 78 = .ok (.iconst 2, 1) := by decide +kernel
theorem dX4_doAlias_79 : decode cX4_doAlias 79 = .ok (.invokevirtual 38, 3) := by decide +kernel
theorem dX4_doAlias_82 : decode cX4_doAlias 82 = .ok (.if_icmp .ne 17, 3) := by decide +kernel
theorem dX4_doAlias_85 : decode cX4_doAlias 85 = .ok (.aload_n 0, 1) := by decide +kernel
theorem dX4_doAlias_86 : decode cX4_doAlias 86 = .ok (.iload 4, 2) := by decide +kernel
theorem dX4_doAlias_88 : decode cX4_doAlias 88 = .ok (.iconst 5, 1) := by decide +kernel
theorem dX4_doAlias_89 : decode cX4_doAlias 89 = .ok (.invokevirtual 38, 3) := by decide +kernel
theorem dX4_doAlias_92 : decode cX4_doAlias 92 = .ok (.iload_n 2, 1) := by decide +kernel
theorem dX4_doAlias_93 : decode cX4_doAlias 93 = .ok (.if_icmp .ne 6, 3) := by decide +kernel
theorem dX4_doAlias_96 : decode cX4_doAlias 96 = .ok (.bipush (-5), 2) := by decide +kernel
theorem dX4_doAlias_98 : decode cX4_doAlias 98 = .ok (.ireturn, 1) := by decide +kernel
theorem dX4_doAlias_99 : decode cX4_doAlias 99 = .ok (.aload_n 0, 1) := by decide +kernel
theorem dX4_doAlias_100 : decode cX4_doAlias 100 = .ok (.iload_n 3, 1) := by decide +kernel
theorem dX4_doAlias_101 : decode cX4_doAlias 101 = .ok (.iconst 2, 1) := by decide +kernel
theorem dX4_doAlias_102 : decode cX4_doAlias 102 = .ok (.invokevirtual 38, 3) := by decide +kernel
theorem dX4_doAlias_105 : decode cX4_doAlias 105 = .ok (.istore 5, 2) := by decide +kernel
theorem dX4_doAlias_107 : decode cX4_doAlias 107 = .ok (.aload_n 0, 1) := by decide +kernel
theorem dX4_doAlias_108 : decode cX4_doAlias 108 = .ok (.iload_n 3, 1) := by decide +kernel
theorem dX4_doAlias_109 : decode cX4_doAlias 109 = .ok (.iconst 3, 1) := by decide +kernel
theorem dX4_doAlias_110 : decode cX4_doAlias 110 = .ok (.invokevirtual 38, 3) := by decide +kernel
theorem dX4_doAlias_113 : decode cX4_doAlias 113 = .ok (.istore 6, 2) := by decide +kernel
theorem dX4_doAlias_115 : decode cX4_doAlias 115 = .ok (.aload_n 0, 1) := by decide +kernel
theorem dX4_doAlias_116 : decode cX4_doAlias 116 = .ok (.iload_n 3, 1) := by decide +kernel
theorem dX4_doAlias_117 : decode cX4_doAlias 117 = .ok (.iconst 4, 1) := by decide +kernel
theorem dX4_doAlias_118 : decode cX4_doAlias 118 = .ok (.invokevirtual 38, 3) := by decide +kernel
theorem dX4_doAlias_121 : decode cX4_doAlias 121 = .ok (.istore 7, 2) := by decide +kernel
theorem dX4_doAlias_123 : decode cX4_doAlias 123 = .ok (.iload 4, 2) := by decide +kernel
theorem dX4_doAlias_125 : decode cX4_doAlias 125 = .ok (.bipush (-5), 2) := by decide +kernel
theorem dX4_doAlias_127 : decode cX4_doAlias 127 = .ok (.if_icmp .eq 9, 3) := by decide +kernel
theorem dX4_doAlias_130 : decode cX4_doAlias 130 = .ok (.aload_n 0, 1) := by decide +kernel
theorem dX4_doAlias_131 : decode cX4_doAlias 131 = .ok (.iload 4, 2) := by decide +kernel
theorem dX4_doAlias_133 : decode cX4_doAlias 133 = .ok (.invokevirtual 78, 3) := by decide +kernel
theorem dX4_doAlias_136 : decode cX4_doAlias 136 = .ok (.aload_n 0, 1) := by decide +kernel
theorem dX4_doAlias_137 : decode cX4_doAlias 137 = .ok (.getfield 22, 3) := by decide +kernel
theorem dX4_doAlias_140 : decode cX4_doAlias 140 = .ok (.iconst 0, 1) := by decide +kernel
theorem dX4_doAlias_141 : decode cX4_doAlias 141 = .ok (.iload_n 1, 1) := by decide +kernel
theorem dX4_doAlias_142 : decode cX4_doAlias 142 = .ok (.iastore, 1) := by decide +kernel
theorem dX4_doAlias_143 : decode cX4_doAlias 143 = .ok (.aload_n 0, 1) := by decide +kernel
theorem dX4_doAlias_144 : decode cX4_doAlias 144 = .ok (.getfield 22, 3) := by decide +kernel
theorem dX4_doAlias_147 : decode cX4_doAlias 147 = .ok (.iconst 1, 1) := by decide +kernel
theorem dX4_doAlias_148 : decode cX4_doAlias 148 = .ok (.iconst 1, 1) := by decide +kernel
theorem dX4_doAlias_149 : decode cX4_doAlias 149 = .ok (.iastore, 1) := by decide +kernel
theorem dX4_doAlias_150 : decode cX4_doAlias 150 = .ok (.aload_n 0, 1) := by decide +kernel
theorem dX4_doAlias_151 : decode cX4_doAlias 151 = .ok (.getfield 22, 3) := by decide +kernel
theorem dX4_doAlias_154 : decode cX4_doAlias 154 = .ok (.iconst 2, 1) := by decide +kernel
theorem dX4_doAlias_155 : decode cX4_doAlias 155 = .ok (.iload 5, 2) := by decide +kernel
theorem dX4_doAlias_157 : decode cX4_doAlias 157 = .ok (.iastore, 1) := by decide +kernel
theorem dX4_doAlias_158 : decode cX4_doAlias 158 = .ok (.aload_n 0, 1) := by decide +kernel
theorem dX4_doAlias_159 : decode cX4_doAlias 159 = .ok (.getfield 22, 3) := by decide +kernel
theorem dX4_doAlias_162 : decode cX4_doAlias 162 = .ok (.iconst 3, 1) := by decide +kernel
theorem dX4_doAlias_163 : decode cX4_doAlias 163 = .ok (.iload 6, 2) := by decide +kernel
theorem dX4_doAlias_165 : decode cX4_doAlias 165 = .ok (.iastore, 1) := by decide +kernel
theorem dX4_doAlias_166 : decode cX4_doAlias 166 = .ok (.aload_n 0, 1) := by decide +kernel
theorem dX4_doAlias_167 : decode cX4_doAlias 167 = .ok (.getfield 22, 3) := by decide +kernel
theorem dX4_doAlias_170 : decode cX4_doAlias 170 = .ok (.iconst 4, 1) := by decide +kernel
theorem dX4_doAlias_171 : decode cX4_doAlias 171 = .ok (.iload 7, 2) := by decide +kernel
theorem dX4_doAlias_173 : decode cX4_doAlias 173 = .ok (.iastore, 1) := by decide +kernel
theorem dX4_doAlias_174 : decode cX4_doAlias 174 = .ok (.aload_n 0, 1) := by decide +kernel
theorem dX4_doAlias_175 : decode cX4_doAlias 175 = .ok (.getfield 22, 3) := by decide +kernel
theorem dX4_doAlias_178 : decode cX4_doAlias 178 = .ok (.iconst 5, 1) := by decide +kernel
theorem dX4_doAlias_179 : decode cX4_doAlias 179 = .ok (.iload_n 2, 1) := by decide +kernel
theorem dX4_doAlias_180 : decode cX4_doAlias 180 = .ok (.iastore, 1) := by decide +kernel
theorem dX4_doAlias_181 : decode cX4_doAlias 181 = .ok (.aload_n 0, 1) := by decide +kernel
theorem dX4_doAlias_182 : decode cX4_doAlias 182 = .ok (.invokevirtual 71, 3) := by decide +kernel
theorem dX4_doAlias_185 : decode cX4_doAlias 185 = .ok (.istore 8, 2) := by decide +kernel
theorem dX4_doAlias_187 : decode cX4_doAlias 187 = .ok (.iload 5, 2) := by decide +kernel
theorem dX4_doAlias_189 : decode cX4_doAlias 189 = .ok (.ireturn, 1) := by decide +kernel
theorem dX4_add_0 : decode cX4_add 0 = .ok (.aload_n 0, 1) := by decide +kernel
theorem dX4_add_1 : decode cX4_add 1 = .ok (.invokevirtual 82, 3) := by decide +kernel
theorem dX4_add_4 : decode cX4_add 4 = .ok (.aload_n 0, 1) := by decide +kernel
theorem dX4_add_5 : decode cX4_add 5 = .ok (.iload_n 1, 1) := by decide +kernel
theorem dX4_add_6 : decode cX4_add 6 = .ok (.iload_n 2, 1) := by decide +kernel
theorem dX4_add_7 : decode cX4_add 7 = .ok (.iload_n 3, 1) := by decide +kernel
theorem dX4_add_8 : decode cX4_add 8 = .ok (.invokevirtual 85, 3) := by decide +kernel
theorem dX4_add_11 : decode cX4_add 11 = .ok (.istore 4, 2) := by decide +kernel
theorem dX4_add_13 : decode cX4_add 13 = .ok (.iload 4, 2) := by decide +kernel
theorem dX4_add_15 : decode cX4_add 15 = .ok (.ifCond .ge 8, 3) := by decide +kernel
theorem dX4_add_18 : decode cX4_add 18 = .ok (.iload 4, 2) := by decide +kernel
theorem dX4_add_20 : decode cX4_add 20 = .ok (.goto 9, 3) := by decide +kernel
theorem dX4_add_23 : decode cX4_add 23 = .ok (.aload_n 0, 1) := by decide +kernel
theorem dX4_add_24 : decode cX4_add 24 = .ok (.iload 4, 2) := by decide +kernel
theorem dX4_add_26 : decode cX4_add 26 = .ok (.invokevirtual 89, 3) := by decide +kernel
theorem dX4_add_29 : decode cX4_add 29 = .ok (.ireturn, 1) := by decide +kernel
theorem dX4_replace_0 : decode cX4_replace 0 = .ok (.aload_n 0, 1) := by decide +kernel
theorem dX4_replace_1 : decode cX4_replace 1 = .ok (.iload_n 1, 1) := by decide +kernel
theorem dX4_replace_2 : decode cX4_replace 2 = .ok (.invokevirtual 50, 3) := by decide +kernel
theorem dX4_replace_5 : decode cX4_replace 5 = .ok (.istore 4, 2) := by decide +kernel
theorem dX4_replace_7 : decode cX4_replace 7 = .ok (.aload_n 0, 1) := by decide +kernel
theorem dX4_replace_8 : decode cX4_replace 8 = .ok (.iload 4, 2) := by decide +kernel
theorem dX4_replace_10 : decode cX4_replace 10 = .ok (.invokevirtual 53, 3) := by decide +kernel
theorem dX4_replace_13 : decode cX4_replace 13 = .ok (.ifCond .ne 5, 3) := by decide +kernel
theorem dX4_replace_16 : decode cX4_replace 16 = .ok (.iconst (-1), 1) := by decide +kernel
theorem dX4_replace_17 : decode cX4_replace 17 = .ok (.ireturn, 1) := by decide +kernel
theorem dX4_replace_18 : decode cX4_replace 18 = .ok (.iload_n 2, 1) := by decide +kernel
theorem dX4_replace_19 : decode cX4_replace 19 = .ok (.i2l, 1) := by decide +kernel
theorem dX4_replace_20 : decode cX4_replace 20 = .ok (.lconst 1, 1) := by decide +kernel
theorem dX4_replace_21 : decode cX4_replace 21 = .ok (.ldc2_w 60, 3) := by decide +kernel
theorem dX4_replace_24 : decode cX4_replace 24 = .ok (.invokestatic 34, 3) := by decide +kernel
theorem dX4_replace_27 : decode cX4_replace 27 = .ok (.ifCond .eq 15, 3) := by decide +kernel
theorem dX4_replace_30 : decode cX4_replace 30 = .ok (.iload_n 3, 1) := by decide +kernel
theorem dX4_replace_31 : decode cX4_replace 31 = .ok (.i2l, 1) := by decide +kernel
theorem dX4_replace_32 : decode cX4_replace 32 = .ok (.lconst 0, 1) := by decide +kernel
theorem dX4_replace_33 : decode cX4_replace 33 = .ok (.ldc2_w 62, 3) := by decide +kernel
theorem dX4_replace_36 : decode cX4_replace 36 = .ok (.invokestatic 34, 3) := by decide +kernel
theorem dX4_replace_39 : decode cX4_replace 39 = .ok (.ifCond .ne 6, 3) := by decide +kernel
theorem dX4_replace_42 : decode cX4_replace 42 = .ok (.bipush (-2), 2) := by decide +kernel
theorem dX4_replace_44 : decode cX4_replace 44 = .ok (.ireturn, 1) := by decide +kernel
theorem dX4_replace_45 : decode cX4_replace 45 = .ok (.aload_n 0, 1) := by decide +kernel
theorem dX4_replace_46 : decode cX4_replace 46 = .ok (.iload_n 2, 1) := by decide +kernel
theorem dX4_replace_47 : decode cX4_replace 47 = .ok (.invokevirtual 68, 3) := by decide +kernel
theorem dX4_replace_50 : decode cX4_replace 50 = .ok (.ifCond .ne 6, 3) := by decide +kernel
theorem dX4_replace_53 : decode cX4_replace 53 = .ok (.bipush (-3), 2) := by decide +kernel
theorem dX4_replace_55 : decode cX4_replace 55 = .ok (.ireturn, 1) := by decide +kernel
theorem dX4_replace_56 : decode cX4_replace 56 = .ok (.aload_n 0, 1) := by decide +kernel
theorem dX4_replace_57 : decode cX4_replace 57 = .ok (.invokevirtual 82, 3) := by decide +kernel
theorem dX4_replace_60 : decode cX4_replace 60 = .ok (.aload_n 0, 1) := by decide +kernel
theorem dX4_replace_61 : decode cX4_replace 61 = .ok (.iload 4, 2) := by decide +kernel
theorem dX4_replace_63 : decode cX4_replace 63 = .ok (.iload_n 2, 1) := by decide +kernel
theorem dX4_replace_64 : decode cX4_replace 64 = .ok (.iload_n 3, 1) := by decide +kernel
theorem dX4_replace_65 : decode cX4_replace 65 = .ok (.invokevirtual 75, 3) := by decide +kernel
theorem dX4_replace_68 : decode cX4_replace 68 = .ok (.aload_n 0, 1) := by decide +kernel
theorem dX4_replace_69 : decode cX4_replace 69 = .ok (.aload_n 0, 1) := by decide +kernel
theorem dX4_replace_70 : decode cX4_replace 70 = .ok (.iload 4, 2) := by decide +kernel
theorem dX4_replace_72 : decode cX4_replace 72 = .ok (.iconst 2, 1) := by decide +kernel
theorem dX4_replace_73 : decode cX4_replace 73 = .ok (.invokevirtual 38, 3) := by decide +kernel
theorem dX4_replace_76 : decode cX4_replace 76 = .ok (.invokevirtual 89, 3) := by decide +kernel
theorem dX4_replace_79 : decode cX4_replace 79 = .ok (.ireturn, 1) := by decide +kernel
theorem dX4_remove_0 : decode cX4_remove 0 = .ok (.aload_n 0, 1) := by decide +kernel
theorem dX4_remove_1 : decode cX4_remove 1 = .ok (.iload_n 1, 1) := by decide +kernel
theorem dX4_remove_2 : decode cX4_remove 2 = .ok (.invokevirtual 50, 3) := by decide +kernel
theorem dX4_remove_5 : decode cX4_remove 5 = .ok (.istore_n 2, 1) := by decide +kernel
theorem dX4_remove_6 : decode cX4_remove 6 = .ok (.iload_n 2, 1) := by decide +kernel
theorem dX4_remove_7 : decode cX4_remove 7 = .ok (.bipush (-5), 2) := by decide +kernel
theorem dX4_remove_9 : decode cX4_remove 9 = .ok (.if_icmp .ne 5, 3) := by decide +kernel
theorem dX4_remove_12 : decode cX4_remove 12 = .ok (.iconst (-1), 1) := by decide +kernel
theorem dX4_remove_13 : decode cX4_remove 13 = .ok (.ireturn, 1) := by decide +kernel
theorem dX4_remove_14 : decode cX4_remove 14 = .ok (.aload_n 0, 1) := by decide +kernel
theorem dX4_remove_15 : decode cX4_remove 15 = .ok (.invokevirtual 82, 3) := by decide +kernel
theorem dX4_remove_18 : decode cX4_remove 18 = .ok (.aload_n 0, 1) := by decide +kernel
theorem dX4_remove_19 : decode cX4_remove 19 = .ok (.iload_n 2, 1) := by decide +kernel
theorem dX4_remove_20 : decode cX4_remove 20 = .ok (.invokevirtual 78, 3) := by decide +kernel
theorem dX4_remove_23 : decode cX4_remove 23 = .ok (.aload_n 0, 1) := by decide +kernel
theorem dX4_remove_24 : decode cX4_remove 24 = .ok (.aload_n 0, 1) := by decide +kernel
theorem dX4_remove_25 : decode cX4_remove 25 = .ok (.getfield 7, 3) := by decide +kernel
theorem dX4_remove_28 : decode cX4_remove 28 = .ok (.iconst 0, 1) := by decide +kernel
theorem dX4_remove_29 : decode cX4_remove 29 = .ok (.iaload, 1) := by decide +kernel
theorem dX4_remove_30 : decode cX4_remove 30 = .ok (.invokevirtual 89, 3) := by decide +kernel
theorem dX4_remove_33 : decode cX4_remove 33 = .ok (.ireturn, 1) := by decide +kernel
theorem dX4_rename_0 : decode cX4_rename 0 = .ok (.aload_n 0, 1) := by decide +kernel
theorem dX4_rename_1 : decode cX4_rename 1 = .ok (.iload_n 1, 1) := by decide +kernel
theorem dX4_rename_2 : decode cX4_rename 2 = .ok (.invokevirtual 50, 3) := by decide +kernel
theorem dX4_rename_5 : decode cX4_rename 5 = .ok (.istore_n 3, 1) := by decide +kernel
theorem dX4_rename_6 : decode cX4_rename 6 = .ok (.iload_n 3, 1) := by decide +kernel
theorem dX4_rename_7 : decode cX4_rename 7 = .ok (.bipush (-5), 2) := by decide +kernel
theorem dX4_rename_9 : decode cX4_rename 9 = .ok (.if_icmp .ne 5, 3) := by decide +kernel
theorem dX4_rename_12 : decode cX4_rename 12 = .ok (.iconst (-1), 1) := by decide +kernel
theorem dX4_rename_13 : decode cX4_rename 13 = .ok (.ireturn, 1) := by decide +kernel
theorem dX4_rename_14 : decode cX4_rename 14 = .ok (.iload_n 2, 1) := by decide +kernel
theorem dX4_rename_15 : decode cX4_rename 15 = .ok (.invokestatic 57, 3) := by decide +kernel
theorem dX4_rename_18 : decode cX4_rename 18 = .ok (.ifCond .ne 6, 3) := by decide +kernel
theorem dX4_rename_21 : decode cX4_rename 21 = .ok (.bipush (-2), 2) := by decide +kernel
theorem dX4_rename_23 : decode cX4_rename 23 = .ok (.ireturn, 1) := by decide +kernel
theorem dX4_rename_24 : decode cX4_rename 24 = .ok (.iload_n 2, 1) := by decide +kernel
theorem dX4_rename_25 : decode cX4_rename 25 = .ok (.iload_n 1, 1) := by decide +kernel
theorem dX4_rename_26 : decode cX4_rename 26 = .ok (.if_icmp .ne 6, 3) := by decide +kernel
theorem dX4_rename_29 : decode cX4_rename 29 = .ok (.bipush (-5), 2) := by decide +kernel
theorem dX4_rename_31 : decode cX4_rename 31 = .ok (.ireturn, 1) := by decide +kernel
theorem dX4_rename_32 : decode cX4_rename 32 = .ok (.aload_n 0, 1) := by decide +kernel
theorem dX4_rename_33 : decode cX4_rename 33 = .ok (.iload_n 2, 1) := by decide +kernel
theorem dX4_rename_34 : decode cX4_rename 34 = .ok (.invokevirtual 50, 3) := by decide +kernel
theorem dX4_rename_37 : decode cX4_rename 37 = .ok (.bipush (-5), 2) := by decide +kernel
theorem dX4_rename_39 : decode cX4_rename 39 = .ok (.if_icmp .eq 6, 3) := by decide +kernel
theorem dX4_rename_42 : decode cX4_rename 42 = .ok (.bipush (-7), 2) := by decide +kernel
theorem dX4_rename_44 : decode cX4_rename 44 = .ok (.ireturn, 1) := by decide +kernel
theorem dX4_rename_45 : decode cX4_rename 45 = .ok (.aload_n 0, 1) := by decide +kernel
theorem dX4_rename_46 : decode cX4_rename 46 = .ok (.invokevirtual 82, 3) := by decide +kernel
theorem dX4_rename_49 : decode cX4_rename 49 = .ok (.aload_n 0, 1) := by decide +kernel
theorem dX4_rename_50 : decode cX4_rename 50 = .ok (.iload_n 3, 1) := by decide +kernel
theorem dX4_rename_51 : decode cX4_rename 51 = .ok (.invokevirtual 53, 3) := by decide +kernel
theorem dX4_rename_54 : decode cX4_rename 54 = .ok (.istore 4, 2) := by decide +kernel
theorem dX4_rename_56 : decode cX4_rename 56 = .ok (.aload_n 0, 1) := by decide +kernel
theorem dX4_rename_57 : decode cX4_rename 57 = .ok (.iload_n 3, 1) := by decide +kernel
theorem dX4_rename_58 : decode cX4_rename 58 = .ok (.invokevirtual 78, 3) := by decide +kernel
theorem dX4_rename_61 : decode cX4_rename 61 = .ok (.aload_n 0, 1) := by decide +kernel
theorem dX4_rename_62 : decode cX4_rename 62 = .ok (.getfield 22, 3) := by decide +kernel
theorem dX4_rename_65 : decode cX4_rename 65 = .ok (.iconst 0, 1) := by decide +kernel
theorem dX4_rename_66 : decode cX4_rename 66 = .ok (.iload_n 2, 1) := by decide +kernel
theorem dX4_rename_67 : decode cX4_rename 67 = .ok (.iastore, 1) := by decide +kernel
theorem dX4_rename_68 : decode cX4_rename 68 = .ok (.aload_n 0, 1) := by decide +kernel
theorem dX4_rename_69 : decode cX4_rename 69 = .ok (.invokevirtual 71, 3) := by decide +kernel
theorem dX4_rename_72 : decode cX4_rename 72 = .ok (.istore 5, 2) := by decide +kernel
theorem dX4_rename_74 : decode cX4_rename 74 = .ok (.iconst 0, 1) := by decide +kernel
theorem dX4_rename_75 : decode cX4_rename 75 = .ok (.istore 6, 2) := by decide +kernel
theorem dX4_rename_77 : decode cX4_rename 77 = .ok (.iload 6, 2) := by decide +kernel
theorem dX4_rename_79 : decode cX4_rename 79 = .ok (.aload_n 0, 1) := by decide +kernel
theorem dX4_rename_80 : decode cX4_rename 80 = .ok (.getfield 7, 3) := by decide +kernel
theorem dX4_rename_83 : decode cX4_rename 83 = .ok (.iconst 0, 1) := by decide +kernel
theorem dX4_rename_84 : decode cX4_rename 84 = .ok (.iaload, 1) := by decide +kernel
theorem dX4_rename_85 : decode cX4_rename 85 = .ok (.if_icmp .ge 43, 3) := by decide +kernel
theorem dX4_rename_88 : decode cX4_rename 88 = .ok (.aload_n 0, 1) := by decide +kernel
theorem dX4_rename_89 : decode cX4_rename 89 = .ok (.iload 6, 2) := by decide +kernel
theorem dX4_rename_91 : decode cX4_rename 91 = .ok (.iconst 5, 1) := by decide +kernel
theorem dX4_rename_92 : decode cX4_rename 92 = .ok (.iload 4, 2) := by decide +kernel
theorem dX4_rename_94 : decode cX4_rename 94 = .ok (.ifCond .eq 18, 3) := by decide +kernel
theorem dX4_rename_97 : decode cX4_rename 97 = .ok (.aload_n 0, 1) := by decide +kernel
theorem dX4_rename_98 : decode cX4_rename 98 = .ok (.iload 6, 2) := by decide +kernel
theorem dX4_rename_100 : decode cX4_rename 100 = .ok (.iconst 5, 1) := by decide +kernel
theorem dX4_rename_101 : decode cX4_rename 101 = .ok (.invokevirtual 38, 3) := by decide +kernel
theorem dX4_rename_104 : decode cX4_rename 104 = .ok (.iload_n 1, 1) := by decide +kernel
theorem dX4_rename_105 : decode cX4_rename 105 = .ok (.if_icmp .ne 7, 3) := by decide +kernel
theorem dX4_rename_108 : decode cX4_rename 108 = .ok (.iload_n 2, 1) := by decide +kernel
theorem dX4_rename_109 : decode cX4_rename 109 = .ok (.goto 10, 3) := by decide +kernel
theorem dX4_rename_112 : decode cX4_rename 112 = .ok (.aload_n 0, 1) := by decide +kernel
theorem dX4_rename_113 : decode cX4_rename 113 = .ok (.iload 6, 2) := by decide +kernel
theorem dX4_rename_115 : decode cX4_rename 115 = .ok (.iconst 5, 1) := by decide +kernel
theorem dX4_rename_116 : decode cX4_rename 116 = .ok (.invokevirtual 38, 3) := by decide +kernel
theorem dX4_rename_119 : decode cX4_rename 119 = .ok (.invokevirtual 42, 3) := by decide +kernel
theorem dX4_rename_122 : decode cX4_rename 122 = .ok (.iinc 6 1, 3) := by decide +kernel
theorem dX4_rename_125 : decode cX4_rename 125 = .ok (.goto (-48), 3) := by decide +kernel
theorem dX4_rename_128 : decode cX4_rename 128 = .ok (.aload_n 0, 1) := by decide +kernel
theorem dX4_rename_129 : decode cX4_rename 129 = .ok (.iload 5, 2) := by decide +kernel
theorem dX4_rename_131 : decode cX4_rename 131 = .ok (.invokevirtual 89, 3) := by decide +kernel
theorem dX4_rename_134 : decode cX4_rename 134 = .ok (.ireturn, 1) := by decide +kernel
theorem dX4_alias_0 : decode cX4_alias 0 = .ok (.aload_n 0, 1) := by decide +kernel
theorem dX4_alias_1 : decode cX4_alias 1 = .ok (.invokevirtual 82, 3) := by decide +kernel
theorem dX4_alias_4 : decode cX4_alias 4 = .ok (.aload_n 0, 1) := by decide +kernel
theorem dX4_alias_5 : decode cX4_alias 5 = .ok (.iload_n 1, 1) := by decide +kernel
theorem dX4_alias_6 : decode cX4_alias 6 = .ok (.iload_n 2, 1) := by decide +kernel
theorem dX4_alias_7 : decode cX4_alias 7 = .ok (.invokevirtual 92, 3) := by decide +kernel
theorem dX4_alias_10 : decode cX4_alias 10 = .ok (.istore_n 3, 1) := by decide +kernel
theorem dX4_alias_11 : decode cX4_alias 11 = .ok (.iload_n 3, 1) := by decide +kernel
theorem dX4_alias_12 : decode cX4_alias 12 = .ok (.ifCond .ge 7, 3) := by decide +kernel
theorem dX4_alias_15 : decode cX4_alias 15 = .ok (.iload_n 3, 1) := by decide +kernel
theorem dX4_alias_16 : decode cX4_alias 16 = .ok (.goto 8, 3) := by decide +kernel
theorem dX4_alias_19 : decode cX4_alias 19 = .ok (.aload_n 0, 1) := by decide +kernel
theorem dX4_alias_20 : decode cX4_alias 20 = .ok (.iload_n 3, 1) := by decide +kernel
theorem dX4_alias_21 : decode cX4_alias 21 = .ok (.invokevirtual 89, 3) := by decide +kernel
theorem dX4_alias_24 : decode cX4_alias 24 = .ok (.ireturn, 1) := by decide +kernel
theorem dX4_type_0 : decode cX4_type 0 = .ok (.aload_n 0, 1) := by decide +kernel
theorem dX4_type_1 : decode cX4_type 1 = .ok (.getfield 95, 3) := by decide +kernel
theorem dX4_type_4 : decode cX4_type 4 = .ok (.bipush 60, 2) := by decide +kernel
theorem dX4_type_6 : decode cX4_type 6 = .ok (.if_icmp .ne 6, 3) := by decide +kernel
theorem dX4_type_9 : decode cX4_type 9 = .ok (.bipush (-3), 2) := by decide +kernel
theorem dX4_type_11 : decode cX4_type 11 = .ok (.ireturn, 1) := by decide +kernel
theorem dX4_type_12 : decode cX4_type 12 = .ok (.aload_n 0, 1) := by decide +kernel
theorem dX4_type_13 : decode cX4_type 13 = .ok (.getfield 25, 3) := by decide +kernel
theorem dX4_type_16 : decode cX4_type 16 = .ok (.aload_n 0, 1) := by decide +kernel
theorem dX4_type_17 : decode cX4_type 17 = .ok (.getfield 95, 3) := by decide +kernel
theorem dX4_type_20 : decode cX4_type 20 = .ok (.iload_n 1, 1) := by decide +kernel
theorem dX4_type_21 : decode cX4_type 21 = .ok (.iastore, 1) := by decide +kernel
theorem dX4_type_22 : decode cX4_type 22 = .ok (.aload_n 0, 1) := by decide +kernel
theorem dX4_type_23 : decode cX4_type 23 = .ok (.dup, 1) := by decide +kernel
theorem dX4_type_24 : decode cX4_type 24 = .ok (.getfield 95, 3) := by decide +kernel
theorem dX4_type_27 : decode cX4_type 27 = .ok (.iconst 1, 1) := by decide +kernel
theorem dX4_type_28 : decode cX4_type 28 = .ok (.iadd, 1) := by decide +kernel
theorem dX4_type_29 : decode cX4_type 29 = .ok (.putfield 95, 3) := by decide +kernel
theorem dX4_type_32 : decode cX4_type 32 = .ok (.aload_n 0, 1) := by decide +kernel
theorem dX4_type_33 : decode cX4_type 33 = .ok (.getfield 95, 3) := by decide +kernel
theorem dX4_type_36 : decode cX4_type 36 = .ok (.ireturn, 1) := by decide +kernel
theorem dX4_clearPad_0 : decode cX4_clearPad 0 = .ok (.aload_n 0, 1) := by decide +kernel
theorem dX4_clearPad_1 : decode cX4_clearPad 1 = .ok (.getfield 95, 3) := by decide +kernel
theorem dX4_clearPad_4 : decode cX4_clearPad 4 = .ok (.istore_n 1, 1) := by decide +kernel
theorem dX4_clearPad_5 : decode cX4_clearPad 5 = .ok (.aload_n 0, 1) := by decide +kernel
theorem dX4_clearPad_6 : decode cX4_clearPad 6 = .ok (.iconst 0, 1) := by decide +kernel
theorem dX4_clearPad_7 : decode cX4_clearPad 7 = .ok (.putfield 95, 3) := by decide +kernel
theorem dX4_clearPad_10 : decode cX4_clearPad 10 = .ok (.iload_n 1, 1) := by decide +kernel
theorem dX4_clearPad_11 : decode cX4_clearPad 11 = .ok (.ireturn, 1) := by decide +kernel
theorem dX4_isHere_0 : decode cX4_isHere 0 = .ok (.aload_n 0, 1) := by decide +kernel
theorem dX4_isHere_1 : decode cX4_isHere 1 = .ok (.getfield 98, 3) := by decide +kernel
theorem dX4_isHere_4 : decode cX4_isHere 4 = .ok (.aload_n 0, 1) := by decide +kernel
theorem dX4_isHere_5 : decode cX4_isHere 5 = .ok (.getfield 95, 3) := by decide +kernel
theorem dX4_isHere_8 : decode cX4_isHere 8 = .ok (.if_icmp .ge 27, 3) := by decide +kernel
theorem dX4_isHere_11 : decode cX4_isHere 11 = .ok (.aload_n 0, 1) := by decide +kernel
theorem dX4_isHere_12 : decode cX4_isHere 12 = .ok (.getfield 25, 3) := by decide +kernel
theorem dX4_isHere_15 : decode cX4_isHere 15 = .ok (.aload_n 0, 1) := by decide +kernel
theorem dX4_isHere_16 : decode cX4_isHere 16 = .ok (.getfield 98, 3) := by decide +kernel
theorem dX4_isHere_19 : decode cX4_isHere 19 = .ok (.iaload, 1) := by decide +kernel
theorem dX4_isHere_20 : decode cX4_isHere 20 = .ok (.i2l, 1) := by decide +kernel
theorem dX4_isHere_21 : decode cX4_isHere 21 = .ok (.iload_n 1, 1) := by decide +kernel
theorem dX4_isHere_22 : decode cX4_isHere 22 = .ok (.i2l, 1) := by decide +kernel
theorem dX4_isHere_23 : decode cX4_isHere 23 = .ok (.iload_n 2, 1) := by decide +kernel
theorem dX4_isHere_24 : decode cX4_isHere 24 = .ok (.i2l, 1) := by decide +kernel
theorem dX4_isHere_25 : decode cX4_isHere 25 = .ok (.invokestatic 34, 3) := by decide +kernel
theorem dX4_isHere_28 : decode cX4_isHere 28 = .ok (.ifCond .eq 7, 3) := by decide +kernel
theorem dX4_isHere_31 : decode cX4_isHere 31 = .ok (.iconst 1, 1) := by decide +kernel
theorem dX4_isHere_32 : decode cX4_isHere 32 = .ok (.goto 4, 3) := by decide +kernel
theorem dX4_isHere_35 : decode cX4_isHere 35 = .ok (.iconst 0, 1) := by decide +kernel
theorem dX4_isHere_36 : decode cX4_isHere 36 = .ok (.ireturn, 1) := by decide +kernel
theorem dX4_takes_0 : decode cX4_takes 0 = .ok (.aload_n 0, 1) := by decide +kernel
theorem dX4_takes_1 : decode cX4_takes 1 = .ok (.iload_n 1, 1) := by decide +kernel
theorem dX4_takes_2 : decode cX4_takes 2 = .ok (.iload_n 1, 1) := by decide +kernel
theorem dX4_takes_3 : decode cX4_takes 3 = .ok (.invokevirtual 101, 3) := by decide +kernel
theorem dX4_takes_6 : decode cX4_takes 6 = .ok (.istore_n 2, 1) := by decide +kernel
theorem dX4_takes_7 : decode cX4_takes 7 = .ok (.aload_n 0, 1) := by decide +kernel
theorem dX4_takes_8 : decode cX4_takes 8 = .ok (.dup, 1) := by decide +kernel
theorem dX4_takes_9 : decode cX4_takes 9 = .ok (.getfield 98, 3) := by decide +kernel
theorem dX4_takes_12 : decode cX4_takes 12 = .ok (.iload_n 2, 1) := by decide +kernel
theorem dX4_takes_13 : decode cX4_takes 13 = .ok (.ifCond .eq 7, 3) := by decide +kernel
theorem dX4_takes_16 : decode cX4_takes 16 = .ok (.iconst 1, 1) := by decide +kernel
theorem dX4_takes_17 : decode cX4_takes 17 = .ok (.goto 4, 3) := by decide +kernel
theorem dX4_takes_20 : decode cX4_takes 20 = .ok (.iconst 0, 1) := by decide +kernel
theorem dX4_takes_21 : decode cX4_takes 21 = .ok (.iadd, 1) := by decide +kernel
theorem dX4_takes_22 : decode cX4_takes 22 = .ok (.putfield 98, 3) := by decide +kernel
theorem dX4_takes_25 : decode cX4_takes 25 = .ok (.iload_n 2, 1) := by decide +kernel
theorem dX4_takes_26 : decode cX4_takes 26 = .ok (.ireturn, 1) := by decide +kernel
theorem dX4_readsNumber_0 : decode cX4_readsNumber 0 = .ok (.aload_n 0, 1) := by decide +kernel
theorem dX4_readsNumber_1 : decode cX4_readsNumber 1 = .ok (.bipush 48, 2) := by decide +kernel
theorem dX4_readsNumber_3 : decode cX4_readsNumber 3 = .ok (.iload_n 1, 1) := by decide +kernel
theorem dX4_readsNumber_4 : decode cX4_readsNumber 4 = .ok (.iadd, 1) := by decide +kernel
theorem dX4_readsNumber_5 : decode cX4_readsNumber 5 = .ok (.bipush 57, 2) := by decide +kernel
theorem dX4_readsNumber_7 : decode cX4_readsNumber 7 = .ok (.invokevirtual 101, 3) := by decide +kernel
theorem dX4_readsNumber_10 : decode cX4_readsNumber 10 = .ok (.ifCond .ne 5, 3) := by decide +kernel
theorem dX4_readsNumber_13 : decode cX4_readsNumber 13 = .ok (.iconst 0, 1) := by decide +kernel
theorem dX4_readsNumber_14 : decode cX4_readsNumber 14 = .ok (.ireturn, 1) := by decide +kernel
theorem dX4_readsNumber_15 : decode cX4_readsNumber 15 = .ok (.aload_n 0, 1) := by decide +kernel
theorem dX4_readsNumber_16 : decode cX4_readsNumber 16 = .ok (.aload_n 0, 1) := by decide +kernel
theorem dX4_readsNumber_17 : decode cX4_readsNumber 17 = .ok (.getfield 25, 3) := by decide +kernel
theorem dX4_readsNumber_20 : decode cX4_readsNumber 20 = .ok (.aload_n 0, 1) := by decide +kernel
theorem dX4_readsNumber_21 : decode cX4_readsNumber 21 = .ok (.getfield 98, 3) := by decide +kernel
theorem dX4_readsNumber_24 : decode cX4_readsNumber 24 = .ok (.iaload, 1) := by decide +kernel
theorem dX4_readsNumber_25 : decode cX4_readsNumber 25 = .ok (.bipush 48, 2) := by decide +kernel
theorem dX4_readsNumber_27 : decode cX4_readsNumber 27 = .ok (.isub, 1) := by decide +kernel
theorem dX4_readsNumber_28 : decode cX4_readsNumber 28 = .ok (.putfield 105, 3) := by decide +kernel
theorem dX4_readsNumber_31 : decode cX4_readsNumber 31 = .ok (.aload_n 0, 1) := by decide +kernel
theorem dX4_readsNumber_32 : decode cX4_readsNumber 32 = .ok (.dup, 1) := by decide +kernel
theorem dX4_readsNumber_33 : decode cX4_readsNumber 33 = .ok (.getfield 98, 3) := by decide +kernel
theorem dX4_readsNumber_36 : decode cX4_readsNumber 36 = .ok (.iconst 1, 1) := by decide +kernel
theorem dX4_readsNumber_37 : decode cX4_readsNumber 37 = .ok (.iadd, 1) := by decide +kernel
theorem dX4_readsNumber_38 : decode cX4_readsNumber 38 = .ok (.putfield 98, 3) := by decide +kernel
theorem dX4_readsNumber_41 : decode cX4_readsNumber 41 = .ok (.aload_n 0, 1) := by decide +kernel
theorem dX4_readsNumber_42 : decode cX4_readsNumber 42 = .ok (.getfield 105, 3) := by decide +kernel
theorem dX4_readsNumber_45 : decode cX4_readsNumber 45 = .ok (.ifCond .le 75, 3) := by decide +kernel
theorem dX4_readsNumber_48 : decode cX4_readsNumber 48 = .ok (.aload_n 0, 1) := by decide +kernel
theorem dX4_readsNumber_49 : decode cX4_readsNumber 49 = .ok (.bipush 48, 2) := by decide +kernel
theorem dX4_readsNumber_51 : decode cX4_readsNumber 51 = .ok (.bipush 57, 2) := by decide +kernel
theorem dX4_readsNumber_53 : decode cX4_readsNumber 53 = .ok (.invokevirtual 101, 3) := by decide +kernel
theorem dX4_readsNumber_56 : decode cX4_readsNumber 56 = .ok (.ifCond .eq 64, 3) := by decide +kernel
theorem dX4_readsNumber_59 : decode cX4_readsNumber 59 = .ok (.bipush 10, 2) := by decide +kernel
theorem dX4_readsNumber_61 : decode cX4_readsNumber 61 = .ok (.aload_n 0, 1) := by decide +kernel
theorem dX4_readsNumber_62 : decode cX4_readsNumber 62 = .ok (.getfield 105, 3) := by decide +kernel
theorem dX4_readsNumber_65 : decode cX4_readsNumber 65 = .ok (.imul, 1) := by decide +kernel
theorem dX4_readsNumber_66 : decode cX4_readsNumber 66 = .ok (.aload_n 0, 1) := by decide +kernel
theorem dX4_readsNumber_67 : decode cX4_readsNumber 67 = .ok (.getfield 25, 3) := by decide +kernel
theorem dX4_readsNumber_70 : decode cX4_readsNumber 70 = .ok (.aload_n 0, 1) := by decide +kernel
theorem dX4_readsNumber_71 : decode cX4_readsNumber 71 = .ok (.getfield 98, 3) := by decide +kernel
theorem dX4_readsNumber_74 : decode cX4_readsNumber 74 = .ok (.iaload, 1) := by decide +kernel
theorem dX4_readsNumber_75 : decode cX4_readsNumber 75 = .ok (.iadd, 1) := by decide +kernel
theorem dX4_readsNumber_76 : decode cX4_readsNumber 76 = .ok (.bipush 48, 2) := by decide +kernel
theorem dX4_readsNumber_78 : decode cX4_readsNumber 78 = .ok (.isub, 1) := by decide +kernel
theorem dX4_readsNumber_79 : decode cX4_readsNumber 79 = .ok (.iload_n 2, 1) := by decide +kernel
theorem dX4_readsNumber_80 : decode cX4_readsNumber 80 = .ok (.if_icmp .gt 40, 3) := by decide +kernel
theorem dX4_readsNumber_83 : decode cX4_readsNumber 83 = .ok (.aload_n 0, 1) := by decide +kernel
theorem dX4_readsNumber_84 : decode cX4_readsNumber 84 = .ok (.bipush 10, 2) := by decide +kernel
theorem dX4_readsNumber_86 : decode cX4_readsNumber 86 = .ok (.aload_n 0, 1) := by decide +kernel
theorem dX4_readsNumber_87 : decode cX4_readsNumber 87 = .ok (.getfield 105, 3) := by decide +kernel
theorem dX4_readsNumber_90 : decode cX4_readsNumber 90 = .ok (.imul, 1) := by decide +kernel
theorem dX4_readsNumber_91 : decode cX4_readsNumber 91 = .ok (.aload_n 0, 1) := by decide +kernel
theorem dX4_readsNumber_92 : decode cX4_readsNumber 92 = .ok (.getfield 25, 3) := by decide +kernel
theorem dX4_readsNumber_95 : decode cX4_readsNumber 95 = .ok (.aload_n 0, 1) := by decide +kernel
theorem dX4_readsNumber_96 : decode cX4_readsNumber 96 = .ok (.getfield 98, 3) := by decide +kernel
theorem dX4_readsNumber_99 : decode cX4_readsNumber 99 = .ok (.iaload, 1) := by decide +kernel
theorem dX4_readsNumber_100 : decode cX4_readsNumber 100 = .ok (.iadd, 1) := by decide +kernel
theorem dX4_readsNumber_101 : decode cX4_readsNumber 101 = .ok (.bipush 48, 2) := by decide +kernel
theorem dX4_readsNumber_103 : decode cX4_readsNumber 103 = .ok (.isub, 1) := by decide +kernel
theorem dX4_readsNumber_104 : decode cX4_readsNumber 104 = .ok (.putfield 105, 3) := by decide +kernel
theorem dX4_readsNumber_107 : decode cX4_readsNumber 107 = .ok (.aload_n 0, 1) := by decide +kernel
theorem dX4_readsNumber_108 : decode cX4_readsNumber 108 = .ok (.dup, 1) := by decide +kernel
theorem dX4_readsNumber_109 : decode cX4_readsNumber 109 = .ok (.getfield 98, 3) := by decide +kernel
theorem dX4_readsNumber_112 : decode cX4_readsNumber 112 = .ok (.iconst 1, 1) := by decide +kernel
theorem dX4_readsNumber_113 : decode cX4_readsNumber 113 = .ok (.iadd, 1) := by decide +kernel
theorem dX4_readsNumber_114 : decode cX4_readsNumber 114 = .ok (.putfield 98, 3) := by decide +kernel
theorem dX4_readsNumber_117 : decode cX4_readsNumber 117 = .ok (.goto (-76), 3) := by decide +kernel
theorem dX4_readsNumber_120 : decode cX4_readsNumber 120 = .ok (.iconst 1, 1) := by decide +kernel
theorem dX4_readsNumber_121 : decode cX4_readsNumber 121 = .ok (.ireturn, 1) := by decide +kernel
theorem dX4_readsName_0 : decode cX4_readsName 0 = .ok (.aload_n 0, 1) := by decide +kernel
theorem dX4_readsName_1 : decode cX4_readsName 1 = .ok (.iconst 0, 1) := by decide +kernel
theorem dX4_readsName_2 : decode cX4_readsName 2 = .ok (.putfield 105, 3) := by decide +kernel
theorem dX4_readsName_5 : decode cX4_readsName 5 = .ok (.iconst 0, 1) := by decide +kernel
theorem dX4_readsName_6 : decode cX4_readsName 6 = .ok (.istore_n 1, 1) := by decide +kernel
theorem dX4_readsName_7 : decode cX4_readsName 7 = .ok (.iload_n 1, 1) := by decide +kernel
theorem dX4_readsName_8 : decode cX4_readsName 8 = .ok (.iconst 2, 1) := by decide +kernel
theorem dX4_readsName_9 : decode cX4_readsName 9 = .ok (.if_icmp .ge 56, 3) := by decide +kernel
theorem dX4_readsName_12 : decode cX4_readsName 12 = .ok (.aload_n 0, 1) := by decide +kernel
theorem dX4_readsName_13 : decode cX4_readsName 13 = .ok (.bipush 65, 2) := by decide +kernel
theorem dX4_readsName_15 : decode cX4_readsName 15 = .ok (.bipush 90, 2) := by decide +kernel
theorem dX4_readsName_17 : decode cX4_readsName 17 = .ok (.invokevirtual 101, 3) := by decide +kernel
theorem dX4_readsName_20 : decode cX4_readsName 20 = .ok (.ifCond .ne 5, 3) := by decide +kernel
theorem dX4_readsName_23 : decode cX4_readsName 23 = .ok (.iconst 0, 1) := by decide +kernel
theorem dX4_readsName_24 : decode cX4_readsName 24 = .ok (.ireturn, 1) := by decide +kernel
theorem dX4_readsName_25 : decode cX4_readsName 25 = .ok (.aload_n 0, 1) := by decide +kernel
theorem dX4_readsName_26 : decode cX4_readsName 26 = .ok (.bipush 26, 2) := by decide +kernel
theorem dX4_readsName_28 : decode cX4_readsName 28 = .ok (.aload_n 0, 1) := by decide +kernel
theorem dX4_readsName_29 : decode cX4_readsName 29 = .ok (.getfield 105, 3) := by decide +kernel
theorem dX4_readsName_32 : decode cX4_readsName 32 = .ok (.imul, 1) := by decide +kernel
theorem dX4_readsName_33 : decode cX4_readsName 33 = .ok (.aload_n 0, 1) := by decide +kernel
theorem dX4_readsName_34 : decode cX4_readsName 34 = .ok (.getfield 25, 3) := by decide +kernel
theorem dX4_readsName_37 : decode cX4_readsName 37 = .ok (.aload_n 0, 1) := by decide +kernel
theorem dX4_readsName_38 : decode cX4_readsName 38 = .ok (.getfield 98, 3) := by decide +kernel
theorem dX4_readsName_41 : decode cX4_readsName 41 = .ok (.iaload, 1) := by decide +kernel
theorem dX4_readsName_42 : decode cX4_readsName 42 = .ok (.iadd, 1) := by decide +kernel
theorem dX4_readsName_43 : decode cX4_readsName 43 = .ok (.bipush 65, 2) := by decide +kernel
theorem dX4_readsName_45 : decode cX4_readsName 45 = .ok (.isub, 1) := by decide +kernel
theorem dX4_readsName_46 : decode cX4_readsName 46 = .ok (.putfield 105, 3) := by decide +kernel
theorem dX4_readsName_49 : decode cX4_readsName 49 = .ok (.aload_n 0, 1) := by decide +kernel
theorem dX4_readsName_50 : decode cX4_readsName 50 = .ok (.dup, 1) := by decide +kernel
theorem dX4_readsName_51 : decode cX4_readsName 51 = .ok (.getfield 98, 3) := by decide +kernel
theorem dX4_readsName_54 : decode cX4_readsName 54 = .ok (.iconst 1, 1) := by decide +kernel
theorem dX4_readsName_55 : decode cX4_readsName 55 = .ok (.iadd, 1) := by decide +kernel
theorem dX4_readsName_56 : decode cX4_readsName 56 = .ok (.putfield 98, 3) := by decide +kernel
theorem dX4_readsName_59 : decode cX4_readsName 59 = .ok (.iinc 1 1, 3) := by decide +kernel
theorem dX4_readsName_62 : decode cX4_readsName 62 = .ok (.goto (-55), 3) := by decide +kernel
theorem dX4_readsName_65 : decode cX4_readsName 65 = .ok (.iconst 1, 1) := by decide +kernel
theorem dX4_readsName_66 : decode cX4_readsName 66 = .ok (.ireturn, 1) := by decide +kernel
theorem dX4_readsAddition_0 : decode cX4_readsAddition 0 = .ok (.aload_n 0, 1) := by decide +kernel
theorem dX4_readsAddition_1 : decode cX4_readsAddition 1 = .ok (.invokevirtual 108, 3) := by decide +kernel
theorem dX4_readsAddition_4 : decode cX4_readsAddition 4 = .ok (.ifCond .ne 5, 3) := by decide +kernel
theorem dX4_readsAddition_7 : decode cX4_readsAddition 7 = .ok (.iconst 0, 1) := by decide +kernel
theorem dX4_readsAddition_8 : decode cX4_readsAddition 8 = .ok (.ireturn, 1) := by decide +kernel
theorem dX4_readsAddition_9 : decode cX4_readsAddition 9 = .ok (.aload_n 0, 1) := by decide +kernel
theorem dX4_readsAddition_10 : decode cX4_readsAddition 10 = .ok (.getfield 105, 3) := by decide +kernel
theorem dX4_readsAddition_13 : decode cX4_readsAddition 13 = .ok (.istore_n 2, 1) := by decide +kernel
theorem dX4_readsAddition_14 : decode cX4_readsAddition 14 = .ok (.aload_n 0, 1) := by decide +kernel
theorem dX4_readsAddition_15 : decode cX4_readsAddition 15 = .ok (.bipush 62, 2) := by decide +kernel
theorem dX4_readsAddition_17 : decode cX4_readsAddition 17 = .ok (.invokevirtual 111, 3) := by decide +kernel
theorem dX4_readsAddition_20 : decode cX4_readsAddition 20 = .ok (.ifCond .eq 35, 3) := by decide +kernel
theorem dX4_readsAddition_23 : decode cX4_readsAddition 23 = .ok (.aload_n 0, 1) := by decide +kernel
theorem dX4_readsAddition_24 : decode cX4_readsAddition 24 = .ok (.invokevirtual 108, 3) := by decide +kernel
theorem dX4_readsAddition_27 : decode cX4_readsAddition 27 = .ok (.istore_n 3, 1) := by decide +kernel
theorem dX4_readsAddition_28 : decode cX4_readsAddition 28 = .ok (.aload_n 0, 1) := by decide +kernel
theorem dX4_readsAddition_29 : decode cX4_readsAddition 29 = .ok (.iload_n 3, 1) := by decide +kernel
theorem dX4_readsAddition_30 : decode cX4_readsAddition 30 = .ok (.ifCond .eq 19, 3) := by decide +kernel
theorem dX4_readsAddition_33 : decode cX4_readsAddition 33 = .ok (.iload_n 1, 1) := by decide +kernel
theorem dX4_readsAddition_34 : decode cX4_readsAddition 34 = .ok (.ifCond .eq 15, 3) := by decide +kernel
theorem dX4_readsAddition_37 : decode cX4_readsAddition 37 = .ok (.aload_n 0, 1) := by decide +kernel
theorem dX4_readsAddition_38 : decode cX4_readsAddition 38 = .ok (.iload_n 2, 1) := by decide +kernel
theorem dX4_readsAddition_39 : decode cX4_readsAddition 39 = .ok (.aload_n 0, 1) := by decide +kernel
theorem dX4_readsAddition_40 : decode cX4_readsAddition 40 = .ok (.getfield 105, 3) := by decide +kernel
theorem dX4_readsAddition_43 : decode cX4_readsAddition 43 = .ok (.invokevirtual 92, 3) := by decide +kernel
theorem dX4_readsAddition_46 : decode cX4_readsAddition 46 = .ok (.goto 4, 3) := by decide +kernel
theorem dX4_readsAddition_49 : decode cX4_readsAddition 49 = .ok (.iconst 0, 1) := by decide +kernel
theorem dX4_readsAddition_50 : decode cX4_readsAddition 50 = .ok (.putfield 114, 3) := by decide +kernel
theorem dX4_readsAddition_53 : decode cX4_readsAddition 53 = .ok (.iload_n 3, 1) := by decide +kernel
theorem dX4_readsAddition_54 : decode cX4_readsAddition 54 = .ok (.ireturn, 1) := by decide +kernel
theorem dX4_readsAddition_55 : decode cX4_readsAddition 55 = .ok (.aload_n 0, 1) := by decide +kernel
theorem dX4_readsAddition_56 : decode cX4_readsAddition 56 = .ok (.bipush 61, 2) := by decide +kernel
theorem dX4_readsAddition_58 : decode cX4_readsAddition 58 = .ok (.invokevirtual 111, 3) := by decide +kernel
theorem dX4_readsAddition_61 : decode cX4_readsAddition 61 = .ok (.ifCond .eq 13, 3) := by decide +kernel
theorem dX4_readsAddition_64 : decode cX4_readsAddition 64 = .ok (.aload_n 0, 1) := by decide +kernel
theorem dX4_readsAddition_65 : decode cX4_readsAddition 65 = .ok (.iconst 1, 1) := by decide +kernel
theorem dX4_readsAddition_66 : decode cX4_readsAddition 66 = .ok (.bipush 40, 2) := by decide +kernel
theorem dX4_readsAddition_68 : decode cX4_readsAddition 68 = .ok (.invokevirtual 117, 3) := by decide +kernel
theorem dX4_readsAddition_71 : decode cX4_readsAddition 71 = .ok (.ifCond .ne 5, 3) := by decide +kernel
theorem dX4_readsAddition_74 : decode cX4_readsAddition 74 = .ok (.iconst 0, 1) := by decide +kernel
theorem dX4_readsAddition_75 : decode cX4_readsAddition 75 = .ok (.ireturn, 1) := by decide +kernel
theorem dX4_readsAddition_76 : decode cX4_readsAddition 76 = .ok (.aload_n 0, 1) := by decide +kernel
theorem dX4_readsAddition_77 : decode cX4_readsAddition 77 = .ok (.getfield 105, 3) := by decide +kernel
theorem dX4_readsAddition_80 : decode cX4_readsAddition 80 = .ok (.istore_n 3, 1) := by decide +kernel
theorem dX4_readsAddition_81 : decode cX4_readsAddition 81 = .ok (.aload_n 0, 1) := by decide +kernel
theorem dX4_readsAddition_82 : decode cX4_readsAddition 82 = .ok (.iconst 0, 1) := by decide +kernel
theorem dX4_readsAddition_83 : decode cX4_readsAddition 83 = .ok (.putfield 105, 3) := by decide +kernel
theorem dX4_readsAddition_86 : decode cX4_readsAddition 86 = .ok (.aload_n 0, 1) := by decide +kernel
theorem dX4_readsAddition_87 : decode cX4_readsAddition 87 = .ok (.bipush 44, 2) := by decide +kernel
theorem dX4_readsAddition_89 : decode cX4_readsAddition 89 = .ok (.invokevirtual 111, 3) := by decide +kernel
theorem dX4_readsAddition_92 : decode cX4_readsAddition 92 = .ok (.ifCond .eq 14, 3) := by decide +kernel
theorem dX4_readsAddition_95 : decode cX4_readsAddition 95 = .ok (.aload_n 0, 1) := by decide +kernel
theorem dX4_readsAddition_96 : decode cX4_readsAddition 96 = .ok (.iconst 0, 1) := by decide +kernel
theorem dX4_readsAddition_97 : decode cX4_readsAddition 97 = .ok (.sipush 9999, 3) := by decide +kernel
theorem dX4_readsAddition_100 : decode cX4_readsAddition 100 = .ok (.invokevirtual 117, 3) := by decide +kernel
theorem dX4_readsAddition_103 : decode cX4_readsAddition 103 = .ok (.ifCond .eq 7, 3) := by decide +kernel
theorem dX4_readsAddition_106 : decode cX4_readsAddition 106 = .ok (.iconst 1, 1) := by decide +kernel
theorem dX4_readsAddition_107 : decode cX4_readsAddition 107 = .ok (.goto 4, 3) := by decide +kernel
theorem dX4_readsAddition_110 : decode cX4_readsAddition 110 = .ok (.iconst 0, 1) := by decide +kernel
theorem dX4_readsAddition_111 : decode cX4_readsAddition 111 = .ok (.istore 4, 2) := by decide +kernel
theorem dX4_readsAddition_113 : decode cX4_readsAddition 113 = .ok (.aload_n 0, 1) := by decide +kernel
theorem dX4_readsAddition_114 : decode cX4_readsAddition 114 = .ok (.iload 4, 2) := by decide +kernel
theorem dX4_readsAddition_116 : decode cX4_readsAddition 116 = .ok (.ifCond .eq 20, 3) := by decide +kernel
theorem dX4_readsAddition_119 : decode cX4_readsAddition 119 = .ok (.iload_n 1, 1) := by decide +kernel
theorem dX4_readsAddition_120 : decode cX4_readsAddition 120 = .ok (.ifCond .eq 16, 3) := by decide +kernel
theorem dX4_readsAddition_123 : decode cX4_readsAddition 123 = .ok (.aload_n 0, 1) := by decide +kernel
theorem dX4_readsAddition_124 : decode cX4_readsAddition 124 = .ok (.iload_n 2, 1) := by decide +kernel
theorem dX4_readsAddition_125 : decode cX4_readsAddition 125 = .ok (.iload_n 3, 1) := by decide +kernel
theorem dX4_readsAddition_126 : decode cX4_readsAddition 126 = .ok (.aload_n 0, 1) := by decide +kernel
theorem dX4_readsAddition_127 : decode cX4_readsAddition 127 = .ok (.getfield 105, 3) := by decide +kernel
theorem dX4_readsAddition_130 : decode cX4_readsAddition 130 = .ok (.invokevirtual 85, 3) := by decide +kernel
theorem dX4_readsAddition_133 : decode cX4_readsAddition 133 = .ok (.goto 4, 3) := by decide +kernel
theorem dX4_readsAddition_136 : decode cX4_readsAddition 136 = .ok (.iconst 0, 1) := by decide +kernel
theorem dX4_readsAddition_137 : decode cX4_readsAddition 137 = .ok (.putfield 114, 3) := by decide +kernel
theorem dX4_readsAddition_140 : decode cX4_readsAddition 140 = .ok (.iload 4, 2) := by decide +kernel
theorem dX4_readsAddition_142 : decode cX4_readsAddition 142 = .ok (.ireturn, 1) := by decide +kernel
theorem dX4_fault_0 : decode cX4_fault 0 = .ok (.aload_n 0, 1) := by decide +kernel
theorem dX4_fault_1 : decode cX4_fault 1 = .ok (.iconst 0, 1) := by decide +kernel
theorem dX4_fault_2 : decode cX4_fault 2 = .ok (.putfield 98, 3) := by decide +kernel
theorem dX4_fault_5 : decode cX4_fault 5 = .ok (.iconst 1, 1) := by decide +kernel
theorem dX4_fault_6 : decode cX4_fault 6 = .ok (.istore_n 1, 1) := by decide +kernel
theorem dX4_fault_7 : decode cX4_fault 7 = .ok (.iload_n 1, 1) := by decide +kernel
theorem dX4_fault_8 : decode cX4_fault 8 = .ok (.ifCond .eq 26, 3) := by decide +kernel
theorem dX4_fault_11 : decode cX4_fault 11 = .ok (.aload_n 0, 1) := by decide +kernel
theorem dX4_fault_12 : decode cX4_fault 12 = .ok (.iconst 0, 1) := by decide +kernel
theorem dX4_fault_13 : decode cX4_fault 13 = .ok (.invokevirtual 120, 3) := by decide +kernel
theorem dX4_fault_16 : decode cX4_fault 16 = .ok (.ifCond .ne 8, 3) := by decide +kernel
theorem dX4_fault_19 : decode cX4_fault 19 = .ok (.aload_n 0, 1) := by decide +kernel
theorem dX4_fault_20 : decode cX4_fault 20 = .ok (.getfield 98, 3) := by decide +kernel
theorem dX4_fault_23 : decode cX4_fault 23 = .ok (.ireturn, 1) := by decide +kernel
theorem dX4_fault_24 : decode cX4_fault 24 = .ok (.aload_n 0, 1) := by decide +kernel
theorem dX4_fault_25 : decode cX4_fault 25 = .ok (.bipush 59, 2) := by decide +kernel
theorem dX4_fault_27 : decode cX4_fault 27 = .ok (.invokevirtual 111, 3) := by decide +kernel
theorem dX4_fault_30 : decode cX4_fault 30 = .ok (.istore_n 1, 1) := by decide +kernel
theorem dX4_fault_31 : decode cX4_fault 31 = .ok (.goto (-24), 3) := by decide +kernel
theorem dX4_fault_34 : decode cX4_fault 34 = .ok (.aload_n 0, 1) := by decide +kernel
theorem dX4_fault_35 : decode cX4_fault 35 = .ok (.getfield 98, 3) := by decide +kernel
theorem dX4_fault_38 : decode cX4_fault 38 = .ok (.aload_n 0, 1) := by decide +kernel
theorem dX4_fault_39 : decode cX4_fault 39 = .ok (.getfield 95, 3) := by decide +kernel
theorem dX4_fault_42 : decode cX4_fault 42 = .ok (.if_icmp .ne 8, 3) := by decide +kernel
theorem dX4_fault_45 : decode cX4_fault 45 = .ok (.bipush (-5), 2) := by decide +kernel
theorem dX4_fault_47 : decode cX4_fault 47 = .ok (.goto 7, 3) := by decide +kernel
theorem dX4_fault_50 : decode cX4_fault 50 = .ok (.aload_n 0, 1) := by decide +kernel
theorem dX4_fault_51 : decode cX4_fault 51 = .ok (.getfield 98, 3) := by decide +kernel
theorem dX4_fault_54 : decode cX4_fault 54 = .ok (.ireturn, 1) := by decide +kernel
theorem dX4_addAll_0 : decode cX4_addAll 0 = .ok (.aload_n 0, 1) := by decide +kernel
theorem dX4_addAll_1 : decode cX4_addAll 1 = .ok (.invokevirtual 124, 3) := by decide +kernel
theorem dX4_addAll_4 : decode cX4_addAll 4 = .ok (.istore_n 1, 1) := by decide +kernel
theorem dX4_addAll_5 : decode cX4_addAll 5 = .ok (.iload_n 1, 1) := by decide +kernel
theorem dX4_addAll_6 : decode cX4_addAll 6 = .ok (.bipush (-5), 2) := by decide +kernel
theorem dX4_addAll_8 : decode cX4_addAll 8 = .ok (.if_icmp .eq 8, 3) := by decide +kernel
theorem dX4_addAll_11 : decode cX4_addAll 11 = .ok (.bipush (-100), 2) := by decide +kernel
theorem dX4_addAll_13 : decode cX4_addAll 13 = .ok (.iload_n 1, 1) := by decide +kernel
theorem dX4_addAll_14 : decode cX4_addAll 14 = .ok (.isub, 1) := by decide +kernel
theorem dX4_addAll_15 : decode cX4_addAll 15 = .ok (.ireturn, 1) := by decide +kernel
theorem dX4_addAll_16 : decode cX4_addAll 16 = .ok (.aload_n 0, 1) := by decide +kernel
theorem dX4_addAll_17 : decode cX4_addAll 17 = .ok (.invokevirtual 82, 3) := by decide +kernel
theorem dX4_addAll_20 : decode cX4_addAll 20 = .ok (.aload_n 0, 1) := by decide +kernel
theorem dX4_addAll_21 : decode cX4_addAll 21 = .ok (.iconst 0, 1) := by decide +kernel
theorem dX4_addAll_22 : decode cX4_addAll 22 = .ok (.putfield 98, 3) := by decide +kernel
theorem dX4_addAll_25 : decode cX4_addAll 25 = .ok (.iconst 0, 1) := by decide +kernel
theorem dX4_addAll_26 : decode cX4_addAll 26 = .ok (.istore_n 2, 1) := by decide +kernel
theorem dX4_addAll_27 : decode cX4_addAll 27 = .ok (.iconst 1, 1) := by decide +kernel
theorem dX4_addAll_28 : decode cX4_addAll 28 = .ok (.istore_n 3, 1) := by decide +kernel
theorem dX4_addAll_29 : decode cX4_addAll 29 = .ok (.iload_n 3, 1) := by decide +kernel
theorem dX4_addAll_30 : decode cX4_addAll 30 = .ok (.ifCond .eq 75, 3) := by decide +kernel
theorem dX4_addAll_33 : decode cX4_addAll 33 = .ok (.aload_n 0, 1) := by decide +kernel
theorem dX4_addAll_34 : decode cX4_addAll 34 = .ok (.iconst 1, 1) := by decide +kernel
theorem dX4_addAll_35 : decode cX4_addAll 35 = .ok (.invokevirtual 120, 3) := by decide +kernel
theorem dX4_addAll_38 : decode cX4_addAll 38 = .ok (.istore 4, 2) := by decide +kernel
theorem dX4_addAll_40 : decode cX4_addAll 40 = .ok (.aload_n 0, 1) := by decide +kernel
theorem dX4_addAll_41 : decode cX4_addAll 41 = .ok (.getfield 114, 3) := by decide +kernel
theorem dX4_addAll_44 : decode cX4_addAll 44 = .ok (.ifCond .ge 48, 3) := by decide +kernel
theorem dX4_addAll_47 : decode cX4_addAll 47 = .ok (.aload_n 0, 1) := by decide +kernel
theorem dX4_addAll_48 : decode cX4_addAll 48 = .ok (.getfield 114, 3) := by decide +kernel
theorem dX4_addAll_51 : decode cX4_addAll 51 = .ok (.bipush (-5), 2) := by decide +kernel
theorem dX4_addAll_53 : decode cX4_addAll 53 = .ok (.if_icmp .eq 39, 3) := by decide +kernel
theorem dX4_addAll_56 : decode cX4_addAll 56 = .ok (.iconst 0, 1) := by decide +kernel
theorem dX4_addAll_57 : decode cX4_addAll 57 = .ok (.istore 5, 2) := by decide +kernel
theorem dX4_addAll_59 : decode cX4_addAll 59 = .ok (.iload 5, 2) := by decide +kernel
theorem dX4_addAll_61 : decode cX4_addAll 61 = .ok (.sipush 149, 3) := by decide +kernel
theorem dX4_addAll_64 : decode cX4_addAll 64 = .ok (.if_icmp .ge 23, 3) := by decide +kernel
theorem dX4_addAll_67 : decode cX4_addAll 67 = .ok (.aload_n 0, 1) := by decide +kernel
theorem dX4_addAll_68 : decode cX4_addAll 68 = .ok (.getfield 7, 3) := by decide +kernel
theorem dX4_addAll_71 : decode cX4_addAll 71 = .ok (.iload 5, 2) := by decide +kernel
theorem dX4_addAll_73 : decode cX4_addAll 73 = .ok (.aload_n 0, 1) := by decide +kernel
theorem dX4_addAll_74 : decode cX4_addAll 74 = .ok (.getfield 13, 3) := by decide +kernel
theorem dX4_addAll_77 : decode cX4_addAll 77 = .ok (.iload 5, 2) := by decide +kernel
theorem dX4_addAll_79 : decode cX4_addAll 79 = .ok (.iaload, 1) := by decide +kernel
theorem dX4_addAll_80 : decode cX4_addAll 80 = .ok (.iastore, 1) := by decide +kernel
theorem dX4_addAll_81 : decode cX4_addAll 81 = .ok (.iinc 5 1, 3) := by decide +kernel
theorem dX4_addAll_84 : decode cX4_addAll 84 = .ok (.goto (-25), 3) := by decide +kernel
theorem dX4_addAll_87 : decode cX4_addAll 87 = .ok (.aload_n 0, 1) := by decide +kernel
theorem dX4_addAll_88 : decode cX4_addAll 88 = .ok (.getfield 114, 3) := by decide +kernel
theorem dX4_addAll_91 : decode cX4_addAll 91 = .ok (.ireturn, 1) := by decide +kernel
theorem dX4_addAll_92 : decode cX4_addAll 92 = .ok (.iinc 2 1, 3) := by decide +kernel
theorem dX4_addAll_95 : decode cX4_addAll 95 = .ok (.aload_n 0, 1) := by decide +kernel
theorem dX4_addAll_96 : decode cX4_addAll 96 = .ok (.bipush 59, 2) := by decide +kernel
theorem dX4_addAll_98 : decode cX4_addAll 98 = .ok (.invokevirtual 111, 3) := by decide +kernel
theorem dX4_addAll_101 : decode cX4_addAll 101 = .ok (.istore_n 3, 1) := by decide +kernel
theorem dX4_addAll_102 : decode cX4_addAll 102 = .ok (.goto (-73), 3) := by decide +kernel
theorem dX4_addAll_105 : decode cX4_addAll 105 = .ok (.aload_n 0, 1) := by decide +kernel
theorem dX4_addAll_106 : decode cX4_addAll 106 = .ok (.iload_n 2, 1) := by decide +kernel
theorem dX4_addAll_107 : decode cX4_addAll 107 = .ok (.invokevirtual 89, 3) := by decide +kernel
theorem dX4_addAll_110 : decode cX4_addAll 110 = .ok (.ireturn, 1) := by decide +kernel
theorem dX4_squeeze_0 : decode cX4_squeeze 0 = .ok (.aload_n 0, 1) := by decide +kernel
theorem dX4_squeeze_1 : decode cX4_squeeze 1 = .ok (.iconst 1, 1) := by decide +kernel
theorem dX4_squeeze_2 : decode cX4_squeeze 2 = .ok (.invokevirtual 127, 3) := by decide +kernel
theorem dX4_squeeze_5 : decode cX4_squeeze 5 = .ok (.aload_n 0, 1) := by decide +kernel
theorem dX4_squeeze_6 : decode cX4_squeeze 6 = .ok (.getfield 7, 3) := by decide +kernel
theorem dX4_squeeze_9 : decode cX4_squeeze 9 = .ok (.iconst 2, 1) := by decide +kernel
theorem dX4_squeeze_10 : decode cX4_squeeze 10 = .ok (.iaload, 1) := by decide +kernel
theorem dX4_squeeze_11 : decode cX4_squeeze 11 = .ok (.if_icmp .ne 6, 3) := by decide +kernel
theorem dX4_squeeze_14 : decode cX4_squeeze 14 = .ok (.bipush (-5), 2) := by decide +kernel
theorem dX4_squeeze_16 : decode cX4_squeeze 16 = .ok (.ireturn, 1) := by decide +kernel
theorem dX4_squeeze_17 : decode cX4_squeeze 17 = .ok (.aload_n 0, 1) := by decide +kernel
theorem dX4_squeeze_18 : decode cX4_squeeze 18 = .ok (.invokevirtual 82, 3) := by decide +kernel
theorem dX4_squeeze_21 : decode cX4_squeeze 21 = .ok (.aload_n 0, 1) := by decide +kernel
theorem dX4_squeeze_22 : decode cX4_squeeze 22 = .ok (.aload_n 0, 1) := by decide +kernel
theorem dX4_squeeze_23 : decode cX4_squeeze 23 = .ok (.invokevirtual 131, 3) := by decide +kernel
theorem dX4_squeeze_26 : decode cX4_squeeze 26 = .ok (.invokevirtual 89, 3) := by decide +kernel
theorem dX4_squeeze_29 : decode cX4_squeeze 29 = .ok (.ireturn, 1) := by decide +kernel
theorem dX4_makeAnew_0 : decode cX4_makeAnew 0 = .ok (.iload_n 1, 1) := by decide +kernel
theorem dX4_makeAnew_1 : decode cX4_makeAnew 1 = .ok (.i2l, 1) := by decide +kernel
theorem dX4_makeAnew_2 : decode cX4_makeAnew 2 = .ok (.lconst 1, 1) := by decide +kernel
theorem dX4_makeAnew_3 : decode cX4_makeAnew 3 = .ok (.ldc2_w 134, 3) := by decide +kernel
theorem dX4_makeAnew_6 : decode cX4_makeAnew 6 = .ok (.invokestatic 34, 3) := by decide +kernel
theorem dX4_makeAnew_9 : decode cX4_makeAnew 9 = .ok (.ifCond .ne 6, 3) := by decide +kernel
theorem dX4_makeAnew_12 : decode cX4_makeAnew 12 = .ok (.bipush (-2), 2) := by decide +kernel
theorem dX4_makeAnew_14 : decode cX4_makeAnew 14 = .ok (.ireturn, 1) := by decide +kernel
theorem dX4_makeAnew_15 : decode cX4_makeAnew 15 = .ok (.aload_n 0, 1) := by decide +kernel
theorem dX4_makeAnew_16 : decode cX4_makeAnew 16 = .ok (.getfield 7, 3) := by decide +kernel
theorem dX4_makeAnew_19 : decode cX4_makeAnew 19 = .ok (.iconst 0, 1) := by decide +kernel
theorem dX4_makeAnew_20 : decode cX4_makeAnew 20 = .ok (.iaload, 1) := by decide +kernel
theorem dX4_makeAnew_21 : decode cX4_makeAnew 21 = .ok (.iconst 4, 1) := by decide +kernel
theorem dX4_makeAnew_22 : decode cX4_makeAnew 22 = .ok (.iload_n 1, 1) := by decide +kernel
theorem dX4_makeAnew_23 : decode cX4_makeAnew 23 = .ok (.imul, 1) := by decide +kernel
theorem dX4_makeAnew_24 : decode cX4_makeAnew 24 = .ok (.if_icmp .le 6, 3) := by decide +kernel
theorem dX4_makeAnew_27 : decode cX4_makeAnew 27 = .ok (.bipush (-6), 2) := by decide +kernel
theorem dX4_makeAnew_29 : decode cX4_makeAnew 29 = .ok (.ireturn, 1) := by decide +kernel
theorem dX4_makeAnew_30 : decode cX4_makeAnew 30 = .ok (.aload_n 0, 1) := by decide +kernel
theorem dX4_makeAnew_31 : decode cX4_makeAnew 31 = .ok (.getfield 7, 3) := by decide +kernel
theorem dX4_makeAnew_34 : decode cX4_makeAnew 34 = .ok (.iconst 1, 1) := by decide +kernel
theorem dX4_makeAnew_35 : decode cX4_makeAnew 35 = .ok (.iaload, 1) := by decide +kernel
theorem dX4_makeAnew_36 : decode cX4_makeAnew 36 = .ok (.istore_n 2, 1) := by decide +kernel
theorem dX4_makeAnew_37 : decode cX4_makeAnew 37 = .ok (.iload_n 2, 1) := by decide +kernel
theorem dX4_makeAnew_38 : decode cX4_makeAnew 38 = .ok (.iload_n 1, 1) := by decide +kernel
theorem dX4_makeAnew_39 : decode cX4_makeAnew 39 = .ok (.if_icmp .ne 6, 3) := by decide +kernel
theorem dX4_makeAnew_42 : decode cX4_makeAnew 42 = .ok (.bipush (-5), 2) := by decide +kernel
theorem dX4_makeAnew_44 : decode cX4_makeAnew 44 = .ok (.ireturn, 1) := by decide +kernel
theorem dX4_makeAnew_45 : decode cX4_makeAnew 45 = .ok (.aload_n 0, 1) := by decide +kernel
theorem dX4_makeAnew_46 : decode cX4_makeAnew 46 = .ok (.invokevirtual 82, 3) := by decide +kernel
theorem dX4_makeAnew_49 : decode cX4_makeAnew 49 = .ok (.aload_n 0, 1) := by decide +kernel
theorem dX4_makeAnew_50 : decode cX4_makeAnew 50 = .ok (.getfield 7, 3) := by decide +kernel
theorem dX4_makeAnew_53 : decode cX4_makeAnew 53 = .ok (.iconst 1, 1) := by decide +kernel
theorem dX4_makeAnew_54 : decode cX4_makeAnew 54 = .ok (.iload_n 1, 1) := by decide +kernel
theorem dX4_makeAnew_55 : decode cX4_makeAnew 55 = .ok (.iastore, 1) := by decide +kernel
theorem dX4_makeAnew_56 : decode cX4_makeAnew 56 = .ok (.aload_n 0, 1) := by decide +kernel
theorem dX4_makeAnew_57 : decode cX4_makeAnew 57 = .ok (.invokevirtual 131, 3) := by decide +kernel
theorem dX4_makeAnew_60 : decode cX4_makeAnew 60 = .ok (.istore_n 3, 1) := by decide +kernel
theorem dX4_makeAnew_61 : decode cX4_makeAnew 61 = .ok (.aload_n 0, 1) := by decide +kernel
theorem dX4_makeAnew_62 : decode cX4_makeAnew 62 = .ok (.iload_n 2, 1) := by decide +kernel
theorem dX4_makeAnew_63 : decode cX4_makeAnew 63 = .ok (.invokevirtual 89, 3) := by decide +kernel
theorem dX4_makeAnew_66 : decode cX4_makeAnew 66 = .ok (.ireturn, 1) := by decide +kernel
theorem dX4_undo_0 : decode cX4_undo 0 = .ok (.aload_n 0, 1) := by decide +kernel
theorem dX4_undo_1 : decode cX4_undo 1 = .ok (.getfield 28, 3) := by decide +kernel
theorem dX4_undo_4 : decode cX4_undo 4 = .ok (.ifCond .ne 6, 3) := by decide +kernel
theorem dX4_undo_7 : decode cX4_undo 7 = .ok (.bipush (-5), 2) := by decide +kernel
theorem dX4_undo_9 : decode cX4_undo 9 = .ok (.ireturn, 1) := by decide +kernel
theorem dX4_undo_10 : decode cX4_undo 10 = .ok (.aload_n 0, 1) := by decide +kernel
theorem dX4_undo_11 : decode cX4_undo 11 = .ok (.dup, 1) := by decide +kernel
theorem dX4_undo_12 : decode cX4_undo 12 = .ok (.getfield 28, 3) := by decide +kernel
theorem dX4_undo_15 : decode cX4_undo 15 = .ok (.iconst 1, 1) := by decide +kernel
theorem dX4_undo_16 : decode cX4_undo 16 = .ok (.isub, 1) := by decide +kernel
theorem dX4_undo_17 : decode cX4_undo 17 = .ok (.putfield 28, 3) := by decide +kernel
theorem dX4_undo_20 : decode cX4_undo 20 = .ok (.iconst 0, 1) := by decide +kernel
theorem dX4_undo_21 : decode cX4_undo 21 = .ok (.istore_n 1, 1) := by decide +kernel
theorem dX4_undo_22 : decode cX4_undo 22 = .ok (.iload_n 1, 1) := by decide +kernel
