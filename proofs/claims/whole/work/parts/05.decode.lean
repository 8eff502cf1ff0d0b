theorem dX4_undo_23 : decode cX4_undo 23 = .ok (.sipush 149, 3) := by decide +kernel
theorem dX4_undo_26 : decode cX4_undo 26 = .ok (.if_icmp .ge 30, 3) := by decide +kernel
theorem dX4_undo_29 : decode cX4_undo 29 = .ok (.aload_n 0, 1) := by decide +kernel
theorem dX4_undo_30 : decode cX4_undo 30 = .ok (.getfield 7, 3) := by decide +kernel
theorem dX4_undo_33 : decode cX4_undo 33 = .ok (.iload_n 1, 1) := by decide +kernel
theorem dX4_undo_34 : decode cX4_undo 34 = .ok (.aload_n 0, 1) := by decide +kernel
theorem dX4_undo_35 : decode cX4_undo 35 = .ok (.getfield 16, 3) := by decide +kernel
theorem dX4_undo_38 : decode cX4_undo 38 = .ok (.sipush 149, 3) := by decide +kernel
theorem dX4_undo_41 : decode cX4_undo 41 = .ok (.aload_n 0, 1) := by decide +kernel
theorem dX4_undo_42 : decode cX4_undo 42 = .ok (.getfield 28, 3) := by decide +kernel
theorem dX4_undo_45 : decode cX4_undo 45 = .ok (.imul, 1) := by decide +kernel
theorem dX4_undo_46 : decode cX4_undo 46 = .ok (.iload_n 1, 1) := by decide +kernel
theorem dX4_undo_47 : decode cX4_undo 47 = .ok (.iadd, 1) := by decide +kernel
theorem dX4_undo_48 : decode cX4_undo 48 = .ok (.iaload, 1) := by decide +kernel
theorem dX4_undo_49 : decode cX4_undo 49 = .ok (.iastore, 1) := by decide +kernel
theorem dX4_undo_50 : decode cX4_undo 50 = .ok (.iinc 1 1, 3) := by decide +kernel
theorem dX4_undo_53 : decode cX4_undo 53 = .ok (.goto (-31), 3) := by decide +kernel
theorem dX4_undo_56 : decode cX4_undo 56 = .ok (.aload_n 0, 1) := by decide +kernel
theorem dX4_undo_57 : decode cX4_undo 57 = .ok (.getfield 28, 3) := by decide +kernel
theorem dX4_undo_60 : decode cX4_undo 60 = .ok (.ireturn, 1) := by decide +kernel
theorem dX4_keep_0 : decode cX4_keep 0 = .ok (.iconst 0, 1) := by decide +kernel
theorem dX4_keep_1 : decode cX4_keep 1 = .ok (.istore_n 1, 1) := by decide +kernel
theorem dX4_keep_2 : decode cX4_keep 2 = .ok (.iload_n 1, 1) := by decide +kernel
theorem dX4_keep_3 : decode cX4_keep 3 = .ok (.sipush 149, 3) := by decide +kernel
theorem dX4_keep_6 : decode cX4_keep 6 = .ok (.if_icmp .ge 21, 3) := by decide +kernel
theorem dX4_keep_9 : decode cX4_keep 9 = .ok (.aload_n 0, 1) := by decide +kernel
theorem dX4_keep_10 : decode cX4_keep 10 = .ok (.getfield 19, 3) := by decide +kernel
theorem dX4_keep_13 : decode cX4_keep 13 = .ok (.iload_n 1, 1) := by decide +kernel
theorem dX4_keep_14 : decode cX4_keep 14 = .ok (.aload_n 0, 1) := by decide +kernel
theorem dX4_keep_15 : decode cX4_keep 15 = .ok (.getfield 7, 3) := by decide +kernel
theorem dX4_keep_18 : decode cX4_keep 18 = .ok (.iload_n 1, 1) := by decide +kernel
theorem dX4_keep_19 : decode cX4_keep 19 = .ok (.iaload, 1) := by decide +kernel
theorem dX4_keep_20 : decode cX4_keep 20 = .ok (.iastore, 1) := by decide +kernel
theorem dX4_keep_21 : decode cX4_keep 21 = .ok (.iinc 1 1, 3) := by decide +kernel
theorem dX4_keep_24 : decode cX4_keep 24 = .ok (.goto (-22), 3) := by decide +kernel
theorem dX4_keep_27 : decode cX4_keep 27 = .ok (.aload_n 0, 1) := by decide +kernel
theorem dX4_keep_28 : decode cX4_keep 28 = .ok (.iconst 1, 1) := by decide +kernel
theorem dX4_keep_29 : decode cX4_keep 29 = .ok (.putfield 136, 3) := by decide +kernel
theorem dX4_keep_32 : decode cX4_keep 32 = .ok (.aload_n 0, 1) := by decide +kernel
theorem dX4_keep_33 : decode cX4_keep 33 = .ok (.getfield 7, 3) := by decide +kernel
theorem dX4_keep_36 : decode cX4_keep 36 = .ok (.iconst 0, 1) := by decide +kernel
theorem dX4_keep_37 : decode cX4_keep 37 = .ok (.iaload, 1) := by decide +kernel
theorem dX4_keep_38 : decode cX4_keep 38 = .ok (.ireturn, 1) := by decide +kernel
theorem dX4_restore_0 : decode cX4_restore 0 = .ok (.aload_n 0, 1) := by decide +kernel
theorem dX4_restore_1 : decode cX4_restore 1 = .ok (.getfield 136, 3) := by decide +kernel
theorem dX4_restore_4 : decode cX4_restore 4 = .ok (.ifCond .ne 6, 3) := by decide +kernel
theorem dX4_restore_7 : decode cX4_restore 7 = .ok (.bipush (-5), 2) := by decide +kernel
theorem dX4_restore_9 : decode cX4_restore 9 = .ok (.ireturn, 1) := by decide +kernel
theorem dX4_restore_10 : decode cX4_restore 10 = .ok (.aload_n 0, 1) := by decide +kernel
theorem dX4_restore_11 : decode cX4_restore 11 = .ok (.invokevirtual 82, 3) := by decide +kernel
theorem dX4_restore_14 : decode cX4_restore 14 = .ok (.iconst 0, 1) := by decide +kernel
theorem dX4_restore_15 : decode cX4_restore 15 = .ok (.istore_n 1, 1) := by decide +kernel
theorem dX4_restore_16 : decode cX4_restore 16 = .ok (.iload_n 1, 1) := by decide +kernel
theorem dX4_restore_17 : decode cX4_restore 17 = .ok (.sipush 149, 3) := by decide +kernel
theorem dX4_restore_20 : decode cX4_restore 20 = .ok (.if_icmp .ge 21, 3) := by decide +kernel
theorem dX4_restore_23 : decode cX4_restore 23 = .ok (.aload_n 0, 1) := by decide +kernel
theorem dX4_restore_24 : decode cX4_restore 24 = .ok (.getfield 7, 3) := by decide +kernel
theorem dX4_restore_27 : decode cX4_restore 27 = .ok (.iload_n 1, 1) := by decide +kernel
theorem dX4_restore_28 : decode cX4_restore 28 = .ok (.aload_n 0, 1) := by decide +kernel
theorem dX4_restore_29 : decode cX4_restore 29 = .ok (.getfield 19, 3) := by decide +kernel
theorem dX4_restore_32 : decode cX4_restore 32 = .ok (.iload_n 1, 1) := by decide +kernel
theorem dX4_restore_33 : decode cX4_restore 33 = .ok (.iaload, 1) := by decide +kernel
theorem dX4_restore_34 : decode cX4_restore 34 = .ok (.iastore, 1) := by decide +kernel
theorem dX4_restore_35 : decode cX4_restore 35 = .ok (.iinc 1 1, 3) := by decide +kernel
theorem dX4_restore_38 : decode cX4_restore 38 = .ok (.goto (-22), 3) := by decide +kernel
theorem dX4_restore_41 : decode cX4_restore 41 = .ok (.aload_n 0, 1) := by decide +kernel
theorem dX4_restore_42 : decode cX4_restore 42 = .ok (.aload_n 0, 1) := by decide +kernel
theorem dX4_restore_43 : decode cX4_restore 43 = .ok (.getfield 7, 3) := by decide +kernel
theorem dX4_restore_46 : decode cX4_restore 46 = .ok (.iconst 0, 1) := by decide +kernel
theorem dX4_restore_47 : decode cX4_restore 47 = .ok (.iaload, 1) := by decide +kernel
theorem dX4_restore_48 : decode cX4_restore 48 = .ok (.invokevirtual 89, 3) := by decide +kernel
theorem dX4_restore_51 : decode cX4_restore 51 = .ok (.ireturn, 1) := by decide +kernel
theorem dX4_entry_0 : decode cX4_entry 0 = .ok (.aload_n 0, 1) := by decide +kernel
theorem dX4_entry_1 : decode cX4_entry 1 = .ok (.iload_n 1, 1) := by decide +kernel
theorem dX4_entry_2 : decode cX4_entry 2 = .ok (.invokevirtual 50, 3) := by decide +kernel
theorem dX4_entry_5 : decode cX4_entry 5 = .ok (.istore_n 3, 1) := by decide +kernel
theorem dX4_entry_6 : decode cX4_entry 6 = .ok (.iload_n 3, 1) := by decide +kernel
theorem dX4_entry_7 : decode cX4_entry 7 = .ok (.bipush (-5), 2) := by decide +kernel
theorem dX4_entry_9 : decode cX4_entry 9 = .ok (.if_icmp .ne 5, 3) := by decide +kernel
theorem dX4_entry_12 : decode cX4_entry 12 = .ok (.iconst (-1), 1) := by decide +kernel
theorem dX4_entry_13 : decode cX4_entry 13 = .ok (.ireturn, 1) := by decide +kernel
theorem dX4_entry_14 : decode cX4_entry 14 = .ok (.iload_n 2, 1) := by decide +kernel
theorem dX4_entry_15 : decode cX4_entry 15 = .ok (.tableswitch 105 0 8 #[49, 51, 55, 62, 62, 62, 73, 84, 91], 49) := by decide +kernel
theorem dX4_entry_64 : decode cX4_entry 64 = .ok (.iload_n 3, 1) := by decide +kernel
theorem dX4_entry_65 : decode cX4_entry 65 = .ok (.ireturn, 1) := by decide +kernel
theorem dX4_entry_66 : decode cX4_entry 66 = .ok (.iload_n 3, 1) := by decide +kernel
theorem dX4_entry_67 : decode cX4_entry 67 = .ok (.iconst 4, 1) := by decide +kernel
theorem dX4_entry_68 : decode cX4_entry 68 = .ok (.idiv, 1) := by decide +kernel
theorem dX4_entry_69 : decode cX4_entry 69 = .ok (.ireturn, 1) := by decide +kernel
theorem dX4_entry_70 : decode cX4_entry 70 = .ok (.aload_n 0, 1) := by decide +kernel
theorem dX4_entry_71 : decode cX4_entry 71 = .ok (.iload_n 3, 1) := by decide +kernel
theorem dX4_entry_72 : decode cX4_entry 72 = .ok (.iconst 1, 1) := by decide +kernel
theorem dX4_entry_73 : decode cX4_entry 73 = .ok (.invokevirtual 38, 3) := by decide +kernel
theorem dX4_entry_76 : decode cX4_entry 76 = .ok (.ireturn, 1) := by decide +kernel
theorem dX4_entry_77 : decode cX4_entry 77 = .ok (.aload_n 0, 1) := by decide +kernel
theorem dX4_entry_78 : decode cX4_entry 78 = .ok (.iload_n 3, 1) := by decide +kernel
theorem dX4_entry_79 : decode cX4_entry 79 = .ok (.iconst 2, 1) := by decide +kernel
theorem dX4_entry_80 : decode cX4_entry 80 = .ok (.iload_n 2, 1) := by decide +kernel
theorem dX4_entry_81 : decode cX4_entry 81 = .ok (.iadd, 1) := by decide +kernel
theorem dX4_entry_82 : decode cX4_entry 82 = .ok (.iconst 3, 1) := by decide +kernel
theorem dX4_entry_83 : decode cX4_entry 83 = .ok (.isub, 1) := by decide +kernel
theorem dX4_entry_84 : decode cX4_entry 84 = .ok (.invokevirtual 38, 3) := by decide +kernel
theorem dX4_entry_87 : decode cX4_entry 87 = .ok (.ireturn, 1) := by decide +kernel
theorem dX4_entry_88 : decode cX4_entry 88 = .ok (.aload_n 0, 1) := by decide +kernel
theorem dX4_entry_89 : decode cX4_entry 89 = .ok (.aload_n 0, 1) := by decide +kernel
theorem dX4_entry_90 : decode cX4_entry 90 = .ok (.iload_n 3, 1) := by decide +kernel
theorem dX4_entry_91 : decode cX4_entry 91 = .ok (.iconst 2, 1) := by decide +kernel
theorem dX4_entry_92 : decode cX4_entry 92 = .ok (.invokevirtual 38, 3) := by decide +kernel
theorem dX4_entry_95 : decode cX4_entry 95 = .ok (.invokevirtual 139, 3) := by decide +kernel
theorem dX4_entry_98 : decode cX4_entry 98 = .ok (.ireturn, 1) := by decide +kernel
theorem dX4_entry_99 : decode cX4_entry 99 = .ok (.aload_n 0, 1) := by decide +kernel
theorem dX4_entry_100 : decode cX4_entry 100 = .ok (.iload_n 3, 1) := by decide +kernel
theorem dX4_entry_101 : decode cX4_entry 101 = .ok (.iconst 5, 1) := by decide +kernel
theorem dX4_entry_102 : decode cX4_entry 102 = .ok (.invokevirtual 38, 3) := by decide +kernel
theorem dX4_entry_105 : decode cX4_entry 105 = .ok (.ireturn, 1) := by decide +kernel
theorem dX4_entry_106 : decode cX4_entry 106 = .ok (.aload_n 0, 1) := by decide +kernel
theorem dX4_entry_107 : decode cX4_entry 107 = .ok (.iload_n 3, 1) := by decide +kernel
theorem dX4_entry_108 : decode cX4_entry 108 = .ok (.invokevirtual 142, 3) := by decide +kernel
theorem dX4_entry_111 : decode cX4_entry 111 = .ok (.ifCond .eq 7, 3) := by decide +kernel
theorem dX4_entry_114 : decode cX4_entry 114 = .ok (.iconst 1, 1) := by decide +kernel
theorem dX4_entry_115 : decode cX4_entry 115 = .ok (.goto 4, 3) := by decide +kernel
theorem dX4_entry_118 : decode cX4_entry 118 = .ok (.iconst 0, 1) := by decide +kernel
theorem dX4_entry_119 : decode cX4_entry 119 = .ok (.ireturn, 1) := by decide +kernel
theorem dX4_entry_120 : decode cX4_entry 120 = .ok (.bipush (-2), 2) := by decide +kernel
theorem dX4_entry_122 : decode cX4_entry 122 = .ok (.ireturn, 1) := by decide +kernel
theorem dX4_named_0 : decode cX4_named 0 = .ok (.iload_n 1, 1) := by decide +kernel
theorem dX4_named_1 : decode cX4_named 1 = .ok (.ifCond .ge 6, 3) := by decide +kernel
theorem dX4_named_4 : decode cX4_named 4 = .ok (.bipush (-2), 2) := by decide +kernel
theorem dX4_named_6 : decode cX4_named 6 = .ok (.ireturn, 1) := by decide +kernel
theorem dX4_named_7 : decode cX4_named 7 = .ok (.iload_n 1, 1) := by decide +kernel
theorem dX4_named_8 : decode cX4_named 8 = .ok (.aload_n 0, 1) := by decide +kernel
theorem dX4_named_9 : decode cX4_named 9 = .ok (.getfield 7, 3) := by decide +kernel
theorem dX4_named_12 : decode cX4_named 12 = .ok (.iconst 0, 1) := by decide +kernel
theorem dX4_named_13 : decode cX4_named 13 = .ok (.iaload, 1) := by decide +kernel
theorem dX4_named_14 : decode cX4_named 14 = .ok (.if_icmp .ge 12, 3) := by decide +kernel
theorem dX4_named_17 : decode cX4_named 17 = .ok (.aload_n 0, 1) := by decide +kernel
theorem dX4_named_18 : decode cX4_named 18 = .ok (.iload_n 1, 1) := by decide +kernel
theorem dX4_named_19 : decode cX4_named 19 = .ok (.iconst 0, 1) := by decide +kernel
theorem dX4_named_20 : decode cX4_named 20 = .ok (.invokevirtual 38, 3) := by decide +kernel
theorem dX4_named_23 : decode cX4_named 23 = .ok (.goto 5, 3) := by decide +kernel
theorem dX4_named_26 : decode cX4_named 26 = .ok (.bipush (-5), 2) := by decide +kernel
theorem dX4_named_28 : decode cX4_named 28 = .ok (.ireturn, 1) := by decide +kernel
theorem dX4_block_0 : decode cX4_block 0 = .ok (.iload_n 1, 1) := by decide +kernel
theorem dX4_block_1 : decode cX4_block 1 = .ok (.i2l, 1) := by decide +kernel
theorem dX4_block_2 : decode cX4_block 2 = .ok (.lconst 0, 1) := by decide +kernel
theorem dX4_block_3 : decode cX4_block 3 = .ok (.aload_n 0, 1) := by decide +kernel
theorem dX4_block_4 : decode cX4_block 4 = .ok (.getfield 7, 3) := by decide +kernel
theorem dX4_block_7 : decode cX4_block 7 = .ok (.iconst 1, 1) := by decide +kernel
theorem dX4_block_8 : decode cX4_block 8 = .ok (.iaload, 1) := by decide +kernel
theorem dX4_block_9 : decode cX4_block 9 = .ok (.i2l, 1) := by decide +kernel
theorem dX4_block_10 : decode cX4_block 10 = .ok (.lconst 1, 1) := by decide +kernel
theorem dX4_block_11 : decode cX4_block 11 = .ok (.lsub, 1) := by decide +kernel
theorem dX4_block_12 : decode cX4_block 12 = .ok (.invokestatic 34, 3) := by decide +kernel
theorem dX4_block_15 : decode cX4_block 15 = .ok (.ifCond .ne 5, 3) := by decide +kernel
theorem dX4_block_18 : decode cX4_block 18 = .ok (.iconst (-1), 1) := by decide +kernel
theorem dX4_block_19 : decode cX4_block 19 = .ok (.ireturn, 1) := by decide +kernel
theorem dX4_block_20 : decode cX4_block 20 = .ok (.iload_n 2, 1) := by decide +kernel
theorem dX4_block_21 : decode cX4_block 21 = .ok (.i2l, 1) := by decide +kernel
theorem dX4_block_22 : decode cX4_block 22 = .ok (.lconst 0, 1) := by decide +kernel
theorem dX4_block_23 : decode cX4_block 23 = .ok (.ldc2_w 145, 3) := by decide +kernel
theorem dX4_block_26 : decode cX4_block 26 = .ok (.invokestatic 34, 3) := by decide +kernel
theorem dX4_block_29 : decode cX4_block 29 = .ok (.ifCond .ne 6, 3) := by decide +kernel
theorem dX4_block_32 : decode cX4_block 32 = .ok (.bipush (-2), 2) := by decide +kernel
theorem dX4_block_34 : decode cX4_block 34 = .ok (.ireturn, 1) := by decide +kernel
theorem dX4_block_35 : decode cX4_block 35 = .ok (.iconst 4, 1) := by decide +kernel
theorem dX4_block_36 : decode cX4_block 36 = .ok (.iload_n 1, 1) := by decide +kernel
theorem dX4_block_37 : decode cX4_block 37 = .ok (.imul, 1) := by decide +kernel
theorem dX4_block_38 : decode cX4_block 38 = .ok (.istore_n 3, 1) := by decide +kernel
theorem dX4_block_39 : decode cX4_block 39 = .ok (.aload_n 0, 1) := by decide +kernel
theorem dX4_block_40 : decode cX4_block 40 = .ok (.getfield 7, 3) := by decide +kernel
theorem dX4_block_43 : decode cX4_block 43 = .ok (.iconst 0, 1) := by decide +kernel
theorem dX4_block_44 : decode cX4_block 44 = .ok (.iaload, 1) := by decide +kernel
theorem dX4_block_45 : decode cX4_block 45 = .ok (.iload_n 3, 1) := by decide +kernel
theorem dX4_block_46 : decode cX4_block 46 = .ok (.isub, 1) := by decide +kernel
theorem dX4_block_47 : decode cX4_block 47 = .ok (.istore 4, 2) := by decide +kernel
theorem dX4_block_49 : decode cX4_block 49 = .ok (.iload 4, 2) := by decide +kernel
theorem dX4_block_51 : decode cX4_block 51 = .ok (.ifCond .ge 7, 3) := by decide +kernel
theorem dX4_block_54 : decode cX4_block 54 = .ok (.iconst 0, 1) := by decide +kernel
theorem dX4_block_55 : decode cX4_block 55 = .ok (.goto 15, 3) := by decide +kernel
theorem dX4_block_58 : decode cX4_block 58 = .ok (.iload 4, 2) := by decide +kernel
theorem dX4_block_60 : decode cX4_block 60 = .ok (.iconst 4, 1) := by decide +kernel
theorem dX4_block_61 : decode cX4_block 61 = .ok (.if_icmp .ge 8, 3) := by decide +kernel
theorem dX4_block_64 : decode cX4_block 64 = .ok (.iload 4, 2) := by decide +kernel
theorem dX4_block_66 : decode cX4_block 66 = .ok (.goto 4, 3) := by decide +kernel
theorem dX4_block_69 : decode cX4_block 69 = .ok (.iconst 4, 1) := by decide +kernel
theorem dX4_block_70 : decode cX4_block 70 = .ok (.istore 5, 2) := by decide +kernel
theorem dX4_block_72 : decode cX4_block 72 = .ok (.iload_n 2, 1) := by decide +kernel
theorem dX4_block_73 : decode cX4_block 73 = .ok (.ifCond .ne 8, 3) := by decide +kernel
theorem dX4_block_76 : decode cX4_block 76 = .ok (.iload 5, 2) := by decide +kernel
theorem dX4_block_78 : decode cX4_block 78 = .ok (.goto 33, 3) := by decide +kernel
theorem dX4_block_81 : decode cX4_block 81 = .ok (.iload 5, 2) := by decide +kernel
theorem dX4_block_83 : decode cX4_block 83 = .ok (.ifCond .ne 8, 3) := by decide +kernel
theorem dX4_block_86 : decode cX4_block 86 = .ok (.bipush (-5), 2) := by decide +kernel
theorem dX4_block_88 : decode cX4_block 88 = .ok (.goto 23, 3) := by decide +kernel
theorem dX4_block_91 : decode cX4_block 91 = .ok (.aload_n 0, 1) := by decide +kernel
theorem dX4_block_92 : decode cX4_block 92 = .ok (.iload_n 2, 1) := by decide +kernel
theorem dX4_block_93 : decode cX4_block 93 = .ok (.iconst 1, 1) := by decide +kernel
theorem dX4_block_94 : decode cX4_block 94 = .ok (.if_icmp .ne 7, 3) := by decide +kernel
theorem dX4_block_97 : decode cX4_block 97 = .ok (.iload_n 3, 1) := by decide +kernel
theorem dX4_block_98 : decode cX4_block 98 = .ok (.goto 9, 3) := by decide +kernel
theorem dX4_block_101 : decode cX4_block 101 = .ok (.iload_n 3, 1) := by decide +kernel
theorem dX4_block_102 : decode cX4_block 102 = .ok (.iload 5, 2) := by decide +kernel
theorem dX4_block_104 : decode cX4_block 104 = .ok (.iadd, 1) := by decide +kernel
theorem dX4_block_105 : decode cX4_block 105 = .ok (.iconst 1, 1) := by decide +kernel
theorem dX4_block_106 : decode cX4_block 106 = .ok (.isub, 1) := by decide +kernel
theorem dX4_block_107 : decode cX4_block 107 = .ok (.iconst 0, 1) := by decide +kernel
theorem dX4_block_108 : decode cX4_block 108 = .ok (.invokevirtual 38, 3) := by decide +kernel
theorem dX4_block_111 : decode cX4_block 111 = .ok (.ireturn, 1) := by decide +kernel
theorem dX4_at_0 : decode cX4_at 0 = .ok (.iload_n 1, 1) := by decide +kernel
theorem dX4_at_1 : decode cX4_at 1 = .ok (.i2l, 1) := by decide +kernel
theorem dX4_at_2 : decode cX4_at 2 = .ok (.lconst 0, 1) := by decide +kernel
theorem dX4_at_3 : decode cX4_at 3 = .ok (.ldc2_w 147, 3) := by decide +kernel
theorem dX4_at_6 : decode cX4_at 6 = .ok (.invokestatic 34, 3) := by decide +kernel
theorem dX4_at_9 : decode cX4_at 9 = .ok (.ifCond .ne 5, 3) := by decide +kernel
theorem dX4_at_12 : decode cX4_at 12 = .ok (.iconst (-1), 1) := by decide +kernel
theorem dX4_at_13 : decode cX4_at 13 = .ok (.ireturn, 1) := by decide +kernel
theorem dX4_at_14 : decode cX4_at 14 = .ok (.iload_n 1, 1) := by decide +kernel
theorem dX4_at_15 : decode cX4_at 15 = .ok (.aload_n 0, 1) := by decide +kernel
theorem dX4_at_16 : decode cX4_at 16 = .ok (.getfield 7, 3) := by decide +kernel
theorem dX4_at_19 : decode cX4_at 19 = .ok (.iconst 2, 1) := by decide +kernel
theorem dX4_at_20 : decode cX4_at 20 = .ok (.iaload, 1) := by decide +kernel
theorem dX4_at_21 : decode cX4_at 21 = .ok (.if_icmp .lt 6, 3) := by decide +kernel
theorem dX4_at_24 : decode cX4_at 24 = .ok (.bipush (-5), 2) := by decide +kernel
theorem dX4_at_26 : decode cX4_at 26 = .ok (.ireturn, 1) := by decide +kernel
theorem dX4_at_27 : decode cX4_at 27 = .ok (.iconst 0, 1) := by decide +kernel
theorem dX4_at_28 : decode cX4_at 28 = .ok (.istore_n 2, 1) := by decide +kernel
theorem dX4_at_29 : decode cX4_at 29 = .ok (.iload_n 2, 1) := by decide +kernel
theorem dX4_at_30 : decode cX4_at 30 = .ok (.aload_n 0, 1) := by decide +kernel
theorem dX4_at_31 : decode cX4_at 31 = .ok (.getfield 7, 3) := by decide +kernel
theorem dX4_at_34 : decode cX4_at 34 = .ok (.iconst 0, 1) := by decide +kernel
theorem dX4_at_35 : decode cX4_at 35 = .ok (.iaload, 1) := by decide +kernel
theorem dX4_at_36 : decode cX4_at 36 = .ok (.if_icmp .ge 47, 3) := by decide +kernel
theorem dX4_at_39 : decode cX4_at 39 = .ok (.iload_n 1, 1) := by decide +kernel
theorem dX4_at_40 : decode cX4_at 40 = .ok (.i2l, 1) := by decide +kernel
theorem dX4_at_41 : decode cX4_at 41 = .ok (.aload_n 0, 1) := by decide +kernel
theorem dX4_at_42 : decode cX4_at 42 = .ok (.iload_n 2, 1) := by decide +kernel
theorem dX4_at_43 : decode cX4_at 43 = .ok (.iconst 2, 1) := by decide +kernel
theorem dX4_at_44 : decode cX4_at 44 = .ok (.invokevirtual 38, 3) := by decide +kernel
theorem dX4_at_47 : decode cX4_at 47 = .ok (.i2l, 1) := by decide +kernel
theorem dX4_at_48 : decode cX4_at 48 = .ok (.aload_n 0, 1) := by decide +kernel
theorem dX4_at_49 : decode cX4_at 49 = .ok (.iload_n 2, 1) := by decide +kernel
theorem dX4_at_50 : decode cX4_at 50 = .ok (.iconst 2, 1) := by decide +kernel
theorem dX4_at_51 : decode cX4_at 51 = .ok (.invokevirtual 38, 3) := by decide +kernel
theorem dX4_at_54 : decode cX4_at 54 = .ok (.aload_n 0, 1) := by decide +kernel
theorem dX4_at_55 : decode cX4_at 55 = .ok (.iload_n 2, 1) := by decide +kernel
theorem dX4_at_56 : decode cX4_at 56 = .ok (.iconst 3, 1) := by decide +kernel
theorem dX4_at_57 : decode cX4_at 57 = .ok (.invokevirtual 38, 3) := by decide +kernel
theorem dX4_at_60 : decode cX4_at 60 = .ok (.iadd, 1) := by decide +kernel
theorem dX4_at_61 : decode cX4_at 61 = .ok (.i2l, 1) := by decide +kernel
theorem dX4_at_62 : decode cX4_at 62 = .ok (.lconst 1, 1) := by decide +kernel
theorem dX4_at_63 : decode cX4_at 63 = .ok (.lsub, 1) := by decide +kernel
theorem dX4_at_64 : decode cX4_at 64 = .ok (.invokestatic 34, 3) := by decide +kernel
theorem dX4_at_67 : decode cX4_at 67 = .ok (.ifCond .eq 10, 3) := by decide +kernel
theorem dX4_at_70 : decode cX4_at 70 = .ok (.aload_n 0, 1) := by decide +kernel
theorem dX4_at_71 : decode cX4_at 71 = .ok (.iload_n 2, 1) := by decide +kernel
theorem dX4_at_72 : decode cX4_at 72 = .ok (.iconst 0, 1) := by decide +kernel
theorem dX4_at_73 : decode cX4_at 73 = .ok (.invokevirtual 38, 3) := by decide +kernel
theorem dX4_at_76 : decode cX4_at 76 = .ok (.ireturn, 1) := by decide +kernel
theorem dX4_at_77 : decode cX4_at 77 = .ok (.iinc 2 1, 3) := by decide +kernel
theorem dX4_at_80 : decode cX4_at 80 = .ok (.goto (-51), 3) := by decide +kernel
theorem dX4_at_83 : decode cX4_at 83 = .ok (.sipush 1000, 3) := by decide +kernel
theorem dX4_at_86 : decode cX4_at 86 = .ok (.ireturn, 1) := by decide +kernel
theorem dX4_fits_0 : decode cX4_fits 0 = .ok (.iload_n 1, 1) := by decide +kernel
theorem dX4_fits_1 : decode cX4_fits 1 = .ok (.i2l, 1) := by decide +kernel
theorem dX4_fits_2 : decode cX4_fits 2 = .ok (.lconst 1, 1) := by decide +kernel
theorem dX4_fits_3 : decode cX4_fits 3 = .ok (.ldc2_w 60, 3) := by decide +kernel
theorem dX4_fits_6 : decode cX4_fits 6 = .ok (.invokestatic 34, 3) := by decide +kernel
theorem dX4_fits_9 : decode cX4_fits 9 = .ok (.ifCond .ne 6, 3) := by decide +kernel
theorem dX4_fits_12 : decode cX4_fits 12 = .ok (.bipush (-2), 2) := by decide +kernel
theorem dX4_fits_14 : decode cX4_fits 14 = .ok (.ireturn, 1) := by decide +kernel
theorem dX4_fits_15 : decode cX4_fits 15 = .ok (.aload_n 0, 1) := by decide +kernel
theorem dX4_fits_16 : decode cX4_fits 16 = .ok (.iload_n 1, 1) := by decide +kernel
theorem dX4_fits_17 : decode cX4_fits 17 = .ok (.invokevirtual 68, 3) := by decide +kernel
theorem dX4_fits_20 : decode cX4_fits 20 = .ok (.ifCond .eq 7, 3) := by decide +kernel
theorem dX4_fits_23 : decode cX4_fits 23 = .ok (.iconst 0, 1) := by decide +kernel
theorem dX4_fits_24 : decode cX4_fits 24 = .ok (.goto 20, 3) := by decide +kernel
theorem dX4_fits_27 : decode cX4_fits 27 = .ok (.aload_n 0, 1) := by decide +kernel
theorem dX4_fits_28 : decode cX4_fits 28 = .ok (.iconst 1, 1) := by decide +kernel
theorem dX4_fits_29 : decode cX4_fits 29 = .ok (.invokevirtual 127, 3) := by decide +kernel
theorem dX4_fits_32 : decode cX4_fits 32 = .ok (.iload_n 1, 1) := by decide +kernel
theorem dX4_fits_33 : decode cX4_fits 33 = .ok (.iadd, 1) := by decide +kernel
theorem dX4_fits_34 : decode cX4_fits 34 = .ok (.bipush 100, 2) := by decide +kernel
theorem dX4_fits_36 : decode cX4_fits 36 = .ok (.if_icmp .gt 7, 3) := by decide +kernel
theorem dX4_fits_39 : decode cX4_fits 39 = .ok (.iconst 1, 1) := by decide +kernel
theorem dX4_fits_40 : decode cX4_fits 40 = .ok (.goto 4, 3) := by decide +kernel
theorem dX4_fits_43 : decode cX4_fits 43 = .ok (.iconst 2, 1) := by decide +kernel
theorem dX4_fits_44 : decode cX4_fits 44 = .ok (.ireturn, 1) := by decide +kernel
theorem dX4_beginning_0 : decode cX4_beginning 0 = .ok (.iload_n 1, 1) := by decide +kernel
theorem dX4_beginning_1 : decode cX4_beginning 1 = .ok (.i2l, 1) := by decide +kernel
theorem dX4_beginning_2 : decode cX4_beginning 2 = .ok (.lconst 0, 1) := by decide +kernel
theorem dX4_beginning_3 : decode cX4_beginning 3 = .ok (.ldc2_w 149, 3) := by decide +kernel
theorem dX4_beginning_6 : decode cX4_beginning 6 = .ok (.invokestatic 34, 3) := by decide +kernel
theorem dX4_beginning_9 : decode cX4_beginning 9 = .ok (.ifCond .eq 7, 3) := by decide +kernel
theorem dX4_beginning_12 : decode cX4_beginning 12 = .ok (.iload_n 2, 1) := by decide +kernel
theorem dX4_beginning_13 : decode cX4_beginning 13 = .ok (.ifCond .ge 6, 3) := by decide +kernel
theorem dX4_beginning_16 : decode cX4_beginning 16 = .ok (.bipush (-2), 2) := by decide +kernel
theorem dX4_beginning_18 : decode cX4_beginning 18 = .ok (.ireturn, 1) := by decide +kernel
theorem dX4_beginning_19 : decode cX4_beginning 19 = .ok (.iload_n 2, 1) := by decide +kernel
theorem dX4_beginning_20 : decode cX4_beginning 20 = .ok (.istore_n 3, 1) := by decide +kernel
theorem dX4_beginning_21 : decode cX4_beginning 21 = .ok (.iconst 0, 1) := by decide +kernel
theorem dX4_beginning_22 : decode cX4_beginning 22 = .ok (.istore 4, 2) := by decide +kernel
theorem dX4_beginning_24 : decode cX4_beginning 24 = .ok (.iload 4, 2) := by decide +kernel
theorem dX4_beginning_26 : decode cX4_beginning 26 = .ok (.aload_n 0, 1) := by decide +kernel
theorem dX4_beginning_27 : decode cX4_beginning 27 = .ok (.getfield 7, 3) := by decide +kernel
theorem dX4_beginning_30 : decode cX4_beginning 30 = .ok (.iconst 0, 1) := by decide +kernel
theorem dX4_beginning_31 : decode cX4_beginning 31 = .ok (.iaload, 1) := by decide +kernel
theorem dX4_beginning_32 : decode cX4_beginning 32 = .ok (.if_icmp .ge 38, 3) := by decide +kernel
theorem dX4_beginning_35 : decode cX4_beginning 35 = .ok (.aload_n 0, 1) := by decide +kernel
theorem dX4_beginning_36 : decode cX4_beginning 36 = .ok (.iload 4, 2) := by decide +kernel
theorem dX4_beginning_38 : decode cX4_beginning 38 = .ok (.iconst 0, 1) := by decide +kernel
theorem dX4_beginning_39 : decode cX4_beginning 39 = .ok (.invokevirtual 38, 3) := by decide +kernel
theorem dX4_beginning_42 : decode cX4_beginning 42 = .ok (.bipush 26, 2) := by decide +kernel
theorem dX4_beginning_44 : decode cX4_beginning 44 = .ok (.idiv, 1) := by decide +kernel
theorem dX4_beginning_45 : decode cX4_beginning 45 = .ok (.iload_n 1, 1) := by decide +kernel
theorem dX4_beginning_46 : decode cX4_beginning 46 = .ok (.if_icmp .ne 18, 3) := by decide +kernel
theorem dX4_beginning_49 : decode cX4_beginning 49 = .ok (.iload_n 3, 1) := by decide +kernel
theorem dX4_beginning_50 : decode cX4_beginning 50 = .ok (.ifCond .ne 11, 3) := by decide +kernel
theorem dX4_beginning_53 : decode cX4_beginning 53 = .ok (.aload_n 0, 1) := by decide +kernel
theorem dX4_beginning_54 : decode cX4_beginning 54 = .ok (.iload 4, 2) := by decide +kernel
theorem dX4_beginning_56 : decode cX4_beginning 56 = .ok (.iconst 0, 1) := by decide +kernel
theorem dX4_beginning_57 : decode cX4_beginning 57 = .ok (.invokevirtual 38, 3) := by decide +kernel
theorem dX4_beginning_60 : decode cX4_beginning 60 = .ok (.ireturn, 1) := by decide +kernel
theorem dX4_beginning_61 : decode cX4_beginning 61 = .ok (.iinc 3 (-1), 3) := by decide +kernel
theorem dX4_beginning_64 : decode cX4_beginning 64 = .ok (.iinc 4 1, 3) := by decide +kernel
theorem dX4_beginning_67 : decode cX4_beginning 67 = .ok (.goto (-43), 3) := by decide +kernel
theorem dX4_beginning_70 : decode cX4_beginning 70 = .ok (.bipush (-5), 2) := by decide +kernel
theorem dX4_beginning_72 : decode cX4_beginning 72 = .ok (.ireturn, 1) := by decide +kernel
theorem dX4_members_0 : decode cX4_members 0 = .ok (.iconst 0, 1) := by decide +kernel
theorem dX4_members_1 : decode cX4_members 1 = .ok (.istore_n 1, 1) := by decide +kernel
theorem dX4_members_2 : decode cX4_members 2 = .ok (.iconst 0, 1) := by decide +kernel
theorem dX4_members_3 : decode cX4_members 3 = .ok (.istore_n 2, 1) := by decide +kernel
theorem dX4_members_4 : decode cX4_members 4 = .ok (.iload_n 2, 1) := by decide +kernel
theorem dX4_members_5 : decode cX4_members 5 = .ok (.aload_n 0, 1) := by decide +kernel
theorem dX4_members_6 : decode cX4_members 6 = .ok (.getfield 7, 3) := by decide +kernel
theorem dX4_members_9 : decode cX4_members 9 = .ok (.iconst 0, 1) := by decide +kernel
theorem dX4_members_10 : decode cX4_members 10 = .ok (.iaload, 1) := by decide +kernel
theorem dX4_members_11 : decode cX4_members 11 = .ok (.if_icmp .ge 20, 3) := by decide +kernel
theorem dX4_members_14 : decode cX4_members 14 = .ok (.iload_n 1, 1) := by decide +kernel
theorem dX4_members_15 : decode cX4_members 15 = .ok (.iconst 1, 1) := by decide +kernel
theorem dX4_members_16 : decode cX4_members 16 = .ok (.aload_n 0, 1) := by decide +kernel
theorem dX4_members_17 : decode cX4_members 17 = .ok (.iload_n 2, 1) := by decide +kernel
theorem dX4_members_18 : decode cX4_members 18 = .ok (.iconst 1, 1) := by decide +kernel
theorem dX4_members_19 : decode cX4_members 19 = .ok (.invokevirtual 38, 3) := by decide +kernel
theorem dX4_members_22 : decode cX4_members 22 = .ok (.isub, 1) := by decide +kernel
theorem dX4_members_23 : decode cX4_members 23 = .ok (.iadd, 1) := by decide +kernel
theorem dX4_members_24 : decode cX4_members 24 = .ok (.istore_n 1, 1) := by decide +kernel
theorem dX4_members_25 : decode cX4_members 25 = .ok (.iinc 2 1, 3) := by decide +kernel
theorem dX4_members_28 : decode cX4_members 28 = .ok (.goto (-24), 3) := by decide +kernel
theorem dX4_members_31 : decode cX4_members 31 = .ok (.iload_n 1, 1) := by decide +kernel
theorem dX4_members_32 : decode cX4_members 32 = .ok (.ireturn, 1) := by decide +kernel
theorem dX4_lostOnes_0 : decode cX4_lostOnes 0 = .ok (.iconst 0, 1) := by decide +kernel
theorem dX4_lostOnes_1 : decode cX4_lostOnes 1 = .ok (.istore_n 1, 1) := by decide +kernel
theorem dX4_lostOnes_2 : decode cX4_lostOnes 2 = .ok (.iconst 0, 1) := by decide +kernel
theorem dX4_lostOnes_3 : decode cX4_lostOnes 3 = .ok (.istore_n 2, 1) := by decide +kernel
theorem dX4_lostOnes_4 : decode cX4_lostOnes 4 = .ok (.iload_n 2, 1) := by decide +kernel
theorem dX4_lostOnes_5 : decode cX4_lostOnes 5 = .ok (.aload_n 0, 1) := by decide +kernel
theorem dX4_lostOnes_6 : decode cX4_lostOnes 6 = .ok (.getfield 7, 3) := by decide +kernel
theorem dX4_lostOnes_9 : decode cX4_lostOnes 9 = .ok (.iconst 0, 1) := by decide +kernel
theorem dX4_lostOnes_10 : decode cX4_lostOnes 10 = .ok (.iaload, 1) := by decide +kernel
theorem dX4_lostOnes_11 : decode cX4_lostOnes 11 = .ok (.if_icmp .ge 25, 3) := by decide +kernel
theorem dX4_lostOnes_14 : decode cX4_lostOnes 14 = .ok (.iload_n 1, 1) := by decide +kernel
theorem dX4_lostOnes_15 : decode cX4_lostOnes 15 = .ok (.aload_n 0, 1) := by decide +kernel
theorem dX4_lostOnes_16 : decode cX4_lostOnes 16 = .ok (.iload_n 2, 1) := by decide +kernel
theorem dX4_lostOnes_17 : decode cX4_lostOnes 17 = .ok (.invokevirtual 142, 3) := by decide +kernel
theorem dX4_lostOnes_20 : decode cX4_lostOnes 20 = .ok (.ifCond .eq 7, 3) := by decide +kernel
theorem dX4_lostOnes_23 : decode cX4_lostOnes 23 = .ok (.iconst 1, 1) := by decide +kernel
theorem dX4_lostOnes_24 : decode cX4_lostOnes 24 = .ok (.goto 4, 3) := by decide +kernel
theorem dX4_lostOnes_27 : decode cX4_lostOnes 27 = .ok (.iconst 0, 1) := by decide +kernel
theorem dX4_lostOnes_28 : decode cX4_lostOnes 28 = .ok (.iadd, 1) := by decide +kernel
theorem dX4_lostOnes_29 : decode cX4_lostOnes 29 = .ok (.istore_n 1, 1) := by decide +kernel
theorem dX4_lostOnes_30 : decode cX4_lostOnes 30 = .ok (.iinc 2 1, 3) := by decide +kernel
theorem dX4_lostOnes_33 : decode cX4_lostOnes 33 = .ok (.goto (-29), 3) := by decide +kernel
theorem dX4_lostOnes_36 : decode cX4_lostOnes 36 = .ok (.iload_n 1, 1) := by decide +kernel
theorem dX4_lostOnes_37 : decode cX4_lostOnes 37 = .ok (.ireturn, 1) := by decide +kernel
theorem dX4_count_0 : decode cX4_count 0 = .ok (.iload_n 1, 1) := by decide +kernel
theorem dX4_count_1 : decode cX4_count 1 = .ok (.tableswitch 193 0 14 #[75, 82, 87, 99, 104, 111, 127, 134, 140, 153, 163, 169, 176, 183, 188], 75) := by decide +kernel
theorem dX4_count_76 : decode cX4_count 76 = .ok (.aload_n 0, 1) := by decide +kernel
theorem dX4_count_77 : decode cX4_count 77 = .ok (.getfield 7, 3) := by decide +kernel
theorem dX4_count_80 : decode cX4_count 80 = .ok (.iconst 0, 1) := by decide +kernel
theorem dX4_count_81 : decode cX4_count 81 = .ok (.iaload, 1) := by decide +kernel
theorem dX4_count_82 : decode cX4_count 82 = .ok (.ireturn, 1) := by decide +kernel
theorem dX4_count_83 : decode cX4_count 83 = .ok (.aload_n 0, 1) := by decide +kernel
theorem dX4_count_84 : decode cX4_count 84 = .ok (.invokevirtual 151, 3) := by decide +kernel
theorem dX4_count_87 : decode cX4_count 87 = .ok (.ireturn, 1) := by decide +kernel
theorem dX4_count_88 : decode cX4_count 88 = .ok (.aload_n 0, 1) := by decide +kernel
theorem dX4_count_89 : decode cX4_count 89 = .ok (.getfield 7, 3) := by decide +kernel
theorem dX4_count_92 : decode cX4_count 92 = .ok (.iconst 0, 1) := by decide +kernel
theorem dX4_count_93 : decode cX4_count 93 = .ok (.iaload, 1) := by decide +kernel
theorem dX4_count_94 : decode cX4_count 94 = .ok (.aload_n 0, 1) := by decide +kernel
theorem dX4_count_95 : decode cX4_count 95 = .ok (.invokevirtual 151, 3) := by decide +kernel
theorem dX4_count_98 : decode cX4_count 98 = .ok (.isub, 1) := by decide +kernel
theorem dX4_count_99 : decode cX4_count 99 = .ok (.ireturn, 1) := by decide +kernel
theorem dX4_count_100 : decode cX4_count 100 = .ok (.aload_n 0, 1) := by decide +kernel
theorem dX4_count_101 : decode cX4_count 101 = .ok (.invokevirtual 154, 3) := by decide +kernel
theorem dX4_count_104 : decode cX4_count 104 = .ok (.ireturn, 1) := by decide +kernel
theorem dX4_count_105 : decode cX4_count 105 = .ok (.aload_n 0, 1) := by decide +kernel
theorem dX4_count_106 : decode cX4_count 106 = .ok (.getfield 7, 3) := by decide +kernel
theorem dX4_count_109 : decode cX4_count 109 = .ok (.iconst 1, 1) := by decide +kernel
theorem dX4_count_110 : decode cX4_count 110 = .ok (.iaload, 1) := by decide +kernel
theorem dX4_count_111 : decode cX4_count 111 = .ok (.ireturn, 1) := by decide +kernel
theorem dX4_count_112 : decode cX4_count 112 = .ok (.iconst 4, 1) := by decide +kernel
theorem dX4_count_113 : decode cX4_count 113 = .ok (.aload_n 0, 1) := by decide +kernel
theorem dX4_count_114 : decode cX4_count 114 = .ok (.getfield 7, 3) := by decide +kernel
theorem dX4_count_117 : decode cX4_count 117 = .ok (.iconst 1, 1) := by decide +kernel
theorem dX4_count_118 : decode cX4_count 118 = .ok (.iaload, 1) := by decide +kernel
theorem dX4_count_119 : decode cX4_count 119 = .ok (.imul, 1) := by decide +kernel
theorem dX4_count_120 : decode cX4_count 120 = .ok (.aload_n 0, 1) := by decide +kernel
theorem dX4_count_121 : decode cX4_count 121 = .ok (.getfield 7, 3) := by decide +kernel
theorem dX4_count_124 : decode cX4_count 124 = .ok (.iconst 0, 1) := by decide +kernel
theorem dX4_count_125 : decode cX4_count 125 = .ok (.iaload, 1) := by decide +kernel
theorem dX4_count_126 : decode cX4_count 126 = .ok (.isub, 1) := by decide +kernel
theorem dX4_count_127 : decode cX4_count 127 = .ok (.ireturn, 1) := by decide +kernel
theorem dX4_count_128 : decode cX4_count 128 = .ok (.aload_n 0, 1) := by decide +kernel
theorem dX4_count_129 : decode cX4_count 129 = .ok (.getfield 7, 3) := by decide +kernel
theorem dX4_count_132 : decode cX4_count 132 = .ok (.iconst 2, 1) := by decide +kernel
theorem dX4_count_133 : decode cX4_count 133 = .ok (.iaload, 1) := by decide +kernel
theorem dX4_count_134 : decode cX4_count 134 = .ok (.ireturn, 1) := by decide +kernel
theorem dX4_count_135 : decode cX4_count 135 = .ok (.aload_n 0, 1) := by decide +kernel
theorem dX4_count_136 : decode cX4_count 136 = .ok (.iconst 1, 1) := by decide +kernel
theorem dX4_count_137 : decode cX4_count 137 = .ok (.invokevirtual 127, 3) := by decide +kernel
theorem dX4_count_140 : decode cX4_count 140 = .ok (.ireturn, 1) := by decide +kernel
theorem dX4_count_141 : decode cX4_count 141 = .ok (.aload_n 0, 1) := by decide +kernel
theorem dX4_count_142 : decode cX4_count 142 = .ok (.getfield 7, 3) := by decide +kernel
theorem dX4_count_145 : decode cX4_count 145 = .ok (.iconst 2, 1) := by decide +kernel
theorem dX4_count_146 : decode cX4_count 146 = .ok (.iaload, 1) := by decide +kernel
theorem dX4_count_147 : decode cX4_count 147 = .ok (.aload_n 0, 1) := by decide +kernel
theorem dX4_count_148 : decode cX4_count 148 = .ok (.iconst 1, 1) := by decide +kernel
theorem dX4_count_149 : decode cX4_count 149 = .ok (.invokevirtual 127, 3) := by decide +kernel
theorem dX4_count_152 : decode cX4_count 152 = .ok (.isub, 1) := by decide +kernel
theorem dX4_count_153 : decode cX4_count 153 = .ok (.ireturn, 1) := by decide +kernel
theorem dX4_count_154 : decode cX4_count 154 = .ok (.bipush 100, 2) := by decide +kernel
theorem dX4_count_156 : decode cX4_count 156 = .ok (.aload_n 0, 1) := by decide +kernel
theorem dX4_count_157 : decode cX4_count 157 = .ok (.getfield 7, 3) := by decide +kernel
theorem dX4_count_160 : decode cX4_count 160 = .ok (.iconst 2, 1) := by decide +kernel
theorem dX4_count_161 : decode cX4_count 161 = .ok (.iaload, 1) := by decide +kernel
theorem dX4_count_162 : decode cX4_count 162 = .ok (.isub, 1) := by decide +kernel
theorem dX4_count_163 : decode cX4_count 163 = .ok (.ireturn, 1) := by decide +kernel
theorem dX4_count_164 : decode cX4_count 164 = .ok (.aload_n 0, 1) := by decide +kernel
theorem dX4_count_165 : decode cX4_count 165 = .ok (.iconst 0, 1) := by decide +kernel
theorem dX4_count_166 : decode cX4_count 166 = .ok (.invokevirtual 127, 3) := by decide +kernel
theorem dX4_count_169 : decode cX4_count 169 = .ok (.ireturn, 1) := by decide +kernel
theorem dX4_count_170 : decode cX4_count 170 = .ok (.aload_n 0, 1) := by decide +kernel
theorem dX4_count_171 : decode cX4_count 171 = .ok (.getfield 7, 3) := by decide +kernel
theorem dX4_count_174 : decode cX4_count 174 = .ok (.iconst 3, 1) := by decide +kernel
theorem dX4_count_175 : decode cX4_count 175 = .ok (.iaload, 1) := by decide +kernel
theorem dX4_count_176 : decode cX4_count 176 = .ok (.ireturn, 1) := by decide +kernel
theorem dX4_count_177 : decode cX4_count 177 = .ok (.aload_n 0, 1) := by decide +kernel
theorem dX4_count_178 : decode cX4_count 178 = .ok (.getfield 7, 3) := by decide +kernel
theorem dX4_count_181 : decode cX4_count 181 = .ok (.iconst 4, 1) := by decide +kernel
theorem dX4_count_182 : decode cX4_count 182 = .ok (.iaload, 1) := by decide +kernel
theorem dX4_count_183 : decode cX4_count 183 = .ok (.ireturn, 1) := by decide +kernel
theorem dX4_count_184 : decode cX4_count 184 = .ok (.aload_n 0, 1) := by decide +kernel
theorem dX4_count_185 : decode cX4_count 185 = .ok (.getfield 28, 3) := by decide +kernel
theorem dX4_count_188 : decode cX4_count 188 = .ok (.ireturn, 1) := by decide +kernel
theorem dX4_count_189 : decode cX4_count 189 = .ok (.aload_n 0, 1) := by decide +kernel
theorem dX4_count_190 : decode cX4_count 190 = .ok (.getfield 95, 3) := by decide +kernel
theorem dX4_count_193 : decode cX4_count 193 = .ok (.ireturn, 1) := by decide +kernel
theorem dX4_count_194 : decode cX4_count 194 = .ok (.bipush (-2), 2) := by decide +kernel
theorem dX4_count_196 : decode cX4_count 196 = .ok (.ireturn, 1) := by decide +kernel
theorem dJ9_max_7cf53_0 : decode cJ9_max_7cf53 0 = .ok (.iload_n 0, 1) := by decide +kernel
theorem dJ9_max_7cf53_1 : decode cJ9_max_7cf53 1 = .ok (.iload_n 1, 1) := by decide +kernel
theorem dJ9_max_7cf53_2 : decode cJ9_max_7cf53 2 = .ok (.if_icmp .lt 7, 3) := by decide +kernel
theorem dJ9_max_7cf53_5 : decode cJ9_max_7cf53 5 = .ok (.iload_n 0, 1) := by decide +kernel
theorem dJ9_max_7cf53_6 : decode cJ9_max_7cf53 6 = .ok (.goto 4, 3) := by decide +kernel
theorem dJ9_max_7cf53_9 : decode cJ9_max_7cf53 9 = .ok (.iload_n 1, 1) := by decide +kernel
theorem dJ9_max_7cf53_10 : decode cJ9_max_7cf53 10 = .ok (.ireturn, 1) := by decide +kernel
theorem dJ9_min_7cf53_0 : decode cJ9_min_7cf53 0 = .ok (.iload_n 0, 1) := by decide +kernel
theorem dJ9_min_7cf53_1 : decode cJ9_min_7cf53 1 = .ok (.iload_n 1, 1) := by decide +kernel
theorem dJ9_min_7cf53_2 : decode cJ9_min_7cf53 2 = .ok (.if_icmp .gt 7, 3) := by decide +kernel
theorem dJ9_min_7cf53_5 : decode cJ9_min_7cf53 5 = .ok (.iload_n 0, 1) := by decide +kernel
theorem dJ9_min_7cf53_6 : decode cJ9_min_7cf53 6 = .ok (.goto 4, 3) := by decide +kernel
theorem dJ9_min_7cf53_9 : decode cJ9_min_7cf53 9 = .ok (.iload_n 1, 1) := by decide +kernel
theorem dJ9_min_7cf53_10 : decode cJ9_min_7cf53 10 = .ok (.ireturn, 1) := by decide +kernel
theorem dL_law_0 : decode cL_law 0 = .ok (.new 7, 3) := by decide +kernel
theorem dL_law_3 : decode cL_law 3 = .ok (.dup, 1) := by decide +kernel
theorem dL_law_4 : decode cL_law 4 = .ok (.invokespecial 9, 3) := by decide +kernel
theorem dL_law_7 : decode cL_law 7 = .ok (.astore_n 1, 1) := by decide +kernel
theorem dL_law_8 : decode cL_law 8 = .ok (.new 10, 3) := by decide +kernel
theorem dL_law_11 : decode cL_law 11 = .ok (.dup, 1) := by decide +kernel
theorem dL_law_12 : decode cL_law 12 = .ok (.invokespecial 12, 3) := by decide +kernel
theorem dL_law_15 : decode cL_law 15 = .ok (.astore_n 2, 1) := by decide +kernel
theorem dL_law_16 : decode cL_law 16 = .ok (.iconst 0, 1) := by decide +kernel
theorem dL_law_17 : decode cL_law 17 = .ok (.istore_n 3, 1) := by decide +kernel
theorem dL_law_18 : decode cL_law 18 = .ok (.iload_n 3, 1) := by decide +kernel
theorem dL_law_19 : decode cL_law 19 = .ok (.aload_n 0, 1) := by decide +kernel
theorem dL_law_20 : decode cL_law 20 = .ok (.arraylength, 1) := by decide +kernel
theorem dL_law_21 : decode cL_law 21 = .ok (.iconst 4, 1) := by decide +kernel
theorem dL_law_22 : decode cL_law 22 = .ok (.isub, 1) := by decide +kernel
theorem dL_law_23 : decode cL_law 23 = .ok (.if_icmp .gt 603, 3) := by decide +kernel
theorem dL_law_26 : decode cL_law 26 = .ok (.aload_n 0, 1) := by decide +kernel
theorem dL_law_27 : decode cL_law 27 = .ok (.iload_n 3, 1) := by decide +kernel
theorem dL_law_28 : decode cL_law 28 = .ok (.iaload, 1) := by decide +kernel
theorem dL_law_29 : decode cL_law 29 = .ok (.bipush 31, 2) := by decide +kernel
theorem dL_law_31 : decode cL_law 31 = .ok (.iand, 1) := by decide +kernel
theorem dL_law_32 : decode cL_law 32 = .ok (.tableswitch 588 0 19 #[96, 139, 182, 205, 238, 271, 284, 297, 320, 345, 358, 371, 384, 397, 430, 453, 486, 509, 532, 565], 96) := by decide +kernel
theorem dL_law_128 : decode cL_law 128 = .ok (.aload_n 1, 1) := by decide +kernel
theorem dL_law_129 : decode cL_law 129 = .ok (.aload_n 0, 1) := by decide +kernel
theorem dL_law_130 : decode cL_law 130 = .ok (.iload_n 3, 1) := by decide +kernel
theorem dL_law_131 : decode cL_law 131 = .ok (.iconst 1, 1) := by decide +kernel
theorem dL_law_132 : decode cL_law 132 = .ok (.iadd, 1) := by decide +kernel
theorem dL_law_133 : decode cL_law 133 = .ok (.iaload, 1) := by decide +kernel
theorem dL_law_134 : decode cL_law 134 = .ok (.aload_n 0, 1) := by decide +kernel
theorem dL_law_135 : decode cL_law 135 = .ok (.iload_n 3, 1) := by decide +kernel
theorem dL_law_136 : decode cL_law 136 = .ok (.iconst 2, 1) := by decide +kernel
theorem dL_law_137 : decode cL_law 137 = .ok (.iadd, 1) := by decide +kernel
theorem dL_law_138 : decode cL_law 138 = .ok (.iaload, 1) := by decide +kernel
theorem dL_law_139 : decode cL_law 139 = .ok (.aload_n 0, 1) := by decide +kernel
theorem dL_law_140 : decode cL_law 140 = .ok (.iload_n 3, 1) := by decide +kernel
theorem dL_law_141 : decode cL_law 141 = .ok (.iconst 3, 1) := by decide +kernel
theorem dL_law_142 : decode cL_law 142 = .ok (.iadd, 1) := by decide +kernel
theorem dL_law_143 : decode cL_law 143 = .ok (.iaload, 1) := by decide +kernel
theorem dL_law_144 : decode cL_law 144 = .ok (.invokevirtual 13, 3) := by decide +kernel
theorem dL_law_147 : decode cL_law 147 = .ok (.aload_n 2, 1) := by decide +kernel
theorem dL_law_148 : decode cL_law 148 = .ok (.aload_n 0, 1) := by decide +kernel
theorem dL_law_149 : decode cL_law 149 = .ok (.iload_n 3, 1) := by decide +kernel
theorem dL_law_150 : decode cL_law 150 = .ok (.iconst 1, 1) := by decide +kernel
theorem dL_law_151 : decode cL_law 151 = .ok (.iadd, 1) := by decide +kernel
theorem dL_law_152 : decode cL_law 152 = .ok (.iaload, 1) := by decide +kernel
theorem dL_law_153 : decode cL_law 153 = .ok (.aload_n 0, 1) := by decide +kernel
theorem dL_law_154 : decode cL_law 154 = .ok (.iload_n 3, 1) := by decide +kernel
theorem dL_law_155 : decode cL_law 155 = .ok (.iconst 2, 1) := by decide +kernel
theorem dL_law_156 : decode cL_law 156 = .ok (.iadd, 1) := by decide +kernel
theorem dL_law_157 : decode cL_law 157 = .ok (.iaload, 1) := by decide +kernel
theorem dL_law_158 : decode cL_law 158 = .ok (.aload_n 0, 1) := by decide +kernel
theorem dL_law_159 : decode cL_law 159 = .ok (.iload_n 3, 1) := by decide +kernel
theorem dL_law_160 : decode cL_law 160 = .ok (.iconst 3, 1) := by decide +kernel
theorem dL_law_161 : decode cL_law 161 = .ok (.iadd, 1) := by decide +kernel
theorem dL_law_162 : decode cL_law 162 = .ok (.iaload, 1) := by decide +kernel
theorem dL_law_163 : decode cL_law 163 = .ok (.invokevirtual 17, 3) := by decide +kernel
theorem dL_law_166 : decode cL_law 166 = .ok (.if_icmp .eq 454, 3) := by decide +kernel
theorem dL_law_169 : decode cL_law 169 = .ok (.iconst 0, 1) := by decide +kernel
theorem dL_law_170 : decode cL_law 170 = .ok (.ireturn, 1) := by decide +kernel
theorem dL_law_171 : decode cL_law 171 = .ok (.aload_n 1, 1) := by decide +kernel
theorem dL_law_172 : decode cL_law 172 = .ok (.aload_n 0, 1) := by decide +kernel
theorem dL_law_173 : decode cL_law 173 = .ok (.iload_n 3, 1) := by decide +kernel
theorem dL_law_174 : decode cL_law 174 = .ok (.iconst 1, 1) := by decide +kernel
theorem dL_law_175 : decode cL_law 175 = .ok (.iadd, 1) := by decide +kernel
theorem dL_law_176 : decode cL_law 176 = .ok (.iaload, 1) := by decide +kernel
theorem dL_law_177 : decode cL_law 177 = .ok (.aload_n 0, 1) := by decide +kernel
theorem dL_law_178 : decode cL_law 178 = .ok (.iload_n 3, 1) := by decide +kernel
theorem dL_law_179 : decode cL_law 179 = .ok (.iconst 2, 1) := by decide +kernel
theorem dL_law_180 : decode cL_law 180 = .ok (.iadd, 1) := by decide +kernel
theorem dL_law_181 : decode cL_law 181 = .ok (.iaload, 1) := by decide +kernel
theorem dL_law_182 : decode cL_law 182 = .ok (.aload_n 0, 1) := by decide +kernel
theorem dL_law_183 : decode cL_law 183 = .ok (.iload_n 3, 1) := by decide +kernel
theorem dL_law_184 : decode cL_law 184 = .ok (.iconst 3, 1) := by decide +kernel
theorem dL_law_185 : decode cL_law 185 = .ok (.iadd, 1) := by decide +kernel
theorem dL_law_186 : decode cL_law 186 = .ok (.iaload, 1) := by decide +kernel
theorem dL_law_187 : decode cL_law 187 = .ok (.invokevirtual 18, 3) := by decide +kernel
theorem dL_law_190 : decode cL_law 190 = .ok (.aload_n 2, 1) := by decide +kernel
theorem dL_law_191 : decode cL_law 191 = .ok (.aload_n 0, 1) := by decide +kernel
theorem dL_law_192 : decode cL_law 192 = .ok (.iload_n 3, 1) := by decide +kernel
theorem dL_law_193 : decode cL_law 193 = .ok (.iconst 1, 1) := by decide +kernel
theorem dL_law_194 : decode cL_law 194 = .ok (.iadd, 1) := by decide +kernel
theorem dL_law_195 : decode cL_law 195 = .ok (.iaload, 1) := by decide +kernel
theorem dL_law_196 : decode cL_law 196 = .ok (.aload_n 0, 1) := by decide +kernel
theorem dL_law_197 : decode cL_law 197 = .ok (.iload_n 3, 1) := by decide +kernel
theorem dL_law_198 : decode cL_law 198 = .ok (.iconst 2, 1) := by decide +kernel
theorem dL_law_199 : decode cL_law 199 = .ok (.iadd, 1) := by decide +kernel
theorem dL_law_200 : decode cL_law 200 = .ok (.iaload, 1) := by decide +kernel
theorem dL_law_201 : decode cL_law 201 = .ok (.aload_n 0, 1) := by decide +kernel
theorem dL_law_202 : decode cL_law 202 = .ok (.iload_n 3, 1) := by decide +kernel
theorem dL_law_203 : decode cL_law 203 = .ok (.iconst 3, 1) := by decide +kernel
theorem dL_law_204 : decode cL_law 204 = .ok (.iadd, 1) := by decide +kernel
theorem dL_law_205 : decode cL_law 205 = .ok (.iaload, 1) := by decide +kernel
theorem dL_law_206 : decode cL_law 206 = .ok (.invokevirtual 21, 3) := by decide +kernel
theorem dL_law_209 : decode cL_law 209 = .ok (.if_icmp .eq 411, 3) := by decide +kernel
theorem dL_law_212 : decode cL_law 212 = .ok (.iconst 0, 1) := by decide +kernel
theorem dL_law_213 : decode cL_law 213 = .ok (.ireturn, 1) := by decide +kernel
theorem dL_law_214 : decode cL_law 214 = .ok (.aload_n 1, 1) := by decide +kernel
theorem dL_law_215 : decode cL_law 215 = .ok (.aload_n 0, 1) := by decide +kernel
theorem dL_law_216 : decode cL_law 216 = .ok (.iload_n 3, 1) := by decide +kernel
theorem dL_law_217 : decode cL_law 217 = .ok (.iconst 1, 1) := by decide +kernel
theorem dL_law_218 : decode cL_law 218 = .ok (.iadd, 1) := by decide +kernel
theorem dL_law_219 : decode cL_law 219 = .ok (.iaload, 1) := by decide +kernel
theorem dL_law_220 : decode cL_law 220 = .ok (.invokevirtual 22, 3) := by decide +kernel
theorem dL_law_223 : decode cL_law 223 = .ok (.aload_n 2, 1) := by decide +kernel
theorem dL_law_224 : decode cL_law 224 = .ok (.aload_n 0, 1) := by decide +kernel
theorem dL_law_225 : decode cL_law 225 = .ok (.iload_n 3, 1) := by decide +kernel
theorem dL_law_226 : decode cL_law 226 = .ok (.iconst 1, 1) := by decide +kernel
theorem dL_law_227 : decode cL_law 227 = .ok (.iadd, 1) := by decide +kernel
theorem dL_law_228 : decode cL_law 228 = .ok (.iaload, 1) := by decide +kernel
theorem dL_law_229 : decode cL_law 229 = .ok (.invokevirtual 26, 3) := by decide +kernel
theorem dL_law_232 : decode cL_law 232 = .ok (.if_icmp .eq 388, 3) := by decide +kernel
theorem dL_law_235 : decode cL_law 235 = .ok (.iconst 0, 1) := by decide +kernel
theorem dL_law_236 : decode cL_law 236 = .ok (.ireturn, 1) := by decide +kernel
theorem dL_law_237 : decode cL_law 237 = .ok (.aload_n 1, 1) := by decide +kernel
theorem dL_law_238 : decode cL_law 238 = .ok (.aload_n 0, 1) := by decide +kernel
theorem dL_law_239 : decode cL_law 239 = .ok (.iload_n 3, 1) := by decide +kernel
theorem dL_law_240 : decode cL_law 240 = .ok (.iconst 1, 1) := by decide +kernel
theorem dL_law_241 : decode cL_law 241 = .ok (.iadd, 1) := by decide +kernel
theorem dL_law_242 : decode cL_law 242 = .ok (.iaload, 1) := by decide +kernel
theorem dL_law_243 : decode cL_law 243 = .ok (.aload_n 0, 1) := by decide +kernel
theorem dL_law_244 : decode cL_law 244 = .ok (.iload_n 3, 1) := by decide +kernel
theorem dL_law_245 : decode cL_law 245 = .ok (.iconst 2, 1) := by decide +kernel
theorem dL_law_246 : decode cL_law 246 = .ok (.iadd, 1) := by decide +kernel
theorem dL_law_247 : decode cL_law 247 = .ok (.iaload, 1) := by decide +kernel
theorem dL_law_248 : decode cL_law 248 = .ok (.invokevirtual 27, 3) := by decide +kernel
theorem dL_law_251 : decode cL_law 251 = .ok (.aload_n 2, 1) := by decide +kernel
theorem dL_law_252 : decode cL_law 252 = .ok (.aload_n 0, 1) := by decide +kernel
theorem dL_law_253 : decode cL_law 253 = .ok (.iload_n 3, 1) := by decide +kernel
theorem dL_law_254 : decode cL_law 254 = .ok (.iconst 1, 1) := by decide +kernel
theorem dL_law_255 : decode cL_law 255 = .ok (.iadd, 1) := by decide +kernel
theorem dL_law_256 : decode cL_law 256 = .ok (.iaload, 1) := by decide +kernel
theorem dL_law_257 : decode cL_law 257 = .ok (.aload_n 0, 1) := by decide +kernel
theorem dL_law_258 : decode cL_law 258 = .ok (.iload_n 3, 1) := by decide +kernel
theorem dL_law_259 : decode cL_law 259 = .ok (.iconst 2, 1) := by decide +kernel
theorem dL_law_260 : decode cL_law 260 = .ok (.iadd, 1) := by decide +kernel
theorem dL_law_261 : decode cL_law 261 = .ok (.iaload, 1) := by decide +kernel
theorem dL_law_262 : decode cL_law 262 = .ok (.invokevirtual 31, 3) := by decide +kernel
theorem dL_law_265 : decode cL_law 265 = .ok (.if_icmp .eq 355, 3) := by decide +kernel
theorem dL_law_268 : decode cL_law 268 = .ok (.iconst 0, 1) := by decide +kernel
theorem dL_law_269 : decode cL_law 269 = .ok (.ireturn, 1) := by decide +kernel
theorem dL_law_270 : decode cL_law 270 = .ok (.aload_n 1, 1) := by decide +kernel
theorem dL_law_271 : decode cL_law 271 = .ok (.aload_n 0, 1) := by decide +kernel
theorem dL_law_272 : decode cL_law 272 = .ok (.iload_n 3, 1) := by decide +kernel
theorem dL_law_273 : decode cL_law 273 = .ok (.iconst 1, 1) := by decide +kernel
theorem dL_law_274 : decode cL_law 274 = .ok (.iadd, 1) := by decide +kernel
theorem dL_law_275 : decode cL_law 275 = .ok (.iaload, 1) := by decide +kernel
theorem dL_law_276 : decode cL_law 276 = .ok (.aload_n 0, 1) := by decide +kernel
theorem dL_law_277 : decode cL_law 277 = .ok (.iload_n 3, 1) := by decide +kernel
theorem dL_law_278 : decode cL_law 278 = .ok (.iconst 2, 1) := by decide +kernel
theorem dL_law_279 : decode cL_law 279 = .ok (.iadd, 1) := by decide +kernel
theorem dL_law_280 : decode cL_law 280 = .ok (.iaload, 1) := by decide +kernel
theorem dL_law_281 : decode cL_law 281 = .ok (.invokevirtual 32, 3) := by decide +kernel
theorem dL_law_284 : decode cL_law 284 = .ok (.aload_n 2, 1) := by decide +kernel
theorem dL_law_285 : decode cL_law 285 = .ok (.aload_n 0, 1) := by decide +kernel
theorem dL_law_286 : decode cL_law 286 = .ok (.iload_n 3, 1) := by decide +kernel
theorem dL_law_287 : decode cL_law 287 = .ok (.iconst 1, 1) := by decide +kernel
theorem dL_law_288 : decode cL_law 288 = .ok (.iadd, 1) := by decide +kernel
theorem dL_law_289 : decode cL_law 289 = .ok (.iaload, 1) := by decide +kernel
theorem dL_law_290 : decode cL_law 290 = .ok (.aload_n 0, 1) := by decide +kernel
theorem dL_law_291 : decode cL_law 291 = .ok (.iload_n 3, 1) := by decide +kernel
theorem dL_law_292 : decode cL_law 292 = .ok (.iconst 2, 1) := by decide +kernel
theorem dL_law_293 : decode cL_law 293 = .ok (.iadd, 1) := by decide +kernel
theorem dL_law_294 : decode cL_law 294 = .ok (.iaload, 1) := by decide +kernel
theorem dL_law_295 : decode cL_law 295 = .ok (.invokevirtual 35, 3) := by decide +kernel
theorem dL_law_298 : decode cL_law 298 = .ok (.if_icmp .eq 322, 3) := by decide +kernel
theorem dL_law_301 : decode cL_law 301 = .ok (.iconst 0, 1) := by decide +kernel
theorem dL_law_302 : decode cL_law 302 = .ok (.ireturn, 1) := by decide +kernel
theorem dL_law_303 : decode cL_law 303 = .ok (.aload_n 1, 1) := by decide +kernel
theorem dL_law_304 : decode cL_law 304 = .ok (.invokevirtual 36, 3) := by decide +kernel
theorem dL_law_307 : decode cL_law 307 = .ok (.aload_n 2, 1) := by decide +kernel
theorem dL_law_308 : decode cL_law 308 = .ok (.invokevirtual 40, 3) := by decide +kernel
theorem dL_law_311 : decode cL_law 311 = .ok (.if_icmp .eq 309, 3) := by decide +kernel
theorem dL_law_314 : decode cL_law 314 = .ok (.iconst 0, 1) := by decide +kernel
theorem dL_law_315 : decode cL_law 315 = .ok (.ireturn, 1) := by decide +kernel
theorem dL_law_316 : decode cL_law 316 = .ok (.aload_n 1, 1) := by decide +kernel
theorem dL_law_317 : decode cL_law 317 = .ok (.invokevirtual 41, 3) := by decide +kernel
theorem dL_law_320 : decode cL_law 320 = .ok (.aload_n 2, 1) := by decide +kernel
theorem dL_law_321 : decode cL_law 321 = .ok (.invokevirtual 44, 3) := by decide +kernel
theorem dL_law_324 : decode cL_law 324 = .ok (.if_icmp .eq 296, 3) := by decide +kernel
theorem dL_law_327 : decode cL_law 327 = .ok (.iconst 0, 1) := by decide +kernel
theorem dL_law_328 : decode cL_law 328 = .ok (.ireturn, 1) := by decide +kernel
theorem dL_law_329 : decode cL_law 329 = .ok (.aload_n 1, 1) := by decide +kernel
theorem dL_law_330 : decode cL_law 330 = .ok (.aload_n 0, 1) := by decide +kernel
theorem dL_law_331 : decode cL_law 331 = .ok (.iload_n 3, 1) := by decide +kernel
theorem dL_law_332 : decode cL_law 332 = .ok (.iconst 1, 1) := by decide +kernel
theorem dL_law_333 : decode cL_law 333 = .ok (.iadd, 1) := by decide +kernel
theorem dL_law_334 : decode cL_law 334 = .ok (.iaload, 1) := by decide +kernel
theorem dL_law_335 : decode cL_law 335 = .ok (.invokevirtual 45, 3) := by decide +kernel
theorem dL_law_338 : decode cL_law 338 = .ok (.aload_n 2, 1) := by decide +kernel
theorem dL_law_339 : decode cL_law 339 = .ok (.aload_n 0, 1) := by decide +kernel
theorem dL_law_340 : decode cL_law 340 = .ok (.iload_n 3, 1) := by decide +kernel
theorem dL_law_341 : decode cL_law 341 = .ok (.iconst 1, 1) := by decide +kernel
theorem dL_law_342 : decode cL_law 342 = .ok (.iadd, 1) := by decide +kernel
theorem dL_law_343 : decode cL_law 343 = .ok (.iaload, 1) := by decide +kernel
theorem dL_law_344 : decode cL_law 344 = .ok (.invokevirtual 48, 3) := by decide +kernel
theorem dL_law_347 : decode cL_law 347 = .ok (.if_icmp .eq 273, 3) := by decide +kernel
theorem dL_law_350 : decode cL_law 350 = .ok (.iconst 0, 1) := by decide +kernel
theorem dL_law_351 : decode cL_law 351 = .ok (.ireturn, 1) := by decide +kernel
theorem dL_law_352 : decode cL_law 352 = .ok (.aload_n 1, 1) := by decide +kernel
theorem dL_law_353 : decode cL_law 353 = .ok (.aload_n 0, 1) := by decide +kernel
theorem dL_law_354 : decode cL_law 354 = .ok (.iload_n 3, 1) := by decide +kernel
theorem dL_law_355 : decode cL_law 355 = .ok (.iconst 1, 1) := by decide +kernel
theorem dL_law_356 : decode cL_law 356 = .ok (.iadd, 1) := by decide +kernel
theorem dL_law_357 : decode cL_law 357 = .ok (.iaload, 1) := by decide +kernel
theorem dL_law_358 : decode cL_law 358 = .ok (.i2c, 1) := by decide +kernel
theorem dL_law_359 : decode cL_law 359 = .ok (.invokevirtual 49, 3) := by decide +kernel
theorem dL_law_362 : decode cL_law 362 = .ok (.aload_n 2, 1) := by decide +kernel
theorem dL_law_363 : decode cL_law 363 = .ok (.aload_n 0, 1) := by decide +kernel
theorem dL_law_364 : decode cL_law 364 = .ok (.iload_n 3, 1) := by decide +kernel
theorem dL_law_365 : decode cL_law 365 = .ok (.iconst 1, 1) := by decide +kernel
theorem dL_law_366 : decode cL_law 366 = .ok (.iadd, 1) := by decide +kernel
theorem dL_law_367 : decode cL_law 367 = .ok (.iaload, 1) := by decide +kernel
theorem dL_law_368 : decode cL_law 368 = .ok (.i2c, 1) := by decide +kernel
theorem dL_law_369 : decode cL_law 369 = .ok (.invokevirtual 53, 3) := by decide +kernel
theorem dL_law_372 : decode cL_law 372 = .ok (.if_icmp .eq 248, 3) := by decide +kernel
theorem dL_law_375 : decode cL_law 375 = .ok (.iconst 0, 1) := by decide +kernel
theorem dL_law_376 : decode cL_law 376 = .ok (.ireturn, 1) := by decide +kernel
theorem dL_law_377 : decode cL_law 377 = .ok (.aload_n 1, 1) := by decide +kernel
theorem dL_law_378 : decode cL_law 378 = .ok (.invokevirtual 54, 3) := by decide +kernel
theorem dL_law_381 : decode cL_law 381 = .ok (.aload_n 2, 1) := by decide +kernel
theorem dL_law_382 : decode cL_law 382 = .ok (.invokevirtual 57, 3) := by decide +kernel
theorem dL_law_385 : decode cL_law 385 = .ok (.if_icmp .eq 235, 3) := by decide +kernel
theorem dL_law_388 : decode cL_law 388 = .ok (.iconst 0, 1) := by decide +kernel
theorem dL_law_389 : decode cL_law 389 = .ok (.ireturn, 1) := by decide +kernel
theorem dL_law_390 : decode cL_law 390 = .ok (.aload_n 1, 1) := by decide +kernel
theorem dL_law_391 : decode cL_law 391 = .ok (.invokevirtual 58, 3) := by decide +kernel
theorem dL_law_394 : decode cL_law 394 = .ok (.aload_n 2, 1) := by decide +kernel
theorem dL_law_395 : decode cL_law 395 = .ok (.invokevirtual 61, 3) := by decide +kernel
theorem dL_law_398 : decode cL_law 398 = .ok (.if_icmp .eq 222, 3) := by decide +kernel
theorem dL_law_401 : decode cL_law 401 = .ok (.iconst 0, 1) := by decide +kernel
theorem dL_law_402 : decode cL_law 402 = .ok (.ireturn, 1) := by decide +kernel
theorem dL_law_403 : decode cL_law 403 = .ok (.aload_n 1, 1) := by decide +kernel
theorem dL_law_404 : decode cL_law 404 = .ok (.invokevirtual 62, 3) := by decide +kernel
theorem dL_law_407 : decode cL_law 407 = .ok (.aload_n 2, 1) := by decide +kernel
theorem dL_law_408 : decode cL_law 408 = .ok (.invokevirtual 65, 3) := by decide +kernel
theorem dL_law_411 : decode cL_law 411 = .ok (.if_icmp .eq 209, 3) := by decide +kernel
theorem dL_law_414 : decode cL_law 414 = .ok (.iconst 0, 1) := by decide +kernel
theorem dL_law_415 : decode cL_law 415 = .ok (.ireturn, 1) := by decide +kernel
theorem dL_law_416 : decode cL_law 416 = .ok (.aload_n 1, 1) := by decide +kernel
theorem dL_law_417 : decode cL_law 417 = .ok (.invokevirtual 66, 3) := by decide +kernel
theorem dL_law_420 : decode cL_law 420 = .ok (.aload_n 2, 1) := by decide +kernel
theorem dL_law_421 : decode cL_law 421 = .ok (.invokevirtual 69, 3) := by decide +kernel
theorem dL_law_424 : decode cL_law 424 = .ok (.if_icmp .eq 196, 3) := by decide +kernel
theorem dL_law_427 : decode cL_law 427 = .ok (.iconst 0, 1) := by decide +kernel
theorem dL_law_428 : decode cL_law 428 = .ok (.ireturn, 1) := by decide +kernel
theorem dL_law_429 : decode cL_law 429 = .ok (.aload_n 1, 1) := by decide +kernel
theorem dL_law_430 : decode cL_law 430 = .ok (.aload_n 0, 1) := by decide +kernel
theorem dL_law_431 : decode cL_law 431 = .ok (.iload_n 3, 1) := by decide +kernel
theorem dL_law_432 : decode cL_law 432 = .ok (.iconst 1, 1) := by decide +kernel
theorem dL_law_433 : decode cL_law 433 = .ok (.iadd, 1) := by decide +kernel
theorem dL_law_434 : decode cL_law 434 = .ok (.iaload, 1) := by decide +kernel
theorem dL_law_435 : decode cL_law 435 = .ok (.aload_n 0, 1) := by decide +kernel
theorem dL_law_436 : decode cL_law 436 = .ok (.iload_n 3, 1) := by decide +kernel
theorem dL_law_437 : decode cL_law 437 = .ok (.iconst 2, 1) := by decide +kernel
theorem dL_law_438 : decode cL_law 438 = .ok (.iadd, 1) := by decide +kernel
theorem dL_law_439 : decode cL_law 439 = .ok (.iaload, 1) := by decide +kernel
theorem dL_law_440 : decode cL_law 440 = .ok (.invokevirtual 70, 3) := by decide +kernel
theorem dL_law_443 : decode cL_law 443 = .ok (.aload_n 2, 1) := by decide +kernel
theorem dL_law_444 : decode cL_law 444 = .ok (.aload_n 0, 1) := by decide +kernel
theorem dL_law_445 : decode cL_law 445 = .ok (.iload_n 3, 1) := by decide +kernel
theorem dL_law_446 : decode cL_law 446 = .ok (.iconst 1, 1) := by decide +kernel
theorem dL_law_447 : decode cL_law 447 = .ok (.iadd, 1) := by decide +kernel
theorem dL_law_448 : decode cL_law 448 = .ok (.iaload, 1) := by decide +kernel
theorem dL_law_449 : decode cL_law 449 = .ok (.aload_n 0, 1) := by decide +kernel
theorem dL_law_450 : decode cL_law 450 = .ok (.iload_n 3, 1) := by decide +kernel
theorem dL_law_451 : decode cL_law 451 = .ok (.iconst 2, 1) := by decide +kernel
theorem dL_law_452 : decode cL_law 452 = .ok (.iadd, 1) := by decide +kernel
theorem dL_law_453 : decode cL_law 453 = .ok (.iaload, 1) := by decide +kernel
theorem dL_law_454 : decode cL_law 454 = .ok (.invokevirtual 73, 3) := by decide +kernel
theorem dL_law_457 : decode cL_law 457 = .ok (.if_icmp .eq 163, 3) := by decide +kernel
theorem dL_law_460 : decode cL_law 460 = .ok (.iconst 0, 1) := by decide +kernel
theorem dL_law_461 : decode cL_law 461 = .ok (.ireturn, 1) := by decide +kernel
theorem dL_law_462 : decode cL_law 462 = .ok (.aload_n 1, 1) := by decide +kernel
theorem dL_law_463 : decode cL_law 463 = .ok (.aload_n 0, 1) := by decide +kernel
theorem dL_law_464 : decode cL_law 464 = .ok (.iload_n 3, 1) := by decide +kernel
theorem dL_law_465 : decode cL_law 465 = .ok (.iconst 1, 1) := by decide +kernel
theorem dL_law_466 : decode cL_law 466 = .ok (.iadd, 1) := by decide +kernel
theorem dL_law_467 : decode cL_law 467 = .ok (.iaload, 1) := by decide +kernel
theorem dL_law_468 : decode cL_law 468 = .ok (.invokevirtual 74, 3) := by decide +kernel
theorem dL_law_471 : decode cL_law 471 = .ok (.aload_n 2, 1) := by decide +kernel
theorem dL_law_472 : decode cL_law 472 = .ok (.aload_n 0, 1) := by decide +kernel
theorem dL_law_473 : decode cL_law 473 = .ok (.iload_n 3, 1) := by decide +kernel
theorem dL_law_474 : decode cL_law 474 = .ok (.iconst 1, 1) := by decide +kernel
theorem dL_law_475 : decode cL_law 475 = .ok (.iadd, 1) := by decide +kernel
theorem dL_law_476 : decode cL_law 476 = .ok (.iaload, 1) := by decide +kernel
theorem dL_law_477 : decode cL_law 477 = .ok (.invokevirtual 77, 3) := by decide +kernel
theorem dL_law_480 : decode cL_law 480 = .ok (.if_icmp .eq 140, 3) := by decide +kernel
theorem dL_law_483 : decode cL_law 483 = .ok (.iconst 0, 1) := by decide +kernel
theorem dL_law_484 : decode cL_law 484 = .ok (.ireturn, 1) := by decide +kernel
theorem dL_law_485 : decode cL_law 485 = .ok (.aload_n 1, 1) := by decide +kernel
theorem dL_law_486 : decode cL_law 486 = .ok (.aload_n 0, 1) := by decide +kernel
theorem dL_law_487 : decode cL_law 487 = .ok (.iload_n 3, 1) := by decide +kernel
theorem dL_law_488 : decode cL_law 488 = .ok (.iconst 1, 1) := by decide +kernel
theorem dL_law_489 : decode cL_law 489 = .ok (.iadd, 1) := by decide +kernel
theorem dL_law_490 : decode cL_law 490 = .ok (.iaload, 1) := by decide +kernel
theorem dL_law_491 : decode cL_law 491 = .ok (.aload_n 0, 1) := by decide +kernel
theorem dL_law_492 : decode cL_law 492 = .ok (.iload_n 3, 1) := by decide +kernel
theorem dL_law_493 : decode cL_law 493 = .ok (.iconst 2, 1) := by decide +kernel
theorem dL_law_494 : decode cL_law 494 = .ok (.iadd, 1) := by decide +kernel
theorem dL_law_495 : decode cL_law 495 = .ok (.iaload, 1) := by decide +kernel
theorem dL_law_496 : decode cL_law 496 = .ok (.invokevirtual 78, 3) := by decide +kernel
theorem dL_law_499 : decode cL_law 499 = .ok (.aload_n 2, 1) := by decide +kernel
theorem dL_law_500 : decode cL_law 500 = .ok (.aload_n 0, 1) := by decide +kernel
theorem dL_law_501 : decode cL_law 501 = .ok (.iload_n 3, 1) := by decide +kernel
theorem dL_law_502 : decode cL_law 502 = .ok (.iconst 1, 1) := by decide +kernel
theorem dL_law_503 : decode cL_law 503 = .ok (.iadd, 1) := by decide +kernel
theorem dL_law_504 : decode cL_law 504 = .ok (.iaload, 1) := by decide +kernel
theorem dL_law_505 : decode cL_law 505 = .ok (.aload_n 0, 1) := by decide +kernel
theorem dL_law_506 : decode cL_law 506 = .ok (.iload_n 3, 1) := by decide +kernel
theorem dL_law_507 : decode cL_law 507 = .ok (.iconst 2, 1) := by decide +kernel
theorem dL_law_508 : decode cL_law 508 = .ok (.iadd, 1) := by decide +kernel
theorem dL_law_509 : decode cL_law 509 = .ok (.iaload, 1) := by decide +kernel
theorem dL_law_510 : decode cL_law 510 = .ok (.invokevirtual 81, 3) := by decide +kernel
theorem dL_law_513 : decode cL_law 513 = .ok (.if_icmp .eq 107, 3) := by decide +kernel
theorem dL_law_516 : decode cL_law 516 = .ok (.iconst 0, 1) := by decide +kernel
theorem dL_law_517 : decode cL_law 517 = .ok (.ireturn, 1) := by decide +kernel
theorem dL_law_518 : decode cL_law 518 = .ok (.aload_n 1, 1) := by decide +kernel
theorem dL_law_519 : decode cL_law 519 = .ok (.aload_n 0, 1) := by decide +kernel
theorem dL_law_520 : decode cL_law 520 = .ok (.iload_n 3, 1) := by decide +kernel
theorem dL_law_521 : decode cL_law 521 = .ok (.iconst 1, 1) := by decide +kernel
theorem dL_law_522 : decode cL_law 522 = .ok (.iadd, 1) := by decide +kernel
theorem dL_law_523 : decode cL_law 523 = .ok (.iaload, 1) := by decide +kernel
theorem dL_law_524 : decode cL_law 524 = .ok (.invokevirtual 82, 3) := by decide +kernel
theorem dL_law_527 : decode cL_law 527 = .ok (.aload_n 2, 1) := by decide +kernel
theorem dL_law_528 : decode cL_law 528 = .ok (.aload_n 0, 1) := by decide +kernel
theorem dL_law_529 : decode cL_law 529 = .ok (.iload_n 3, 1) := by decide +kernel
theorem dL_law_530 : decode cL_law 530 = .ok (.iconst 1, 1) := by decide +kernel
theorem dL_law_531 : decode cL_law 531 = .ok (.iadd, 1) := by decide +kernel
theorem dL_law_532 : decode cL_law 532 = .ok (.iaload, 1) := by decide +kernel
theorem dL_law_533 : decode cL_law 533 = .ok (.invokevirtual 85, 3) := by decide +kernel
theorem dL_law_536 : decode cL_law 536 = .ok (.if_icmp .eq 84, 3) := by decide +kernel
theorem dL_law_539 : decode cL_law 539 = .ok (.iconst 0, 1) := by decide +kernel
theorem dL_law_540 : decode cL_law 540 = .ok (.ireturn, 1) := by decide +kernel
theorem dL_law_541 : decode cL_law 541 = .ok (.aload_n 1, 1) := by decide +kernel
theorem dL_law_542 : decode cL_law 542 = .ok (.aload_n 0, 1) := by decide +kernel
theorem dL_law_543 : decode cL_law 543 = .ok (.iload_n 3, 1) := by decide +kernel
theorem dL_law_544 : decode cL_law 544 = .ok (.iconst 1, 1) := by decide +kernel
theorem dL_law_545 : decode cL_law 545 = .ok (.iadd, 1) := by decide +kernel
theorem dL_law_546 : decode cL_law 546 = .ok (.iaload, 1) := by decide +kernel
theorem dL_law_547 : decode cL_law 547 = .ok (.invokevirtual 86, 3) := by decide +kernel
theorem dL_law_550 : decode cL_law 550 = .ok (.aload_n 2, 1) := by decide +kernel
theorem dL_law_551 : decode cL_law 551 = .ok (.aload_n 0, 1) := by decide +kernel
theorem dL_law_552 : decode cL_law 552 = .ok (.iload_n 3, 1) := by decide +kernel
theorem dL_law_553 : decode cL_law 553 = .ok (.iconst 1, 1) := by decide +kernel
theorem dL_law_554 : decode cL_law 554 = .ok (.iadd, 1) := by decide +kernel
theorem dL_law_555 : decode cL_law 555 = .ok (.iaload, 1) := by decide +kernel
theorem dL_law_556 : decode cL_law 556 = .ok (.invokevirtual 89, 3) := by decide +kernel
theorem dL_law_559 : decode cL_law 559 = .ok (.if_icmp .eq 61, 3) := by decide +kernel
theorem dL_law_562 : decode cL_law 562 = .ok (.iconst 0, 1) := by decide +kernel
theorem dL_law_563 : decode cL_law 563 = .ok (.ireturn, 1) := by decide +kernel
theorem dL_law_564 : decode cL_law 564 = .ok (.aload_n 1, 1) := by decide +kernel
theorem dL_law_565 : decode cL_law 565 = .ok (.aload_n 0, 1) := by decide +kernel
theorem dL_law_566 : decode cL_law 566 = .ok (.iload_n 3, 1) := by decide +kernel
theorem dL_law_567 : decode cL_law 567 = .ok (.iconst 1, 1) := by decide +kernel
theorem dL_law_568 : decode cL_law 568 = .ok (.iadd, 1) := by decide +kernel
theorem dL_law_569 : decode cL_law 569 = .ok (.iaload, 1) := by decide +kernel
theorem dL_law_570 : decode cL_law 570 = .ok (.aload_n 0, 1) := by decide +kernel
theorem dL_law_571 : decode cL_law 571 = .ok (.iload_n 3, 1) := by decide +kernel
theorem dL_law_572 : decode cL_law 572 = .ok (.iconst 2, 1) := by decide +kernel
theorem dL_law_573 : decode cL_law 573 = .ok (.iadd, 1) := by decide +kernel
theorem dL_law_574 : decode cL_law 574 = .ok (.iaload, 1) := by decide +kernel
theorem dL_law_575 : decode cL_law 575 = .ok (.invokevirtual 90, 3) := by decide +kernel
theorem dL_law_578 : decode cL_law 578 = .ok (.aload_n 2, 1) := by decide +kernel
theorem dL_law_579 : decode cL_law 579 = .ok (.aload_n 0, 1) := by decide +kernel
theorem dL_law_580 : decode cL_law 580 = .ok (.iload_n 3, 1) := by decide +kernel
theorem dL_law_581 : decode cL_law 581 = .ok (.iconst 1, 1) := by decide +kernel
theorem dL_law_582 : decode cL_law 582 = .ok (.iadd, 1) := by decide +kernel
theorem dL_law_583 : decode cL_law 583 = .ok (.iaload, 1) := by decide +kernel
theorem dL_law_584 : decode cL_law 584 = .ok (.aload_n 0, 1) := by decide +kernel
theorem dL_law_585 : decode cL_law 585 = .ok (.iload_n 3, 1) := by decide +kernel
theorem dL_law_586 : decode cL_law 586 = .ok (.iconst 2, 1) := by decide +kernel
theorem dL_law_587 : decode cL_law 587 = .ok (.iadd, 1) := by decide +kernel
theorem dL_law_588 : decode cL_law 588 = .ok (.iaload, 1) := by decide +kernel
theorem dL_law_589 : decode cL_law 589 = .ok (.invokevirtual 93, 3) := by decide +kernel
theorem dL_law_592 : decode cL_law 592 = .ok (.if_icmp .eq 28, 3) := by decide +kernel
theorem dL_law_595 : decode cL_law 595 = .ok (.iconst 0, 1) := by decide +kernel
theorem dL_law_596 : decode cL_law 596 = .ok (.ireturn, 1) := by decide +kernel
theorem dL_law_597 : decode cL_law 597 = .ok (.aload_n 1, 1) := by decide +kernel
theorem dL_law_598 : decode cL_law 598 = .ok (.aload_n 0, 1) := by decide +kernel
theorem dL_law_599 : decode cL_law 599 = .ok (.iload_n 3, 1) := by decide +kernel
theorem dL_law_600 : decode cL_law 600 = .ok (.iconst 1, 1) := by decide +kernel
theorem dL_law_601 : decode cL_law 601 = .ok (.iadd, 1) := by decide +kernel
theorem dL_law_602 : decode cL_law 602 = .ok (.iaload, 1) := by decide +kernel
theorem dL_law_603 : decode cL_law 603 = .ok (.invokevirtual 94, 3) := by decide +kernel
theorem dL_law_606 : decode cL_law 606 = .ok (.aload_n 2, 1) := by decide +kernel
theorem dL_law_607 : decode cL_law 607 = .ok (.aload_n 0, 1) := by decide +kernel
theorem dL_law_608 : decode cL_law 608 = .ok (.iload_n 3, 1) := by decide +kernel
theorem dL_law_609 : decode cL_law 609 = .ok (.iconst 1, 1) := by decide +kernel
theorem dL_law_610 : decode cL_law 610 = .ok (.iadd, 1) := by decide +kernel
theorem dL_law_611 : decode cL_law 611 = .ok (.iaload, 1) := by decide +kernel
theorem dL_law_612 : decode cL_law 612 = .ok (.invokevirtual 97, 3) := by decide +kernel
theorem dL_law_615 : decode cL_law 615 = .ok (.if_icmp .eq 5, 3) := by decide +kernel
theorem dL_law_618 : decode cL_law 618 = .ok (.iconst 0, 1) := by decide +kernel
theorem dL_law_619 : decode cL_law 619 = .ok (.ireturn, 1) := by decide +kernel
theorem dL_law_620 : decode cL_law 620 = .ok (.iinc 3 4, 3) := by decide +kernel
theorem dL_law_623 : decode cL_law 623 = .ok (.goto (-605), 3) := by decide +kernel
theorem dL_law_626 : decode cL_law 626 = .ok (.iconst 1, 1) := by decide +kernel
theorem dL_law_627 : decode cL_law 627 = .ok (.ireturn, 1) := by decide +kernel
