theorem dX0_init_0 : decode cX0_init 0 = .ok (.aload_n 0, 1) := by decide +kernel
theorem dX0_init_1 : decode cX0_init 1 = .ok (.invokespecial 3, 3) := by decide +kernel
theorem dX0_init_4 : decode cX0_init 4 = .ok (.aload_n 0, 1) := by decide +kernel
theorem dX0_init_5 : decode cX0_init 5 = .ok (.iconst 4, 1) := by decide +kernel
theorem dX0_init_6 : decode cX0_init 6 = .ok (.anewarray 9, 3) := by decide +kernel
theorem dX0_init_9 : decode cX0_init 9 = .ok (.putfield 11, 3) := by decide +kernel
theorem dX0_init_12 : decode cX0_init 12 = .ok (.aload_n 0, 1) := by decide +kernel
theorem dX0_init_13 : decode cX0_init 13 = .ok (.iconst 0, 1) := by decide +kernel
theorem dX0_init_14 : decode cX0_init 14 = .ok (.putfield 17, 3) := by decide +kernel
theorem dX0_init_17 : decode cX0_init 17 = .ok (.iconst 0, 1) := by decide +kernel
theorem dX0_init_18 : decode cX0_init 18 = .ok (.istore_n 1, 1) := by decide +kernel
theorem dX0_init_19 : decode cX0_init 19 = .ok (.iload_n 1, 1) := by decide +kernel
theorem dX0_init_20 : decode cX0_init 20 = .ok (.iconst 4, 1) := by decide +kernel
theorem dX0_init_21 : decode cX0_init 21 = .ok (.if_icmp .ge 22, 3) := by decide +kernel
theorem dX0_init_24 : decode cX0_init 24 = .ok (.aload_n 0, 1) := by decide +kernel
theorem dX0_init_25 : decode cX0_init 25 = .ok (.getfield 11, 3) := by decide +kernel
theorem dX0_init_28 : decode cX0_init 28 = .ok (.iload_n 1, 1) := by decide +kernel
theorem dX0_init_29 : decode cX0_init 29 = .ok (.new 9, 3) := by decide +kernel
theorem dX0_init_32 : decode cX0_init 32 = .ok (.dup, 1) := by decide +kernel
theorem dX0_init_33 : decode cX0_init 33 = .ok (.invokespecial 21, 3) := by decide +kernel
theorem dX0_init_36 : decode cX0_init 36 = .ok (.aastore, 1) := by decide +kernel
theorem dX0_init_37 : decode cX0_init 37 = .ok (.iinc 1 1, 3) := by decide +kernel
theorem dX0_init_40 : decode cX0_init 40 = .ok (.goto (-21), 3) := by decide +kernel
theorem dX0_init_43 : decode cX0_init 43 = .ok (.return_, 1) := by decide +kernel
theorem dX0_size_0 : decode cX0_size 0 = .ok (.aload_n 0, 1) := by decide +kernel
theorem dX0_size_1 : decode cX0_size 1 = .ok (.getfield 17, 3) := by decide +kernel
theorem dX0_size_4 : decode cX0_size 4 = .ok (.ireturn, 1) := by decide +kernel
theorem dX0_keepState_0 : decode cX0_keepState 0 = .ok (.aload_n 0, 1) := by decide +kernel
theorem dX0_keepState_1 : decode cX0_keepState 1 = .ok (.getfield 17, 3) := by decide +kernel
theorem dX0_keepState_4 : decode cX0_keepState 4 = .ok (.iconst 4, 1) := by decide +kernel
theorem dX0_keepState_5 : decode cX0_keepState 5 = .ok (.if_icmp .lt 7, 3) := by decide +kernel
theorem dX0_keepState_8 : decode cX0_keepState 8 = .ok (.aload_n 0, 1) := by decide +kernel
theorem dX0_keepState_9 : decode cX0_keepState 9 = .ok (.invokevirtual 22, 3) := by decide +kernel
theorem dX0_keepState_12 : decode cX0_keepState 12 = .ok (.aload_n 0, 1) := by decide +kernel
theorem dX0_keepState_13 : decode cX0_keepState 13 = .ok (.getfield 11, 3) := by decide +kernel
theorem dX0_keepState_16 : decode cX0_keepState 16 = .ok (.aload_n 0, 1) := by decide +kernel
theorem dX0_keepState_17 : decode cX0_keepState 17 = .ok (.getfield 17, 3) := by decide +kernel
theorem dX0_keepState_20 : decode cX0_keepState 20 = .ok (.aaload, 1) := by decide +kernel
theorem dX0_keepState_21 : decode cX0_keepState 21 = .ok (.astore_n 2, 1) := by decide +kernel
theorem dX0_keepState_22 : decode cX0_keepState 22 = .ok (.aload_n 2, 1) := by decide +kernel
theorem dX0_keepState_23 : decode cX0_keepState 23 = .ok (.ifnull 18, 3) := by decide +kernel
theorem dX0_keepState_26 : decode cX0_keepState 26 = .ok (.aload_n 2, 1) := by decide +kernel
theorem dX0_keepState_27 : decode cX0_keepState 27 = .ok (.aload_n 1, 1) := by decide +kernel
theorem dX0_keepState_28 : decode cX0_keepState 28 = .ok (.invokevirtual 25, 3) := by decide +kernel
theorem dX0_keepState_31 : decode cX0_keepState 31 = .ok (.aload_n 0, 1) := by decide +kernel
theorem dX0_keepState_32 : decode cX0_keepState 32 = .ok (.dup, 1) := by decide +kernel
theorem dX0_keepState_33 : decode cX0_keepState 33 = .ok (.getfield 17, 3) := by decide +kernel
theorem dX0_keepState_36 : decode cX0_keepState 36 = .ok (.iconst 1, 1) := by decide +kernel
theorem dX0_keepState_37 : decode cX0_keepState 37 = .ok (.iadd, 1) := by decide +kernel
theorem dX0_keepState_38 : decode cX0_keepState 38 = .ok (.putfield 17, 3) := by decide +kernel
theorem dX0_keepState_41 : decode cX0_keepState 41 = .ok (.return_, 1) := by decide +kernel
theorem dX0_giveLatestTo_0 : decode cX0_giveLatestTo 0 = .ok (.aload_n 0, 1) := by decide +kernel
theorem dX0_giveLatestTo_1 : decode cX0_giveLatestTo 1 = .ok (.getfield 17, 3) := by decide +kernel
theorem dX0_giveLatestTo_4 : decode cX0_giveLatestTo 4 = .ok (.ifCond .le 11, 3) := by decide +kernel
theorem dX0_giveLatestTo_7 : decode cX0_giveLatestTo 7 = .ok (.aload_n 0, 1) := by decide +kernel
theorem dX0_giveLatestTo_8 : decode cX0_giveLatestTo 8 = .ok (.getfield 17, 3) := by decide +kernel
theorem dX0_giveLatestTo_11 : decode cX0_giveLatestTo 11 = .ok (.iconst 4, 1) := by decide +kernel
theorem dX0_giveLatestTo_12 : decode cX0_giveLatestTo 12 = .ok (.if_icmp .le 5, 3) := by decide +kernel
theorem dX0_giveLatestTo_15 : decode cX0_giveLatestTo 15 = .ok (.iconst 0, 1) := by decide +kernel
theorem dX0_giveLatestTo_16 : decode cX0_giveLatestTo 16 = .ok (.ireturn, 1) := by decide +kernel
theorem dX0_giveLatestTo_17 : decode cX0_giveLatestTo 17 = .ok (.aload_n 0, 1) := by decide +kernel
theorem dX0_giveLatestTo_18 : decode cX0_giveLatestTo 18 = .ok (.getfield 11, 3) := by decide +kernel
theorem dX0_giveLatestTo_21 : decode cX0_giveLatestTo 21 = .ok (.aload_n 0, 1) := by decide +kernel
theorem dX0_giveLatestTo_22 : decode cX0_giveLatestTo 22 = .ok (.getfield 17, 3) := by decide +kernel
theorem dX0_giveLatestTo_25 : decode cX0_giveLatestTo 25 = .ok (.iconst 1, 1) := by decide +kernel
theorem dX0_giveLatestTo_26 : decode cX0_giveLatestTo 26 = .ok (.isub, 1) := by decide +kernel
theorem dX0_giveLatestTo_27 : decode cX0_giveLatestTo 27 = .ok (.aaload, 1) := by decide +kernel
theorem dX0_giveLatestTo_28 : decode cX0_giveLatestTo 28 = .ok (.astore_n 2, 1) := by decide +kernel
theorem dX0_giveLatestTo_29 : decode cX0_giveLatestTo 29 = .ok (.aload_n 2, 1) := by decide +kernel
theorem dX0_giveLatestTo_30 : decode cX0_giveLatestTo 30 = .ok (.ifnonnull 5, 3) := by decide +kernel
theorem dX0_giveLatestTo_33 : decode cX0_giveLatestTo 33 = .ok (.iconst 0, 1) := by decide +kernel
theorem dX0_giveLatestTo_34 : decode cX0_giveLatestTo 34 = .ok (.ireturn, 1) := by decide +kernel
theorem dX0_giveLatestTo_35 : decode cX0_giveLatestTo 35 = .ok (.aload_n 1, 1) := by decide +kernel
theorem dX0_giveLatestTo_36 : decode cX0_giveLatestTo 36 = .ok (.aload_n 2, 1) := by decide +kernel
theorem dX0_giveLatestTo_37 : decode cX0_giveLatestTo 37 = .ok (.invokevirtual 25, 3) := by decide +kernel
theorem dX0_giveLatestTo_40 : decode cX0_giveLatestTo 40 = .ok (.aload_n 0, 1) := by decide +kernel
theorem dX0_giveLatestTo_41 : decode cX0_giveLatestTo 41 = .ok (.dup, 1) := by decide +kernel
theorem dX0_giveLatestTo_42 : decode cX0_giveLatestTo 42 = .ok (.getfield 17, 3) := by decide +kernel
theorem dX0_giveLatestTo_45 : decode cX0_giveLatestTo 45 = .ok (.iconst 1, 1) := by decide +kernel
theorem dX0_giveLatestTo_46 : decode cX0_giveLatestTo 46 = .ok (.isub, 1) := by decide +kernel
theorem dX0_giveLatestTo_47 : decode cX0_giveLatestTo 47 = .ok (.putfield 17, 3) := by decide +kernel
theorem dX0_giveLatestTo_50 : decode cX0_giveLatestTo 50 = .ok (.iconst 1, 1) := by decide +kernel
theorem dX0_giveLatestTo_51 : decode cX0_giveLatestTo 51 = .ok (.ireturn, 1) := by decide +kernel
theorem dX0_dropOldest_0 : decode cX0_dropOldest 0 = .ok (.aload_n 0, 1) := by decide +kernel
theorem dX0_dropOldest_1 : decode cX0_dropOldest 1 = .ok (.getfield 11, 3) := by decide +kernel
theorem dX0_dropOldest_4 : decode cX0_dropOldest 4 = .ok (.iconst 0, 1) := by decide +kernel
theorem dX0_dropOldest_5 : decode cX0_dropOldest 5 = .ok (.aaload, 1) := by decide +kernel
theorem dX0_dropOldest_6 : decode cX0_dropOldest 6 = .ok (.astore_n 1, 1) := by decide +kernel
theorem dX0_dropOldest_7 : decode cX0_dropOldest 7 = .ok (.iconst 1, 1) := by decide +kernel
theorem dX0_dropOldest_8 : decode cX0_dropOldest 8 = .ok (.istore_n 2, 1) := by decide +kernel
theorem dX0_dropOldest_9 : decode cX0_dropOldest 9 = .ok (.iload_n 2, 1) := by decide +kernel
theorem dX0_dropOldest_10 : decode cX0_dropOldest 10 = .ok (.iconst 4, 1) := by decide +kernel
theorem dX0_dropOldest_11 : decode cX0_dropOldest 11 = .ok (.if_icmp .ge 23, 3) := by decide +kernel
theorem dX0_dropOldest_14 : decode cX0_dropOldest 14 = .ok (.aload_n 0, 1) := by decide +kernel
theorem dX0_dropOldest_15 : decode cX0_dropOldest 15 = .ok (.getfield 11, 3) := by decide +kernel
theorem dX0_dropOldest_18 : decode cX0_dropOldest 18 = .ok (.iload_n 2, 1) := by decide +kernel
theorem dX0_dropOldest_19 : decode cX0_dropOldest 19 = .ok (.iconst 1, 1) := by decide +kernel
theorem dX0_dropOldest_20 : decode cX0_dropOldest 20 = .ok (.isub, 1) := by decide +kernel
theorem dX0_dropOldest_21 : decode cX0_dropOldest 21 = .ok (.aload_n 0, 1) := by decide +kernel
theorem dX0_dropOldest_22 : decode cX0_dropOldest 22 = .ok (.getfield 11, 3) := by decide +kernel
theorem dX0_dropOldest_25 : decode cX0_dropOldest 25 = .ok (.iload_n 2, 1) := by decide +kernel
theorem dX0_dropOldest_26 : decode cX0_dropOldest 26 = .ok (.aaload, 1) := by decide +kernel
theorem dX0_dropOldest_27 : decode cX0_dropOldest 27 = .ok (.aastore, 1) := by decide +kernel
theorem dX0_dropOldest_28 : decode cX0_dropOldest 28 = .ok (.iinc 2 1, 3) := by decide +kernel
theorem dX0_dropOldest_31 : decode cX0_dropOldest 31 = .ok (.goto (-22), 3) := by decide +kernel
theorem dX0_dropOldest_34 : decode cX0_dropOldest 34 = .ok (.aload_n 0, 1) := by decide +kernel
theorem dX0_dropOldest_35 : decode cX0_dropOldest 35 = .ok (.getfield 11, 3) := by decide +kernel
theorem dX0_dropOldest_38 : decode cX0_dropOldest 38 = .ok (.iconst 3, 1) := by decide +kernel
theorem dX0_dropOldest_39 : decode cX0_dropOldest 39 = .ok (.aload_n 1, 1) := by decide +kernel
theorem dX0_dropOldest_40 : decode cX0_dropOldest 40 = .ok (.aastore, 1) := by decide +kernel
theorem dX0_dropOldest_41 : decode cX0_dropOldest 41 = .ok (.aload_n 0, 1) := by decide +kernel
theorem dX0_dropOldest_42 : decode cX0_dropOldest 42 = .ok (.iconst 3, 1) := by decide +kernel
theorem dX0_dropOldest_43 : decode cX0_dropOldest 43 = .ok (.putfield 17, 3) := by decide +kernel
theorem dX0_dropOldest_46 : decode cX0_dropOldest 46 = .ok (.return_, 1) := by decide +kernel
theorem dX1_init_0 : decode cX1_init 0 = .ok (.aload_n 0, 1) := by decide +kernel
theorem dX1_init_1 : decode cX1_init 1 = .ok (.invokespecial 3, 3) := by decide +kernel
theorem dX1_init_4 : decode cX1_init 4 = .ok (.aload_n 0, 1) := by decide +kernel
theorem dX1_init_5 : decode cX1_init 5 = .ok (.bipush 60, 2) := by decide +kernel
theorem dX1_init_7 : decode cX1_init 7 = .ok (.newarray .char, 2) := by decide +kernel
theorem dX1_init_9 : decode cX1_init 9 = .ok (.putfield 9, 3) := by decide +kernel
theorem dX1_init_12 : decode cX1_init 12 = .ok (.aload_n 0, 1) := by decide +kernel
theorem dX1_init_13 : decode cX1_init 13 = .ok (.iconst 0, 1) := by decide +kernel
theorem dX1_init_14 : decode cX1_init 14 = .ok (.putfield 15, 3) := by decide +kernel
theorem dX1_init_17 : decode cX1_init 17 = .ok (.aload_n 0, 1) := by decide +kernel
theorem dX1_init_18 : decode cX1_init 18 = .ok (.bipush 12, 2) := by decide +kernel
theorem dX1_init_20 : decode cX1_init 20 = .ok (.newarray .int, 2) := by decide +kernel
theorem dX1_init_22 : decode cX1_init 22 = .ok (.putfield 19, 3) := by decide +kernel
theorem dX1_init_25 : decode cX1_init 25 = .ok (.aload_n 0, 1) := by decide +kernel
theorem dX1_init_26 : decode cX1_init 26 = .ok (.bipush 12, 2) := by decide +kernel
theorem dX1_init_28 : decode cX1_init 28 = .ok (.newarray .int, 2) := by decide +kernel
theorem dX1_init_30 : decode cX1_init 30 = .ok (.putfield 23, 3) := by decide +kernel
theorem dX1_init_33 : decode cX1_init 33 = .ok (.aload_n 0, 1) := by decide +kernel
theorem dX1_init_34 : decode cX1_init 34 = .ok (.bipush 12, 2) := by decide +kernel
theorem dX1_init_36 : decode cX1_init 36 = .ok (.newarray .int, 2) := by decide +kernel
theorem dX1_init_38 : decode cX1_init 38 = .ok (.putfield 26, 3) := by decide +kernel
theorem dX1_init_41 : decode cX1_init 41 = .ok (.aload_n 0, 1) := by decide +kernel
theorem dX1_init_42 : decode cX1_init 42 = .ok (.bipush 12, 2) := by decide +kernel
theorem dX1_init_44 : decode cX1_init 44 = .ok (.newarray .int, 2) := by decide +kernel
theorem dX1_init_46 : decode cX1_init 46 = .ok (.putfield 29, 3) := by decide +kernel
theorem dX1_init_49 : decode cX1_init 49 = .ok (.aload_n 0, 1) := by decide +kernel
theorem dX1_init_50 : decode cX1_init 50 = .ok (.iconst 0, 1) := by decide +kernel
theorem dX1_init_51 : decode cX1_init 51 = .ok (.putfield 32, 3) := by decide +kernel
theorem dX1_init_54 : decode cX1_init 54 = .ok (.aload_n 0, 1) := by decide +kernel
theorem dX1_init_55 : decode cX1_init 55 = .ok (.iconst 0, 1) := by decide +kernel
theorem dX1_init_56 : decode cX1_init 56 = .ok (.putfield 35, 3) := by decide +kernel
theorem dX1_init_59 : decode cX1_init 59 = .ok (.return_, 1) := by decide +kernel
theorem dX1_length_0 : decode cX1_length 0 = .ok (.aload_n 0, 1) := by decide +kernel
theorem dX1_length_1 : decode cX1_length 1 = .ok (.getfield 15, 3) := by decide +kernel
theorem dX1_length_4 : decode cX1_length 4 = .ok (.ireturn, 1) := by decide +kernel
theorem dX1_append_0 : decode cX1_append 0 = .ok (.aload_n 0, 1) := by decide +kernel
theorem dX1_append_1 : decode cX1_append 1 = .ok (.getfield 15, 3) := by decide +kernel
theorem dX1_append_4 : decode cX1_append 4 = .ok (.bipush 60, 2) := by decide +kernel
theorem dX1_append_6 : decode cX1_append 6 = .ok (.if_icmp .lt 6, 3) := by decide +kernel
theorem dX1_append_9 : decode cX1_append 9 = .ok (.bipush (-3), 2) := by decide +kernel
theorem dX1_append_11 : decode cX1_append 11 = .ok (.ireturn, 1) := by decide +kernel
theorem dX1_append_12 : decode cX1_append 12 = .ok (.aload_n 0, 1) := by decide +kernel
theorem dX1_append_13 : decode cX1_append 13 = .ok (.getfield 9, 3) := by decide +kernel
theorem dX1_append_16 : decode cX1_append 16 = .ok (.aload_n 0, 1) := by decide +kernel
theorem dX1_append_17 : decode cX1_append 17 = .ok (.getfield 15, 3) := by decide +kernel
theorem dX1_append_20 : decode cX1_append 20 = .ok (.iload_n 1, 1) := by decide +kernel
theorem dX1_append_21 : decode cX1_append 21 = .ok (.castore, 1) := by decide +kernel
theorem dX1_append_22 : decode cX1_append 22 = .ok (.aload_n 0, 1) := by decide +kernel
theorem dX1_append_23 : decode cX1_append 23 = .ok (.dup, 1) := by decide +kernel
theorem dX1_append_24 : decode cX1_append 24 = .ok (.getfield 15, 3) := by decide +kernel
theorem dX1_append_27 : decode cX1_append 27 = .ok (.iconst 1, 1) := by decide +kernel
theorem dX1_append_28 : decode cX1_append 28 = .ok (.iadd, 1) := by decide +kernel
theorem dX1_append_29 : decode cX1_append 29 = .ok (.putfield 15, 3) := by decide +kernel
theorem dX1_append_32 : decode cX1_append 32 = .ok (.aload_n 0, 1) := by decide +kernel
theorem dX1_append_33 : decode cX1_append 33 = .ok (.getfield 15, 3) := by decide +kernel
theorem dX1_append_36 : decode cX1_append 36 = .ok (.ireturn, 1) := by decide +kernel
theorem dX1_empty_0 : decode cX1_empty 0 = .ok (.aload_n 0, 1) := by decide +kernel
theorem dX1_empty_1 : decode cX1_empty 1 = .ok (.getfield 15, 3) := by decide +kernel
theorem dX1_empty_4 : decode cX1_empty 4 = .ok (.istore_n 1, 1) := by decide +kernel
theorem dX1_empty_5 : decode cX1_empty 5 = .ok (.aload_n 0, 1) := by decide +kernel
theorem dX1_empty_6 : decode cX1_empty 6 = .ok (.iconst 0, 1) := by decide +kernel
theorem dX1_empty_7 : decode cX1_empty 7 = .ok (.putfield 15, 3) := by decide +kernel
theorem dX1_empty_10 : decode cX1_empty 10 = .ok (.iload_n 1, 1) := by decide +kernel
theorem dX1_empty_11 : decode cX1_empty 11 = .ok (.ireturn, 1) := by decide +kernel
theorem dX1_readAdditions_0 : decode cX1_readAdditions 0 = .ok (.aload_n 0, 1) := by decide +kernel
theorem dX1_readAdditions_1 : decode cX1_readAdditions 1 = .ok (.iconst 0, 1) := by decide +kernel
theorem dX1_readAdditions_2 : decode cX1_readAdditions 2 = .ok (.putfield 32, 3) := by decide +kernel
theorem dX1_readAdditions_5 : decode cX1_readAdditions 5 = .ok (.aload_n 0, 1) := by decide +kernel
theorem dX1_readAdditions_6 : decode cX1_readAdditions 6 = .ok (.iconst 0, 1) := by decide +kernel
theorem dX1_readAdditions_7 : decode cX1_readAdditions 7 = .ok (.putfield 35, 3) := by decide +kernel
theorem dX1_readAdditions_10 : decode cX1_readAdditions 10 = .ok (.iconst 0, 1) := by decide +kernel
theorem dX1_readAdditions_11 : decode cX1_readAdditions 11 = .ok (.istore_n 1, 1) := by decide +kernel
theorem dX1_readAdditions_12 : decode cX1_readAdditions 12 = .ok (.iload_n 1, 1) := by decide +kernel
theorem dX1_readAdditions_13 : decode cX1_readAdditions 13 = .ok (.bipush 12, 2) := by decide +kernel
theorem dX1_readAdditions_15 : decode cX1_readAdditions 15 = .ok (.if_icmp .gt 48, 3) := by decide +kernel
theorem dX1_readAdditions_18 : decode cX1_readAdditions 18 = .ok (.aload_n 0, 1) := by decide +kernel
theorem dX1_readAdditions_19 : decode cX1_readAdditions 19 = .ok (.invokevirtual 38, 3) := by decide +kernel
theorem dX1_readAdditions_22 : decode cX1_readAdditions 22 = .ok (.ifCond .ne 8, 3) := by decide +kernel
theorem dX1_readAdditions_25 : decode cX1_readAdditions 25 = .ok (.aload_n 0, 1) := by decide +kernel
theorem dX1_readAdditions_26 : decode cX1_readAdditions 26 = .ok (.getfield 35, 3) := by decide +kernel
theorem dX1_readAdditions_29 : decode cX1_readAdditions 29 = .ok (.ireturn, 1) := by decide +kernel
theorem dX1_readAdditions_30 : decode cX1_readAdditions 30 = .ok (.aload_n 0, 1) := by decide +kernel
theorem dX1_readAdditions_31 : decode cX1_readAdditions 31 = .ok (.getfield 35, 3) := by decide +kernel
theorem dX1_readAdditions_34 : decode cX1_readAdditions 34 = .ok (.aload_n 0, 1) := by decide +kernel
theorem dX1_readAdditions_35 : decode cX1_readAdditions 35 = .ok (.getfield 15, 3) := by decide +kernel
theorem dX1_readAdditions_38 : decode cX1_readAdditions 38 = .ok (.if_icmp .lt 5, 3) := by decide +kernel
theorem dX1_readAdditions_41 : decode cX1_readAdditions 41 = .ok (.iconst (-1), 1) := by decide +kernel
theorem dX1_readAdditions_42 : decode cX1_readAdditions 42 = .ok (.ireturn, 1) := by decide +kernel
theorem dX1_readAdditions_43 : decode cX1_readAdditions 43 = .ok (.aload_n 0, 1) := by decide +kernel
theorem dX1_readAdditions_44 : decode cX1_readAdditions 44 = .ok (.bipush 59, 2) := by decide +kernel
theorem dX1_readAdditions_46 : decode cX1_readAdditions 46 = .ok (.invokevirtual 42, 3) := by decide +kernel
theorem dX1_readAdditions_49 : decode cX1_readAdditions 49 = .ok (.ifCond .ne 8, 3) := by decide +kernel
theorem dX1_readAdditions_52 : decode cX1_readAdditions 52 = .ok (.aload_n 0, 1) := by decide +kernel
theorem dX1_readAdditions_53 : decode cX1_readAdditions 53 = .ok (.getfield 35, 3) := by decide +kernel
theorem dX1_readAdditions_56 : decode cX1_readAdditions 56 = .ok (.ireturn, 1) := by decide +kernel
theorem dX1_readAdditions_57 : decode cX1_readAdditions 57 = .ok (.iinc 1 1, 3) := by decide +kernel
theorem dX1_readAdditions_60 : decode cX1_readAdditions 60 = .ok (.goto (-48), 3) := by decide +kernel
theorem dX1_readAdditions_63 : decode cX1_readAdditions 63 = .ok (.aload_n 0, 1) := by decide +kernel
theorem dX1_readAdditions_64 : decode cX1_readAdditions 64 = .ok (.getfield 35, 3) := by decide +kernel
theorem dX1_readAdditions_67 : decode cX1_readAdditions 67 = .ok (.ireturn, 1) := by decide +kernel
theorem dX1_makeAdditions_0 : decode cX1_makeAdditions 0 = .ok (.iconst 0, 1) := by decide +kernel
theorem dX1_makeAdditions_1 : decode cX1_makeAdditions 1 = .ok (.istore_n 2, 1) := by decide +kernel
theorem dX1_makeAdditions_2 : decode cX1_makeAdditions 2 = .ok (.iload_n 2, 1) := by decide +kernel
theorem dX1_makeAdditions_3 : decode cX1_makeAdditions 3 = .ok (.aload_n 0, 1) := by decide +kernel
theorem dX1_makeAdditions_4 : decode cX1_makeAdditions 4 = .ok (.getfield 32, 3) := by decide +kernel
theorem dX1_makeAdditions_7 : decode cX1_makeAdditions 7 = .ok (.if_icmp .ge 80, 3) := by decide +kernel
theorem dX1_makeAdditions_10 : decode cX1_makeAdditions 10 = .ok (.iload_n 2, 1) := by decide +kernel
theorem dX1_makeAdditions_11 : decode cX1_makeAdditions 11 = .ok (.bipush 12, 2) := by decide +kernel
theorem dX1_makeAdditions_13 : decode cX1_makeAdditions 13 = .ok (.if_icmp .ge 74, 3) := by decide +kernel
theorem dX1_makeAdditions_16 : decode cX1_makeAdditions 16 = .ok (.aload_n 0, 1) := by decide +kernel
theorem dX1_makeAdditions_17 : decode cX1_makeAdditions 17 = .ok (.getfield 23, 3) := by decide +kernel
theorem dX1_makeAdditions_20 : decode cX1_makeAdditions 20 = .ok (.iload_n 2, 1) := by decide +kernel
theorem dX1_makeAdditions_21 : decode cX1_makeAdditions 21 = .ok (.iaload, 1) := by decide +kernel
theorem dX1_makeAdditions_22 : decode cX1_makeAdditions 22 = .ok (.bipush (-5), 2) := by decide +kernel
theorem dX1_makeAdditions_24 : decode cX1_makeAdditions 24 = .ok (.if_icmp .ne 28, 3) := by decide +kernel
theorem dX1_makeAdditions_27 : decode cX1_makeAdditions 27 = .ok (.aload_n 1, 1) := by decide +kernel
theorem dX1_makeAdditions_28 : decode cX1_makeAdditions 28 = .ok (.aload_n 0, 1) := by decide +kernel
theorem dX1_makeAdditions_29 : decode cX1_makeAdditions 29 = .ok (.getfield 19, 3) := by decide +kernel
theorem dX1_makeAdditions_32 : decode cX1_makeAdditions 32 = .ok (.iload_n 2, 1) := by decide +kernel
theorem dX1_makeAdditions_33 : decode cX1_makeAdditions 33 = .ok (.iaload, 1) := by decide +kernel
theorem dX1_makeAdditions_34 : decode cX1_makeAdditions 34 = .ok (.aload_n 0, 1) := by decide +kernel
theorem dX1_makeAdditions_35 : decode cX1_makeAdditions 35 = .ok (.getfield 26, 3) := by decide +kernel
theorem dX1_makeAdditions_38 : decode cX1_makeAdditions 38 = .ok (.iload_n 2, 1) := by decide +kernel
theorem dX1_makeAdditions_39 : decode cX1_makeAdditions 39 = .ok (.iaload, 1) := by decide +kernel
theorem dX1_makeAdditions_40 : decode cX1_makeAdditions 40 = .ok (.aload_n 0, 1) := by decide +kernel
theorem dX1_makeAdditions_41 : decode cX1_makeAdditions 41 = .ok (.getfield 29, 3) := by decide +kernel
theorem dX1_makeAdditions_44 : decode cX1_makeAdditions 44 = .ok (.iload_n 2, 1) := by decide +kernel
theorem dX1_makeAdditions_45 : decode cX1_makeAdditions 45 = .ok (.iaload, 1) := by decide +kernel
theorem dX1_makeAdditions_46 : decode cX1_makeAdditions 46 = .ok (.invokevirtual 46, 3) := by decide +kernel
theorem dX1_makeAdditions_49 : decode cX1_makeAdditions 49 = .ok (.goto 19, 3) := by decide +kernel
theorem dX1_makeAdditions_52 : decode cX1_makeAdditions 52 = .ok (.aload_n 1, 1) := by decide +kernel
theorem dX1_makeAdditions_53 : decode cX1_makeAdditions 53 = .ok (.aload_n 0, 1) := by decide +kernel
theorem dX1_makeAdditions_54 : decode cX1_makeAdditions 54 = .ok (.getfield 19, 3) := by decide +kernel
theorem dX1_makeAdditions_57 : decode cX1_makeAdditions 57 = .ok (.iload_n 2, 1) := by decide +kernel
theorem dX1_makeAdditions_58 : decode cX1_makeAdditions 58 = .ok (.iaload, 1) := by decide +kernel
theorem dX1_makeAdditions_59 : decode cX1_makeAdditions 59 = .ok (.aload_n 0, 1) := by decide +kernel
theorem dX1_makeAdditions_60 : decode cX1_makeAdditions 60 = .ok (.getfield 23, 3) := by decide +kernel
theorem dX1_makeAdditions_63 : decode cX1_makeAdditions 63 = .ok (.iload_n 2, 1) := by decide +kernel
theorem dX1_makeAdditions_64 : decode cX1_makeAdditions 64 = .ok (.iaload, 1) := by decide +kernel
theorem dX1_makeAdditions_65 : decode cX1_makeAdditions 65 = .ok (.invokevirtual 52, 3) := by decide +kernel
theorem dX1_makeAdditions_68 : decode cX1_makeAdditions 68 = .ok (.istore_n 3, 1) := by decide +kernel
theorem dX1_makeAdditions_69 : decode cX1_makeAdditions 69 = .ok (.iload_n 3, 1) := by decide +kernel
theorem dX1_makeAdditions_70 : decode cX1_makeAdditions 70 = .ok (.ifCond .ge 11, 3) := by decide +kernel
theorem dX1_makeAdditions_73 : decode cX1_makeAdditions 73 = .ok (.iload_n 3, 1) := by decide +kernel
theorem dX1_makeAdditions_74 : decode cX1_makeAdditions 74 = .ok (.bipush (-5), 2) := by decide +kernel
theorem dX1_makeAdditions_76 : decode cX1_makeAdditions 76 = .ok (.if_icmp .eq 5, 3) := by decide +kernel
theorem dX1_makeAdditions_79 : decode cX1_makeAdditions 79 = .ok (.iload_n 3, 1) := by decide +kernel
theorem dX1_makeAdditions_80 : decode cX1_makeAdditions 80 = .ok (.ireturn, 1) := by decide +kernel
theorem dX1_makeAdditions_81 : decode cX1_makeAdditions 81 = .ok (.iinc 2 1, 3) := by decide +kernel
theorem dX1_makeAdditions_84 : decode cX1_makeAdditions 84 = .ok (.goto (-82), 3) := by decide +kernel
theorem dX1_makeAdditions_87 : decode cX1_makeAdditions 87 = .ok (.aload_n 0, 1) := by decide +kernel
theorem dX1_makeAdditions_88 : decode cX1_makeAdditions 88 = .ok (.getfield 32, 3) := by decide +kernel
theorem dX1_makeAdditions_91 : decode cX1_makeAdditions 91 = .ok (.ireturn, 1) := by decide +kernel
theorem dX1_readAddition_0 : decode cX1_readAddition 0 = .ok (.aload_n 0, 1) := by decide +kernel
theorem dX1_readAddition_1 : decode cX1_readAddition 1 = .ok (.invokevirtual 56, 3) := by decide +kernel
theorem dX1_readAddition_4 : decode cX1_readAddition 4 = .ok (.istore_n 1, 1) := by decide +kernel
theorem dX1_readAddition_5 : decode cX1_readAddition 5 = .ok (.iload_n 1, 1) := by decide +kernel
theorem dX1_readAddition_6 : decode cX1_readAddition 6 = .ok (.iconst (-1), 1) := by decide +kernel
theorem dX1_readAddition_7 : decode cX1_readAddition 7 = .ok (.if_icmp .ne 5, 3) := by decide +kernel
theorem dX1_readAddition_10 : decode cX1_readAddition 10 = .ok (.iconst 0, 1) := by decide +kernel
theorem dX1_readAddition_11 : decode cX1_readAddition 11 = .ok (.ireturn, 1) := by decide +kernel
theorem dX1_readAddition_12 : decode cX1_readAddition 12 = .ok (.aload_n 0, 1) := by decide +kernel
theorem dX1_readAddition_13 : decode cX1_readAddition 13 = .ok (.bipush 61, 2) := by decide +kernel
theorem dX1_readAddition_15 : decode cX1_readAddition 15 = .ok (.invokevirtual 42, 3) := by decide +kernel
theorem dX1_readAddition_18 : decode cX1_readAddition 18 = .ok (.ifCond .eq 9, 3) := by decide +kernel
theorem dX1_readAddition_21 : decode cX1_readAddition 21 = .ok (.aload_n 0, 1) := by decide +kernel
theorem dX1_readAddition_22 : decode cX1_readAddition 22 = .ok (.iload_n 1, 1) := by decide +kernel
theorem dX1_readAddition_23 : decode cX1_readAddition 23 = .ok (.invokevirtual 60, 3) := by decide +kernel
theorem dX1_readAddition_26 : decode cX1_readAddition 26 = .ok (.ireturn, 1) := by decide +kernel
theorem dX1_readAddition_27 : decode cX1_readAddition 27 = .ok (.aload_n 0, 1) := by decide +kernel
theorem dX1_readAddition_28 : decode cX1_readAddition 28 = .ok (.bipush 62, 2) := by decide +kernel
theorem dX1_readAddition_30 : decode cX1_readAddition 30 = .ok (.invokevirtual 42, 3) := by decide +kernel
theorem dX1_readAddition_33 : decode cX1_readAddition 33 = .ok (.ifCond .eq 15, 3) := by decide +kernel
theorem dX1_readAddition_36 : decode cX1_readAddition 36 = .ok (.aload_n 0, 1) := by decide +kernel
theorem dX1_readAddition_37 : decode cX1_readAddition 37 = .ok (.iload_n 1, 1) := by decide +kernel
theorem dX1_readAddition_38 : decode cX1_readAddition 38 = .ok (.invokevirtual 64, 3) := by decide +kernel
theorem dX1_readAddition_41 : decode cX1_readAddition 41 = .ok (.ifCond .eq 7, 3) := by decide +kernel
theorem dX1_readAddition_44 : decode cX1_readAddition 44 = .ok (.iconst 1, 1) := by decide +kernel
theorem dX1_readAddition_45 : decode cX1_readAddition 45 = .ok (.goto 4, 3) := by decide +kernel
theorem dX1_readAddition_48 : decode cX1_readAddition 48 = .ok (.iconst 0, 1) := by decide +kernel
theorem dX1_readAddition_49 : decode cX1_readAddition 49 = .ok (.ireturn, 1) := by decide +kernel
theorem dX1_readMember_0 : decode cX1_readMember 0 = .ok (.aload_n 0, 1) := by decide +kernel
theorem dX1_readMember_1 : decode cX1_readMember 1 = .ok (.iconst 1, 1) := by decide +kernel
theorem dX1_readMember_2 : decode cX1_readMember 2 = .ok (.bipush 40, 2) := by decide +kernel
theorem dX1_readMember_4 : decode cX1_readMember 4 = .ok (.invokevirtual 67, 3) := by decide +kernel
theorem dX1_readMember_7 : decode cX1_readMember 7 = .ok (.istore_n 2, 1) := by decide +kernel
theorem dX1_readMember_8 : decode cX1_readMember 8 = .ok (.iload_n 2, 1) := by decide +kernel
theorem dX1_readMember_9 : decode cX1_readMember 9 = .ok (.iconst (-1), 1) := by decide +kernel
theorem dX1_readMember_10 : decode cX1_readMember 10 = .ok (.if_icmp .ne 5, 3) := by decide +kernel
theorem dX1_readMember_13 : decode cX1_readMember 13 = .ok (.iconst 0, 1) := by decide +kernel
theorem dX1_readMember_14 : decode cX1_readMember 14 = .ok (.ireturn, 1) := by decide +kernel
theorem dX1_readMember_15 : decode cX1_readMember 15 = .ok (.iconst 0, 1) := by decide +kernel
theorem dX1_readMember_16 : decode cX1_readMember 16 = .ok (.istore_n 3, 1) := by decide +kernel
theorem dX1_readMember_17 : decode cX1_readMember 17 = .ok (.aload_n 0, 1) := by decide +kernel
theorem dX1_readMember_18 : decode cX1_readMember 18 = .ok (.bipush 44, 2) := by decide +kernel
theorem dX1_readMember_20 : decode cX1_readMember 20 = .ok (.invokevirtual 42, 3) := by decide +kernel
theorem dX1_readMember_23 : decode cX1_readMember 23 = .ok (.ifCond .eq 12, 3) := by decide +kernel
theorem dX1_readMember_26 : decode cX1_readMember 26 = .ok (.aload_n 0, 1) := by decide +kernel
theorem dX1_readMember_27 : decode cX1_readMember 27 = .ok (.iconst 0, 1) := by decide +kernel
theorem dX1_readMember_28 : decode cX1_readMember 28 = .ok (.sipush 9999, 3) := by decide +kernel
theorem dX1_readMember_31 : decode cX1_readMember 31 = .ok (.invokevirtual 67, 3) := by decide +kernel
theorem dX1_readMember_34 : decode cX1_readMember 34 = .ok (.istore_n 3, 1) := by decide +kernel
theorem dX1_readMember_35 : decode cX1_readMember 35 = .ok (.iload_n 3, 1) := by decide +kernel
theorem dX1_readMember_36 : decode cX1_readMember 36 = .ok (.iconst (-1), 1) := by decide +kernel
theorem dX1_readMember_37 : decode cX1_readMember 37 = .ok (.if_icmp .eq 19, 3) := by decide +kernel
theorem dX1_readMember_40 : decode cX1_readMember 40 = .ok (.aload_n 0, 1) := by decide +kernel
theorem dX1_readMember_41 : decode cX1_readMember 41 = .ok (.iload_n 1, 1) := by decide +kernel
theorem dX1_readMember_42 : decode cX1_readMember 42 = .ok (.bipush (-5), 2) := by decide +kernel
theorem dX1_readMember_44 : decode cX1_readMember 44 = .ok (.iload_n 2, 1) := by decide +kernel
theorem dX1_readMember_45 : decode cX1_readMember 45 = .ok (.iload_n 3, 1) := by decide +kernel
theorem dX1_readMember_46 : decode cX1_readMember 46 = .ok (.invokevirtual 70, 3) := by decide +kernel
theorem dX1_readMember_49 : decode cX1_readMember 49 = .ok (.ifCond .eq 7, 3) := by decide +kernel
theorem dX1_readMember_52 : decode cX1_readMember 52 = .ok (.iconst 1, 1) := by decide +kernel
theorem dX1_readMember_53 : decode cX1_readMember 53 = .ok (.goto 4, 3) := by decide +kernel
theorem dX1_readMember_56 : decode cX1_readMember 56 = .ok (.iconst 0, 1) := by decide +kernel
theorem dX1_readMember_57 : decode cX1_readMember 57 = .ok (.ireturn, 1) := by decide +kernel
theorem dX1_readAlias_0 : decode cX1_readAlias 0 = .ok (.aload_n 0, 1) := by decide +kernel
theorem dX1_readAlias_1 : decode cX1_readAlias 1 = .ok (.invokevirtual 56, 3) := by decide +kernel
theorem dX1_readAlias_4 : decode cX1_readAlias 4 = .ok (.istore_n 2, 1) := by decide +kernel
theorem dX1_readAlias_5 : decode cX1_readAlias 5 = .ok (.iload_n 2, 1) := by decide +kernel
theorem dX1_readAlias_6 : decode cX1_readAlias 6 = .ok (.iconst (-1), 1) := by decide +kernel
theorem dX1_readAlias_7 : decode cX1_readAlias 7 = .ok (.if_icmp .eq 18, 3) := by decide +kernel
theorem dX1_readAlias_10 : decode cX1_readAlias 10 = .ok (.aload_n 0, 1) := by decide +kernel
theorem dX1_readAlias_11 : decode cX1_readAlias 11 = .ok (.iload_n 1, 1) := by decide +kernel
theorem dX1_readAlias_12 : decode cX1_readAlias 12 = .ok (.iload_n 2, 1) := by decide +kernel
theorem dX1_readAlias_13 : decode cX1_readAlias 13 = .ok (.iconst 0, 1) := by decide +kernel
theorem dX1_readAlias_14 : decode cX1_readAlias 14 = .ok (.iconst 0, 1) := by decide +kernel
theorem dX1_readAlias_15 : decode cX1_readAlias 15 = .ok (.invokevirtual 70, 3) := by decide +kernel
theorem dX1_readAlias_18 : decode cX1_readAlias 18 = .ok (.ifCond .eq 7, 3) := by decide +kernel
theorem dX1_readAlias_21 : decode cX1_readAlias 21 = .ok (.iconst 1, 1) := by decide +kernel
theorem dX1_readAlias_22 : decode cX1_readAlias 22 = .ok (.goto 4, 3) := by decide +kernel
theorem dX1_readAlias_25 : decode cX1_readAlias 25 = .ok (.iconst 0, 1) := by decide +kernel
theorem dX1_readAlias_26 : decode cX1_readAlias 26 = .ok (.ireturn, 1) := by decide +kernel
theorem dX1_readName_0 : decode cX1_readName 0 = .ok (.aload_n 0, 1) := by decide +kernel
theorem dX1_readName_1 : decode cX1_readName 1 = .ok (.invokevirtual 74, 3) := by decide +kernel
theorem dX1_readName_4 : decode cX1_readName 4 = .ok (.istore_n 1, 1) := by decide +kernel
theorem dX1_readName_5 : decode cX1_readName 5 = .ok (.iload_n 1, 1) := by decide +kernel
theorem dX1_readName_6 : decode cX1_readName 6 = .ok (.iconst (-1), 1) := by decide +kernel
theorem dX1_readName_7 : decode cX1_readName 7 = .ok (.if_icmp .ne 5, 3) := by decide +kernel
theorem dX1_readName_10 : decode cX1_readName 10 = .ok (.iconst (-1), 1) := by decide +kernel
theorem dX1_readName_11 : decode cX1_readName 11 = .ok (.ireturn, 1) := by decide +kernel
theorem dX1_readName_12 : decode cX1_readName 12 = .ok (.aload_n 0, 1) := by decide +kernel
theorem dX1_readName_13 : decode cX1_readName 13 = .ok (.invokevirtual 74, 3) := by decide +kernel
theorem dX1_readName_16 : decode cX1_readName 16 = .ok (.istore_n 2, 1) := by decide +kernel
theorem dX1_readName_17 : decode cX1_readName 17 = .ok (.iload_n 2, 1) := by decide +kernel
theorem dX1_readName_18 : decode cX1_readName 18 = .ok (.iconst (-1), 1) := by decide +kernel
theorem dX1_readName_19 : decode cX1_readName 19 = .ok (.if_icmp .ne 5, 3) := by decide +kernel
theorem dX1_readName_22 : decode cX1_readName 22 = .ok (.iconst (-1), 1) := by decide +kernel
theorem dX1_readName_23 : decode cX1_readName 23 = .ok (.ireturn, 1) := by decide +kernel
theorem dX1_readName_24 : decode cX1_readName 24 = .ok (.iload_n 1, 1) := by decide +kernel
theorem dX1_readName_25 : decode cX1_readName 25 = .ok (.bipush 26, 2) := by decide +kernel
theorem dX1_readName_27 : decode cX1_readName 27 = .ok (.imul, 1) := by decide +kernel
theorem dX1_readName_28 : decode cX1_readName 28 = .ok (.iload_n 2, 1) := by decide +kernel
theorem dX1_readName_29 : decode cX1_readName 29 = .ok (.iadd, 1) := by decide +kernel
theorem dX1_readName_30 : decode cX1_readName 30 = .ok (.ireturn, 1) := by decide +kernel
theorem dX1_readLetter_0 : decode cX1_readLetter 0 = .ok (.aload_n 0, 1) := by decide +kernel
theorem dX1_readLetter_1 : decode cX1_readLetter 1 = .ok (.invokevirtual 77, 3) := by decide +kernel
theorem dX1_readLetter_4 : decode cX1_readLetter 4 = .ok (.istore_n 1, 1) := by decide +kernel
theorem dX1_readLetter_5 : decode cX1_readLetter 5 = .ok (.iload_n 1, 1) := by decide +kernel
theorem dX1_readLetter_6 : decode cX1_readLetter 6 = .ok (.bipush 65, 2) := by decide +kernel
theorem dX1_readLetter_8 : decode cX1_readLetter 8 = .ok (.if_icmp .lt 9, 3) := by decide +kernel
theorem dX1_readLetter_11 : decode cX1_readLetter 11 = .ok (.iload_n 1, 1) := by decide +kernel
theorem dX1_readLetter_12 : decode cX1_readLetter 12 = .ok (.bipush 90, 2) := by decide +kernel
theorem dX1_readLetter_14 : decode cX1_readLetter 14 = .ok (.if_icmp .le 5, 3) := by decide +kernel
theorem dX1_readLetter_17 : decode cX1_readLetter 17 = .ok (.iconst (-1), 1) := by decide +kernel
theorem dX1_readLetter_18 : decode cX1_readLetter 18 = .ok (.ireturn, 1) := by decide +kernel
theorem dX1_readLetter_19 : decode cX1_readLetter 19 = .ok (.aload_n 0, 1) := by decide +kernel
theorem dX1_readLetter_20 : decode cX1_readLetter 20 = .ok (.dup, 1) := by decide +kernel
theorem dX1_readLetter_21 : decode cX1_readLetter 21 = .ok (.getfield 35, 3) := by decide +kernel
theorem dX1_readLetter_24 : decode cX1_readLetter 24 = .ok (.iconst 1, 1) := by decide +kernel
theorem dX1_readLetter_25 : decode cX1_readLetter 25 = .ok (.iadd, 1) := by decide +kernel
theorem dX1_readLetter_26 : decode cX1_readLetter 26 = .ok (.putfield 35, 3) := by decide +kernel
theorem dX1_readLetter_29 : decode cX1_readLetter 29 = .ok (.iload_n 1, 1) := by decide +kernel
theorem dX1_readLetter_30 : decode cX1_readLetter 30 = .ok (.bipush 65, 2) := by decide +kernel
theorem dX1_readLetter_32 : decode cX1_readLetter 32 = .ok (.isub, 1) := by decide +kernel
theorem dX1_readLetter_33 : decode cX1_readLetter 33 = .ok (.ireturn, 1) := by decide +kernel
theorem dX1_readNumber_0 : decode cX1_readNumber 0 = .ok (.aload_n 0, 1) := by decide +kernel
theorem dX1_readNumber_1 : decode cX1_readNumber 1 = .ok (.invokevirtual 80, 3) := by decide +kernel
theorem dX1_readNumber_4 : decode cX1_readNumber 4 = .ok (.istore_n 3, 1) := by decide +kernel
theorem dX1_readNumber_5 : decode cX1_readNumber 5 = .ok (.iload_n 3, 1) := by decide +kernel
theorem dX1_readNumber_6 : decode cX1_readNumber 6 = .ok (.iload_n 1, 1) := by decide +kernel
theorem dX1_readNumber_7 : decode cX1_readNumber 7 = .ok (.if_icmp .ge 5, 3) := by decide +kernel
theorem dX1_readNumber_10 : decode cX1_readNumber 10 = .ok (.iconst (-1), 1) := by decide +kernel
theorem dX1_readNumber_11 : decode cX1_readNumber 11 = .ok (.ireturn, 1) := by decide +kernel
theorem dX1_readNumber_12 : decode cX1_readNumber 12 = .ok (.aload_n 0, 1) := by decide +kernel
theorem dX1_readNumber_13 : decode cX1_readNumber 13 = .ok (.dup, 1) := by decide +kernel
theorem dX1_readNumber_14 : decode cX1_readNumber 14 = .ok (.getfield 35, 3) := by decide +kernel
theorem dX1_readNumber_17 : decode cX1_readNumber 17 = .ok (.iconst 1, 1) := by decide +kernel
theorem dX1_readNumber_18 : decode cX1_readNumber 18 = .ok (.iadd, 1) := by decide +kernel
theorem dX1_readNumber_19 : decode cX1_readNumber 19 = .ok (.putfield 35, 3) := by decide +kernel
theorem dX1_readNumber_22 : decode cX1_readNumber 22 = .ok (.iconst 1, 1) := by decide +kernel
theorem dX1_readNumber_23 : decode cX1_readNumber 23 = .ok (.istore 4, 2) := by decide +kernel
theorem dX1_readNumber_25 : decode cX1_readNumber 25 = .ok (.iload 4, 2) := by decide +kernel
theorem dX1_readNumber_27 : decode cX1_readNumber 27 = .ok (.iconst 4, 1) := by decide +kernel
theorem dX1_readNumber_28 : decode cX1_readNumber 28 = .ok (.if_icmp .ge 56, 3) := by decide +kernel
theorem dX1_readNumber_31 : decode cX1_readNumber 31 = .ok (.aload_n 0, 1) := by decide +kernel
theorem dX1_readNumber_32 : decode cX1_readNumber 32 = .ok (.invokevirtual 80, 3) := by decide +kernel
theorem dX1_readNumber_35 : decode cX1_readNumber 35 = .ok (.istore 5, 2) := by decide +kernel
theorem dX1_readNumber_37 : decode cX1_readNumber 37 = .ok (.iload_n 3, 1) := by decide +kernel
theorem dX1_readNumber_38 : decode cX1_readNumber 38 = .ok (.ifCond .eq 20, 3) := by decide +kernel
theorem dX1_readNumber_41 : decode cX1_readNumber 41 = .ok (.iload 5, 2) := by decide +kernel
theorem dX1_readNumber_43 : decode cX1_readNumber 43 = .ok (.iconst (-1), 1) := by decide +kernel
theorem dX1_readNumber_44 : decode cX1_readNumber 44 = .ok (.if_icmp .eq 14, 3) := by decide +kernel
theorem dX1_readNumber_47 : decode cX1_readNumber 47 = .ok (.iload_n 3, 1) := by decide +kernel
theorem dX1_readNumber_48 : decode cX1_readNumber 48 = .ok (.bipush 10, 2) := by decide +kernel
theorem dX1_readNumber_50 : decode cX1_readNumber 50 = .ok (.imul, 1) := by decide +kernel
theorem dX1_readNumber_51 : decode cX1_readNumber 51 = .ok (.iload 5, 2) := by decide +kernel
theorem dX1_readNumber_53 : decode cX1_readNumber 53 = .ok (.iadd, 1) := by decide +kernel
theorem dX1_readNumber_54 : decode cX1_readNumber 54 = .ok (.iload_n 2, 1) := by decide +kernel
theorem dX1_readNumber_55 : decode cX1_readNumber 55 = .ok (.if_icmp .le 5, 3) := by decide +kernel
theorem dX1_readNumber_58 : decode cX1_readNumber 58 = .ok (.iload_n 3, 1) := by decide +kernel
theorem dX1_readNumber_59 : decode cX1_readNumber 59 = .ok (.ireturn, 1) := by decide +kernel
theorem dX1_readNumber_60 : decode cX1_readNumber 60 = .ok (.iload_n 3, 1) := by decide +kernel
theorem dX1_readNumber_61 : decode cX1_readNumber 61 = .ok (.bipush 10, 2) := by decide +kernel
theorem dX1_readNumber_63 : decode cX1_readNumber 63 = .ok (.imul, 1) := by decide +kernel
theorem dX1_readNumber_64 : decode cX1_readNumber 64 = .ok (.iload 5, 2) := by decide +kernel
theorem dX1_readNumber_66 : decode cX1_readNumber 66 = .ok (.iadd, 1) := by decide +kernel
theorem dX1_readNumber_67 : decode cX1_readNumber 67 = .ok (.istore_n 3, 1) := by decide +kernel
theorem dX1_readNumber_68 : decode cX1_readNumber 68 = .ok (.aload_n 0, 1) := by decide +kernel
theorem dX1_readNumber_69 : decode cX1_readNumber 69 = .ok (.dup, 1) := by decide +kernel
theorem dX1_readNumber_70 : decode cX1_readNumber 70 = .ok (.getfield 35, 3) := by decide +kernel
theorem dX1_readNumber_73 : decode cX1_readNumber 73 = .ok (.iconst 1, 1) := by decide +kernel
theorem dX1_readNumber_74 : decode cX1_readNumber 74 = .ok (.iadd, 1) := by decide +kernel
theorem dX1_readNumber_75 : decode cX1_readNumber 75 = .ok (.putfield 35, 3) := by decide +kernel
theorem dX1_readNumber_78 : decode cX1_readNumber 78 = .ok (.iinc 4 1, 3) := by decide +kernel
theorem dX1_readNumber_81 : decode cX1_readNumber 81 = .ok (.goto (-56), 3) := by decide +kernel
theorem dX1_readNumber_84 : decode cX1_readNumber 84 = .ok (.iload_n 3, 1) := by decide +kernel
theorem dX1_readNumber_85 : decode cX1_readNumber 85 = .ok (.ireturn, 1) := by decide +kernel
theorem dX1_nextDigit_0 : decode cX1_nextDigit 0 = .ok (.aload_n 0, 1) := by decide +kernel
theorem dX1_nextDigit_1 : decode cX1_nextDigit 1 = .ok (.invokevirtual 77, 3) := by decide +kernel
theorem dX1_nextDigit_4 : decode cX1_nextDigit 4 = .ok (.istore_n 1, 1) := by decide +kernel
theorem dX1_nextDigit_5 : decode cX1_nextDigit 5 = .ok (.iload_n 1, 1) := by decide +kernel
theorem dX1_nextDigit_6 : decode cX1_nextDigit 6 = .ok (.bipush 48, 2) := by decide +kernel
theorem dX1_nextDigit_8 : decode cX1_nextDigit 8 = .ok (.if_icmp .lt 16, 3) := by decide +kernel
theorem dX1_nextDigit_11 : decode cX1_nextDigit 11 = .ok (.iload_n 1, 1) := by decide +kernel
theorem dX1_nextDigit_12 : decode cX1_nextDigit 12 = .ok (.bipush 57, 2) := by decide +kernel
theorem dX1_nextDigit_14 : decode cX1_nextDigit 14 = .ok (.if_icmp .gt 10, 3) := by decide +kernel
theorem dX1_nextDigit_17 : decode cX1_nextDigit 17 = .ok (.iload_n 1, 1) := by decide +kernel
theorem dX1_nextDigit_18 : decode cX1_nextDigit 18 = .ok (.bipush 48, 2) := by decide +kernel
theorem dX1_nextDigit_20 : decode cX1_nextDigit 20 = .ok (.isub, 1) := by decide +kernel
theorem dX1_nextDigit_21 : decode cX1_nextDigit 21 = .ok (.goto 4, 3) := by decide +kernel
theorem dX1_nextDigit_24 : decode cX1_nextDigit 24 = .ok (.iconst (-1), 1) := by decide +kernel
theorem dX1_nextDigit_25 : decode cX1_nextDigit 25 = .ok (.ireturn, 1) := by decide +kernel
theorem dX1_takes_0 : decode cX1_takes 0 = .ok (.aload_n 0, 1) := by decide +kernel
theorem dX1_takes_1 : decode cX1_takes 1 = .ok (.invokevirtual 77, 3) := by decide +kernel
theorem dX1_takes_4 : decode cX1_takes 4 = .ok (.iload_n 1, 1) := by decide +kernel
theorem dX1_takes_5 : decode cX1_takes 5 = .ok (.if_icmp .eq 5, 3) := by decide +kernel
theorem dX1_takes_8 : decode cX1_takes 8 = .ok (.iconst 0, 1) := by decide +kernel
theorem dX1_takes_9 : decode cX1_takes 9 = .ok (.ireturn, 1) := by decide +kernel
theorem dX1_takes_10 : decode cX1_takes 10 = .ok (.aload_n 0, 1) := by decide +kernel
theorem dX1_takes_11 : decode cX1_takes 11 = .ok (.dup, 1) := by decide +kernel
theorem dX1_takes_12 : decode cX1_takes 12 = .ok (.getfield 35, 3) := by decide +kernel
theorem dX1_takes_15 : decode cX1_takes 15 = .ok (.iconst 1, 1) := by decide +kernel
theorem dX1_takes_16 : decode cX1_takes 16 = .ok (.iadd, 1) := by decide +kernel
theorem dX1_takes_17 : decode cX1_takes 17 = .ok (.putfield 35, 3) := by decide +kernel
theorem dX1_takes_20 : decode cX1_takes 20 = .ok (.iconst 1, 1) := by decide +kernel
theorem dX1_takes_21 : decode cX1_takes 21 = .ok (.ireturn, 1) := by decide +kernel
theorem dX1_next_0 : decode cX1_next 0 = .ok (.aload_n 0, 1) := by decide +kernel
theorem dX1_next_1 : decode cX1_next 1 = .ok (.getfield 35, 3) := by decide +kernel
theorem dX1_next_4 : decode cX1_next 4 = .ok (.ifCond .lt 26, 3) := by decide +kernel
theorem dX1_next_7 : decode cX1_next 7 = .ok (.aload_n 0, 1) := by decide +kernel
theorem dX1_next_8 : decode cX1_next 8 = .ok (.getfield 35, 3) := by decide +kernel
theorem dX1_next_11 : decode cX1_next 11 = .ok (.aload_n 0, 1) := by decide +kernel
theorem dX1_next_12 : decode cX1_next 12 = .ok (.getfield 15, 3) := by decide +kernel
theorem dX1_next_15 : decode cX1_next 15 = .ok (.if_icmp .ge 15, 3) := by decide +kernel
theorem dX1_next_18 : decode cX1_next 18 = .ok (.aload_n 0, 1) := by decide +kernel
theorem dX1_next_19 : decode cX1_next 19 = .ok (.getfield 9, 3) := by decide +kernel
theorem dX1_next_22 : decode cX1_next 22 = .ok (.aload_n 0, 1) := by decide +kernel
theorem dX1_next_23 : decode cX1_next 23 = .ok (.getfield 35, 3) := by decide +kernel
theorem dX1_next_26 : decode cX1_next 26 = .ok (.caload, 1) := by decide +kernel
theorem dX1_next_27 : decode cX1_next 27 = .ok (.goto 4, 3) := by decide +kernel
theorem dX1_next_30 : decode cX1_next 30 = .ok (.iconst (-1), 1) := by decide +kernel
theorem dX1_next_31 : decode cX1_next 31 = .ok (.ireturn, 1) := by decide +kernel
theorem dX1_noteAddition_0 : decode cX1_noteAddition 0 = .ok (.aload_n 0, 1) := by decide +kernel
theorem dX1_noteAddition_1 : decode cX1_noteAddition 1 = .ok (.getfield 32, 3) := by decide +kernel
theorem dX1_noteAddition_4 : decode cX1_noteAddition 4 = .ok (.bipush 12, 2) := by decide +kernel
theorem dX1_noteAddition_6 : decode cX1_noteAddition 6 = .ok (.if_icmp .lt 5, 3) := by decide +kernel
theorem dX1_noteAddition_9 : decode cX1_noteAddition 9 = .ok (.iconst 0, 1) := by decide +kernel
theorem dX1_noteAddition_10 : decode cX1_noteAddition 10 = .ok (.ireturn, 1) := by decide +kernel
theorem dX1_noteAddition_11 : decode cX1_noteAddition 11 = .ok (.aload_n 0, 1) := by decide +kernel
theorem dX1_noteAddition_12 : decode cX1_noteAddition 12 = .ok (.getfield 19, 3) := by decide +kernel
theorem dX1_noteAddition_15 : decode cX1_noteAddition 15 = .ok (.aload_n 0, 1) := by decide +kernel
theorem dX1_noteAddition_16 : decode cX1_noteAddition 16 = .ok (.getfield 32, 3) := by decide +kernel
theorem dX1_noteAddition_19 : decode cX1_noteAddition 19 = .ok (.iload_n 1, 1) := by decide +kernel
theorem dX1_noteAddition_20 : decode cX1_noteAddition 20 = .ok (.iastore, 1) := by decide +kernel
theorem dX1_noteAddition_21 : decode cX1_noteAddition 21 = .ok (.aload_n 0, 1) := by decide +kernel
theorem dX1_noteAddition_22 : decode cX1_noteAddition 22 = .ok (.getfield 23, 3) := by decide +kernel
theorem dX1_noteAddition_25 : decode cX1_noteAddition 25 = .ok (.aload_n 0, 1) := by decide +kernel
theorem dX1_noteAddition_26 : decode cX1_noteAddition 26 = .ok (.getfield 32, 3) := by decide +kernel
theorem dX1_noteAddition_29 : decode cX1_noteAddition 29 = .ok (.iload_n 2, 1) := by decide +kernel
theorem dX1_noteAddition_30 : decode cX1_noteAddition 30 = .ok (.iastore, 1) := by decide +kernel
theorem dX1_noteAddition_31 : decode cX1_noteAddition 31 = .ok (.aload_n 0, 1) := by decide +kernel
theorem dX1_noteAddition_32 : decode cX1_noteAddition 32 = .ok (.getfield 26, 3) := by decide +kernel
theorem dX1_noteAddition_35 : decode cX1_noteAddition 35 = .ok (.aload_n 0, 1) := by decide +kernel
theorem dX1_noteAddition_36 : decode cX1_noteAddition 36 = .ok (.getfield 32, 3) := by decide +kernel
theorem dX1_noteAddition_39 : decode cX1_noteAddition 39 = .ok (.iload_n 3, 1) := by decide +kernel
theorem dX1_noteAddition_40 : decode cX1_noteAddition 40 = .ok (.iastore, 1) := by decide +kernel
theorem dX1_noteAddition_41 : decode cX1_noteAddition 41 = .ok (.aload_n 0, 1) := by decide +kernel
theorem dX1_noteAddition_42 : decode cX1_noteAddition 42 = .ok (.getfield 29, 3) := by decide +kernel
theorem dX1_noteAddition_45 : decode cX1_noteAddition 45 = .ok (.aload_n 0, 1) := by decide +kernel
theorem dX1_noteAddition_46 : decode cX1_noteAddition 46 = .ok (.getfield 32, 3) := by decide +kernel
theorem dX1_noteAddition_49 : decode cX1_noteAddition 49 = .ok (.iload 4, 2) := by decide +kernel
theorem dX1_noteAddition_51 : decode cX1_noteAddition 51 = .ok (.iastore, 1) := by decide +kernel
theorem dX1_noteAddition_52 : decode cX1_noteAddition 52 = .ok (.aload_n 0, 1) := by decide +kernel
theorem dX1_noteAddition_53 : decode cX1_noteAddition 53 = .ok (.dup, 1) := by decide +kernel
theorem dX1_noteAddition_54 : decode cX1_noteAddition 54 = .ok (.getfield 32, 3) := by decide +kernel
theorem dX1_noteAddition_57 : decode cX1_noteAddition 57 = .ok (.iconst 1, 1) := by decide +kernel
theorem dX1_noteAddition_58 : decode cX1_noteAddition 58 = .ok (.iadd, 1) := by decide +kernel
theorem dX1_noteAddition_59 : decode cX1_noteAddition 59 = .ok (.putfield 32, 3) := by decide +kernel
theorem dX1_noteAddition_62 : decode cX1_noteAddition 62 = .ok (.iconst 1, 1) := by decide +kernel
theorem dX1_noteAddition_63 : decode cX1_noteAddition 63 = .ok (.ireturn, 1) := by decide +kernel
theorem dX2_init_0 : decode cX2_init 0 = .ok (.aload_n 0, 1) := by decide +kernel
theorem dX2_init_1 : decode cX2_init 1 = .ok (.invokespecial 3, 3) := by decide +kernel
theorem dX2_init_4 : decode cX2_init 4 = .ok (.aload_n 0, 1) := by decide +kernel
theorem dX2_init_5 : decode cX2_init 5 = .ok (.bipush 24, 2) := by decide +kernel
theorem dX2_init_7 : decode cX2_init 7 = .ok (.newarray .int, 2) := by decide +kernel
theorem dX2_init_9 : decode cX2_init 9 = .ok (.putfield 9, 3) := by decide +kernel
theorem dX2_init_12 : decode cX2_init 12 = .ok (.aload_n 0, 1) := by decide +kernel
theorem dX2_init_13 : decode cX2_init 13 = .ok (.bipush 24, 2) := by decide +kernel
theorem dX2_init_15 : decode cX2_init 15 = .ok (.newarray .int, 2) := by decide +kernel
theorem dX2_init_17 : decode cX2_init 17 = .ok (.putfield 15, 3) := by decide +kernel
theorem dX2_init_20 : decode cX2_init 20 = .ok (.aload_n 0, 1) := by decide +kernel
theorem dX2_init_21 : decode cX2_init 21 = .ok (.bipush 24, 2) := by decide +kernel
theorem dX2_init_23 : decode cX2_init 23 = .ok (.newarray .int, 2) := by decide +kernel
theorem dX2_init_25 : decode cX2_init 25 = .ok (.putfield 18, 3) := by decide +kernel
theorem dX2_init_28 : decode cX2_init 28 = .ok (.aload_n 0, 1) := by decide +kernel
theorem dX2_init_29 : decode cX2_init 29 = .ok (.bipush 24, 2) := by decide +kernel
theorem dX2_init_31 : decode cX2_init 31 = .ok (.newarray .int, 2) := by decide +kernel
theorem dX2_init_33 : decode cX2_init 33 = .ok (.putfield 21, 3) := by decide +kernel
theorem dX2_init_36 : decode cX2_init 36 = .ok (.aload_n 0, 1) := by decide +kernel
theorem dX2_init_37 : decode cX2_init 37 = .ok (.bipush 24, 2) := by decide +kernel
theorem dX2_init_39 : decode cX2_init 39 = .ok (.newarray .int, 2) := by decide +kernel
theorem dX2_init_41 : decode cX2_init 41 = .ok (.putfield 24, 3) := by decide +kernel
theorem dX2_init_44 : decode cX2_init 44 = .ok (.aload_n 0, 1) := by decide +kernel
theorem dX2_init_45 : decode cX2_init 45 = .ok (.iconst 0, 1) := by decide +kernel
theorem dX2_init_46 : decode cX2_init 46 = .ok (.putfield 27, 3) := by decide +kernel
theorem dX2_init_49 : decode cX2_init 49 = .ok (.aload_n 0, 1) := by decide +kernel
theorem dX2_init_50 : decode cX2_init 50 = .ok (.iconst 2, 1) := by decide +kernel
theorem dX2_init_51 : decode cX2_init 51 = .ok (.putfield 31, 3) := by decide +kernel
theorem dX2_init_54 : decode cX2_init 54 = .ok (.aload_n 0, 1) := by decide +kernel
theorem dX2_init_55 : decode cX2_init 55 = .ok (.iconst 0, 1) := by decide +kernel
theorem dX2_init_56 : decode cX2_init 56 = .ok (.putfield 34, 3) := by decide +kernel
theorem dX2_init_59 : decode cX2_init 59 = .ok (.aload_n 0, 1) := by decide +kernel
theorem dX2_init_60 : decode cX2_init 60 = .ok (.iconst 0, 1) := by decide +kernel
theorem dX2_init_61 : decode cX2_init 61 = .ok (.putfield 37, 3) := by decide +kernel
theorem dX2_init_64 : decode cX2_init 64 = .ok (.aload_n 0, 1) := by decide +kernel
theorem dX2_init_65 : decode cX2_init 65 = .ok (.iconst 0, 1) := by decide +kernel
theorem dX2_init_66 : decode cX2_init 66 = .ok (.putfield 40, 3) := by decide +kernel
theorem dX2_init_69 : decode cX2_init 69 = .ok (.return_, 1) := by decide +kernel
theorem dX2_copyFrom_0 : decode cX2_copyFrom 0 = .ok (.aload_n 1, 1) := by decide +kernel
theorem dX2_copyFrom_1 : decode cX2_copyFrom 1 = .ok (.getfield 9, 3) := by decide +kernel
theorem dX2_copyFrom_4 : decode cX2_copyFrom 4 = .ok (.iconst 0, 1) := by decide +kernel
theorem dX2_copyFrom_5 : decode cX2_copyFrom 5 = .ok (.aload_n 0, 1) := by decide +kernel
theorem dX2_copyFrom_6 : decode cX2_copyFrom 6 = .ok (.getfield 9, 3) := by decide +kernel
theorem dX2_copyFrom_9 : decode cX2_copyFrom 9 = .ok (.iconst 0, 1) := by decide +kernel
theorem dX2_copyFrom_10 : decode cX2_copyFrom 10 = .ok (.bipush 24, 2) := by decide +kernel
theorem dX2_copyFrom_12 : decode cX2_copyFrom 12 = .ok (.invokestatic 43, 3) := by decide +kernel
theorem dX2_copyFrom_15 : decode cX2_copyFrom 15 = .ok (.aload_n 1, 1) := by decide +kernel
theorem dX2_copyFrom_16 : decode cX2_copyFrom 16 = .ok (.getfield 15, 3) := by decide +kernel
theorem dX2_copyFrom_19 : decode cX2_copyFrom 19 = .ok (.iconst 0, 1) := by decide +kernel
theorem dX2_copyFrom_20 : decode cX2_copyFrom 20 = .ok (.aload_n 0, 1) := by decide +kernel
theorem dX2_copyFrom_21 : decode cX2_copyFrom 21 = .ok (.getfield 15, 3) := by decide +kernel
theorem dX2_copyFrom_24 : decode cX2_copyFrom 24 = .ok (.iconst 0, 1) := by decide +kernel
theorem dX2_copyFrom_25 : decode cX2_copyFrom 25 = .ok (.bipush 24, 2) := by decide +kernel
theorem dX2_copyFrom_27 : decode cX2_copyFrom 27 = .ok (.invokestatic 43, 3) := by decide +kernel
theorem dX2_copyFrom_30 : decode cX2_copyFrom 30 = .ok (.aload_n 1, 1) := by decide +kernel
theorem dX2_copyFrom_31 : decode cX2_copyFrom 31 = .ok (.getfield 18, 3) := by decide +kernel
theorem dX2_copyFrom_34 : decode cX2_copyFrom 34 = .ok (.iconst 0, 1) := by decide +kernel
theorem dX2_copyFrom_35 : decode cX2_copyFrom 35 = .ok (.aload_n 0, 1) := by decide +kernel
theorem dX2_copyFrom_36 : decode cX2_copyFrom 36 = .ok (.getfield 18, 3) := by decide +kernel
theorem dX2_copyFrom_39 : decode cX2_copyFrom 39 = .ok (.iconst 0, 1) := by decide +kernel
theorem dX2_copyFrom_40 : decode cX2_copyFrom 40 = .ok (.bipush 24, 2) := by decide +kernel
theorem dX2_copyFrom_42 : decode cX2_copyFrom 42 = .ok (.invokestatic 43, 3) := by decide +kernel
theorem dX2_copyFrom_45 : decode cX2_copyFrom 45 = .ok (.aload_n 1, 1) := by decide +kernel
theorem dX2_copyFrom_46 : decode cX2_copyFrom 46 = .ok (.getfield 21, 3) := by decide +kernel
theorem dX2_copyFrom_49 : decode cX2_copyFrom 49 = .ok (.iconst 0, 1) := by decide +kernel
theorem dX2_copyFrom_50 : decode cX2_copyFrom 50 = .ok (.aload_n 0, 1) := by decide +kernel
theorem dX2_copyFrom_51 : decode cX2_copyFrom 51 = .ok (.getfield 21, 3) := by decide +kernel
theorem dX2_copyFrom_54 : decode cX2_copyFrom 54 = .ok (.iconst 0, 1) := by decide +kernel
theorem dX2_copyFrom_55 : decode cX2_copyFrom 55 = .ok (.bipush 24, 2) := by decide +kernel
theorem dX2_copyFrom_57 : decode cX2_copyFrom 57 = .ok (.invokestatic 43, 3) := by decide +kernel
theorem dX2_copyFrom_60 : decode cX2_copyFrom 60 = .ok (.aload_n 1, 1) := by decide +kernel
theorem dX2_copyFrom_61 : decode cX2_copyFrom 61 = .ok (.getfield 24, 3) := by decide +kernel
theorem dX2_copyFrom_64 : decode cX2_copyFrom 64 = .ok (.iconst 0, 1) := by decide +kernel
theorem dX2_copyFrom_65 : decode cX2_copyFrom 65 = .ok (.aload_n 0, 1) := by decide +kernel
theorem dX2_copyFrom_66 : decode cX2_copyFrom 66 = .ok (.getfield 24, 3) := by decide +kernel
theorem dX2_copyFrom_69 : decode cX2_copyFrom 69 = .ok (.iconst 0, 1) := by decide +kernel
theorem dX2_copyFrom_70 : decode cX2_copyFrom 70 = .ok (.bipush 24, 2) := by decide +kernel
theorem dX2_copyFrom_72 : decode cX2_copyFrom 72 = .ok (.invokestatic 43, 3) := by decide +kernel
theorem dX2_copyFrom_75 : decode cX2_copyFrom 75 = .ok (.aload_n 0, 1) := by decide +kernel
theorem dX2_copyFrom_76 : decode cX2_copyFrom 76 = .ok (.aload_n 1, 1) := by decide +kernel
theorem dX2_copyFrom_77 : decode cX2_copyFrom 77 = .ok (.getfield 27, 3) := by decide +kernel
theorem dX2_copyFrom_80 : decode cX2_copyFrom 80 = .ok (.putfield 27, 3) := by decide +kernel
theorem dX2_copyFrom_83 : decode cX2_copyFrom 83 = .ok (.aload_n 0, 1) := by decide +kernel
theorem dX2_copyFrom_84 : decode cX2_copyFrom 84 = .ok (.aload_n 1, 1) := by decide +kernel
theorem dX2_copyFrom_85 : decode cX2_copyFrom 85 = .ok (.getfield 31, 3) := by decide +kernel
theorem dX2_copyFrom_88 : decode cX2_copyFrom 88 = .ok (.putfield 31, 3) := by decide +kernel
theorem dX2_copyFrom_91 : decode cX2_copyFrom 91 = .ok (.aload_n 0, 1) := by decide +kernel
theorem dX2_copyFrom_92 : decode cX2_copyFrom 92 = .ok (.aload_n 1, 1) := by decide +kernel
theorem dX2_copyFrom_93 : decode cX2_copyFrom 93 = .ok (.getfield 34, 3) := by decide +kernel
theorem dX2_copyFrom_96 : decode cX2_copyFrom 96 = .ok (.putfield 34, 3) := by decide +kernel
theorem dX2_copyFrom_99 : decode cX2_copyFrom 99 = .ok (.aload_n 0, 1) := by decide +kernel
theorem dX2_copyFrom_100 : decode cX2_copyFrom 100 = .ok (.aload_n 1, 1) := by decide +kernel
theorem dX2_copyFrom_101 : decode cX2_copyFrom 101 = .ok (.getfield 37, 3) := by decide +kernel
theorem dX2_copyFrom_104 : decode cX2_copyFrom 104 = .ok (.putfield 37, 3) := by decide +kernel
theorem dX2_copyFrom_107 : decode cX2_copyFrom 107 = .ok (.aload_n 0, 1) := by decide +kernel
theorem dX2_copyFrom_108 : decode cX2_copyFrom 108 = .ok (.aload_n 1, 1) := by decide +kernel
theorem dX2_copyFrom_109 : decode cX2_copyFrom 109 = .ok (.getfield 40, 3) := by decide +kernel
theorem dX2_copyFrom_112 : decode cX2_copyFrom 112 = .ok (.putfield 40, 3) := by decide +kernel
theorem dX2_copyFrom_115 : decode cX2_copyFrom 115 = .ok (.return_, 1) := by decide +kernel
theorem dX2_addMember_0 : decode cX2_addMember 0 = .ok (.iload_n 1, 1) := by decide +kernel
theorem dX2_addMember_1 : decode cX2_addMember 1 = .ok (.invokestatic 49, 3) := by decide +kernel
theorem dX2_addMember_4 : decode cX2_addMember 4 = .ok (.ifCond .eq 17, 3) := by decide +kernel
theorem dX2_addMember_7 : decode cX2_addMember 7 = .ok (.iload_n 2, 1) := by decide +kernel
theorem dX2_addMember_8 : decode cX2_addMember 8 = .ok (.invokestatic 53, 3) := by decide +kernel
theorem dX2_addMember_11 : decode cX2_addMember 11 = .ok (.ifCond .eq 10, 3) := by decide +kernel
theorem dX2_addMember_14 : decode cX2_addMember 14 = .ok (.iload_n 3, 1) := by decide +kernel
theorem dX2_addMember_15 : decode cX2_addMember 15 = .ok (.invokestatic 56, 3) := by decide +kernel
theorem dX2_addMember_18 : decode cX2_addMember 18 = .ok (.ifCond .ne 6, 3) := by decide +kernel
theorem dX2_addMember_21 : decode cX2_addMember 21 = .ok (.bipush (-2), 2) := by decide +kernel
theorem dX2_addMember_23 : decode cX2_addMember 23 = .ok (.ireturn, 1) := by decide +kernel
theorem dX2_addMember_24 : decode cX2_addMember 24 = .ok (.aload_n 0, 1) := by decide +kernel
theorem dX2_addMember_25 : decode cX2_addMember 25 = .ok (.aload_n 0, 1) := by decide +kernel
theorem dX2_addMember_26 : decode cX2_addMember 26 = .ok (.iload_n 1, 1) := by decide +kernel
theorem dX2_addMember_27 : decode cX2_addMember 27 = .ok (.invokevirtual 59, 3) := by decide +kernel
theorem dX2_addMember_30 : decode cX2_addMember 30 = .ok (.invokevirtual 63, 3) := by decide +kernel
theorem dX2_addMember_33 : decode cX2_addMember 33 = .ok (.ifCond .eq 6, 3) := by decide +kernel
theorem dX2_addMember_36 : decode cX2_addMember 36 = .ok (.bipush (-7), 2) := by decide +kernel
theorem dX2_addMember_38 : decode cX2_addMember 38 = .ok (.ireturn, 1) := by decide +kernel
theorem dX2_addMember_39 : decode cX2_addMember 39 = .ok (.aload_n 0, 1) := by decide +kernel
theorem dX2_addMember_40 : decode cX2_addMember 40 = .ok (.invokevirtual 66, 3) := by decide +kernel
theorem dX2_addMember_43 : decode cX2_addMember 43 = .ok (.ifCond .eq 6, 3) := by decide +kernel
theorem dX2_addMember_46 : decode cX2_addMember 46 = .ok (.bipush (-6), 2) := by decide +kernel
theorem dX2_addMember_48 : decode cX2_addMember 48 = .ok (.ireturn, 1) := by decide +kernel
theorem dX2_addMember_49 : decode cX2_addMember 49 = .ok (.aload_n 0, 1) := by decide +kernel
theorem dX2_addMember_50 : decode cX2_addMember 50 = .ok (.iload_n 2, 1) := by decide +kernel
theorem dX2_addMember_51 : decode cX2_addMember 51 = .ok (.invokevirtual 70, 3) := by decide +kernel
theorem dX2_addMember_54 : decode cX2_addMember 54 = .ok (.ifCond .ne 6, 3) := by decide +kernel
theorem dX2_addMember_57 : decode cX2_addMember 57 = .ok (.bipush (-3), 2) := by decide +kernel
theorem dX2_addMember_59 : decode cX2_addMember 59 = .ok (.ireturn, 1) := by decide +kernel
theorem dX2_addMember_60 : decode cX2_addMember 60 = .ok (.aload_n 0, 1) := by decide +kernel
theorem dX2_addMember_61 : decode cX2_addMember 61 = .ok (.iload_n 2, 1) := by decide +kernel
theorem dX2_addMember_62 : decode cX2_addMember 62 = .ok (.invokevirtual 73, 3) := by decide +kernel
theorem dX2_addMember_65 : decode cX2_addMember 65 = .ok (.istore 4, 2) := by decide +kernel
theorem dX2_addMember_67 : decode cX2_addMember 67 = .ok (.aload_n 0, 1) := by decide +kernel
theorem dX2_addMember_68 : decode cX2_addMember 68 = .ok (.iload_n 1, 1) := by decide +kernel
theorem dX2_addMember_69 : decode cX2_addMember 69 = .ok (.bipush (-5), 2) := by decide +kernel
theorem dX2_addMember_71 : decode cX2_addMember 71 = .ok (.iload 4, 2) := by decide +kernel
theorem dX2_addMember_73 : decode cX2_addMember 73 = .ok (.iload_n 2, 1) := by decide +kernel
theorem dX2_addMember_74 : decode cX2_addMember 74 = .ok (.iload_n 3, 1) := by decide +kernel
theorem dX2_addMember_75 : decode cX2_addMember 75 = .ok (.invokevirtual 76, 3) := by decide +kernel
theorem dX2_addMember_78 : decode cX2_addMember 78 = .ok (.pop, 1) := by decide +kernel
theorem dX2_addMember_79 : decode cX2_addMember 79 = .ok (.iload 4, 2) := by decide +kernel
theorem dX2_addMember_81 : decode cX2_addMember 81 = .ok (.ireturn, 1) := by decide +kernel
theorem dX2_replaceText_0 : decode cX2_replaceText 0 = .ok (.aload_n 0, 1) := by decide +kernel
theorem dX2_replaceText_1 : decode cX2_replaceText 1 = .ok (.iload_n 1, 1) := by decide +kernel
theorem dX2_replaceText_2 : decode cX2_replaceText 2 = .ok (.invokevirtual 59, 3) := by decide +kernel
theorem dX2_replaceText_5 : decode cX2_replaceText 5 = .ok (.istore 4, 2) := by decide +kernel
theorem dX2_replaceText_7 : decode cX2_replaceText 7 = .ok (.aload_n 0, 1) := by decide +kernel
theorem dX2_replaceText_8 : decode cX2_replaceText 8 = .ok (.iload 4, 2) := by decide +kernel
theorem dX2_replaceText_10 : decode cX2_replaceText 10 = .ok (.invokevirtual 80, 3) := by decide +kernel
theorem dX2_replaceText_13 : decode cX2_replaceText 13 = .ok (.ifCond .ne 5, 3) := by decide +kernel
theorem dX2_replaceText_16 : decode cX2_replaceText 16 = .ok (.iconst (-1), 1) := by decide +kernel
theorem dX2_replaceText_17 : decode cX2_replaceText 17 = .ok (.ireturn, 1) := by decide +kernel
theorem dX2_replaceText_18 : decode cX2_replaceText 18 = .ok (.iload_n 2, 1) := by decide +kernel
theorem dX2_replaceText_19 : decode cX2_replaceText 19 = .ok (.invokestatic 53, 3) := by decide +kernel
theorem dX2_replaceText_22 : decode cX2_replaceText 22 = .ok (.ifCond .eq 10, 3) := by decide +kernel
theorem dX2_replaceText_25 : decode cX2_replaceText 25 = .ok (.iload_n 3, 1) := by decide +kernel
theorem dX2_replaceText_26 : decode cX2_replaceText 26 = .ok (.invokestatic 56, 3) := by decide +kernel
theorem dX2_replaceText_29 : decode cX2_replaceText 29 = .ok (.ifCond .ne 6, 3) := by decide +kernel
theorem dX2_replaceText_32 : decode cX2_replaceText 32 = .ok (.bipush (-2), 2) := by decide +kernel
theorem dX2_replaceText_34 : decode cX2_replaceText 34 = .ok (.ireturn, 1) := by decide +kernel
theorem dX2_replaceText_35 : decode cX2_replaceText 35 = .ok (.aload_n 0, 1) := by decide +kernel
theorem dX2_replaceText_36 : decode cX2_replaceText 36 = .ok (.iload_n 2, 1) := by decide +kernel
theorem dX2_replaceText_37 : decode cX2_replaceText 37 = .ok (.invokevirtual 70, 3) := by decide +kernel
theorem dX2_replaceText_40 : decode cX2_replaceText 40 = .ok (.ifCond .ne 6, 3) := by decide +kernel
theorem dX2_replaceText_43 : decode cX2_replaceText 43 = .ok (.bipush (-3), 2) := by decide +kernel
theorem dX2_replaceText_45 : decode cX2_replaceText 45 = .ok (.ireturn, 1) := by decide +kernel
theorem dX2_replaceText_46 : decode cX2_replaceText 46 = .ok (.aload_n 0, 1) := by decide +kernel
theorem dX2_replaceText_47 : decode cX2_replaceText 47 = .ok (.iload_n 2, 1) := by decide +kernel
theorem dX2_replaceText_48 : decode cX2_replaceText 48 = .ok (.invokevirtual 73, 3) := by decide +kernel
theorem dX2_replaceText_51 : decode cX2_replaceText 51 = .ok (.istore 5, 2) := by decide +kernel
theorem dX2_replaceText_53 : decode cX2_replaceText 53 = .ok (.aload_n 0, 1) := by decide +kernel
theorem dX2_replaceText_54 : decode cX2_replaceText 54 = .ok (.iload 4, 2) := by decide +kernel
theorem dX2_replaceText_56 : decode cX2_replaceText 56 = .ok (.iload_n 1, 1) := by decide +kernel
theorem dX2_replaceText_57 : decode cX2_replaceText 57 = .ok (.bipush (-5), 2) := by decide +kernel
theorem dX2_replaceText_59 : decode cX2_replaceText 59 = .ok (.iload 5, 2) := by decide +kernel
theorem dX2_replaceText_61 : decode cX2_replaceText 61 = .ok (.iload_n 2, 1) := by decide +kernel
theorem dX2_replaceText_62 : decode cX2_replaceText 62 = .ok (.iload_n 3, 1) := by decide +kernel
theorem dX2_replaceText_63 : decode cX2_replaceText 63 = .ok (.invokevirtual 83, 3) := by decide +kernel
theorem dX2_replaceText_66 : decode cX2_replaceText 66 = .ok (.iload 5, 2) := by decide +kernel
theorem dX2_replaceText_68 : decode cX2_replaceText 68 = .ok (.ireturn, 1) := by decide +kernel
theorem dX2_removeEntry_0 : decode cX2_removeEntry 0 = .ok (.aload_n 0, 1) := by decide +kernel
theorem dX2_removeEntry_1 : decode cX2_removeEntry 1 = .ok (.iload_n 1, 1) := by decide +kernel
theorem dX2_removeEntry_2 : decode cX2_removeEntry 2 = .ok (.invokevirtual 59, 3) := by decide +kernel
theorem dX2_removeEntry_5 : decode cX2_removeEntry 5 = .ok (.istore_n 2, 1) := by decide +kernel
theorem dX2_removeEntry_6 : decode cX2_removeEntry 6 = .ok (.aload_n 0, 1) := by decide +kernel
theorem dX2_removeEntry_7 : decode cX2_removeEntry 7 = .ok (.iload_n 2, 1) := by decide +kernel
theorem dX2_removeEntry_8 : decode cX2_removeEntry 8 = .ok (.invokevirtual 63, 3) := by decide +kernel
theorem dX2_removeEntry_11 : decode cX2_removeEntry 11 = .ok (.ifCond .ne 5, 3) := by decide +kernel
theorem dX2_removeEntry_14 : decode cX2_removeEntry 14 = .ok (.iconst (-1), 1) := by decide +kernel
theorem dX2_removeEntry_15 : decode cX2_removeEntry 15 = .ok (.ireturn, 1) := by decide +kernel
theorem dX2_removeEntry_16 : decode cX2_removeEntry 16 = .ok (.aload_n 0, 1) := by decide +kernel
theorem dX2_removeEntry_17 : decode cX2_removeEntry 17 = .ok (.iload_n 2, 1) := by decide +kernel
theorem dX2_removeEntry_18 : decode cX2_removeEntry 18 = .ok (.invokevirtual 87, 3) := by decide +kernel
theorem dX2_removeEntry_21 : decode cX2_removeEntry 21 = .ok (.aload_n 0, 1) := by decide +kernel
theorem dX2_removeEntry_22 : decode cX2_removeEntry 22 = .ok (.getfield 27, 3) := by decide +kernel
theorem dX2_removeEntry_25 : decode cX2_removeEntry 25 = .ok (.ireturn, 1) := by decide +kernel
theorem dX2_renameEntry_0 : decode cX2_renameEntry 0 = .ok (.aload_n 0, 1) := by decide +kernel
theorem dX2_renameEntry_1 : decode cX2_renameEntry 1 = .ok (.iload_n 1, 1) := by decide +kernel
theorem dX2_renameEntry_2 : decode cX2_renameEntry 2 = .ok (.invokevirtual 59, 3) := by decide +kernel
theorem dX2_renameEntry_5 : decode cX2_renameEntry 5 = .ok (.istore_n 3, 1) := by decide +kernel
theorem dX2_renameEntry_6 : decode cX2_renameEntry 6 = .ok (.aload_n 0, 1) := by decide +kernel
theorem dX2_renameEntry_7 : decode cX2_renameEntry 7 = .ok (.iload_n 3, 1) := by decide +kernel
theorem dX2_renameEntry_8 : decode cX2_renameEntry 8 = .ok (.invokevirtual 63, 3) := by decide +kernel
theorem dX2_renameEntry_11 : decode cX2_renameEntry 11 = .ok (.ifCond .ne 5, 3) := by decide +kernel
theorem dX2_renameEntry_14 : decode cX2_renameEntry 14 = .ok (.iconst (-1), 1) := by decide +kernel
theorem dX2_renameEntry_15 : decode cX2_renameEntry 15 = .ok (.ireturn, 1) := by decide +kernel
theorem dX2_renameEntry_16 : decode cX2_renameEntry 16 = .ok (.iload_n 2, 1) := by decide +kernel
theorem dX2_renameEntry_17 : decode cX2_renameEntry 17 = .ok (.invokestatic 49, 3) := by decide +kernel
theorem dX2_renameEntry_20 : decode cX2_renameEntry 20 = .ok (.ifCond .ne 6, 3) := by decide +kernel
theorem dX2_renameEntry_23 : decode cX2_renameEntry 23 = .ok (.bipush (-2), 2) := by decide +kernel
theorem dX2_renameEntry_25 : decode cX2_renameEntry 25 = .ok (.ireturn, 1) := by decide +kernel
theorem dX2_renameEntry_26 : decode cX2_renameEntry 26 = .ok (.aload_n 0, 1) := by decide +kernel
theorem dX2_renameEntry_27 : decode cX2_renameEntry 27 = .ok (.iload_n 2, 1) := by decide +kernel
theorem dX2_renameEntry_28 : decode cX2_renameEntry 28 = .ok (.invokevirtual 59, 3) := by decide +kernel
theorem dX2_renameEntry_31 : decode cX2_renameEntry 31 = .ok (.istore 4, 2) := by decide +kernel
theorem dX2_renameEntry_33 : decode cX2_renameEntry 33 = .ok (.iload 4, 2) := by decide +kernel
theorem dX2_renameEntry_35 : decode cX2_renameEntry 35 = .ok (.iload_n 3, 1) := by decide +kernel
theorem dX2_renameEntry_36 : decode cX2_renameEntry 36 = .ok (.if_icmp .ne 6, 3) := by decide +kernel
theorem dX2_renameEntry_39 : decode cX2_renameEntry 39 = .ok (.bipush (-5), 2) := by decide +kernel
theorem dX2_renameEntry_41 : decode cX2_renameEntry 41 = .ok (.ireturn, 1) := by decide +kernel
theorem dX2_renameEntry_42 : decode cX2_renameEntry 42 = .ok (.aload_n 0, 1) := by decide +kernel
theorem dX2_renameEntry_43 : decode cX2_renameEntry 43 = .ok (.iload 4, 2) := by decide +kernel
theorem dX2_renameEntry_45 : decode cX2_renameEntry 45 = .ok (.invokevirtual 63, 3) := by decide +kernel
theorem dX2_renameEntry_48 : decode cX2_renameEntry 48 = .ok (.ifCond .eq 6, 3) := by decide +kernel
theorem dX2_renameEntry_51 : decode cX2_renameEntry 51 = .ok (.bipush (-7), 2) := by decide +kernel
theorem dX2_renameEntry_53 : decode cX2_renameEntry 53 = .ok (.ireturn, 1) := by decide +kernel
theorem dX2_renameEntry_54 : decode cX2_renameEntry 54 = .ok (.aload_n 0, 1) := by decide +kernel
theorem dX2_renameEntry_55 : decode cX2_renameEntry 55 = .ok (.iload_n 3, 1) := by decide +kernel
theorem dX2_renameEntry_56 : decode cX2_renameEntry 56 = .ok (.invokevirtual 80, 3) := by decide +kernel
theorem dX2_renameEntry_59 : decode cX2_renameEntry 59 = .ok (.ifCond .eq 9, 3) := by decide +kernel
theorem dX2_renameEntry_62 : decode cX2_renameEntry 62 = .ok (.aload_n 0, 1) := by decide +kernel
theorem dX2_renameEntry_63 : decode cX2_renameEntry 63 = .ok (.iload_n 1, 1) := by decide +kernel
theorem dX2_renameEntry_64 : decode cX2_renameEntry 64 = .ok (.iload_n 2, 1) := by decide +kernel
theorem dX2_renameEntry_65 : decode cX2_renameEntry 65 = .ok (.invokevirtual 91, 3) := by decide +kernel
theorem dX2_renameEntry_68 : decode cX2_renameEntry 68 = .ok (.aload_n 0, 1) := by decide +kernel
theorem dX2_renameEntry_69 : decode cX2_renameEntry 69 = .ok (.getfield 15, 3) := by decide +kernel
theorem dX2_renameEntry_72 : decode cX2_renameEntry 72 = .ok (.iload_n 3, 1) := by decide +kernel
theorem dX2_renameEntry_73 : decode cX2_renameEntry 73 = .ok (.iaload, 1) := by decide +kernel
theorem dX2_renameEntry_74 : decode cX2_renameEntry 74 = .ok (.istore 5, 2) := by decide +kernel
theorem dX2_renameEntry_76 : decode cX2_renameEntry 76 = .ok (.aload_n 0, 1) := by decide +kernel
theorem dX2_renameEntry_77 : decode cX2_renameEntry 77 = .ok (.getfield 18, 3) := by decide +kernel
theorem dX2_renameEntry_80 : decode cX2_renameEntry 80 = .ok (.iload_n 3, 1) := by decide +kernel
theorem dX2_renameEntry_81 : decode cX2_renameEntry 81 = .ok (.iaload, 1) := by decide +kernel
theorem dX2_renameEntry_82 : decode cX2_renameEntry 82 = .ok (.istore 6, 2) := by decide +kernel
theorem dX2_renameEntry_84 : decode cX2_renameEntry 84 = .ok (.aload_n 0, 1) := by decide +kernel
theorem dX2_renameEntry_85 : decode cX2_renameEntry 85 = .ok (.getfield 21, 3) := by decide +kernel
theorem dX2_renameEntry_88 : decode cX2_renameEntry 88 = .ok (.iload_n 3, 1) := by decide +kernel
theorem dX2_renameEntry_89 : decode cX2_renameEntry 89 = .ok (.iaload, 1) := by decide +kernel
theorem dX2_renameEntry_90 : decode cX2_renameEntry 90 = .ok (.istore 7, 2) := by decide +kernel
theorem dX2_renameEntry_92 : decode cX2_renameEntry 92 = .ok (.aload_n 0, 1) := by decide +kernel
theorem dX2_renameEntry_93 : decode cX2_renameEntry 93 = .ok (.getfield 24, 3) := by decide +kernel
theorem dX2_renameEntry_96 : decode cX2_renameEntry 96 = .ok (.iload_n 3, 1) := by decide +kernel
theorem dX2_renameEntry_97 : decode cX2_renameEntry 97 = .ok (.iaload, 1) := by decide +kernel
theorem dX2_renameEntry_98 : decode cX2_renameEntry 98 = .ok (.istore 8, 2) := by decide +kernel
theorem dX2_renameEntry_100 : decode cX2_renameEntry 100 = .ok (.aload_n 0, 1) := by decide +kernel
theorem dX2_renameEntry_101 : decode cX2_renameEntry 101 = .ok (.iload_n 3, 1) := by decide +kernel
theorem dX2_renameEntry_102 : decode cX2_renameEntry 102 = .ok (.invokevirtual 87, 3) := by decide +kernel
theorem dX2_renameEntry_105 : decode cX2_renameEntry 105 = .ok (.aload_n 0, 1) := by decide +kernel
theorem dX2_renameEntry_106 : decode cX2_renameEntry 106 = .ok (.iload_n 2, 1) := by decide +kernel
theorem dX2_renameEntry_107 : decode cX2_renameEntry 107 = .ok (.iload 5, 2) := by decide +kernel
theorem dX2_renameEntry_109 : decode cX2_renameEntry 109 = .ok (.iload 6, 2) := by decide +kernel
theorem dX2_renameEntry_111 : decode cX2_renameEntry 111 = .ok (.iload 7, 2) := by decide +kernel
theorem dX2_renameEntry_113 : decode cX2_renameEntry 113 = .ok (.iload 8, 2) := by decide +kernel
theorem dX2_renameEntry_115 : decode cX2_renameEntry 115 = .ok (.invokevirtual 76, 3) := by decide +kernel
theorem dX2_renameEntry_118 : decode cX2_renameEntry 118 = .ok (.ireturn, 1) := by decide +kernel
theorem dX2_giveAlias_0 : decode cX2_giveAlias 0 = .ok (.aload_n 0, 1) := by decide +kernel
theorem dX2_giveAlias_1 : decode cX2_giveAlias 1 = .ok (.iload_n 2, 1) := by decide +kernel
theorem dX2_giveAlias_2 : decode cX2_giveAlias 2 = .ok (.invokevirtual 59, 3) := by decide +kernel
theorem dX2_giveAlias_5 : decode cX2_giveAlias 5 = .ok (.istore_n 3, 1) := by decide +kernel
theorem dX2_giveAlias_6 : decode cX2_giveAlias 6 = .ok (.aload_n 0, 1) := by decide +kernel
theorem dX2_giveAlias_7 : decode cX2_giveAlias 7 = .ok (.iload_n 3, 1) := by decide +kernel
theorem dX2_giveAlias_8 : decode cX2_giveAlias 8 = .ok (.invokevirtual 80, 3) := by decide +kernel
theorem dX2_giveAlias_11 : decode cX2_giveAlias 11 = .ok (.ifCond .ne 5, 3) := by decide +kernel
theorem dX2_giveAlias_14 : decode cX2_giveAlias 14 = .ok (.iconst (-1), 1) := by decide +kernel
theorem dX2_giveAlias_15 : decode cX2_giveAlias 15 = .ok (.ireturn, 1) := by decide +kernel
theorem dX2_giveAlias_16 : decode cX2_giveAlias 16 = .ok (.iload_n 1, 1) := by decide +kernel
theorem dX2_giveAlias_17 : decode cX2_giveAlias 17 = .ok (.invokestatic 49, 3) := by decide +kernel
theorem dX2_giveAlias_20 : decode cX2_giveAlias 20 = .ok (.ifCond .ne 6, 3) := by decide +kernel
theorem dX2_giveAlias_23 : decode cX2_giveAlias 23 = .ok (.bipush (-2), 2) := by decide +kernel
theorem dX2_giveAlias_25 : decode cX2_giveAlias 25 = .ok (.ireturn, 1) := by decide +kernel
theorem dX2_giveAlias_26 : decode cX2_giveAlias 26 = .ok (.aload_n 0, 1) := by decide +kernel
theorem dX2_giveAlias_27 : decode cX2_giveAlias 27 = .ok (.iload_n 1, 1) := by decide +kernel
theorem dX2_giveAlias_28 : decode cX2_giveAlias 28 = .ok (.invokevirtual 59, 3) := by decide +kernel
theorem dX2_giveAlias_31 : decode cX2_giveAlias 31 = .ok (.istore 4, 2) := by decide +kernel
theorem dX2_giveAlias_33 : decode cX2_giveAlias 33 = .ok (.aload_n 0, 1) := by decide +kernel
theorem dX2_giveAlias_34 : decode cX2_giveAlias 34 = .ok (.iload 4, 2) := by decide +kernel
theorem dX2_giveAlias_36 : decode cX2_giveAlias 36 = .ok (.invokevirtual 80, 3) := by decide +kernel
theorem dX2_giveAlias_39 : decode cX2_giveAlias 39 = .ok (.ifCond .eq 6, 3) := by decide +kernel
theorem dX2_giveAlias_42 : decode cX2_giveAlias 42 = .ok (.bipush (-7), 2) := by decide +kernel
theorem dX2_giveAlias_44 : decode cX2_giveAlias 44 = .ok (.ireturn, 1) := by decide +kernel
theorem dX2_giveAlias_45 : decode cX2_giveAlias 45 = .ok (.aload_n 0, 1) := by decide +kernel
theorem dX2_giveAlias_46 : decode cX2_giveAlias 46 = .ok (.getfield 18, 3) := by decide +kernel
theorem dX2_giveAlias_49 : decode cX2_giveAlias 49 = .ok (.iload_n 3, 1) := by decide +kernel
theorem dX2_giveAlias_50 : decode cX2_giveAlias 50 = .ok (.iaload, 1) := by decide +kernel
theorem dX2_giveAlias_51 : decode cX2_giveAlias 51 = .ok (.istore 5, 2) := by decide +kernel
theorem dX2_giveAlias_53 : decode cX2_giveAlias 53 = .ok (.aload_n 0, 1) := by decide +kernel
theorem dX2_giveAlias_54 : decode cX2_giveAlias 54 = .ok (.iload 4, 2) := by decide +kernel
theorem dX2_giveAlias_56 : decode cX2_giveAlias 56 = .ok (.invokevirtual 63, 3) := by decide +kernel
theorem dX2_giveAlias_59 : decode cX2_giveAlias 59 = .ok (.ifCond .ne 37, 3) := by decide +kernel
theorem dX2_giveAlias_62 : decode cX2_giveAlias 62 = .ok (.aload_n 0, 1) := by decide +kernel
theorem dX2_giveAlias_63 : decode cX2_giveAlias 63 = .ok (.invokevirtual 66, 3) := by decide +kernel
theorem dX2_giveAlias_66 : decode cX2_giveAlias 66 = .ok (.ifCond .eq 6, 3) := by decide +kernel
theorem dX2_giveAlias_69 : decode cX2_giveAlias 69 = .ok (.bipush (-6), 2) := by decide +kernel
theorem dX2_giveAlias_71 : decode cX2_giveAlias 71 = .ok (.ireturn, 1) := by decide +kernel
theorem dX2_giveAlias_72 : decode cX2_giveAlias 72 = .ok (.aload_n 0, 1) := by decide +kernel
theorem dX2_giveAlias_73 : decode cX2_giveAlias 73 = .ok (.iload_n 1, 1) := by decide +kernel
theorem dX2_giveAlias_74 : decode cX2_giveAlias 74 = .ok (.iload_n 2, 1) := by decide +kernel
theorem dX2_giveAlias_75 : decode cX2_giveAlias 75 = .ok (.iload 5, 2) := by decide +kernel
theorem dX2_giveAlias_77 : decode cX2_giveAlias 77 = .ok (.aload_n 0, 1) := by decide +kernel
theorem dX2_giveAlias_78 : decode cX2_giveAlias 78 = .ok (.getfield 21, 3) := by decide +kernel
theorem dX2_giveAlias_81 : decode cX2_giveAlias 81 = .ok (.iload_n 3, 1) := by decide +kernel
theorem dX2_giveAlias_82 : decode cX2_giveAlias 82 = .ok (.iaload, 1) := by decide +kernel
theorem dX2_giveAlias_83 : decode cX2_giveAlias 83 = .ok (.aload_n 0, 1) := by decide +kernel
theorem dX2_giveAlias_84 : decode cX2_giveAlias 84 = .ok (.getfield 24, 3) := by decide +kernel
theorem dX2_giveAlias_87 : decode cX2_giveAlias 87 = .ok (.iload_n 3, 1) := by decide +kernel
theorem dX2_giveAlias_88 : decode cX2_giveAlias 88 = .ok (.iaload, 1) := by decide +kernel
theorem dX2_giveAlias_89 : decode cX2_giveAlias 89 = .ok (.invokevirtual 76, 3) := by decide +kernel
theorem dX2_giveAlias_92 : decode cX2_giveAlias 92 = .ok (.pop, 1) := by decide +kernel
theorem dX2_giveAlias_93 : decode cX2_giveAlias 93 = .ok (.iload 5, 2) := by decide +kernel
theorem dX2_giveAlias_95 : decode cX2_giveAlias 95 = .ok (.ireturn, 1) := by decide +kernel
theorem dX2_giveAlias_96 : decode cX2_giveAlias 96 = .ok (.aload_n 0, 1) := by decide +kernel
theorem dX2_giveAlias_97 : decode cX2_giveAlias 97 = .ok (.getfield 18, 3) := by decide +kernel
theorem dX2_giveAlias_100 : decode cX2_giveAlias 100 = .ok (.iload 4, 2) := by decide +kernel
theorem dX2_giveAlias_102 : decode cX2_giveAlias 102 = .ok (.iaload, 1) := by decide +kernel
theorem dX2_giveAlias_103 : decode cX2_giveAlias 103 = .ok (.iload 5, 2) := by decide +kernel
theorem dX2_giveAlias_105 : decode cX2_giveAlias 105 = .ok (.if_icmp .ne 17, 3) := by decide +kernel
theorem dX2_giveAlias_108 : decode cX2_giveAlias 108 = .ok (.aload_n 0, 1) := by decide +kernel
theorem dX2_giveAlias_109 : decode cX2_giveAlias 109 = .ok (.getfield 15, 3) := by decide +kernel
theorem dX2_giveAlias_112 : decode cX2_giveAlias 112 = .ok (.iload 4, 2) := by decide +kernel
theorem dX2_giveAlias_114 : decode cX2_giveAlias 114 = .ok (.iaload, 1) := by decide +kernel
theorem dX2_giveAlias_115 : decode cX2_giveAlias 115 = .ok (.iload_n 2, 1) := by decide +kernel
theorem dX2_giveAlias_116 : decode cX2_giveAlias 116 = .ok (.if_icmp .ne 6, 3) := by decide +kernel
theorem dX2_giveAlias_119 : decode cX2_giveAlias 119 = .ok (.bipush (-5), 2) := by decide +kernel
theorem dX2_giveAlias_121 : decode cX2_giveAlias 121 = .ok (.ireturn, 1) := by decide +kernel
theorem dX2_giveAlias_122 : decode cX2_giveAlias 122 = .ok (.aload_n 0, 1) := by decide +kernel
theorem dX2_giveAlias_123 : decode cX2_giveAlias 123 = .ok (.iload 4, 2) := by decide +kernel
theorem dX2_giveAlias_125 : decode cX2_giveAlias 125 = .ok (.iload_n 1, 1) := by decide +kernel
theorem dX2_giveAlias_126 : decode cX2_giveAlias 126 = .ok (.iload_n 2, 1) := by decide +kernel
theorem dX2_giveAlias_127 : decode cX2_giveAlias 127 = .ok (.iload 5, 2) := by decide +kernel
theorem dX2_giveAlias_129 : decode cX2_giveAlias 129 = .ok (.aload_n 0, 1) := by decide +kernel
theorem dX2_giveAlias_130 : decode cX2_giveAlias 130 = .ok (.getfield 21, 3) := by decide +kernel
theorem dX2_giveAlias_133 : decode cX2_giveAlias 133 = .ok (.iload_n 3, 1) := by decide +kernel
theorem dX2_giveAlias_134 : decode cX2_giveAlias 134 = .ok (.iaload, 1) := by decide +kernel
theorem dX2_giveAlias_135 : decode cX2_giveAlias 135 = .ok (.aload_n 0, 1) := by decide +kernel
theorem dX2_giveAlias_136 : decode cX2_giveAlias 136 = .ok (.getfield 24, 3) := by decide +kernel
theorem dX2_giveAlias_139 : decode cX2_giveAlias 139 = .ok (.iload_n 3, 1) := by decide +kernel
theorem dX2_giveAlias_140 : decode cX2_giveAlias 140 = .ok (.iaload, 1) := by decide +kernel
theorem dX2_giveAlias_141 : decode cX2_giveAlias 141 = .ok (.invokevirtual 83, 3) := by decide +kernel
theorem dX2_giveAlias_144 : decode cX2_giveAlias 144 = .ok (.iload 5, 2) := by decide +kernel
theorem dX2_giveAlias_146 : decode cX2_giveAlias 146 = .ok (.ireturn, 1) := by decide +kernel
theorem dX2_giveBackDeadRoom_0 : decode cX2_giveBackDeadRoom 0 = .ok (.aload_n 0, 1) := by decide +kernel
theorem dX2_giveBackDeadRoom_1 : decode cX2_giveBackDeadRoom 1 = .ok (.invokevirtual 95, 3) := by decide +kernel
theorem dX2_giveBackDeadRoom_4 : decode cX2_giveBackDeadRoom 4 = .ok (.ifCond .ne 6, 3) := by decide +kernel
theorem dX2_giveBackDeadRoom_7 : decode cX2_giveBackDeadRoom 7 = .ok (.bipush (-5), 2) := by decide +kernel
theorem dX2_giveBackDeadRoom_9 : decode cX2_giveBackDeadRoom 9 = .ok (.ireturn, 1) := by decide +kernel
theorem dX2_giveBackDeadRoom_10 : decode cX2_giveBackDeadRoom 10 = .ok (.aload_n 0, 1) := by decide +kernel
theorem dX2_giveBackDeadRoom_11 : decode cX2_giveBackDeadRoom 11 = .ok (.invokevirtual 99, 3) := by decide +kernel
theorem dX2_giveBackDeadRoom_14 : decode cX2_giveBackDeadRoom 14 = .ok (.ireturn, 1) := by decide +kernel
theorem dX2_changeBlocks_0 : decode cX2_changeBlocks 0 = .ok (.iload_n 1, 1) := by decide +kernel
theorem dX2_changeBlocks_1 : decode cX2_changeBlocks 1 = .ok (.iconst 1, 1) := by decide +kernel
theorem dX2_changeBlocks_2 : decode cX2_changeBlocks 2 = .ok (.if_icmp .lt 9, 3) := by decide +kernel
theorem dX2_changeBlocks_5 : decode cX2_changeBlocks 5 = .ok (.iload_n 1, 1) := by decide +kernel
theorem dX2_changeBlocks_6 : decode cX2_changeBlocks 6 = .ok (.bipush 6, 2) := by decide +kernel
theorem dX2_changeBlocks_8 : decode cX2_changeBlocks 8 = .ok (.if_icmp .le 6, 3) := by decide +kernel
theorem dX2_changeBlocks_11 : decode cX2_changeBlocks 11 = .ok (.bipush (-2), 2) := by decide +kernel
theorem dX2_changeBlocks_13 : decode cX2_changeBlocks 13 = .ok (.ireturn, 1) := by decide +kernel
theorem dX2_changeBlocks_14 : decode cX2_changeBlocks 14 = .ok (.aload_n 0, 1) := by decide +kernel
theorem dX2_changeBlocks_15 : decode cX2_changeBlocks 15 = .ok (.getfield 27, 3) := by decide +kernel
theorem dX2_changeBlocks_18 : decode cX2_changeBlocks 18 = .ok (.iload_n 1, 1) := by decide +kernel
theorem dX2_changeBlocks_19 : decode cX2_changeBlocks 19 = .ok (.iconst 4, 1) := by decide +kernel
theorem dX2_changeBlocks_20 : decode cX2_changeBlocks 20 = .ok (.imul, 1) := by decide +kernel
theorem dX2_changeBlocks_21 : decode cX2_changeBlocks 21 = .ok (.if_icmp .le 6, 3) := by decide +kernel
theorem dX2_changeBlocks_24 : decode cX2_changeBlocks 24 = .ok (.bipush (-6), 2) := by decide +kernel
theorem dX2_changeBlocks_26 : decode cX2_changeBlocks 26 = .ok (.ireturn, 1) := by decide +kernel
theorem dX2_changeBlocks_27 : decode cX2_changeBlocks 27 = .ok (.iload_n 1, 1) := by decide +kernel
theorem dX2_changeBlocks_28 : decode cX2_changeBlocks 28 = .ok (.aload_n 0, 1) := by decide +kernel
theorem dX2_changeBlocks_29 : decode cX2_changeBlocks 29 = .ok (.getfield 31, 3) := by decide +kernel
theorem dX2_changeBlocks_32 : decode cX2_changeBlocks 32 = .ok (.if_icmp .ne 6, 3) := by decide +kernel
theorem dX2_changeBlocks_35 : decode cX2_changeBlocks 35 = .ok (.bipush (-5), 2) := by decide +kernel
theorem dX2_changeBlocks_37 : decode cX2_changeBlocks 37 = .ok (.ireturn, 1) := by decide +kernel
theorem dX2_changeBlocks_38 : decode cX2_changeBlocks 38 = .ok (.aload_n 0, 1) := by decide +kernel
theorem dX2_changeBlocks_39 : decode cX2_changeBlocks 39 = .ok (.getfield 31, 3) := by decide +kernel
theorem dX2_changeBlocks_42 : decode cX2_changeBlocks 42 = .ok (.istore_n 2, 1) := by decide +kernel
theorem dX2_changeBlocks_43 : decode cX2_changeBlocks 43 = .ok (.aload_n 0, 1) := by decide +kernel
theorem dX2_changeBlocks_44 : decode cX2_changeBlocks 44 = .ok (.iload_n 1, 1) := by decide +kernel
theorem dX2_changeBlocks_45 : decode cX2_changeBlocks 45 = .ok (.putfield 31, 3) := by decide +kernel
theorem dX2_changeBlocks_48 : decode cX2_changeBlocks 48 = .ok (.aload_n 0, 1) := by decide +kernel
theorem dX2_changeBlocks_49 : decode cX2_changeBlocks 49 = .ok (.invokevirtual 99, 3) := by decide +kernel
theorem dX2_changeBlocks_52 : decode cX2_changeBlocks 52 = .ok (.pop, 1) := by decide +kernel
theorem dX2_changeBlocks_53 : decode cX2_changeBlocks 53 = .ok (.iload_n 2, 1) := by decide +kernel
theorem dX2_changeBlocks_54 : decode cX2_changeBlocks 54 = .ok (.ireturn, 1) := by decide +kernel
theorem dX2_tellEntry_0 : decode cX2_tellEntry 0 = .ok (.aload_n 0, 1) := by decide +kernel
theorem dX2_tellEntry_1 : decode cX2_tellEntry 1 = .ok (.iload_n 1, 1) := by decide +kernel
theorem dX2_tellEntry_2 : decode cX2_tellEntry 2 = .ok (.invokevirtual 59, 3) := by decide +kernel
theorem dX2_tellEntry_5 : decode cX2_tellEntry 5 = .ok (.istore_n 3, 1) := by decide +kernel
theorem dX2_tellEntry_6 : decode cX2_tellEntry 6 = .ok (.aload_n 0, 1) := by decide +kernel
theorem dX2_tellEntry_7 : decode cX2_tellEntry 7 = .ok (.iload_n 3, 1) := by decide +kernel
theorem dX2_tellEntry_8 : decode cX2_tellEntry 8 = .ok (.invokevirtual 63, 3) := by decide +kernel
theorem dX2_tellEntry_11 : decode cX2_tellEntry 11 = .ok (.ifCond .ne 5, 3) := by decide +kernel
theorem dX2_tellEntry_14 : decode cX2_tellEntry 14 = .ok (.iconst (-1), 1) := by decide +kernel
theorem dX2_tellEntry_15 : decode cX2_tellEntry 15 = .ok (.ireturn, 1) := by decide +kernel
theorem dX2_tellEntry_16 : decode cX2_tellEntry 16 = .ok (.iload_n 2, 1) := by decide +kernel
theorem dX2_tellEntry_17 : decode cX2_tellEntry 17 = .ok (.tableswitch 124 0 8 #[51, 53, 57, 71, 78, 85, 92, 103, 110], 51) := by decide +kernel
theorem dX2_tellEntry_68 : decode cX2_tellEntry 68 = .ok (.iload_n 3, 1) := by decide +kernel
theorem dX2_tellEntry_69 : decode cX2_tellEntry 69 = .ok (.ireturn, 1) := by decide +kernel
theorem dX2_tellEntry_70 : decode cX2_tellEntry 70 = .ok (.iload_n 3, 1) := by decide +kernel
theorem dX2_tellEntry_71 : decode cX2_tellEntry 71 = .ok (.iconst 4, 1) := by decide +kernel
theorem dX2_tellEntry_72 : decode cX2_tellEntry 72 = .ok (.idiv, 1) := by decide +kernel
theorem dX2_tellEntry_73 : decode cX2_tellEntry 73 = .ok (.ireturn, 1) := by decide +kernel
theorem dX2_tellEntry_74 : decode cX2_tellEntry 74 = .ok (.aload_n 0, 1) := by decide +kernel
theorem dX2_tellEntry_75 : decode cX2_tellEntry 75 = .ok (.iload_n 3, 1) := by decide +kernel
theorem dX2_tellEntry_76 : decode cX2_tellEntry 76 = .ok (.invokevirtual 80, 3) := by decide +kernel
theorem dX2_tellEntry_79 : decode cX2_tellEntry 79 = .ok (.ifCond .eq 7, 3) := by decide +kernel
theorem dX2_tellEntry_82 : decode cX2_tellEntry 82 = .ok (.iconst 0, 1) := by decide +kernel
theorem dX2_tellEntry_83 : decode cX2_tellEntry 83 = .ok (.goto 4, 3) := by decide +kernel
theorem dX2_tellEntry_86 : decode cX2_tellEntry 86 = .ok (.iconst 1, 1) := by decide +kernel
theorem dX2_tellEntry_87 : decode cX2_tellEntry 87 = .ok (.ireturn, 1) := by decide +kernel
theorem dX2_tellEntry_88 : decode cX2_tellEntry 88 = .ok (.aload_n 0, 1) := by decide +kernel
theorem dX2_tellEntry_89 : decode cX2_tellEntry 89 = .ok (.getfield 18, 3) := by decide +kernel
theorem dX2_tellEntry_92 : decode cX2_tellEntry 92 = .ok (.iload_n 3, 1) := by decide +kernel
theorem dX2_tellEntry_93 : decode cX2_tellEntry 93 = .ok (.iaload, 1) := by decide +kernel
theorem dX2_tellEntry_94 : decode cX2_tellEntry 94 = .ok (.ireturn, 1) := by decide +kernel
theorem dX2_tellEntry_95 : decode cX2_tellEntry 95 = .ok (.aload_n 0, 1) := by decide +kernel
theorem dX2_tellEntry_96 : decode cX2_tellEntry 96 = .ok (.getfield 21, 3) := by decide +kernel
theorem dX2_tellEntry_99 : decode cX2_tellEntry 99 = .ok (.iload_n 3, 1) := by decide +kernel
theorem dX2_tellEntry_100 : decode cX2_tellEntry 100 = .ok (.iaload, 1) := by decide +kernel
theorem dX2_tellEntry_101 : decode cX2_tellEntry 101 = .ok (.ireturn, 1) := by decide +kernel
theorem dX2_tellEntry_102 : decode cX2_tellEntry 102 = .ok (.aload_n 0, 1) := by decide +kernel
theorem dX2_tellEntry_103 : decode cX2_tellEntry 103 = .ok (.getfield 24, 3) := by decide +kernel
theorem dX2_tellEntry_106 : decode cX2_tellEntry 106 = .ok (.iload_n 3, 1) := by decide +kernel
theorem dX2_tellEntry_107 : decode cX2_tellEntry 107 = .ok (.iaload, 1) := by decide +kernel
theorem dX2_tellEntry_108 : decode cX2_tellEntry 108 = .ok (.ireturn, 1) := by decide +kernel
theorem dX2_tellEntry_109 : decode cX2_tellEntry 109 = .ok (.aload_n 0, 1) := by decide +kernel
theorem dX2_tellEntry_110 : decode cX2_tellEntry 110 = .ok (.aload_n 0, 1) := by decide +kernel
theorem dX2_tellEntry_111 : decode cX2_tellEntry 111 = .ok (.getfield 18, 3) := by decide +kernel
theorem dX2_tellEntry_114 : decode cX2_tellEntry 114 = .ok (.iload_n 3, 1) := by decide +kernel
theorem dX2_tellEntry_115 : decode cX2_tellEntry 115 = .ok (.iaload, 1) := by decide +kernel
theorem dX2_tellEntry_116 : decode cX2_tellEntry 116 = .ok (.invokevirtual 102, 3) := by decide +kernel
theorem dX2_tellEntry_119 : decode cX2_tellEntry 119 = .ok (.ireturn, 1) := by decide +kernel
theorem dX2_tellEntry_120 : decode cX2_tellEntry 120 = .ok (.aload_n 0, 1) := by decide +kernel
theorem dX2_tellEntry_121 : decode cX2_tellEntry 121 = .ok (.getfield 15, 3) := by decide +kernel
theorem dX2_tellEntry_124 : decode cX2_tellEntry 124 = .ok (.iload_n 3, 1) := by decide +kernel
theorem dX2_tellEntry_125 : decode cX2_tellEntry 125 = .ok (.iaload, 1) := by decide +kernel
theorem dX2_tellEntry_126 : decode cX2_tellEntry 126 = .ok (.ireturn, 1) := by decide +kernel
theorem dX2_tellEntry_127 : decode cX2_tellEntry 127 = .ok (.aload_n 0, 1) := by decide +kernel
theorem dX2_tellEntry_128 : decode cX2_tellEntry 128 = .ok (.iload_n 3, 1) := by decide +kernel
theorem dX2_tellEntry_129 : decode cX2_tellEntry 129 = .ok (.invokevirtual 105, 3) := by decide +kernel
theorem dX2_tellEntry_132 : decode cX2_tellEntry 132 = .ok (.ifCond .eq 7, 3) := by decide +kernel
theorem dX2_tellEntry_135 : decode cX2_tellEntry 135 = .ok (.iconst 1, 1) := by decide +kernel
theorem dX2_tellEntry_136 : decode cX2_tellEntry 136 = .ok (.goto 4, 3) := by decide +kernel
theorem dX2_tellEntry_139 : decode cX2_tellEntry 139 = .ok (.iconst 0, 1) := by decide +kernel
theorem dX2_tellEntry_140 : decode cX2_tellEntry 140 = .ok (.ireturn, 1) := by decide +kernel
theorem dX2_tellEntry_141 : decode cX2_tellEntry 141 = .ok (.bipush (-2), 2) := by decide +kernel
theorem dX2_tellEntry_143 : decode cX2_tellEntry 143 = .ok (.ireturn, 1) := by decide +kernel
theorem dX2_tellName_0 : decode cX2_tellName 0 = .ok (.iload_n 1, 1) := by decide +kernel
theorem dX2_tellName_1 : decode cX2_tellName 1 = .ok (.ifCond .ge 6, 3) := by decide +kernel
theorem dX2_tellName_4 : decode cX2_tellName 4 = .ok (.bipush (-2), 2) := by decide +kernel
theorem dX2_tellName_6 : decode cX2_tellName 6 = .ok (.ireturn, 1) := by decide +kernel
theorem dX2_tellName_7 : decode cX2_tellName 7 = .ok (.aload_n 0, 1) := by decide +kernel
theorem dX2_tellName_8 : decode cX2_tellName 8 = .ok (.iload_n 1, 1) := by decide +kernel
theorem dX2_tellName_9 : decode cX2_tellName 9 = .ok (.invokevirtual 63, 3) := by decide +kernel
theorem dX2_tellName_12 : decode cX2_tellName 12 = .ok (.ifCond .eq 12, 3) := by decide +kernel
theorem dX2_tellName_15 : decode cX2_tellName 15 = .ok (.aload_n 0, 1) := by decide +kernel
theorem dX2_tellName_16 : decode cX2_tellName 16 = .ok (.getfield 9, 3) := by decide +kernel
theorem dX2_tellName_19 : decode cX2_tellName 19 = .ok (.iload_n 1, 1) := by decide +kernel
theorem dX2_tellName_20 : decode cX2_tellName 20 = .ok (.iaload, 1) := by decide +kernel
theorem dX2_tellName_21 : decode cX2_tellName 21 = .ok (.goto 5, 3) := by decide +kernel
theorem dX2_tellName_24 : decode cX2_tellName 24 = .ok (.bipush (-5), 2) := by decide +kernel
theorem dX2_tellName_26 : decode cX2_tellName 26 = .ok (.ireturn, 1) := by decide +kernel
theorem dX2_tellUnit_0 : decode cX2_tellUnit 0 = .ok (.iload_n 1, 1) := by decide +kernel
theorem dX2_tellUnit_1 : decode cX2_tellUnit 1 = .ok (.ifCond .lt 9, 3) := by decide +kernel
theorem dX2_tellUnit_4 : decode cX2_tellUnit 4 = .ok (.iload_n 1, 1) := by decide +kernel
theorem dX2_tellUnit_5 : decode cX2_tellUnit 5 = .ok (.bipush 100, 2) := by decide +kernel
theorem dX2_tellUnit_7 : decode cX2_tellUnit 7 = .ok (.if_icmp .lt 5, 3) := by decide +kernel
theorem dX2_tellUnit_10 : decode cX2_tellUnit 10 = .ok (.iconst (-1), 1) := by decide +kernel
theorem dX2_tellUnit_11 : decode cX2_tellUnit 11 = .ok (.ireturn, 1) := by decide +kernel
theorem dX2_tellUnit_12 : decode cX2_tellUnit 12 = .ok (.iload_n 1, 1) := by decide +kernel
theorem dX2_tellUnit_13 : decode cX2_tellUnit 13 = .ok (.aload_n 0, 1) := by decide +kernel
theorem dX2_tellUnit_14 : decode cX2_tellUnit 14 = .ok (.getfield 34, 3) := by decide +kernel
theorem dX2_tellUnit_17 : decode cX2_tellUnit 17 = .ok (.if_icmp .lt 6, 3) := by decide +kernel
theorem dX2_tellUnit_20 : decode cX2_tellUnit 20 = .ok (.bipush (-5), 2) := by decide +kernel
theorem dX2_tellUnit_22 : decode cX2_tellUnit 22 = .ok (.ireturn, 1) := by decide +kernel
theorem dX2_tellUnit_23 : decode cX2_tellUnit 23 = .ok (.iconst 0, 1) := by decide +kernel
theorem dX2_tellUnit_24 : decode cX2_tellUnit 24 = .ok (.istore_n 2, 1) := by decide +kernel
theorem dX2_tellUnit_25 : decode cX2_tellUnit 25 = .ok (.iload_n 2, 1) := by decide +kernel
theorem dX2_tellUnit_26 : decode cX2_tellUnit 26 = .ok (.aload_n 0, 1) := by decide +kernel
theorem dX2_tellUnit_27 : decode cX2_tellUnit 27 = .ok (.getfield 27, 3) := by decide +kernel
theorem dX2_tellUnit_30 : decode cX2_tellUnit 30 = .ok (.if_icmp .ge 43, 3) := by decide +kernel
theorem dX2_tellUnit_33 : decode cX2_tellUnit 33 = .ok (.iload_n 1, 1) := by decide +kernel
theorem dX2_tellUnit_34 : decode cX2_tellUnit 34 = .ok (.aload_n 0, 1) := by decide +kernel
theorem dX2_tellUnit_35 : decode cX2_tellUnit 35 = .ok (.getfield 18, 3) := by decide +kernel
theorem dX2_tellUnit_38 : decode cX2_tellUnit 38 = .ok (.iload_n 2, 1) := by decide +kernel
theorem dX2_tellUnit_39 : decode cX2_tellUnit 39 = .ok (.iaload, 1) := by decide +kernel
theorem dX2_tellUnit_40 : decode cX2_tellUnit 40 = .ok (.if_icmp .lt 27, 3) := by decide +kernel
theorem dX2_tellUnit_43 : decode cX2_tellUnit 43 = .ok (.iload_n 1, 1) := by decide +kernel
theorem dX2_tellUnit_44 : decode cX2_tellUnit 44 = .ok (.aload_n 0, 1) := by decide +kernel
theorem dX2_tellUnit_45 : decode cX2_tellUnit 45 = .ok (.getfield 18, 3) := by decide +kernel
theorem dX2_tellUnit_48 : decode cX2_tellUnit 48 = .ok (.iload_n 2, 1) := by decide +kernel
theorem dX2_tellUnit_49 : decode cX2_tellUnit 49 = .ok (.iaload, 1) := by decide +kernel
theorem dX2_tellUnit_50 : decode cX2_tellUnit 50 = .ok (.aload_n 0, 1) := by decide +kernel
theorem dX2_tellUnit_51 : decode cX2_tellUnit 51 = .ok (.getfield 21, 3) := by decide +kernel
theorem dX2_tellUnit_54 : decode cX2_tellUnit 54 = .ok (.iload_n 2, 1) := by decide +kernel
theorem dX2_tellUnit_55 : decode cX2_tellUnit 55 = .ok (.iaload, 1) := by decide +kernel
theorem dX2_tellUnit_56 : decode cX2_tellUnit 56 = .ok (.iadd, 1) := by decide +kernel
theorem dX2_tellUnit_57 : decode cX2_tellUnit 57 = .ok (.if_icmp .ge 10, 3) := by decide +kernel
theorem dX2_tellUnit_60 : decode cX2_tellUnit 60 = .ok (.aload_n 0, 1) := by decide +kernel
theorem dX2_tellUnit_61 : decode cX2_tellUnit 61 = .ok (.getfield 9, 3) := by decide +kernel
theorem dX2_tellUnit_64 : decode cX2_tellUnit 64 = .ok (.iload_n 2, 1) := by decide +kernel
theorem dX2_tellUnit_65 : decode cX2_tellUnit 65 = .ok (.iaload, 1) := by decide +kernel
theorem dX2_tellUnit_66 : decode cX2_tellUnit 66 = .ok (.ireturn, 1) := by decide +kernel
theorem dX2_tellUnit_67 : decode cX2_tellUnit 67 = .ok (.iinc 2 1, 3) := by decide +kernel
theorem dX2_tellUnit_70 : decode cX2_tellUnit 70 = .ok (.goto (-45), 3) := by decide +kernel
theorem dX2_tellUnit_73 : decode cX2_tellUnit 73 = .ok (.sipush 1000, 3) := by decide +kernel
theorem dX2_tellUnit_76 : decode cX2_tellUnit 76 = .ok (.ireturn, 1) := by decide +kernel
theorem dX2_tellFit_0 : decode cX2_tellFit 0 = .ok (.iload_n 1, 1) := by decide +kernel
theorem dX2_tellFit_1 : decode cX2_tellFit 1 = .ok (.invokestatic 53, 3) := by decide +kernel
theorem dX2_tellFit_4 : decode cX2_tellFit 4 = .ok (.ifCond .ne 6, 3) := by decide +kernel
theorem dX2_tellFit_7 : decode cX2_tellFit 7 = .ok (.bipush (-2), 2) := by decide +kernel
theorem dX2_tellFit_9 : decode cX2_tellFit 9 = .ok (.ireturn, 1) := by decide +kernel
theorem dX2_tellFit_10 : decode cX2_tellFit 10 = .ok (.aload_n 0, 1) := by decide +kernel
theorem dX2_tellFit_11 : decode cX2_tellFit 11 = .ok (.iload_n 1, 1) := by decide +kernel
theorem dX2_tellFit_12 : decode cX2_tellFit 12 = .ok (.invokevirtual 70, 3) := by decide +kernel
theorem dX2_tellFit_15 : decode cX2_tellFit 15 = .ok (.ifCond .eq 5, 3) := by decide +kernel
theorem dX2_tellFit_18 : decode cX2_tellFit 18 = .ok (.iconst 0, 1) := by decide +kernel
theorem dX2_tellFit_19 : decode cX2_tellFit 19 = .ok (.ireturn, 1) := by decide +kernel
theorem dX2_tellFit_20 : decode cX2_tellFit 20 = .ok (.aload_n 0, 1) := by decide +kernel
theorem dX2_tellFit_21 : decode cX2_tellFit 21 = .ok (.invokevirtual 120, 3) := by decide +kernel
theorem dX2_tellFit_24 : decode cX2_tellFit 24 = .ok (.iload_n 1, 1) := by decide +kernel
theorem dX2_tellFit_25 : decode cX2_tellFit 25 = .ok (.iadd, 1) := by decide +kernel
theorem dX2_tellFit_26 : decode cX2_tellFit 26 = .ok (.bipush 100, 2) := by decide +kernel
theorem dX2_tellFit_28 : decode cX2_tellFit 28 = .ok (.if_icmp .gt 7, 3) := by decide +kernel
theorem dX2_tellFit_31 : decode cX2_tellFit 31 = .ok (.iconst 1, 1) := by decide +kernel
theorem dX2_tellFit_32 : decode cX2_tellFit 32 = .ok (.goto 4, 3) := by decide +kernel
theorem dX2_tellFit_35 : decode cX2_tellFit 35 = .ok (.iconst 2, 1) := by decide +kernel
theorem dX2_tellFit_36 : decode cX2_tellFit 36 = .ok (.ireturn, 1) := by decide +kernel
theorem dX2_tellBeginning_0 : decode cX2_tellBeginning 0 = .ok (.iload_n 1, 1) := by decide +kernel
theorem dX2_tellBeginning_1 : decode cX2_tellBeginning 1 = .ok (.ifCond .lt 13, 3) := by decide +kernel
theorem dX2_tellBeginning_4 : decode cX2_tellBeginning 4 = .ok (.iload_n 1, 1) := by decide +kernel
theorem dX2_tellBeginning_5 : decode cX2_tellBeginning 5 = .ok (.bipush 26, 2) := by decide +kernel
theorem dX2_tellBeginning_7 : decode cX2_tellBeginning 7 = .ok (.if_icmp .ge 7, 3) := by decide +kernel
theorem dX2_tellBeginning_10 : decode cX2_tellBeginning 10 = .ok (.iload_n 2, 1) := by decide +kernel
theorem dX2_tellBeginning_11 : decode cX2_tellBeginning 11 = .ok (.ifCond .ge 6, 3) := by decide +kernel
theorem dX2_tellBeginning_14 : decode cX2_tellBeginning 14 = .ok (.bipush (-2), 2) := by decide +kernel
theorem dX2_tellBeginning_16 : decode cX2_tellBeginning 16 = .ok (.ireturn, 1) := by decide +kernel
theorem dX2_tellBeginning_17 : decode cX2_tellBeginning 17 = .ok (.aload_n 0, 1) := by decide +kernel
theorem dX2_tellBeginning_18 : decode cX2_tellBeginning 18 = .ok (.iload_n 1, 1) := by decide +kernel
theorem dX2_tellBeginning_19 : decode cX2_tellBeginning 19 = .ok (.bipush 26, 2) := by decide +kernel
theorem dX2_tellBeginning_21 : decode cX2_tellBeginning 21 = .ok (.imul, 1) := by decide +kernel
theorem dX2_tellBeginning_22 : decode cX2_tellBeginning 22 = .ok (.invokevirtual 123, 3) := by decide +kernel
theorem dX2_tellBeginning_25 : decode cX2_tellBeginning 25 = .ok (.istore_n 3, 1) := by decide +kernel
theorem dX2_tellBeginning_26 : decode cX2_tellBeginning 26 = .ok (.aload_n 0, 1) := by decide +kernel
theorem dX2_tellBeginning_27 : decode cX2_tellBeginning 27 = .ok (.iload_n 1, 1) := by decide +kernel
theorem dX2_tellBeginning_28 : decode cX2_tellBeginning 28 = .ok (.iconst 1, 1) := by decide +kernel
theorem dX2_tellBeginning_29 : decode cX2_tellBeginning 29 = .ok (.iadd, 1) := by decide +kernel
theorem dX2_tellBeginning_30 : decode cX2_tellBeginning 30 = .ok (.bipush 26, 2) := by decide +kernel
theorem dX2_tellBeginning_32 : decode cX2_tellBeginning 32 = .ok (.imul, 1) := by decide +kernel
theorem dX2_tellBeginning_33 : decode cX2_tellBeginning 33 = .ok (.invokevirtual 123, 3) := by decide +kernel
theorem dX2_tellBeginning_36 : decode cX2_tellBeginning 36 = .ok (.iload_n 3, 1) := by decide +kernel
theorem dX2_tellBeginning_37 : decode cX2_tellBeginning 37 = .ok (.isub, 1) := by decide +kernel
theorem dX2_tellBeginning_38 : decode cX2_tellBeginning 38 = .ok (.istore 4, 2) := by decide +kernel
theorem dX2_tellBeginning_40 : decode cX2_tellBeginning 40 = .ok (.iload_n 2, 1) := by decide +kernel
theorem dX2_tellBeginning_41 : decode cX2_tellBeginning 41 = .ok (.iload 4, 2) := by decide +kernel
theorem dX2_tellBeginning_43 : decode cX2_tellBeginning 43 = .ok (.if_icmp .ge 13, 3) := by decide +kernel
theorem dX2_tellBeginning_46 : decode cX2_tellBeginning 46 = .ok (.aload_n 0, 1) := by decide +kernel
theorem dX2_tellBeginning_47 : decode cX2_tellBeginning 47 = .ok (.iload_n 3, 1) := by decide +kernel
theorem dX2_tellBeginning_48 : decode cX2_tellBeginning 48 = .ok (.iload_n 2, 1) := by decide +kernel
theorem dX2_tellBeginning_49 : decode cX2_tellBeginning 49 = .ok (.iadd, 1) := by decide +kernel
theorem dX2_tellBeginning_50 : decode cX2_tellBeginning 50 = .ok (.invokevirtual 117, 3) := by decide +kernel
theorem dX2_tellBeginning_53 : decode cX2_tellBeginning 53 = .ok (.goto 5, 3) := by decide +kernel
theorem dX2_tellBeginning_56 : decode cX2_tellBeginning 56 = .ok (.bipush (-5), 2) := by decide +kernel
theorem dX2_tellBeginning_58 : decode cX2_tellBeginning 58 = .ok (.ireturn, 1) := by decide +kernel
theorem dX2_tellCount_0 : decode cX2_tellCount 0 = .ok (.iload_n 1, 1) := by decide +kernel
theorem dX2_tellCount_1 : decode cX2_tellCount 1 = .ok (.tableswitch 147 0 12 #[67, 72, 82, 87, 92, 97, 109, 114, 119, 124, 132, 137, 142], 67) := by decide +kernel
theorem dX2_tellCount_68 : decode cX2_tellCount 68 = .ok (.aload_n 0, 1) := by decide +kernel
