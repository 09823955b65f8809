theorem dX2_addZone_26 : decode cX2_addZone 26 = .ok (.iadd, 1) := by decide +kernel
theorem dX2_addZone_27 : decode cX2_addZone 27 = .ok (.iconst 1, 1) := by decide +kernel
theorem dX2_addZone_28 : decode cX2_addZone 28 = .ok (.iadd, 1) := by decide +kernel
theorem dX2_addZone_29 : decode cX2_addZone 29 = .ok (.putfield 9, 3) := by decide +kernel
theorem dX2_addZone_32 : decode cX2_addZone 32 = .ok (.return_, 1) := by decide +kernel
theorem dX3_init_0 : decode cX3_init 0 = .ok (.aload_n 0, 1) := by decide +kernel
theorem dX3_init_1 : decode cX3_init 1 = .ok (.invokespecial 3, 3) := by decide +kernel
theorem dX3_init_4 : decode cX3_init 4 = .ok (.aload_n 0, 1) := by decide +kernel
theorem dX3_init_5 : decode cX3_init 5 = .ok (.bipush 80, 2) := by decide +kernel
theorem dX3_init_7 : decode cX3_init 7 = .ok (.newarray .char, 2) := by decide +kernel
theorem dX3_init_9 : decode cX3_init 9 = .ok (.putfield 9, 3) := by decide +kernel
theorem dX3_init_12 : decode cX3_init 12 = .ok (.aload_n 0, 1) := by decide +kernel
theorem dX3_init_13 : decode cX3_init 13 = .ok (.new 15, 3) := by decide +kernel
theorem dX3_init_16 : decode cX3_init 16 = .ok (.dup, 1) := by decide +kernel
theorem dX3_init_17 : decode cX3_init 17 = .ok (.invokespecial 17, 3) := by decide +kernel
theorem dX3_init_20 : decode cX3_init 20 = .ok (.putfield 18, 3) := by decide +kernel
theorem dX3_init_23 : decode cX3_init 23 = .ok (.aload_n 0, 1) := by decide +kernel
theorem dX3_init_24 : decode cX3_init 24 = .ok (.bipush 27, 2) := by decide +kernel
theorem dX3_init_26 : decode cX3_init 26 = .ok (.anewarray 15, 3) := by decide +kernel
theorem dX3_init_29 : decode cX3_init 29 = .ok (.putfield 22, 3) := by decide +kernel
theorem dX3_init_32 : decode cX3_init 32 = .ok (.iconst 0, 1) := by decide +kernel
theorem dX3_init_33 : decode cX3_init 33 = .ok (.istore_n 1, 1) := by decide +kernel
theorem dX3_init_34 : decode cX3_init 34 = .ok (.iload_n 1, 1) := by decide +kernel
theorem dX3_init_35 : decode cX3_init 35 = .ok (.aload_n 0, 1) := by decide +kernel
theorem dX3_init_36 : decode cX3_init 36 = .ok (.getfield 22, 3) := by decide +kernel
theorem dX3_init_39 : decode cX3_init 39 = .ok (.arraylength, 1) := by decide +kernel
theorem dX3_init_40 : decode cX3_init 40 = .ok (.if_icmp .ge 22, 3) := by decide +kernel
theorem dX3_init_43 : decode cX3_init 43 = .ok (.aload_n 0, 1) := by decide +kernel
theorem dX3_init_44 : decode cX3_init 44 = .ok (.getfield 22, 3) := by decide +kernel
theorem dX3_init_47 : decode cX3_init 47 = .ok (.iload_n 1, 1) := by decide +kernel
theorem dX3_init_48 : decode cX3_init 48 = .ok (.new 15, 3) := by decide +kernel
theorem dX3_init_51 : decode cX3_init 51 = .ok (.dup, 1) := by decide +kernel
theorem dX3_init_52 : decode cX3_init 52 = .ok (.invokespecial 17, 3) := by decide +kernel
theorem dX3_init_55 : decode cX3_init 55 = .ok (.aastore, 1) := by decide +kernel
theorem dX3_init_56 : decode cX3_init 56 = .ok (.iinc 1 1, 3) := by decide +kernel
theorem dX3_init_59 : decode cX3_init 59 = .ok (.goto (-25), 3) := by decide +kernel
theorem dX3_init_62 : decode cX3_init 62 = .ok (.return_, 1) := by decide +kernel
theorem dX3_isFull_0 : decode cX3_isFull 0 = .ok (.aload_n 0, 1) := by decide +kernel
theorem dX3_isFull_1 : decode cX3_isFull 1 = .ok (.getfield 26, 3) := by decide +kernel
theorem dX3_isFull_4 : decode cX3_isFull 4 = .ok (.aload_n 0, 1) := by decide +kernel
theorem dX3_isFull_5 : decode cX3_isFull 5 = .ok (.getfield 9, 3) := by decide +kernel
theorem dX3_isFull_8 : decode cX3_isFull 8 = .ok (.arraylength, 1) := by decide +kernel
theorem dX3_isFull_9 : decode cX3_isFull 9 = .ok (.if_icmp .lt 7, 3) := by decide +kernel
theorem dX3_isFull_12 : decode cX3_isFull 12 = .ok (.iconst 1, 1) := by decide +kernel
theorem dX3_isFull_13 : decode cX3_isFull 13 = .ok (.goto 4, 3) := by decide +kernel
theorem dX3_isFull_16 : decode cX3_isFull 16 = .ok (.iconst 0, 1) := by decide +kernel
theorem dX3_isFull_17 : decode cX3_isFull 17 = .ok (.ireturn, 1) := by decide +kernel
theorem dX3_append_0 : decode cX3_append 0 = .ok (.aload_n 0, 1) := by decide +kernel
theorem dX3_append_1 : decode cX3_append 1 = .ok (.getfield 26, 3) := by decide +kernel
theorem dX3_append_4 : decode cX3_append 4 = .ok (.ifCond .lt 35, 3) := by decide +kernel
theorem dX3_append_7 : decode cX3_append 7 = .ok (.aload_n 0, 1) := by decide +kernel
theorem dX3_append_8 : decode cX3_append 8 = .ok (.getfield 26, 3) := by decide +kernel
theorem dX3_append_11 : decode cX3_append 11 = .ok (.aload_n 0, 1) := by decide +kernel
theorem dX3_append_12 : decode cX3_append 12 = .ok (.getfield 9, 3) := by decide +kernel
theorem dX3_append_15 : decode cX3_append 15 = .ok (.arraylength, 1) := by decide +kernel
theorem dX3_append_16 : decode cX3_append 16 = .ok (.if_icmp .ge 23, 3) := by decide +kernel
theorem dX3_append_19 : decode cX3_append 19 = .ok (.aload_n 0, 1) := by decide +kernel
theorem dX3_append_20 : decode cX3_append 20 = .ok (.getfield 9, 3) := by decide +kernel
theorem dX3_append_23 : decode cX3_append 23 = .ok (.aload_n 0, 1) := by decide +kernel
theorem dX3_append_24 : decode cX3_append 24 = .ok (.getfield 26, 3) := by decide +kernel
theorem dX3_append_27 : decode cX3_append 27 = .ok (.iload_n 1, 1) := by decide +kernel
theorem dX3_append_28 : decode cX3_append 28 = .ok (.castore, 1) := by decide +kernel
theorem dX3_append_29 : decode cX3_append 29 = .ok (.aload_n 0, 1) := by decide +kernel
theorem dX3_append_30 : decode cX3_append 30 = .ok (.dup, 1) := by decide +kernel
theorem dX3_append_31 : decode cX3_append 31 = .ok (.getfield 26, 3) := by decide +kernel
theorem dX3_append_34 : decode cX3_append 34 = .ok (.iconst 1, 1) := by decide +kernel
theorem dX3_append_35 : decode cX3_append 35 = .ok (.iadd, 1) := by decide +kernel
theorem dX3_append_36 : decode cX3_append 36 = .ok (.putfield 26, 3) := by decide +kernel
theorem dX3_append_39 : decode cX3_append 39 = .ok (.aload_n 0, 1) := by decide +kernel
theorem dX3_append_40 : decode cX3_append 40 = .ok (.getfield 26, 3) := by decide +kernel
theorem dX3_append_43 : decode cX3_append 43 = .ok (.ireturn, 1) := by decide +kernel
theorem dX3_commandAt_0 : decode cX3_commandAt 0 = .ok (.iload_n 1, 1) := by decide +kernel
theorem dX3_commandAt_1 : decode cX3_commandAt 1 = .ok (.ifCond .lt 30, 3) := by decide +kernel
theorem dX3_commandAt_4 : decode cX3_commandAt 4 = .ok (.iload_n 1, 1) := by decide +kernel
theorem dX3_commandAt_5 : decode cX3_commandAt 5 = .ok (.aload_n 0, 1) := by decide +kernel
theorem dX3_commandAt_6 : decode cX3_commandAt 6 = .ok (.getfield 22, 3) := by decide +kernel
theorem dX3_commandAt_9 : decode cX3_commandAt 9 = .ok (.arraylength, 1) := by decide +kernel
theorem dX3_commandAt_10 : decode cX3_commandAt 10 = .ok (.if_icmp .ge 21, 3) := by decide +kernel
theorem dX3_commandAt_13 : decode cX3_commandAt 13 = .ok (.aload_n 0, 1) := by decide +kernel
theorem dX3_commandAt_14 : decode cX3_commandAt 14 = .ok (.getfield 22, 3) := by decide +kernel
theorem dX3_commandAt_17 : decode cX3_commandAt 17 = .ok (.iload_n 1, 1) := by decide +kernel
theorem dX3_commandAt_18 : decode cX3_commandAt 18 = .ok (.aaload, 1) := by decide +kernel
theorem dX3_commandAt_19 : decode cX3_commandAt 19 = .ok (.ifnull 12, 3) := by decide +kernel
theorem dX3_commandAt_22 : decode cX3_commandAt 22 = .ok (.aload_n 0, 1) := by decide +kernel
theorem dX3_commandAt_23 : decode cX3_commandAt 23 = .ok (.getfield 22, 3) := by decide +kernel
theorem dX3_commandAt_26 : decode cX3_commandAt 26 = .ok (.iload_n 1, 1) := by decide +kernel
theorem dX3_commandAt_27 : decode cX3_commandAt 27 = .ok (.aaload, 1) := by decide +kernel
theorem dX3_commandAt_28 : decode cX3_commandAt 28 = .ok (.goto 7, 3) := by decide +kernel
theorem dX3_commandAt_31 : decode cX3_commandAt 31 = .ok (.aload_n 0, 1) := by decide +kernel
theorem dX3_commandAt_32 : decode cX3_commandAt 32 = .ok (.getfield 18, 3) := by decide +kernel
theorem dX3_commandAt_35 : decode cX3_commandAt 35 = .ok (.areturn, 1) := by decide +kernel
theorem dX3_readCommands_0 : decode cX3_readCommands 0 = .ok (.aload_n 0, 1) := by decide +kernel
theorem dX3_readCommands_1 : decode cX3_readCommands 1 = .ok (.iconst 0, 1) := by decide +kernel
theorem dX3_readCommands_2 : decode cX3_readCommands 2 = .ok (.putfield 30, 3) := by decide +kernel
theorem dX3_readCommands_5 : decode cX3_readCommands 5 = .ok (.aload_n 0, 1) := by decide +kernel
theorem dX3_readCommands_6 : decode cX3_readCommands 6 = .ok (.invokevirtual 33, 3) := by decide +kernel
theorem dX3_readCommands_9 : decode cX3_readCommands 9 = .ok (.istore_n 1, 1) := by decide +kernel
theorem dX3_readCommands_10 : decode cX3_readCommands 10 = .ok (.aload_n 0, 1) := by decide +kernel
theorem dX3_readCommands_11 : decode cX3_readCommands 11 = .ok (.iconst 0, 1) := by decide +kernel
theorem dX3_readCommands_12 : decode cX3_readCommands 12 = .ok (.putfield 26, 3) := by decide +kernel
theorem dX3_readCommands_15 : decode cX3_readCommands 15 = .ok (.iload_n 1, 1) := by decide +kernel
theorem dX3_readCommands_16 : decode cX3_readCommands 16 = .ok (.ifCond .eq 7, 3) := by decide +kernel
theorem dX3_readCommands_19 : decode cX3_readCommands 19 = .ok (.iconst (-1), 1) := by decide +kernel
theorem dX3_readCommands_20 : decode cX3_readCommands 20 = .ok (.goto 7, 3) := by decide +kernel
theorem dX3_readCommands_23 : decode cX3_readCommands 23 = .ok (.aload_n 0, 1) := by decide +kernel
theorem dX3_readCommands_24 : decode cX3_readCommands 24 = .ok (.getfield 30, 3) := by decide +kernel
theorem dX3_readCommands_27 : decode cX3_readCommands 27 = .ok (.ireturn, 1) := by decide +kernel
theorem dX3_readText_0 : decode cX3_readText 0 = .ok (.iconst 0, 1) := by decide +kernel
theorem dX3_readText_1 : decode cX3_readText 1 = .ok (.istore_n 1, 1) := by decide +kernel
theorem dX3_readText_2 : decode cX3_readText 2 = .ok (.iload_n 1, 1) := by decide +kernel
theorem dX3_readText_3 : decode cX3_readText 3 = .ok (.aload_n 0, 1) := by decide +kernel
theorem dX3_readText_4 : decode cX3_readText 4 = .ok (.getfield 22, 3) := by decide +kernel
theorem dX3_readText_7 : decode cX3_readText 7 = .ok (.arraylength, 1) := by decide +kernel
theorem dX3_readText_8 : decode cX3_readText 8 = .ok (.if_icmp .ge 56, 3) := by decide +kernel
theorem dX3_readText_11 : decode cX3_readText 11 = .ok (.aload_n 0, 1) := by decide +kernel
theorem dX3_readText_12 : decode cX3_readText 12 = .ok (.aload_n 0, 1) := by decide +kernel
theorem dX3_readText_13 : decode cX3_readText 13 = .ok (.iload_n 1, 1) := by decide +kernel
theorem dX3_readText_14 : decode cX3_readText 14 = .ok (.invokevirtual 37, 3) := by decide +kernel
theorem dX3_readText_17 : decode cX3_readText 17 = .ok (.invokevirtual 41, 3) := by decide +kernel
theorem dX3_readText_20 : decode cX3_readText 20 = .ok (.ifCond .ne 5, 3) := by decide +kernel
theorem dX3_readText_23 : decode cX3_readText 23 = .ok (.iconst 0, 1) := by decide +kernel
theorem dX3_readText_24 : decode cX3_readText 24 = .ok (.ireturn, 1) := by decide +kernel
theorem dX3_readText_25 : decode cX3_readText 25 = .ok (.aload_n 0, 1) := by decide +kernel
theorem dX3_readText_26 : decode cX3_readText 26 = .ok (.iload_n 1, 1) := by decide +kernel
theorem dX3_readText_27 : decode cX3_readText 27 = .ok (.iconst 1, 1) := by decide +kernel
theorem dX3_readText_28 : decode cX3_readText 28 = .ok (.iadd, 1) := by decide +kernel
theorem dX3_readText_29 : decode cX3_readText 29 = .ok (.putfield 45, 3) := by decide +kernel
theorem dX3_readText_32 : decode cX3_readText 32 = .ok (.aload_n 0, 1) := by decide +kernel
theorem dX3_readText_33 : decode cX3_readText 33 = .ok (.bipush 59, 2) := by decide +kernel
theorem dX3_readText_35 : decode cX3_readText 35 = .ok (.invokevirtual 48, 3) := by decide +kernel
theorem dX3_readText_38 : decode cX3_readText 38 = .ok (.ifCond .ne 20, 3) := by decide +kernel
theorem dX3_readText_41 : decode cX3_readText 41 = .ok (.aload_n 0, 1) := by decide +kernel
theorem dX3_readText_42 : decode cX3_readText 42 = .ok (.getfield 30, 3) := by decide +kernel
theorem dX3_readText_45 : decode cX3_readText 45 = .ok (.aload_n 0, 1) := by decide +kernel
theorem dX3_readText_46 : decode cX3_readText 46 = .ok (.getfield 26, 3) := by decide +kernel
theorem dX3_readText_49 : decode cX3_readText 49 = .ok (.if_icmp .ne 7, 3) := by decide +kernel
theorem dX3_readText_52 : decode cX3_readText 52 = .ok (.iconst 1, 1) := by decide +kernel
theorem dX3_readText_53 : decode cX3_readText 53 = .ok (.goto 4, 3) := by decide +kernel
theorem dX3_readText_56 : decode cX3_readText 56 = .ok (.iconst 0, 1) := by decide +kernel
theorem dX3_readText_57 : decode cX3_readText 57 = .ok (.ireturn, 1) := by decide +kernel
theorem dX3_readText_58 : decode cX3_readText 58 = .ok (.iinc 1 1, 3) := by decide +kernel
theorem dX3_readText_61 : decode cX3_readText 61 = .ok (.goto (-59), 3) := by decide +kernel
theorem dX3_readText_64 : decode cX3_readText 64 = .ok (.iconst 0, 1) := by decide +kernel
theorem dX3_readText_65 : decode cX3_readText 65 = .ok (.ireturn, 1) := by decide +kernel
theorem dX3_readCommand_0 : decode cX3_readCommand 0 = .ok (.aload_n 0, 1) := by decide +kernel
theorem dX3_readCommand_1 : decode cX3_readCommand 1 = .ok (.bipush 106, 2) := by decide +kernel
theorem dX3_readCommand_3 : decode cX3_readCommand 3 = .ok (.invokevirtual 48, 3) := by decide +kernel
theorem dX3_readCommand_6 : decode cX3_readCommand 6 = .ok (.ifCond .eq 14, 3) := by decide +kernel
theorem dX3_readCommand_9 : decode cX3_readCommand 9 = .ok (.aload_n 1, 1) := by decide +kernel
theorem dX3_readCommand_10 : decode cX3_readCommand 10 = .ok (.iconst 0, 1) := by decide +kernel
theorem dX3_readCommand_11 : decode cX3_readCommand 11 = .ok (.putfield 52, 3) := by decide +kernel
theorem dX3_readCommand_14 : decode cX3_readCommand 14 = .ok (.aload_n 0, 1) := by decide +kernel
theorem dX3_readCommand_15 : decode cX3_readCommand 15 = .ok (.aload_n 1, 1) := by decide +kernel
theorem dX3_readCommand_16 : decode cX3_readCommand 16 = .ok (.invokevirtual 55, 3) := by decide +kernel
theorem dX3_readCommand_19 : decode cX3_readCommand 19 = .ok (.ireturn, 1) := by decide +kernel
theorem dX3_readCommand_20 : decode cX3_readCommand 20 = .ok (.aload_n 0, 1) := by decide +kernel
theorem dX3_readCommand_21 : decode cX3_readCommand 21 = .ok (.bipush 116, 2) := by decide +kernel
theorem dX3_readCommand_23 : decode cX3_readCommand 23 = .ok (.invokevirtual 48, 3) := by decide +kernel
theorem dX3_readCommand_26 : decode cX3_readCommand 26 = .ok (.ifCond .eq 14, 3) := by decide +kernel
theorem dX3_readCommand_29 : decode cX3_readCommand 29 = .ok (.aload_n 1, 1) := by decide +kernel
theorem dX3_readCommand_30 : decode cX3_readCommand 30 = .ok (.iconst 1, 1) := by decide +kernel
theorem dX3_readCommand_31 : decode cX3_readCommand 31 = .ok (.putfield 52, 3) := by decide +kernel
theorem dX3_readCommand_34 : decode cX3_readCommand 34 = .ok (.aload_n 0, 1) := by decide +kernel
theorem dX3_readCommand_35 : decode cX3_readCommand 35 = .ok (.aload_n 1, 1) := by decide +kernel
theorem dX3_readCommand_36 : decode cX3_readCommand 36 = .ok (.invokevirtual 58, 3) := by decide +kernel
theorem dX3_readCommand_39 : decode cX3_readCommand 39 = .ok (.ireturn, 1) := by decide +kernel
theorem dX3_readCommand_40 : decode cX3_readCommand 40 = .ok (.aload_n 0, 1) := by decide +kernel
theorem dX3_readCommand_41 : decode cX3_readCommand 41 = .ok (.bipush 105, 2) := by decide +kernel
theorem dX3_readCommand_43 : decode cX3_readCommand 43 = .ok (.invokevirtual 48, 3) := by decide +kernel
theorem dX3_readCommand_46 : decode cX3_readCommand 46 = .ok (.ifCond .eq 14, 3) := by decide +kernel
theorem dX3_readCommand_49 : decode cX3_readCommand 49 = .ok (.aload_n 1, 1) := by decide +kernel
theorem dX3_readCommand_50 : decode cX3_readCommand 50 = .ok (.iconst 2, 1) := by decide +kernel
theorem dX3_readCommand_51 : decode cX3_readCommand 51 = .ok (.putfield 52, 3) := by decide +kernel
theorem dX3_readCommand_54 : decode cX3_readCommand 54 = .ok (.aload_n 0, 1) := by decide +kernel
theorem dX3_readCommand_55 : decode cX3_readCommand 55 = .ok (.aload_n 1, 1) := by decide +kernel
theorem dX3_readCommand_56 : decode cX3_readCommand 56 = .ok (.invokevirtual 61, 3) := by decide +kernel
theorem dX3_readCommand_59 : decode cX3_readCommand 59 = .ok (.ireturn, 1) := by decide +kernel
theorem dX3_readCommand_60 : decode cX3_readCommand 60 = .ok (.iconst 0, 1) := by decide +kernel
theorem dX3_readCommand_61 : decode cX3_readCommand 61 = .ok (.ireturn, 1) := by decide +kernel
theorem dX3_readJob_0 : decode cX3_readJob 0 = .ok (.aload_n 0, 1) := by decide +kernel
theorem dX3_readJob_1 : decode cX3_readJob 1 = .ok (.invokevirtual 64, 3) := by decide +kernel
theorem dX3_readJob_4 : decode cX3_readJob 4 = .ok (.ifCond .ne 5, 3) := by decide +kernel
theorem dX3_readJob_7 : decode cX3_readJob 7 = .ok (.iconst 0, 1) := by decide +kernel
theorem dX3_readJob_8 : decode cX3_readJob 8 = .ok (.ireturn, 1) := by decide +kernel
theorem dX3_readJob_9 : decode cX3_readJob 9 = .ok (.aload_n 1, 1) := by decide +kernel
theorem dX3_readJob_10 : decode cX3_readJob 10 = .ok (.aload_n 0, 1) := by decide +kernel
theorem dX3_readJob_11 : decode cX3_readJob 11 = .ok (.getfield 67, 3) := by decide +kernel
theorem dX3_readJob_14 : decode cX3_readJob 14 = .ok (.putfield 70, 3) := by decide +kernel
theorem dX3_readJob_17 : decode cX3_readJob 17 = .ok (.aload_n 0, 1) := by decide +kernel
theorem dX3_readJob_18 : decode cX3_readJob 18 = .ok (.bipush 58, 2) := by decide +kernel
theorem dX3_readJob_20 : decode cX3_readJob 20 = .ok (.invokevirtual 48, 3) := by decide +kernel
theorem dX3_readJob_23 : decode cX3_readJob 23 = .ok (.ifCond .eq 27, 3) := by decide +kernel
theorem dX3_readJob_26 : decode cX3_readJob 26 = .ok (.aload_n 0, 1) := by decide +kernel
theorem dX3_readJob_27 : decode cX3_readJob 27 = .ok (.aload_n 1, 1) := by decide +kernel
theorem dX3_readJob_28 : decode cX3_readJob 28 = .ok (.invokevirtual 73, 3) := by decide +kernel
theorem dX3_readJob_31 : decode cX3_readJob 31 = .ok (.ifCond .eq 19, 3) := by decide +kernel
theorem dX3_readJob_34 : decode cX3_readJob 34 = .ok (.aload_n 0, 1) := by decide +kernel
theorem dX3_readJob_35 : decode cX3_readJob 35 = .ok (.bipush 47, 2) := by decide +kernel
theorem dX3_readJob_37 : decode cX3_readJob 37 = .ok (.invokevirtual 48, 3) := by decide +kernel
theorem dX3_readJob_40 : decode cX3_readJob 40 = .ok (.ifCond .eq 10, 3) := by decide +kernel
theorem dX3_readJob_43 : decode cX3_readJob 43 = .ok (.aload_n 0, 1) := by decide +kernel
theorem dX3_readJob_44 : decode cX3_readJob 44 = .ok (.invokevirtual 64, 3) := by decide +kernel
theorem dX3_readJob_47 : decode cX3_readJob 47 = .ok (.ifCond .ne 5, 3) := by decide +kernel
theorem dX3_readJob_50 : decode cX3_readJob 50 = .ok (.iconst 0, 1) := by decide +kernel
theorem dX3_readJob_51 : decode cX3_readJob 51 = .ok (.ireturn, 1) := by decide +kernel
theorem dX3_readJob_52 : decode cX3_readJob 52 = .ok (.aload_n 1, 1) := by decide +kernel
theorem dX3_readJob_53 : decode cX3_readJob 53 = .ok (.aload_n 0, 1) := by decide +kernel
theorem dX3_readJob_54 : decode cX3_readJob 54 = .ok (.getfield 67, 3) := by decide +kernel
theorem dX3_readJob_57 : decode cX3_readJob 57 = .ok (.putfield 76, 3) := by decide +kernel
theorem dX3_readJob_60 : decode cX3_readJob 60 = .ok (.aload_n 0, 1) := by decide +kernel
theorem dX3_readJob_61 : decode cX3_readJob 61 = .ok (.bipush 119, 2) := by decide +kernel
theorem dX3_readJob_63 : decode cX3_readJob 63 = .ok (.invokevirtual 48, 3) := by decide +kernel
theorem dX3_readJob_66 : decode cX3_readJob 66 = .ok (.ifCond .eq 10, 3) := by decide +kernel
theorem dX3_readJob_69 : decode cX3_readJob 69 = .ok (.aload_n 0, 1) := by decide +kernel
theorem dX3_readJob_70 : decode cX3_readJob 70 = .ok (.invokevirtual 64, 3) := by decide +kernel
theorem dX3_readJob_73 : decode cX3_readJob 73 = .ok (.ifCond .ne 5, 3) := by decide +kernel
theorem dX3_readJob_76 : decode cX3_readJob 76 = .ok (.iconst 0, 1) := by decide +kernel
theorem dX3_readJob_77 : decode cX3_readJob 77 = .ok (.ireturn, 1) := by decide +kernel
theorem dX3_readJob_78 : decode cX3_readJob 78 = .ok (.aload_n 1, 1) := by decide +kernel
theorem dX3_readJob_79 : decode cX3_readJob 79 = .ok (.aload_n 0, 1) := by decide +kernel
theorem dX3_readJob_80 : decode cX3_readJob 80 = .ok (.getfield 67, 3) := by decide +kernel
theorem dX3_readJob_83 : decode cX3_readJob 83 = .ok (.putfield 79, 3) := by decide +kernel
theorem dX3_readJob_86 : decode cX3_readJob 86 = .ok (.aload_n 0, 1) := by decide +kernel
theorem dX3_readJob_87 : decode cX3_readJob 87 = .ok (.aload_n 1, 1) := by decide +kernel
theorem dX3_readJob_88 : decode cX3_readJob 88 = .ok (.invokevirtual 82, 3) := by decide +kernel
theorem dX3_readJob_91 : decode cX3_readJob 91 = .ok (.ireturn, 1) := by decide +kernel
theorem dX3_readPath_0 : decode cX3_readPath 0 = .ok (.aload_n 1, 1) := by decide +kernel
theorem dX3_readPath_1 : decode cX3_readPath 1 = .ok (.iconst 0, 1) := by decide +kernel
theorem dX3_readPath_2 : decode cX3_readPath 2 = .ok (.putfield 85, 3) := by decide +kernel
theorem dX3_readPath_5 : decode cX3_readPath 5 = .ok (.iconst 0, 1) := by decide +kernel
theorem dX3_readPath_6 : decode cX3_readPath 6 = .ok (.istore_n 2, 1) := by decide +kernel
theorem dX3_readPath_7 : decode cX3_readPath 7 = .ok (.iload_n 2, 1) := by decide +kernel
theorem dX3_readPath_8 : decode cX3_readPath 8 = .ok (.iconst 5, 1) := by decide +kernel
theorem dX3_readPath_9 : decode cX3_readPath 9 = .ok (.if_icmp .ge 41, 3) := by decide +kernel
theorem dX3_readPath_12 : decode cX3_readPath 12 = .ok (.iload_n 2, 1) := by decide +kernel
theorem dX3_readPath_13 : decode cX3_readPath 13 = .ok (.ifCond .le 14, 3) := by decide +kernel
theorem dX3_readPath_16 : decode cX3_readPath 16 = .ok (.aload_n 0, 1) := by decide +kernel
theorem dX3_readPath_17 : decode cX3_readPath 17 = .ok (.bipush 44, 2) := by decide +kernel
theorem dX3_readPath_19 : decode cX3_readPath 19 = .ok (.invokevirtual 48, 3) := by decide +kernel
theorem dX3_readPath_22 : decode cX3_readPath 22 = .ok (.ifCond .ne 5, 3) := by decide +kernel
theorem dX3_readPath_25 : decode cX3_readPath 25 = .ok (.iconst 1, 1) := by decide +kernel
theorem dX3_readPath_26 : decode cX3_readPath 26 = .ok (.ireturn, 1) := by decide +kernel
theorem dX3_readPath_27 : decode cX3_readPath 27 = .ok (.aload_n 0, 1) := by decide +kernel
theorem dX3_readPath_28 : decode cX3_readPath 28 = .ok (.invokevirtual 64, 3) := by decide +kernel
theorem dX3_readPath_31 : decode cX3_readPath 31 = .ok (.ifCond .ne 5, 3) := by decide +kernel
theorem dX3_readPath_34 : decode cX3_readPath 34 = .ok (.iconst 0, 1) := by decide +kernel
theorem dX3_readPath_35 : decode cX3_readPath 35 = .ok (.ireturn, 1) := by decide +kernel
theorem dX3_readPath_36 : decode cX3_readPath 36 = .ok (.aload_n 1, 1) := by decide +kernel
theorem dX3_readPath_37 : decode cX3_readPath 37 = .ok (.aload_n 0, 1) := by decide +kernel
theorem dX3_readPath_38 : decode cX3_readPath 38 = .ok (.getfield 67, 3) := by decide +kernel
theorem dX3_readPath_41 : decode cX3_readPath 41 = .ok (.invokevirtual 88, 3) := by decide +kernel
theorem dX3_readPath_44 : decode cX3_readPath 44 = .ok (.iinc 2 1, 3) := by decide +kernel
theorem dX3_readPath_47 : decode cX3_readPath 47 = .ok (.goto (-40), 3) := by decide +kernel
theorem dX3_readPath_50 : decode cX3_readPath 50 = .ok (.iconst 1, 1) := by decide +kernel
theorem dX3_readPath_51 : decode cX3_readPath 51 = .ok (.ireturn, 1) := by decide +kernel
theorem dX3_readBuffers_0 : decode cX3_readBuffers 0 = .ok (.aload_n 1, 1) := by decide +kernel
theorem dX3_readBuffers_1 : decode cX3_readBuffers 1 = .ok (.iconst (-1), 1) := by decide +kernel
theorem dX3_readBuffers_2 : decode cX3_readBuffers 2 = .ok (.putfield 92, 3) := by decide +kernel
theorem dX3_readBuffers_5 : decode cX3_readBuffers 5 = .ok (.aload_n 1, 1) := by decide +kernel
theorem dX3_readBuffers_6 : decode cX3_readBuffers 6 = .ok (.iconst (-1), 1) := by decide +kernel
theorem dX3_readBuffers_7 : decode cX3_readBuffers 7 = .ok (.putfield 95, 3) := by decide +kernel
theorem dX3_readBuffers_10 : decode cX3_readBuffers 10 = .ok (.aload_n 0, 1) := by decide +kernel
theorem dX3_readBuffers_11 : decode cX3_readBuffers 11 = .ok (.bipush 60, 2) := by decide +kernel
theorem dX3_readBuffers_13 : decode cX3_readBuffers 13 = .ok (.invokevirtual 48, 3) := by decide +kernel
theorem dX3_readBuffers_16 : decode cX3_readBuffers 16 = .ok (.ifCond .eq 20, 3) := by decide +kernel
theorem dX3_readBuffers_19 : decode cX3_readBuffers 19 = .ok (.aload_n 0, 1) := by decide +kernel
theorem dX3_readBuffers_20 : decode cX3_readBuffers 20 = .ok (.invokevirtual 64, 3) := by decide +kernel
theorem dX3_readBuffers_23 : decode cX3_readBuffers 23 = .ok (.ifCond .ne 5, 3) := by decide +kernel
theorem dX3_readBuffers_26 : decode cX3_readBuffers 26 = .ok (.iconst 0, 1) := by decide +kernel
theorem dX3_readBuffers_27 : decode cX3_readBuffers 27 = .ok (.ireturn, 1) := by decide +kernel
theorem dX3_readBuffers_28 : decode cX3_readBuffers 28 = .ok (.aload_n 1, 1) := by decide +kernel
theorem dX3_readBuffers_29 : decode cX3_readBuffers 29 = .ok (.aload_n 0, 1) := by decide +kernel
theorem dX3_readBuffers_30 : decode cX3_readBuffers 30 = .ok (.getfield 67, 3) := by decide +kernel
theorem dX3_readBuffers_33 : decode cX3_readBuffers 33 = .ok (.putfield 92, 3) := by decide +kernel
theorem dX3_readBuffers_36 : decode cX3_readBuffers 36 = .ok (.aload_n 0, 1) := by decide +kernel
theorem dX3_readBuffers_37 : decode cX3_readBuffers 37 = .ok (.bipush 62, 2) := by decide +kernel
theorem dX3_readBuffers_39 : decode cX3_readBuffers 39 = .ok (.invokevirtual 48, 3) := by decide +kernel
theorem dX3_readBuffers_42 : decode cX3_readBuffers 42 = .ok (.ifCond .eq 20, 3) := by decide +kernel
theorem dX3_readBuffers_45 : decode cX3_readBuffers 45 = .ok (.aload_n 0, 1) := by decide +kernel
theorem dX3_readBuffers_46 : decode cX3_readBuffers 46 = .ok (.invokevirtual 64, 3) := by decide +kernel
theorem dX3_readBuffers_49 : decode cX3_readBuffers 49 = .ok (.ifCond .ne 5, 3) := by decide +kernel
theorem dX3_readBuffers_52 : decode cX3_readBuffers 52 = .ok (.iconst 0, 1) := by decide +kernel
theorem dX3_readBuffers_53 : decode cX3_readBuffers 53 = .ok (.ireturn, 1) := by decide +kernel
theorem dX3_readBuffers_54 : decode cX3_readBuffers 54 = .ok (.aload_n 1, 1) := by decide +kernel
theorem dX3_readBuffers_55 : decode cX3_readBuffers 55 = .ok (.aload_n 0, 1) := by decide +kernel
theorem dX3_readBuffers_56 : decode cX3_readBuffers 56 = .ok (.getfield 67, 3) := by decide +kernel
theorem dX3_readBuffers_59 : decode cX3_readBuffers 59 = .ok (.putfield 95, 3) := by decide +kernel
theorem dX3_readBuffers_62 : decode cX3_readBuffers 62 = .ok (.iconst 1, 1) := by decide +kernel
theorem dX3_readBuffers_63 : decode cX3_readBuffers 63 = .ok (.ireturn, 1) := by decide +kernel
theorem dX3_readTicks_0 : decode cX3_readTicks 0 = .ok (.aload_n 0, 1) := by decide +kernel
theorem dX3_readTicks_1 : decode cX3_readTicks 1 = .ok (.invokevirtual 64, 3) := by decide +kernel
theorem dX3_readTicks_4 : decode cX3_readTicks 4 = .ok (.ifCond .ne 5, 3) := by decide +kernel
theorem dX3_readTicks_7 : decode cX3_readTicks 7 = .ok (.iconst 0, 1) := by decide +kernel
theorem dX3_readTicks_8 : decode cX3_readTicks 8 = .ok (.ireturn, 1) := by decide +kernel
theorem dX3_readTicks_9 : decode cX3_readTicks 9 = .ok (.aload_n 1, 1) := by decide +kernel
theorem dX3_readTicks_10 : decode cX3_readTicks 10 = .ok (.aload_n 0, 1) := by decide +kernel
theorem dX3_readTicks_11 : decode cX3_readTicks 11 = .ok (.getfield 67, 3) := by decide +kernel
theorem dX3_readTicks_14 : decode cX3_readTicks 14 = .ok (.putfield 98, 3) := by decide +kernel
theorem dX3_readTicks_17 : decode cX3_readTicks 17 = .ok (.aload_n 0, 1) := by decide +kernel
theorem dX3_readTicks_18 : decode cX3_readTicks 18 = .ok (.invokevirtual 64, 3) := by decide +kernel
theorem dX3_readTicks_21 : decode cX3_readTicks 21 = .ok (.ifCond .eq 19, 3) := by decide +kernel
theorem dX3_readTicks_24 : decode cX3_readTicks 24 = .ok (.aload_n 1, 1) := by decide +kernel
theorem dX3_readTicks_25 : decode cX3_readTicks 25 = .ok (.aload_n 1, 1) := by decide +kernel
theorem dX3_readTicks_26 : decode cX3_readTicks 26 = .ok (.getfield 98, 3) := by decide +kernel
theorem dX3_readTicks_29 : decode cX3_readTicks 29 = .ok (.bipush 10, 2) := by decide +kernel
theorem dX3_readTicks_31 : decode cX3_readTicks 31 = .ok (.imul, 1) := by decide +kernel
theorem dX3_readTicks_32 : decode cX3_readTicks 32 = .ok (.aload_n 0, 1) := by decide +kernel
theorem dX3_readTicks_33 : decode cX3_readTicks 33 = .ok (.getfield 67, 3) := by decide +kernel
theorem dX3_readTicks_36 : decode cX3_readTicks 36 = .ok (.iadd, 1) := by decide +kernel
theorem dX3_readTicks_37 : decode cX3_readTicks 37 = .ok (.putfield 98, 3) := by decide +kernel
theorem dX3_readTicks_40 : decode cX3_readTicks 40 = .ok (.iconst 1, 1) := by decide +kernel
theorem dX3_readTicks_41 : decode cX3_readTicks 41 = .ok (.ireturn, 1) := by decide +kernel
theorem dX3_readInterlock_0 : decode cX3_readInterlock 0 = .ok (.aload_n 0, 1) := by decide +kernel
theorem dX3_readInterlock_1 : decode cX3_readInterlock 1 = .ok (.invokevirtual 64, 3) := by decide +kernel
theorem dX3_readInterlock_4 : decode cX3_readInterlock 4 = .ok (.ifCond .ne 5, 3) := by decide +kernel
theorem dX3_readInterlock_7 : decode cX3_readInterlock 7 = .ok (.iconst 0, 1) := by decide +kernel
theorem dX3_readInterlock_8 : decode cX3_readInterlock 8 = .ok (.ireturn, 1) := by decide +kernel
theorem dX3_readInterlock_9 : decode cX3_readInterlock 9 = .ok (.aload_n 1, 1) := by decide +kernel
theorem dX3_readInterlock_10 : decode cX3_readInterlock 10 = .ok (.aload_n 0, 1) := by decide +kernel
theorem dX3_readInterlock_11 : decode cX3_readInterlock 11 = .ok (.getfield 67, 3) := by decide +kernel
theorem dX3_readInterlock_14 : decode cX3_readInterlock 14 = .ok (.putfield 101, 3) := by decide +kernel
theorem dX3_readInterlock_17 : decode cX3_readInterlock 17 = .ok (.aload_n 0, 1) := by decide +kernel
theorem dX3_readInterlock_18 : decode cX3_readInterlock 18 = .ok (.invokevirtual 64, 3) := by decide +kernel
theorem dX3_readInterlock_21 : decode cX3_readInterlock 21 = .ok (.ifCond .ne 5, 3) := by decide +kernel
theorem dX3_readInterlock_24 : decode cX3_readInterlock 24 = .ok (.iconst 0, 1) := by decide +kernel
theorem dX3_readInterlock_25 : decode cX3_readInterlock 25 = .ok (.ireturn, 1) := by decide +kernel
theorem dX3_readInterlock_26 : decode cX3_readInterlock 26 = .ok (.aload_n 1, 1) := by decide +kernel
theorem dX3_readInterlock_27 : decode cX3_readInterlock 27 = .ok (.aload_n 0, 1) := by decide +kernel
theorem dX3_readInterlock_28 : decode cX3_readInterlock 28 = .ok (.getfield 67, 3) := by decide +kernel
theorem dX3_readInterlock_31 : decode cX3_readInterlock 31 = .ok (.putfield 104, 3) := by decide +kernel
theorem dX3_readInterlock_34 : decode cX3_readInterlock 34 = .ok (.iconst 1, 1) := by decide +kernel
theorem dX3_readInterlock_35 : decode cX3_readInterlock 35 = .ok (.ireturn, 1) := by decide +kernel
theorem dX3_take_0 : decode cX3_take 0 = .ok (.aload_n 0, 1) := by decide +kernel
theorem dX3_take_1 : decode cX3_take 1 = .ok (.getfield 30, 3) := by decide +kernel
theorem dX3_take_4 : decode cX3_take 4 = .ok (.ifCond .lt 51, 3) := by decide +kernel
theorem dX3_take_7 : decode cX3_take 7 = .ok (.aload_n 0, 1) := by decide +kernel
theorem dX3_take_8 : decode cX3_take 8 = .ok (.getfield 30, 3) := by decide +kernel
theorem dX3_take_11 : decode cX3_take 11 = .ok (.aload_n 0, 1) := by decide +kernel
theorem dX3_take_12 : decode cX3_take 12 = .ok (.getfield 26, 3) := by decide +kernel
theorem dX3_take_15 : decode cX3_take 15 = .ok (.if_icmp .ge 40, 3) := by decide +kernel
theorem dX3_take_18 : decode cX3_take 18 = .ok (.aload_n 0, 1) := by decide +kernel
theorem dX3_take_19 : decode cX3_take 19 = .ok (.getfield 30, 3) := by decide +kernel
theorem dX3_take_22 : decode cX3_take 22 = .ok (.aload_n 0, 1) := by decide +kernel
theorem dX3_take_23 : decode cX3_take 23 = .ok (.getfield 9, 3) := by decide +kernel
theorem dX3_take_26 : decode cX3_take 26 = .ok (.arraylength, 1) := by decide +kernel
theorem dX3_take_27 : decode cX3_take 27 = .ok (.if_icmp .ge 28, 3) := by decide +kernel
theorem dX3_take_30 : decode cX3_take 30 = .ok (.aload_n 0, 1) := by decide +kernel
theorem dX3_take_31 : decode cX3_take 31 = .ok (.getfield 9, 3) := by decide +kernel
theorem dX3_take_34 : decode cX3_take 34 = .ok (.aload_n 0, 1) := by decide +kernel
theorem dX3_take_35 : decode cX3_take 35 = .ok (.getfield 30, 3) := by decide +kernel
theorem dX3_take_38 : decode cX3_take 38 = .ok (.caload, 1) := by decide +kernel
theorem dX3_take_39 : decode cX3_take 39 = .ok (.iload_n 1, 1) := by decide +kernel
theorem dX3_take_40 : decode cX3_take 40 = .ok (.if_icmp .ne 15, 3) := by decide +kernel
theorem dX3_take_43 : decode cX3_take 43 = .ok (.aload_n 0, 1) := by decide +kernel
theorem dX3_take_44 : decode cX3_take 44 = .ok (.dup, 1) := by decide +kernel
theorem dX3_take_45 : decode cX3_take 45 = .ok (.getfield 30, 3) := by decide +kernel
theorem dX3_take_48 : decode cX3_take 48 = .ok (.iconst 1, 1) := by decide +kernel
theorem dX3_take_49 : decode cX3_take 49 = .ok (.iadd, 1) := by decide +kernel
theorem dX3_take_50 : decode cX3_take 50 = .ok (.putfield 30, 3) := by decide +kernel
theorem dX3_take_53 : decode cX3_take 53 = .ok (.iconst 1, 1) := by decide +kernel
theorem dX3_take_54 : decode cX3_take 54 = .ok (.ireturn, 1) := by decide +kernel
theorem dX3_take_55 : decode cX3_take 55 = .ok (.iconst 0, 1) := by decide +kernel
theorem dX3_take_56 : decode cX3_take 56 = .ok (.ireturn, 1) := by decide +kernel
theorem dX3_takeDigit_0 : decode cX3_takeDigit 0 = .ok (.aload_n 0, 1) := by decide +kernel
theorem dX3_takeDigit_1 : decode cX3_takeDigit 1 = .ok (.getfield 30, 3) := by decide +kernel
theorem dX3_takeDigit_4 : decode cX3_takeDigit 4 = .ok (.ifCond .lt 54, 3) := by decide +kernel
theorem dX3_takeDigit_7 : decode cX3_takeDigit 7 = .ok (.aload_n 0, 1) := by decide +kernel
theorem dX3_takeDigit_8 : decode cX3_takeDigit 8 = .ok (.getfield 30, 3) := by decide +kernel
theorem dX3_takeDigit_11 : decode cX3_takeDigit 11 = .ok (.aload_n 0, 1) := by decide +kernel
theorem dX3_takeDigit_12 : decode cX3_takeDigit 12 = .ok (.getfield 26, 3) := by decide +kernel
theorem dX3_takeDigit_15 : decode cX3_takeDigit 15 = .ok (.if_icmp .ge 43, 3) := by decide +kernel
theorem dX3_takeDigit_18 : decode cX3_takeDigit 18 = .ok (.aload_n 0, 1) := by decide +kernel
theorem dX3_takeDigit_19 : decode cX3_takeDigit 19 = .ok (.getfield 30, 3) := by decide +kernel
theorem dX3_takeDigit_22 : decode cX3_takeDigit 22 = .ok (.aload_n 0, 1) := by decide +kernel
theorem dX3_takeDigit_23 : decode cX3_takeDigit 23 = .ok (.getfield 9, 3) := by decide +kernel
theorem dX3_takeDigit_26 : decode cX3_takeDigit 26 = .ok (.arraylength, 1) := by decide +kernel
theorem dX3_takeDigit_27 : decode cX3_takeDigit 27 = .ok (.if_icmp .ge 31, 3) := by decide +kernel
theorem dX3_takeDigit_30 : decode cX3_takeDigit 30 = .ok (.aload_n 0, 1) := by decide +kernel
theorem dX3_takeDigit_31 : decode cX3_takeDigit 31 = .ok (.getfield 9, 3) := by decide +kernel
theorem dX3_takeDigit_34 : decode cX3_takeDigit 34 = .ok (.aload_n 0, 1) := by decide +kernel
theorem dX3_takeDigit_35 : decode cX3_takeDigit 35 = .ok (.getfield 30, 3) := by decide +kernel
theorem dX3_takeDigit_38 : decode cX3_takeDigit 38 = .ok (.caload, 1) := by decide +kernel
theorem dX3_takeDigit_39 : decode cX3_takeDigit 39 = .ok (.bipush 48, 2) := by decide +kernel
theorem dX3_takeDigit_41 : decode cX3_takeDigit 41 = .ok (.if_icmp .lt 17, 3) := by decide +kernel
theorem dX3_takeDigit_44 : decode cX3_takeDigit 44 = .ok (.aload_n 0, 1) := by decide +kernel
theorem dX3_takeDigit_45 : decode cX3_takeDigit 45 = .ok (.getfield 9, 3) := by decide +kernel
theorem dX3_takeDigit_48 : decode cX3_takeDigit 48 = .ok (.aload_n 0, 1) := by decide +kernel
theorem dX3_takeDigit_49 : decode cX3_takeDigit 49 = .ok (.getfield 30, 3) := by decide +kernel
theorem dX3_takeDigit_52 : decode cX3_takeDigit 52 = .ok (.caload, 1) := by decide +kernel
theorem dX3_takeDigit_53 : decode cX3_takeDigit 53 = .ok (.bipush 57, 2) := by decide +kernel
theorem dX3_takeDigit_55 : decode cX3_takeDigit 55 = .ok (.if_icmp .le 5, 3) := by decide +kernel
theorem dX3_takeDigit_58 : decode cX3_takeDigit 58 = .ok (.iconst 0, 1) := by decide +kernel
theorem dX3_takeDigit_59 : decode cX3_takeDigit 59 = .ok (.ireturn, 1) := by decide +kernel
theorem dX3_takeDigit_60 : decode cX3_takeDigit 60 = .ok (.aload_n 0, 1) := by decide +kernel
theorem dX3_takeDigit_61 : decode cX3_takeDigit 61 = .ok (.aload_n 0, 1) := by decide +kernel
theorem dX3_takeDigit_62 : decode cX3_takeDigit 62 = .ok (.getfield 9, 3) := by decide +kernel
theorem dX3_takeDigit_65 : decode cX3_takeDigit 65 = .ok (.aload_n 0, 1) := by decide +kernel
theorem dX3_takeDigit_66 : decode cX3_takeDigit 66 = .ok (.getfield 30, 3) := by decide +kernel
theorem dX3_takeDigit_69 : decode cX3_takeDigit 69 = .ok (.caload, 1) := by decide +kernel
theorem dX3_takeDigit_70 : decode cX3_takeDigit 70 = .ok (.bipush 48, 2) := by decide +kernel
theorem dX3_takeDigit_72 : decode cX3_takeDigit 72 = .ok (.isub, 1) := by decide +kernel
theorem dX3_takeDigit_73 : decode cX3_takeDigit 73 = .ok (.putfield 67, 3) := by decide +kernel
theorem dX3_takeDigit_76 : decode cX3_takeDigit 76 = .ok (.aload_n 0, 1) := by decide +kernel
theorem dX3_takeDigit_77 : decode cX3_takeDigit 77 = .ok (.dup, 1) := by decide +kernel
theorem dX3_takeDigit_78 : decode cX3_takeDigit 78 = .ok (.getfield 30, 3) := by decide +kernel
theorem dX3_takeDigit_81 : decode cX3_takeDigit 81 = .ok (.iconst 1, 1) := by decide +kernel
theorem dX3_takeDigit_82 : decode cX3_takeDigit 82 = .ok (.iadd, 1) := by decide +kernel
theorem dX3_takeDigit_83 : decode cX3_takeDigit 83 = .ok (.putfield 30, 3) := by decide +kernel
theorem dX3_takeDigit_86 : decode cX3_takeDigit 86 = .ok (.iconst 1, 1) := by decide +kernel
theorem dX3_takeDigit_87 : decode cX3_takeDigit 87 = .ok (.ireturn, 1) := by decide +kernel
theorem dX4_init_0 : decode cX4_init 0 = .ok (.aload_n 0, 1) := by decide +kernel
theorem dX4_init_1 : decode cX4_init 1 = .ok (.invokespecial 3, 3) := by decide +kernel
theorem dX4_init_4 : decode cX4_init 4 = .ok (.aload_n 0, 1) := by decide +kernel
theorem dX4_init_5 : decode cX4_init 5 = .ok (.new 9, 3) := by decide +kernel
theorem dX4_init_8 : decode cX4_init 8 = .ok (.dup, 1) := by decide +kernel
theorem dX4_init_9 : decode cX4_init 9 = .ok (.invokespecial 11, 3) := by decide +kernel
theorem dX4_init_12 : decode cX4_init 12 = .ok (.putfield 12, 3) := by decide +kernel
theorem dX4_init_15 : decode cX4_init 15 = .ok (.aload_n 0, 1) := by decide +kernel
theorem dX4_init_16 : decode cX4_init 16 = .ok (.bipush 6, 2) := by decide +kernel
theorem dX4_init_18 : decode cX4_init 18 = .ok (.anewarray 9, 3) := by decide +kernel
theorem dX4_init_21 : decode cX4_init 21 = .ok (.putfield 18, 3) := by decide +kernel
theorem dX4_init_24 : decode cX4_init 24 = .ok (.iconst 0, 1) := by decide +kernel
theorem dX4_init_25 : decode cX4_init 25 = .ok (.istore_n 1, 1) := by decide +kernel
theorem dX4_init_26 : decode cX4_init 26 = .ok (.iload_n 1, 1) := by decide +kernel
theorem dX4_init_27 : decode cX4_init 27 = .ok (.aload_n 0, 1) := by decide +kernel
theorem dX4_init_28 : decode cX4_init 28 = .ok (.getfield 18, 3) := by decide +kernel
theorem dX4_init_31 : decode cX4_init 31 = .ok (.arraylength, 1) := by decide +kernel
theorem dX4_init_32 : decode cX4_init 32 = .ok (.if_icmp .ge 22, 3) := by decide +kernel
theorem dX4_init_35 : decode cX4_init 35 = .ok (.aload_n 0, 1) := by decide +kernel
theorem dX4_init_36 : decode cX4_init 36 = .ok (.getfield 18, 3) := by decide +kernel
theorem dX4_init_39 : decode cX4_init 39 = .ok (.iload_n 1, 1) := by decide +kernel
theorem dX4_init_40 : decode cX4_init 40 = .ok (.new 9, 3) := by decide +kernel
theorem dX4_init_43 : decode cX4_init 43 = .ok (.dup, 1) := by decide +kernel
theorem dX4_init_44 : decode cX4_init 44 = .ok (.invokespecial 11, 3) := by decide +kernel
theorem dX4_init_47 : decode cX4_init 47 = .ok (.aastore, 1) := by decide +kernel
theorem dX4_init_48 : decode cX4_init 48 = .ok (.iinc 1 1, 3) := by decide +kernel
theorem dX4_init_51 : decode cX4_init 51 = .ok (.goto (-25), 3) := by decide +kernel
theorem dX4_init_54 : decode cX4_init 54 = .ok (.return_, 1) := by decide +kernel
theorem dX4_cellAt_0 : decode cX4_cellAt 0 = .ok (.aload_n 0, 1) := by decide +kernel
theorem dX4_cellAt_1 : decode cX4_cellAt 1 = .ok (.getfield 22, 3) := by decide +kernel
theorem dX4_cellAt_4 : decode cX4_cellAt 4 = .ok (.iload_n 1, 1) := by decide +kernel
theorem dX4_cellAt_5 : decode cX4_cellAt 5 = .ok (.iadd, 1) := by decide +kernel
theorem dX4_cellAt_6 : decode cX4_cellAt 6 = .ok (.bipush 6, 2) := by decide +kernel
theorem dX4_cellAt_8 : decode cX4_cellAt 8 = .ok (.irem, 1) := by decide +kernel
theorem dX4_cellAt_9 : decode cX4_cellAt 9 = .ok (.istore_n 2, 1) := by decide +kernel
theorem dX4_cellAt_10 : decode cX4_cellAt 10 = .ok (.iload_n 2, 1) := by decide +kernel
theorem dX4_cellAt_11 : decode cX4_cellAt 11 = .ok (.ifCond .lt 30, 3) := by decide +kernel
theorem dX4_cellAt_14 : decode cX4_cellAt 14 = .ok (.iload_n 2, 1) := by decide +kernel
theorem dX4_cellAt_15 : decode cX4_cellAt 15 = .ok (.aload_n 0, 1) := by decide +kernel
theorem dX4_cellAt_16 : decode cX4_cellAt 16 = .ok (.getfield 18, 3) := by decide +kernel
theorem dX4_cellAt_19 : decode cX4_cellAt 19 = .ok (.arraylength, 1) := by decide +kernel
theorem dX4_cellAt_20 : decode cX4_cellAt 20 = .ok (.if_icmp .ge 21, 3) := by decide +kernel
theorem dX4_cellAt_23 : decode cX4_cellAt 23 = .ok (.aload_n 0, 1) := by decide +kernel
theorem dX4_cellAt_24 : decode cX4_cellAt 24 = .ok (.getfield 18, 3) := by decide +kernel
theorem dX4_cellAt_27 : decode cX4_cellAt 27 = .ok (.iload_n 2, 1) := by decide +kernel
theorem dX4_cellAt_28 : decode cX4_cellAt 28 = .ok (.aaload, 1) := by decide +kernel
theorem dX4_cellAt_29 : decode cX4_cellAt 29 = .ok (.ifnull 12, 3) := by decide +kernel
theorem dX4_cellAt_32 : decode cX4_cellAt 32 = .ok (.aload_n 0, 1) := by decide +kernel
theorem dX4_cellAt_33 : decode cX4_cellAt 33 = .ok (.getfield 18, 3) := by decide +kernel
theorem dX4_cellAt_36 : decode cX4_cellAt 36 = .ok (.iload_n 2, 1) := by decide +kernel
theorem dX4_cellAt_37 : decode cX4_cellAt 37 = .ok (.aaload, 1) := by decide +kernel
theorem dX4_cellAt_38 : decode cX4_cellAt 38 = .ok (.goto 7, 3) := by decide +kernel
theorem dX4_cellAt_41 : decode cX4_cellAt 41 = .ok (.aload_n 0, 1) := by decide +kernel
theorem dX4_cellAt_42 : decode cX4_cellAt 42 = .ok (.getfield 12, 3) := by decide +kernel
theorem dX4_cellAt_45 : decode cX4_cellAt 45 = .ok (.areturn, 1) := by decide +kernel
theorem dX4_keep_0 : decode cX4_keep 0 = .ok (.aload_n 0, 1) := by decide +kernel
theorem dX4_keep_1 : decode cX4_keep 1 = .ok (.getfield 26, 3) := by decide +kernel
theorem dX4_keep_4 : decode cX4_keep 4 = .ok (.bipush 6, 2) := by decide +kernel
theorem dX4_keep_6 : decode cX4_keep 6 = .ok (.if_icmp .ne 26, 3) := by decide +kernel
theorem dX4_keep_9 : decode cX4_keep 9 = .ok (.aload_n 0, 1) := by decide +kernel
theorem dX4_keep_10 : decode cX4_keep 10 = .ok (.aload_n 0, 1) := by decide +kernel
theorem dX4_keep_11 : decode cX4_keep 11 = .ok (.getfield 22, 3) := by decide +kernel
theorem dX4_keep_14 : decode cX4_keep 14 = .ok (.iconst 1, 1) := by decide +kernel
theorem dX4_keep_15 : decode cX4_keep 15 = .ok (.iadd, 1) := by decide +kernel
theorem dX4_keep_16 : decode cX4_keep 16 = .ok (.bipush 6, 2) := by decide +kernel
theorem dX4_keep_18 : decode cX4_keep 18 = .ok (.irem, 1) := by decide +kernel
theorem dX4_keep_19 : decode cX4_keep 19 = .ok (.putfield 22, 3) := by decide +kernel
theorem dX4_keep_22 : decode cX4_keep 22 = .ok (.aload_n 0, 1) := by decide +kernel
theorem dX4_keep_23 : decode cX4_keep 23 = .ok (.dup, 1) := by decide +kernel
theorem dX4_keep_24 : decode cX4_keep 24 = .ok (.getfield 26, 3) := by decide +kernel
theorem dX4_keep_27 : decode cX4_keep 27 = .ok (.iconst 1, 1) := by decide +kernel
theorem dX4_keep_28 : decode cX4_keep 28 = .ok (.isub, 1) := by decide +kernel
theorem dX4_keep_29 : decode cX4_keep 29 = .ok (.putfield 26, 3) := by decide +kernel
theorem dX4_keep_32 : decode cX4_keep 32 = .ok (.aload_n 0, 1) := by decide +kernel
theorem dX4_keep_33 : decode cX4_keep 33 = .ok (.aload_n 0, 1) := by decide +kernel
theorem dX4_keep_34 : decode cX4_keep 34 = .ok (.getfield 26, 3) := by decide +kernel
theorem dX4_keep_37 : decode cX4_keep 37 = .ok (.invokevirtual 29, 3) := by decide +kernel
theorem dX4_keep_40 : decode cX4_keep 40 = .ok (.aload_n 1, 1) := by decide +kernel
theorem dX4_keep_41 : decode cX4_keep 41 = .ok (.invokevirtual 33, 3) := by decide +kernel
theorem dX4_keep_44 : decode cX4_keep 44 = .ok (.aload_n 0, 1) := by decide +kernel
theorem dX4_keep_45 : decode cX4_keep 45 = .ok (.dup, 1) := by decide +kernel
theorem dX4_keep_46 : decode cX4_keep 46 = .ok (.getfield 26, 3) := by decide +kernel
theorem dX4_keep_49 : decode cX4_keep 49 = .ok (.iconst 1, 1) := by decide +kernel
theorem dX4_keep_50 : decode cX4_keep 50 = .ok (.iadd, 1) := by decide +kernel
theorem dX4_keep_51 : decode cX4_keep 51 = .ok (.putfield 26, 3) := by decide +kernel
theorem dX4_keep_54 : decode cX4_keep 54 = .ok (.return_, 1) := by decide +kernel
theorem dX4_takeBackInto_0 : decode cX4_takeBackInto 0 = .ok (.aload_n 0, 1) := by decide +kernel
theorem dX4_takeBackInto_1 : decode cX4_takeBackInto 1 = .ok (.dup, 1) := by decide +kernel
theorem dX4_takeBackInto_2 : decode cX4_takeBackInto 2 = .ok (.getfield 26, 3) := by decide +kernel
theorem dX4_takeBackInto_5 : decode cX4_takeBackInto 5 = .ok (.iconst 1, 1) := by decide +kernel
theorem dX4_takeBackInto_6 : decode cX4_takeBackInto 6 = .ok (.isub, 1) := by decide +kernel
theorem dX4_takeBackInto_7 : decode cX4_takeBackInto 7 = .ok (.putfield 26, 3) := by decide +kernel
theorem dX4_takeBackInto_10 : decode cX4_takeBackInto 10 = .ok (.aload_n 1, 1) := by decide +kernel
theorem dX4_takeBackInto_11 : decode cX4_takeBackInto 11 = .ok (.aload_n 0, 1) := by decide +kernel
theorem dX4_takeBackInto_12 : decode cX4_takeBackInto 12 = .ok (.aload_n 0, 1) := by decide +kernel
theorem dX4_takeBackInto_13 : decode cX4_takeBackInto 13 = .ok (.getfield 26, 3) := by decide +kernel
theorem dX4_takeBackInto_16 : decode cX4_takeBackInto 16 = .ok (.invokevirtual 29, 3) := by decide +kernel
theorem dX4_takeBackInto_19 : decode cX4_takeBackInto 19 = .ok (.invokevirtual 33, 3) := by decide +kernel
theorem dX4_takeBackInto_22 : decode cX4_takeBackInto 22 = .ok (.aload_n 0, 1) := by decide +kernel
theorem dX4_takeBackInto_23 : decode cX4_takeBackInto 23 = .ok (.getfield 26, 3) := by decide +kernel
theorem dX4_takeBackInto_26 : decode cX4_takeBackInto 26 = .ok (.ireturn, 1) := by decide +kernel
theorem dX4_forget_0 : decode cX4_forget 0 = .ok (.aload_n 0, 1) := by decide +kernel
theorem dX4_forget_1 : decode cX4_forget 1 = .ok (.iconst 0, 1) := by decide +kernel
theorem dX4_forget_2 : decode cX4_forget 2 = .ok (.putfield 26, 3) := by decide +kernel
theorem dX4_forget_5 : decode cX4_forget 5 = .ok (.return_, 1) := by decide +kernel
theorem dX5_init_0 : decode cX5_init 0 = .ok (.aload_n 0, 1) := by decide +kernel
theorem dX5_init_1 : decode cX5_init 1 = .ok (.invokespecial 3, 3) := by decide +kernel
theorem dX5_init_4 : decode cX5_init 4 = .ok (.aload_n 0, 1) := by decide +kernel
theorem dX5_init_5 : decode cX5_init 5 = .ok (.iconst (-1), 1) := by decide +kernel
theorem dX5_init_6 : decode cX5_init 6 = .ok (.putfield 9, 3) := by decide +kernel
theorem dX5_init_9 : decode cX5_init 9 = .ok (.aload_n 0, 1) := by decide +kernel
theorem dX5_init_10 : decode cX5_init 10 = .ok (.iconst (-1), 1) := by decide +kernel
theorem dX5_init_11 : decode cX5_init 11 = .ok (.putfield 15, 3) := by decide +kernel
theorem dX5_init_14 : decode cX5_init 14 = .ok (.aload_n 0, 1) := by decide +kernel
theorem dX5_init_15 : decode cX5_init 15 = .ok (.iconst (-1), 1) := by decide +kernel
theorem dX5_init_16 : decode cX5_init 16 = .ok (.putfield 18, 3) := by decide +kernel
theorem dX5_init_19 : decode cX5_init 19 = .ok (.aload_n 0, 1) := by decide +kernel
theorem dX5_init_20 : decode cX5_init 20 = .ok (.iconst (-1), 1) := by decide +kernel
theorem dX5_init_21 : decode cX5_init 21 = .ok (.putfield 21, 3) := by decide +kernel
theorem dX5_init_24 : decode cX5_init 24 = .ok (.return_, 1) := by decide +kernel
theorem dX5_copyFrom_0 : decode cX5_copyFrom 0 = .ok (.aload_n 0, 1) := by decide +kernel
theorem dX5_copyFrom_1 : decode cX5_copyFrom 1 = .ok (.aload_n 1, 1) := by decide +kernel
theorem dX5_copyFrom_2 : decode cX5_copyFrom 2 = .ok (.getfield 24, 3) := by decide +kernel
theorem dX5_copyFrom_5 : decode cX5_copyFrom 5 = .ok (.putfield 24, 3) := by decide +kernel
theorem dX5_copyFrom_8 : decode cX5_copyFrom 8 = .ok (.aload_n 0, 1) := by decide +kernel
theorem dX5_copyFrom_9 : decode cX5_copyFrom 9 = .ok (.aload_n 1, 1) := by decide +kernel
theorem dX5_copyFrom_10 : decode cX5_copyFrom 10 = .ok (.getfield 27, 3) := by decide +kernel
theorem dX5_copyFrom_13 : decode cX5_copyFrom 13 = .ok (.putfield 27, 3) := by decide +kernel
theorem dX5_copyFrom_16 : decode cX5_copyFrom 16 = .ok (.aload_n 0, 1) := by decide +kernel
theorem dX5_copyFrom_17 : decode cX5_copyFrom 17 = .ok (.aload_n 1, 1) := by decide +kernel
theorem dX5_copyFrom_18 : decode cX5_copyFrom 18 = .ok (.getfield 30, 3) := by decide +kernel
theorem dX5_copyFrom_21 : decode cX5_copyFrom 21 = .ok (.putfield 30, 3) := by decide +kernel
theorem dX5_copyFrom_24 : decode cX5_copyFrom 24 = .ok (.aload_n 0, 1) := by decide +kernel
theorem dX5_copyFrom_25 : decode cX5_copyFrom 25 = .ok (.aload_n 1, 1) := by decide +kernel
theorem dX5_copyFrom_26 : decode cX5_copyFrom 26 = .ok (.getfield 33, 3) := by decide +kernel
theorem dX5_copyFrom_29 : decode cX5_copyFrom 29 = .ok (.putfield 33, 3) := by decide +kernel
theorem dX5_copyFrom_32 : decode cX5_copyFrom 32 = .ok (.aload_n 0, 1) := by decide +kernel
theorem dX5_copyFrom_33 : decode cX5_copyFrom 33 = .ok (.aload_n 1, 1) := by decide +kernel
theorem dX5_copyFrom_34 : decode cX5_copyFrom 34 = .ok (.getfield 36, 3) := by decide +kernel
theorem dX5_copyFrom_37 : decode cX5_copyFrom 37 = .ok (.putfield 36, 3) := by decide +kernel
theorem dX5_copyFrom_40 : decode cX5_copyFrom 40 = .ok (.aload_n 0, 1) := by decide +kernel
theorem dX5_copyFrom_41 : decode cX5_copyFrom 41 = .ok (.aload_n 1, 1) := by decide +kernel
theorem dX5_copyFrom_42 : decode cX5_copyFrom 42 = .ok (.getfield 9, 3) := by decide +kernel
theorem dX5_copyFrom_45 : decode cX5_copyFrom 45 = .ok (.putfield 9, 3) := by decide +kernel
theorem dX5_copyFrom_48 : decode cX5_copyFrom 48 = .ok (.aload_n 0, 1) := by decide +kernel
theorem dX5_copyFrom_49 : decode cX5_copyFrom 49 = .ok (.aload_n 1, 1) := by decide +kernel
theorem dX5_copyFrom_50 : decode cX5_copyFrom 50 = .ok (.getfield 15, 3) := by decide +kernel
theorem dX5_copyFrom_53 : decode cX5_copyFrom 53 = .ok (.putfield 15, 3) := by decide +kernel
theorem dX5_copyFrom_56 : decode cX5_copyFrom 56 = .ok (.aload_n 0, 1) := by decide +kernel
theorem dX5_copyFrom_57 : decode cX5_copyFrom 57 = .ok (.aload_n 1, 1) := by decide +kernel
theorem dX5_copyFrom_58 : decode cX5_copyFrom 58 = .ok (.getfield 39, 3) := by decide +kernel
theorem dX5_copyFrom_61 : decode cX5_copyFrom 61 = .ok (.putfield 39, 3) := by decide +kernel
theorem dX5_copyFrom_64 : decode cX5_copyFrom 64 = .ok (.aload_n 0, 1) := by decide +kernel
theorem dX5_copyFrom_65 : decode cX5_copyFrom 65 = .ok (.aload_n 1, 1) := by decide +kernel
theorem dX5_copyFrom_66 : decode cX5_copyFrom 66 = .ok (.getfield 18, 3) := by decide +kernel
theorem dX5_copyFrom_69 : decode cX5_copyFrom 69 = .ok (.putfield 18, 3) := by decide +kernel
theorem dX5_copyFrom_72 : decode cX5_copyFrom 72 = .ok (.aload_n 0, 1) := by decide +kernel
theorem dX5_copyFrom_73 : decode cX5_copyFrom 73 = .ok (.aload_n 1, 1) := by decide +kernel
theorem dX5_copyFrom_74 : decode cX5_copyFrom 74 = .ok (.getfield 21, 3) := by decide +kernel
theorem dX5_copyFrom_77 : decode cX5_copyFrom 77 = .ok (.putfield 21, 3) := by decide +kernel
theorem dX5_copyFrom_80 : decode cX5_copyFrom 80 = .ok (.return_, 1) := by decide +kernel
theorem dX5_isPath_0 : decode cX5_isPath 0 = .ok (.iload_n 0, 1) := by decide +kernel
theorem dX5_isPath_1 : decode cX5_isPath 1 = .ok (.iconst 1, 1) := by decide +kernel
theorem dX5_isPath_2 : decode cX5_isPath 2 = .ok (.if_icmp .lt 9, 3) := by decide +kernel
theorem dX5_isPath_5 : decode cX5_isPath 5 = .ok (.iload_n 0, 1) := by decide +kernel
theorem dX5_isPath_6 : decode cX5_isPath 6 = .ok (.ldc 42, 2) := by decide +kernel
theorem dX5_isPath_8 : decode cX5_isPath 8 = .ok (.if_icmp .le 5, 3) := by decide +kernel
theorem dX5_isPath_11 : decode cX5_isPath 11 = .ok (.iconst 0, 1) := by decide +kernel
theorem dX5_isPath_12 : decode cX5_isPath 12 = .ok (.ireturn, 1) := by decide +kernel
theorem dX5_isPath_13 : decode cX5_isPath 13 = .ok (.iload_n 0, 1) := by decide +kernel
theorem dX5_isPath_14 : decode cX5_isPath 14 = .ok (.istore_n 1, 1) := by decide +kernel
theorem dX5_isPath_15 : decode cX5_isPath 15 = .ok (.iconst 0, 1) := by decide +kernel
theorem dX5_isPath_16 : decode cX5_isPath 16 = .ok (.istore_n 2, 1) := by decide +kernel
theorem dX5_isPath_17 : decode cX5_isPath 17 = .ok (.iconst 0, 1) := by decide +kernel
theorem dX5_isPath_18 : decode cX5_isPath 18 = .ok (.istore_n 3, 1) := by decide +kernel
theorem dX5_isPath_19 : decode cX5_isPath 19 = .ok (.iload_n 3, 1) := by decide +kernel
theorem dX5_isPath_20 : decode cX5_isPath 20 = .ok (.iconst 5, 1) := by decide +kernel
theorem dX5_isPath_21 : decode cX5_isPath 21 = .ok (.if_icmp .ge 48, 3) := by decide +kernel
theorem dX5_isPath_24 : decode cX5_isPath 24 = .ok (.iload_n 1, 1) := by decide +kernel
theorem dX5_isPath_25 : decode cX5_isPath 25 = .ok (.ifCond .le 44, 3) := by decide +kernel
theorem dX5_isPath_28 : decode cX5_isPath 28 = .ok (.iload_n 1, 1) := by decide +kernel
theorem dX5_isPath_29 : decode cX5_isPath 29 = .ok (.bipush 10, 2) := by decide +kernel
theorem dX5_isPath_31 : decode cX5_isPath 31 = .ok (.irem, 1) := by decide +kernel
theorem dX5_isPath_32 : decode cX5_isPath 32 = .ok (.istore 4, 2) := by decide +kernel
theorem dX5_isPath_34 : decode cX5_isPath 34 = .ok (.iload 4, 2) := by decide +kernel
theorem dX5_isPath_36 : decode cX5_isPath 36 = .ok (.iconst 1, 1) := by decide +kernel
theorem dX5_isPath_37 : decode cX5_isPath 37 = .ok (.if_icmp .lt 16, 3) := by decide +kernel
theorem dX5_isPath_40 : decode cX5_isPath 40 = .ok (.iload 4, 2) := by decide +kernel
theorem dX5_isPath_42 : decode cX5_isPath 42 = .ok (.bipush 8, 2) := by decide +kernel
theorem dX5_isPath_44 : decode cX5_isPath 44 = .ok (.if_icmp .gt 9, 3) := by decide +kernel
theorem dX5_isPath_47 : decode cX5_isPath 47 = .ok (.iload 4, 2) := by decide +kernel
theorem dX5_isPath_49 : decode cX5_isPath 49 = .ok (.iload_n 2, 1) := by decide +kernel
theorem dX5_isPath_50 : decode cX5_isPath 50 = .ok (.if_icmp .ne 5, 3) := by decide +kernel
theorem dX5_isPath_53 : decode cX5_isPath 53 = .ok (.iconst 0, 1) := by decide +kernel
theorem dX5_isPath_54 : decode cX5_isPath 54 = .ok (.ireturn, 1) := by decide +kernel
theorem dX5_isPath_55 : decode cX5_isPath 55 = .ok (.iload 4, 2) := by decide +kernel
theorem dX5_isPath_57 : decode cX5_isPath 57 = .ok (.istore_n 2, 1) := by decide +kernel
theorem dX5_isPath_58 : decode cX5_isPath 58 = .ok (.iload_n 1, 1) := by decide +kernel
theorem dX5_isPath_59 : decode cX5_isPath 59 = .ok (.bipush 10, 2) := by decide +kernel
theorem dX5_isPath_61 : decode cX5_isPath 61 = .ok (.idiv, 1) := by decide +kernel
theorem dX5_isPath_62 : decode cX5_isPath 62 = .ok (.istore_n 1, 1) := by decide +kernel
theorem dX5_isPath_63 : decode cX5_isPath 63 = .ok (.iinc 3 1, 3) := by decide +kernel
theorem dX5_isPath_66 : decode cX5_isPath 66 = .ok (.goto (-47), 3) := by decide +kernel
theorem dX5_isPath_69 : decode cX5_isPath 69 = .ok (.iconst 1, 1) := by decide +kernel
theorem dX5_isPath_70 : decode cX5_isPath 70 = .ok (.ireturn, 1) := by decide +kernel
theorem dX5_lengthOf_0 : decode cX5_lengthOf 0 = .ok (.iload_n 0, 1) := by decide +kernel
theorem dX5_lengthOf_1 : decode cX5_lengthOf 1 = .ok (.istore_n 1, 1) := by decide +kernel
theorem dX5_lengthOf_2 : decode cX5_lengthOf 2 = .ok (.iconst 0, 1) := by decide +kernel
theorem dX5_lengthOf_3 : decode cX5_lengthOf 3 = .ok (.istore_n 2, 1) := by decide +kernel
theorem dX5_lengthOf_4 : decode cX5_lengthOf 4 = .ok (.iconst 0, 1) := by decide +kernel
theorem dX5_lengthOf_5 : decode cX5_lengthOf 5 = .ok (.istore_n 3, 1) := by decide +kernel
theorem dX5_lengthOf_6 : decode cX5_lengthOf 6 = .ok (.iload_n 3, 1) := by decide +kernel
theorem dX5_lengthOf_7 : decode cX5_lengthOf 7 = .ok (.iconst 5, 1) := by decide +kernel
theorem dX5_lengthOf_8 : decode cX5_lengthOf 8 = .ok (.if_icmp .ge 21, 3) := by decide +kernel
theorem dX5_lengthOf_11 : decode cX5_lengthOf 11 = .ok (.iload_n 1, 1) := by decide +kernel
theorem dX5_lengthOf_12 : decode cX5_lengthOf 12 = .ok (.ifCond .le 17, 3) := by decide +kernel
theorem dX5_lengthOf_15 : decode cX5_lengthOf 15 = .ok (.iinc 2 1, 3) := by decide +kernel
theorem dX5_lengthOf_18 : decode cX5_lengthOf 18 = .ok (.iload_n 1, 1) := by decide +kernel
theorem dX5_lengthOf_19 : decode cX5_lengthOf 19 = .ok (.bipush 10, 2) := by decide +kernel
theorem dX5_lengthOf_21 : decode cX5_lengthOf 21 = .ok (.idiv, 1) := by decide +kernel
theorem dX5_lengthOf_22 : decode cX5_lengthOf 22 = .ok (.istore_n 1, 1) := by decide +kernel
theorem dX5_lengthOf_23 : decode cX5_lengthOf 23 = .ok (.iinc 3 1, 3) := by decide +kernel
theorem dX5_lengthOf_26 : decode cX5_lengthOf 26 = .ok (.goto (-20), 3) := by decide +kernel
theorem dX5_lengthOf_29 : decode cX5_lengthOf 29 = .ok (.iload_n 2, 1) := by decide +kernel
theorem dX5_lengthOf_30 : decode cX5_lengthOf 30 = .ok (.ireturn, 1) := by decide +kernel
theorem dX5_hasPlace_0 : decode cX5_hasPlace 0 = .ok (.iload_n 1, 1) := by decide +kernel
theorem dX5_hasPlace_1 : decode cX5_hasPlace 1 = .ok (.ifCond .lt 15, 3) := by decide +kernel
theorem dX5_hasPlace_4 : decode cX5_hasPlace 4 = .ok (.iload_n 1, 1) := by decide +kernel
theorem dX5_hasPlace_5 : decode cX5_hasPlace 5 = .ok (.aload_n 0, 1) := by decide +kernel
theorem dX5_hasPlace_6 : decode cX5_hasPlace 6 = .ok (.getfield 30, 3) := by decide +kernel
theorem dX5_hasPlace_9 : decode cX5_hasPlace 9 = .ok (.if_icmp .ge 7, 3) := by decide +kernel
theorem dX5_hasPlace_12 : decode cX5_hasPlace 12 = .ok (.iconst 1, 1) := by decide +kernel
theorem dX5_hasPlace_13 : decode cX5_hasPlace 13 = .ok (.goto 4, 3) := by decide +kernel
theorem dX5_hasPlace_16 : decode cX5_hasPlace 16 = .ok (.iconst 0, 1) := by decide +kernel
theorem dX5_hasPlace_17 : decode cX5_hasPlace 17 = .ok (.ireturn, 1) := by decide +kernel
theorem dX5_zoneAt_0 : decode cX5_zoneAt 0 = .ok (.iload_n 1, 1) := by decide +kernel
theorem dX5_zoneAt_1 : decode cX5_zoneAt 1 = .ok (.ifCond .lt 11, 3) := by decide +kernel
theorem dX5_zoneAt_4 : decode cX5_zoneAt 4 = .ok (.iload_n 1, 1) := by decide +kernel
theorem dX5_zoneAt_5 : decode cX5_zoneAt 5 = .ok (.aload_n 0, 1) := by decide +kernel
theorem dX5_zoneAt_6 : decode cX5_zoneAt 6 = .ok (.getfield 30, 3) := by decide +kernel
theorem dX5_zoneAt_9 : decode cX5_zoneAt 9 = .ok (.if_icmp .lt 5, 3) := by decide +kernel
theorem dX5_zoneAt_12 : decode cX5_zoneAt 12 = .ok (.iconst (-1), 1) := by decide +kernel
theorem dX5_zoneAt_13 : decode cX5_zoneAt 13 = .ok (.ireturn, 1) := by decide +kernel
theorem dX5_zoneAt_14 : decode cX5_zoneAt 14 = .ok (.aload_n 0, 1) := by decide +kernel
theorem dX5_zoneAt_15 : decode cX5_zoneAt 15 = .ok (.getfield 27, 3) := by decide +kernel
theorem dX5_zoneAt_18 : decode cX5_zoneAt 18 = .ok (.istore_n 2, 1) := by decide +kernel
theorem dX5_zoneAt_19 : decode cX5_zoneAt 19 = .ok (.aload_n 0, 1) := by decide +kernel
theorem dX5_zoneAt_20 : decode cX5_zoneAt 20 = .ok (.getfield 30, 3) := by decide +kernel
theorem dX5_zoneAt_23 : decode cX5_zoneAt 23 = .ok (.iconst 1, 1) := by decide +kernel
theorem dX5_zoneAt_24 : decode cX5_zoneAt 24 = .ok (.isub, 1) := by decide +kernel
theorem dX5_zoneAt_25 : decode cX5_zoneAt 25 = .ok (.istore_n 3, 1) := by decide +kernel
theorem dX5_zoneAt_26 : decode cX5_zoneAt 26 = .ok (.iload_n 3, 1) := by decide +kernel
theorem dX5_zoneAt_27 : decode cX5_zoneAt 27 = .ok (.iload_n 1, 1) := by decide +kernel
theorem dX5_zoneAt_28 : decode cX5_zoneAt 28 = .ok (.if_icmp .le 14, 3) := by decide +kernel
theorem dX5_zoneAt_31 : decode cX5_zoneAt 31 = .ok (.iload_n 2, 1) := by decide +kernel
theorem dX5_zoneAt_32 : decode cX5_zoneAt 32 = .ok (.bipush 10, 2) := by decide +kernel
theorem dX5_zoneAt_34 : decode cX5_zoneAt 34 = .ok (.idiv, 1) := by decide +kernel
theorem dX5_zoneAt_35 : decode cX5_zoneAt 35 = .ok (.istore_n 2, 1) := by decide +kernel
theorem dX5_zoneAt_36 : decode cX5_zoneAt 36 = .ok (.iinc 3 (-1), 3) := by decide +kernel
theorem dX5_zoneAt_39 : decode cX5_zoneAt 39 = .ok (.goto (-13), 3) := by decide +kernel
theorem dX5_zoneAt_42 : decode cX5_zoneAt 42 = .ok (.iload_n 2, 1) := by decide +kernel
theorem dX5_zoneAt_43 : decode cX5_zoneAt 43 = .ok (.bipush 10, 2) := by decide +kernel
theorem dX5_zoneAt_45 : decode cX5_zoneAt 45 = .ok (.irem, 1) := by decide +kernel
theorem dX5_zoneAt_46 : decode cX5_zoneAt 46 = .ok (.iconst 1, 1) := by decide +kernel
theorem dX5_zoneAt_47 : decode cX5_zoneAt 47 = .ok (.isub, 1) := by decide +kernel
theorem dX5_zoneAt_48 : decode cX5_zoneAt 48 = .ok (.ireturn, 1) := by decide +kernel
theorem dX5_zonesBehind_0 : decode cX5_zonesBehind 0 = .ok (.aload_n 0, 1) := by decide +kernel
theorem dX5_zonesBehind_1 : decode cX5_zonesBehind 1 = .ok (.getfield 27, 3) := by decide +kernel
theorem dX5_zonesBehind_4 : decode cX5_zonesBehind 4 = .ok (.istore_n 2, 1) := by decide +kernel
theorem dX5_zonesBehind_5 : decode cX5_zonesBehind 5 = .ok (.iconst 0, 1) := by decide +kernel
theorem dX5_zonesBehind_6 : decode cX5_zonesBehind 6 = .ok (.istore_n 3, 1) := by decide +kernel
theorem dX5_zonesBehind_7 : decode cX5_zonesBehind 7 = .ok (.aload_n 0, 1) := by decide +kernel
theorem dX5_zonesBehind_8 : decode cX5_zonesBehind 8 = .ok (.getfield 30, 3) := by decide +kernel
theorem dX5_zonesBehind_11 : decode cX5_zonesBehind 11 = .ok (.iconst 1, 1) := by decide +kernel
theorem dX5_zonesBehind_12 : decode cX5_zonesBehind 12 = .ok (.isub, 1) := by decide +kernel
theorem dX5_zonesBehind_13 : decode cX5_zonesBehind 13 = .ok (.istore 4, 2) := by decide +kernel
theorem dX5_zonesBehind_15 : decode cX5_zonesBehind 15 = .ok (.iload 4, 2) := by decide +kernel
theorem dX5_zonesBehind_17 : decode cX5_zonesBehind 17 = .ok (.iload_n 1, 1) := by decide +kernel
theorem dX5_zonesBehind_18 : decode cX5_zonesBehind 18 = .ok (.if_icmp .le 30, 3) := by decide +kernel
theorem dX5_zonesBehind_21 : decode cX5_zonesBehind 21 = .ok (.iload 4, 2) := by decide +kernel
theorem dX5_zonesBehind_23 : decode cX5_zonesBehind 23 = .ok (.ifCond .le 25, 3) := by decide +kernel
theorem dX5_zonesBehind_26 : decode cX5_zonesBehind 26 = .ok (.iload_n 3, 1) := by decide +kernel
theorem dX5_zonesBehind_27 : decode cX5_zonesBehind 27 = .ok (.iconst 1, 1) := by decide +kernel
theorem dX5_zonesBehind_28 : decode cX5_zonesBehind 28 = .ok (.iload_n 2, 1) := by decide +kernel
theorem dX5_zonesBehind_29 : decode cX5_zonesBehind 29 = .ok (.bipush 10, 2) := by decide +kernel
theorem dX5_zonesBehind_31 : decode cX5_zonesBehind 31 = .ok (.irem, 1) := by decide +kernel
theorem dX5_zonesBehind_32 : decode cX5_zonesBehind 32 = .ok (.iconst 1, 1) := by decide +kernel
theorem dX5_zonesBehind_33 : decode cX5_zonesBehind 33 = .ok (.isub, 1) := by decide +kernel
theorem dX5_zonesBehind_34 : decode cX5_zonesBehind 34 = .ok (.ishl, 1) := by decide +kernel
theorem dX5_zonesBehind_35 : decode cX5_zonesBehind 35 = .ok (.ior, 1) := by decide +kernel
theorem dX5_zonesBehind_36 : decode cX5_zonesBehind 36 = .ok (.istore_n 3, 1) := by decide +kernel
theorem dX5_zonesBehind_37 : decode cX5_zonesBehind 37 = .ok (.iload_n 2, 1) := by decide +kernel
theorem dX5_zonesBehind_38 : decode cX5_zonesBehind 38 = .ok (.bipush 10, 2) := by decide +kernel
theorem dX5_zonesBehind_40 : decode cX5_zonesBehind 40 = .ok (.idiv, 1) := by decide +kernel
theorem dX5_zonesBehind_41 : decode cX5_zonesBehind 41 = .ok (.istore_n 2, 1) := by decide +kernel
theorem dX5_zonesBehind_42 : decode cX5_zonesBehind 42 = .ok (.iinc 4 (-1), 3) := by decide +kernel
theorem dX5_zonesBehind_45 : decode cX5_zonesBehind 45 = .ok (.goto (-30), 3) := by decide +kernel
theorem dX5_zonesBehind_48 : decode cX5_zonesBehind 48 = .ok (.iload_n 3, 1) := by decide +kernel
theorem dX5_zonesBehind_49 : decode cX5_zonesBehind 49 = .ok (.ireturn, 1) := by decide +kernel
theorem dX5_about_0 : decode cX5_about 0 = .ok (.iload_n 1, 1) := by decide +kernel
theorem dX5_about_1 : decode cX5_about 1 = .ok (.tableswitch 87 0 7 #[47, 52, 57, 62, 67, 72, 77, 82], 47) := by decide +kernel
theorem dX5_about_48 : decode cX5_about 48 = .ok (.aload_n 0, 1) := by decide +kernel
theorem dX5_about_49 : decode cX5_about 49 = .ok (.getfield 24, 3) := by decide +kernel
theorem dX5_about_52 : decode cX5_about 52 = .ok (.ireturn, 1) := by decide +kernel
theorem dX5_about_53 : decode cX5_about 53 = .ok (.aload_n 0, 1) := by decide +kernel
theorem dX5_about_54 : decode cX5_about 54 = .ok (.getfield 27, 3) := by decide +kernel
theorem dX5_about_57 : decode cX5_about 57 = .ok (.ireturn, 1) := by decide +kernel
theorem dX5_about_58 : decode cX5_about 58 = .ok (.aload_n 0, 1) := by decide +kernel
theorem dX5_about_59 : decode cX5_about 59 = .ok (.getfield 33, 3) := by decide +kernel
theorem dX5_about_62 : decode cX5_about 62 = .ok (.ireturn, 1) := by decide +kernel
theorem dX5_about_63 : decode cX5_about 63 = .ok (.aload_n 0, 1) := by decide +kernel
theorem dX5_about_64 : decode cX5_about 64 = .ok (.getfield 36, 3) := by decide +kernel
theorem dX5_about_67 : decode cX5_about 67 = .ok (.ireturn, 1) := by decide +kernel
theorem dX5_about_68 : decode cX5_about 68 = .ok (.aload_n 0, 1) := by decide +kernel
theorem dX5_about_69 : decode cX5_about 69 = .ok (.getfield 9, 3) := by decide +kernel
theorem dX5_about_72 : decode cX5_about 72 = .ok (.ireturn, 1) := by decide +kernel
theorem dX5_about_73 : decode cX5_about 73 = .ok (.aload_n 0, 1) := by decide +kernel
theorem dX5_about_74 : decode cX5_about 74 = .ok (.getfield 15, 3) := by decide +kernel
theorem dX5_about_77 : decode cX5_about 77 = .ok (.ireturn, 1) := by decide +kernel
theorem dX5_about_78 : decode cX5_about 78 = .ok (.aload_n 0, 1) := by decide +kernel
theorem dX5_about_79 : decode cX5_about 79 = .ok (.getfield 39, 3) := by decide +kernel
theorem dX5_about_82 : decode cX5_about 82 = .ok (.ireturn, 1) := by decide +kernel
theorem dX5_about_83 : decode cX5_about 83 = .ok (.aload_n 0, 1) := by decide +kernel
theorem dX5_about_84 : decode cX5_about 84 = .ok (.getfield 18, 3) := by decide +kernel
theorem dX5_about_87 : decode cX5_about 87 = .ok (.ireturn, 1) := by decide +kernel
theorem dX5_about_88 : decode cX5_about 88 = .ok (.aload_n 0, 1) := by decide +kernel
theorem dX5_about_89 : decode cX5_about 89 = .ok (.getfield 21, 3) := by decide +kernel
theorem dX5_about_92 : decode cX5_about 92 = .ok (.ireturn, 1) := by decide +kernel
theorem dX6_init_0 : decode cX6_init 0 = .ok (.aload_n 0, 1) := by decide +kernel
theorem dX6_init_1 : decode cX6_init 1 = .ok (.invokespecial 3, 3) := by decide +kernel
theorem dX6_init_4 : decode cX6_init 4 = .ok (.aload_n 0, 1) := by decide +kernel
theorem dX6_init_5 : decode cX6_init 5 = .ok (.iconst 3, 1) := by decide +kernel
theorem dX6_init_6 : decode cX6_init 6 = .ok (.newarray .int, 2) := by decide +kernel
theorem dX6_init_8 : decode cX6_init 8 = .ok (.putfield 9, 3) := by decide +kernel
theorem dX6_init_11 : decode cX6_init 11 = .ok (.aload_n 0, 1) := by decide +kernel
theorem dX6_init_12 : decode cX6_init 12 = .ok (.iconst 3, 1) := by decide +kernel
theorem dX6_init_13 : decode cX6_init 13 = .ok (.newarray .int, 2) := by decide +kernel
theorem dX6_init_15 : decode cX6_init 15 = .ok (.putfield 15, 3) := by decide +kernel
theorem dX6_init_18 : decode cX6_init 18 = .ok (.return_, 1) := by decide +kernel
theorem dX6_findReason_0 : decode cX6_findReason 0 = .ok (.aload_n 1, 1) := by decide +kernel
theorem dX6_findReason_1 : decode cX6_findReason 1 = .ok (.aload_n 2, 1) := by decide +kernel
theorem dX6_findReason_2 : decode cX6_findReason 2 = .ok (.invokevirtual 18, 3) := by decide +kernel
theorem dX6_findReason_5 : decode cX6_findReason 5 = .ok (.invokevirtual 24, 3) := by decide +kernel
theorem dX6_findReason_8 : decode cX6_findReason 8 = .ok (.astore_n 3, 1) := by decide +kernel
theorem dX6_findReason_9 : decode cX6_findReason 9 = .ok (.aload_n 2, 1) := by decide +kernel
theorem dX6_findReason_10 : decode cX6_findReason 10 = .ok (.invokevirtual 30, 3) := by decide +kernel
theorem dX6_findReason_13 : decode cX6_findReason 13 = .ok (.istore 4, 2) := by decide +kernel
theorem dX6_findReason_15 : decode cX6_findReason 15 = .ok (.aload_n 3, 1) := by decide +kernel
theorem dX6_findReason_16 : decode cX6_findReason 16 = .ok (.iload 4, 2) := by decide +kernel
theorem dX6_findReason_18 : decode cX6_findReason 18 = .ok (.invokevirtual 33, 3) := by decide +kernel
theorem dX6_findReason_21 : decode cX6_findReason 21 = .ok (.istore 5, 2) := by decide +kernel
theorem dX6_findReason_23 : decode cX6_findReason 23 = .ok (.aload_n 2, 1) := by decide +kernel
theorem dX6_findReason_24 : decode cX6_findReason 24 = .ok (.getfield 39, 3) := by decide +kernel
theorem dX6_findReason_27 : decode cX6_findReason 27 = .ok (.ifCond .ne 12, 3) := by decide +kernel
theorem dX6_findReason_30 : decode cX6_findReason 30 = .ok (.aload_n 0, 1) := by decide +kernel
theorem dX6_findReason_31 : decode cX6_findReason 31 = .ok (.aload_n 1, 1) := by decide +kernel
theorem dX6_findReason_32 : decode cX6_findReason 32 = .ok (.aload_n 3, 1) := by decide +kernel
theorem dX6_findReason_33 : decode cX6_findReason 33 = .ok (.invokevirtual 43, 3) := by decide +kernel
theorem dX6_findReason_36 : decode cX6_findReason 36 = .ok (.goto 4, 3) := by decide +kernel
theorem dX6_findReason_39 : decode cX6_findReason 39 = .ok (.iconst 0, 1) := by decide +kernel
theorem dX6_findReason_40 : decode cX6_findReason 40 = .ok (.istore 6, 2) := by decide +kernel
theorem dX6_findReason_42 : decode cX6_findReason 42 = .ok (.iload 6, 2) := by decide +kernel
theorem dX6_findReason_44 : decode cX6_findReason 44 = .ok (.ifCond .eq 6, 3) := by decide +kernel
theorem dX6_findReason_47 : decode cX6_findReason 47 = .ok (.iload 6, 2) := by decide +kernel
theorem dX6_findReason_49 : decode cX6_findReason 49 = .ok (.ireturn, 1) := by decide +kernel
theorem dX6_findReason_50 : decode cX6_findReason 50 = .ok (.aload_n 1, 1) := by decide +kernel
theorem dX6_findReason_51 : decode cX6_findReason 51 = .ok (.aload_n 1, 1) := by decide +kernel
theorem dX6_findReason_52 : decode cX6_findReason 52 = .ok (.getfield 47, 3) := by decide +kernel
theorem dX6_findReason_55 : decode cX6_findReason 55 = .ok (.iload 5, 2) := by decide +kernel
theorem dX6_findReason_57 : decode cX6_findReason 57 = .ok (.invokevirtual 51, 3) := by decide +kernel
theorem dX6_findReason_60 : decode cX6_findReason 60 = .ok (.invokevirtual 56, 3) := by decide +kernel
theorem dX6_findReason_63 : decode cX6_findReason 63 = .ok (.iconst 1, 1) := by decide +kernel
theorem dX6_findReason_64 : decode cX6_findReason 64 = .ok (.aload_n 2, 1) := by decide +kernel
theorem dX6_findReason_65 : decode cX6_findReason 65 = .ok (.getfield 59, 3) := by decide +kernel
theorem dX6_findReason_68 : decode cX6_findReason 68 = .ok (.ishl, 1) := by decide +kernel
theorem dX6_findReason_69 : decode cX6_findReason 69 = .ok (.iconst (-1), 1) := by decide +kernel
theorem dX6_findReason_70 : decode cX6_findReason 70 = .ok (.ixor, 1) := by decide +kernel
theorem dX6_findReason_71 : decode cX6_findReason 71 = .ok (.iand, 1) := by decide +kernel
theorem dX6_findReason_72 : decode cX6_findReason 72 = .ok (.istore 7, 2) := by decide +kernel
theorem dX6_findReason_74 : decode cX6_findReason 74 = .ok (.iload 7, 2) := by decide +kernel
theorem dX6_findReason_76 : decode cX6_findReason 76 = .ok (.ifCond .eq 14, 3) := by decide +kernel
theorem dX6_findReason_79 : decode cX6_findReason 79 = .ok (.aload_n 0, 1) := by decide +kernel
theorem dX6_findReason_80 : decode cX6_findReason 80 = .ok (.iload 7, 2) := by decide +kernel
theorem dX6_findReason_82 : decode cX6_findReason 82 = .ok (.invokestatic 62, 3) := by decide +kernel
theorem dX6_findReason_85 : decode cX6_findReason 85 = .ok (.putfield 65, 3) := by decide +kernel
theorem dX6_findReason_88 : decode cX6_findReason 88 = .ok (.iconst 3, 1) := by decide +kernel
theorem dX6_findReason_89 : decode cX6_findReason 89 = .ok (.ireturn, 1) := by decide +kernel
theorem dX6_findReason_90 : decode cX6_findReason 90 = .ok (.aload_n 0, 1) := by decide +kernel
theorem dX6_findReason_91 : decode cX6_findReason 91 = .ok (.aload_n 1, 1) := by decide +kernel
theorem dX6_findReason_92 : decode cX6_findReason 92 = .ok (.invokevirtual 68, 3) := by decide +kernel
theorem dX6_findReason_95 : decode cX6_findReason 95 = .ok (.aload_n 0, 1) := by decide +kernel
theorem dX6_findReason_96 : decode cX6_findReason 96 = .ok (.aload_n 2, 1) := by decide +kernel
theorem dX6_findReason_97 : decode cX6_findReason 97 = .ok (.iconst 1, 1) := by decide +kernel
theorem dX6_findReason_98 : decode cX6_findReason 98 = .ok (.iload 5, 2) := by decide +kernel
theorem dX6_findReason_100 : decode cX6_findReason 100 = .ok (.ishl, 1) := by decide +kernel
theorem dX6_findReason_101 : decode cX6_findReason 101 = .ok (.aload_n 1, 1) := by decide +kernel
theorem dX6_findReason_102 : decode cX6_findReason 102 = .ok (.getfield 47, 3) := by decide +kernel
theorem dX6_findReason_105 : decode cX6_findReason 105 = .ok (.aload_n 3, 1) := by decide +kernel
theorem dX6_findReason_106 : decode cX6_findReason 106 = .ok (.iload 4, 2) := by decide +kernel
theorem dX6_findReason_108 : decode cX6_findReason 108 = .ok (.invokevirtual 72, 3) := by decide +kernel
theorem dX6_findReason_111 : decode cX6_findReason 111 = .ok (.invokevirtual 75, 3) := by decide +kernel
theorem dX6_findReason_114 : decode cX6_findReason 114 = .ok (.invokevirtual 78, 3) := by decide +kernel
theorem dX6_findReason_117 : decode cX6_findReason 117 = .ok (.aload_n 0, 1) := by decide +kernel
theorem dX6_findReason_118 : decode cX6_findReason 118 = .ok (.invokevirtual 82, 3) := by decide +kernel
theorem dX6_findReason_121 : decode cX6_findReason 121 = .ok (.istore 8, 2) := by decide +kernel
theorem dX6_findReason_123 : decode cX6_findReason 123 = .ok (.iload 8, 2) := by decide +kernel
theorem dX6_findReason_125 : decode cX6_findReason 125 = .ok (.ifCond .eq 14, 3) := by decide +kernel
theorem dX6_findReason_128 : decode cX6_findReason 128 = .ok (.aload_n 0, 1) := by decide +kernel
theorem dX6_findReason_129 : decode cX6_findReason 129 = .ok (.iload 8, 2) := by decide +kernel
theorem dX6_findReason_131 : decode cX6_findReason 131 = .ok (.invokestatic 62, 3) := by decide +kernel
theorem dX6_findReason_134 : decode cX6_findReason 134 = .ok (.putfield 65, 3) := by decide +kernel
theorem dX6_findReason_137 : decode cX6_findReason 137 = .ok (.iconst 4, 1) := by decide +kernel
theorem dX6_findReason_138 : decode cX6_findReason 138 = .ok (.ireturn, 1) := by decide +kernel
theorem dX6_findReason_139 : decode cX6_findReason 139 = .ok (.iconst 0, 1) := by decide +kernel
theorem dX6_findReason_140 : decode cX6_findReason 140 = .ok (.ireturn, 1) := by decide +kernel
theorem dX6_canAllFinish_0 : decode cX6_canAllFinish 0 = .ok (.aload_n 0, 1) := by decide +kernel
theorem dX6_canAllFinish_1 : decode cX6_canAllFinish 1 = .ok (.aload_n 1, 1) := by decide +kernel
theorem dX6_canAllFinish_2 : decode cX6_canAllFinish 2 = .ok (.invokevirtual 68, 3) := by decide +kernel
theorem dX6_canAllFinish_5 : decode cX6_canAllFinish 5 = .ok (.aload_n 0, 1) := by decide +kernel
theorem dX6_canAllFinish_6 : decode cX6_canAllFinish 6 = .ok (.invokevirtual 82, 3) := by decide +kernel
theorem dX6_canAllFinish_9 : decode cX6_canAllFinish 9 = .ok (.ifCond .ne 7, 3) := by decide +kernel
theorem dX6_canAllFinish_12 : decode cX6_canAllFinish 12 = .ok (.iconst 1, 1) := by decide +kernel
theorem dX6_canAllFinish_13 : decode cX6_canAllFinish 13 = .ok (.goto 4, 3) := by decide +kernel
theorem dX6_canAllFinish_16 : decode cX6_canAllFinish 16 = .ok (.iconst 0, 1) := by decide +kernel
theorem dX6_canAllFinish_17 : decode cX6_canAllFinish 17 = .ok (.ireturn, 1) := by decide +kernel
theorem dX6_bufferReason_0 : decode cX6_bufferReason 0 = .ok (.aload_n 2, 1) := by decide +kernel
theorem dX6_bufferReason_1 : decode cX6_bufferReason 1 = .ok (.getfield 85, 3) := by decide +kernel
theorem dX6_bufferReason_4 : decode cX6_bufferReason 4 = .ok (.iconst (-1), 1) := by decide +kernel
theorem dX6_bufferReason_5 : decode cX6_bufferReason 5 = .ok (.if_icmp .eq 27, 3) := by decide +kernel
theorem dX6_bufferReason_8 : decode cX6_bufferReason 8 = .ok (.aload_n 1, 1) := by decide +kernel
theorem dX6_bufferReason_9 : decode cX6_bufferReason 9 = .ok (.aload_n 2, 1) := by decide +kernel
theorem dX6_bufferReason_10 : decode cX6_bufferReason 10 = .ok (.getfield 85, 3) := by decide +kernel
theorem dX6_bufferReason_13 : decode cX6_bufferReason 13 = .ok (.invokevirtual 88, 3) := by decide +kernel
theorem dX6_bufferReason_16 : decode cX6_bufferReason 16 = .ok (.invokevirtual 92, 3) := by decide +kernel
theorem dX6_bufferReason_19 : decode cX6_bufferReason 19 = .ok (.ifCond .ne 13, 3) := by decide +kernel
theorem dX6_bufferReason_22 : decode cX6_bufferReason 22 = .ok (.aload_n 0, 1) := by decide +kernel
theorem dX6_bufferReason_23 : decode cX6_bufferReason 23 = .ok (.aload_n 2, 1) := by decide +kernel
theorem dX6_bufferReason_24 : decode cX6_bufferReason 24 = .ok (.getfield 85, 3) := by decide +kernel
theorem dX6_bufferReason_27 : decode cX6_bufferReason 27 = .ok (.putfield 65, 3) := by decide +kernel
theorem dX6_bufferReason_30 : decode cX6_bufferReason 30 = .ok (.iconst 1, 1) := by decide +kernel
theorem dX6_bufferReason_31 : decode cX6_bufferReason 31 = .ok (.ireturn, 1) := by decide +kernel
theorem dX6_bufferReason_32 : decode cX6_bufferReason 32 = .ok (.aload_n 2, 1) := by decide +kernel
theorem dX6_bufferReason_33 : decode cX6_bufferReason 33 = .ok (.getfield 98, 3) := by decide +kernel
theorem dX6_bufferReason_36 : decode cX6_bufferReason 36 = .ok (.iconst (-1), 1) := by decide +kernel
theorem dX6_bufferReason_37 : decode cX6_bufferReason 37 = .ok (.if_icmp .eq 27, 3) := by decide +kernel
theorem dX6_bufferReason_40 : decode cX6_bufferReason 40 = .ok (.aload_n 1, 1) := by decide +kernel
theorem dX6_bufferReason_41 : decode cX6_bufferReason 41 = .ok (.aload_n 2, 1) := by decide +kernel
theorem dX6_bufferReason_42 : decode cX6_bufferReason 42 = .ok (.getfield 98, 3) := by decide +kernel
theorem dX6_bufferReason_45 : decode cX6_bufferReason 45 = .ok (.invokevirtual 88, 3) := by decide +kernel
theorem dX6_bufferReason_48 : decode cX6_bufferReason 48 = .ok (.invokevirtual 101, 3) := by decide +kernel
theorem dX6_bufferReason_51 : decode cX6_bufferReason 51 = .ok (.ifCond .ne 13, 3) := by decide +kernel
theorem dX6_bufferReason_54 : decode cX6_bufferReason 54 = .ok (.aload_n 0, 1) := by decide +kernel
theorem dX6_bufferReason_55 : decode cX6_bufferReason 55 = .ok (.aload_n 2, 1) := by decide +kernel
theorem dX6_bufferReason_56 : decode cX6_bufferReason 56 = .ok (.getfield 98, 3) := by decide +kernel
theorem dX6_bufferReason_59 : decode cX6_bufferReason 59 = .ok (.putfield 65, 3) := by decide +kernel
theorem dX6_bufferReason_62 : decode cX6_bufferReason 62 = .ok (.iconst 2, 1) := by decide +kernel
theorem dX6_bufferReason_63 : decode cX6_bufferReason 63 = .ok (.ireturn, 1) := by decide +kernel
theorem dX6_bufferReason_64 : decode cX6_bufferReason 64 = .ok (.iconst 0, 1) := by decide +kernel
theorem dX6_bufferReason_65 : decode cX6_bufferReason 65 = .ok (.ireturn, 1) := by decide +kernel
theorem dX6_lookAt_0 : decode cX6_lookAt 0 = .ok (.aload_n 0, 1) := by decide +kernel
theorem dX6_lookAt_1 : decode cX6_lookAt 1 = .ok (.iconst 0, 1) := by decide +kernel
theorem dX6_lookAt_2 : decode cX6_lookAt 2 = .ok (.putfield 104, 3) := by decide +kernel
theorem dX6_lookAt_5 : decode cX6_lookAt 5 = .ok (.iconst 0, 1) := by decide +kernel
theorem dX6_lookAt_6 : decode cX6_lookAt 6 = .ok (.istore_n 2, 1) := by decide +kernel
theorem dX6_lookAt_7 : decode cX6_lookAt 7 = .ok (.iload_n 2, 1) := by decide +kernel
theorem dX6_lookAt_8 : decode cX6_lookAt 8 = .ok (.aload_n 0, 1) := by decide +kernel
theorem dX6_lookAt_9 : decode cX6_lookAt 9 = .ok (.getfield 9, 3) := by decide +kernel
theorem dX6_lookAt_12 : decode cX6_lookAt 12 = .ok (.arraylength, 1) := by decide +kernel
theorem dX6_lookAt_13 : decode cX6_lookAt 13 = .ok (.if_icmp .ge 88, 3) := by decide +kernel
theorem dX6_lookAt_16 : decode cX6_lookAt 16 = .ok (.iload_n 2, 1) := by decide +kernel
theorem dX6_lookAt_17 : decode cX6_lookAt 17 = .ok (.aload_n 0, 1) := by decide +kernel
theorem dX6_lookAt_18 : decode cX6_lookAt 18 = .ok (.getfield 15, 3) := by decide +kernel
theorem dX6_lookAt_21 : decode cX6_lookAt 21 = .ok (.arraylength, 1) := by decide +kernel
theorem dX6_lookAt_22 : decode cX6_lookAt 22 = .ok (.if_icmp .ge 79, 3) := by decide +kernel
theorem dX6_lookAt_25 : decode cX6_lookAt 25 = .ok (.aload_n 1, 1) := by decide +kernel
theorem dX6_lookAt_26 : decode cX6_lookAt 26 = .ok (.iload_n 2, 1) := by decide +kernel
theorem dX6_lookAt_27 : decode cX6_lookAt 27 = .ok (.invokevirtual 107, 3) := by decide +kernel
theorem dX6_lookAt_30 : decode cX6_lookAt 30 = .ok (.astore_n 3, 1) := by decide +kernel
theorem dX6_lookAt_31 : decode cX6_lookAt 31 = .ok (.aload_n 0, 1) := by decide +kernel
theorem dX6_lookAt_32 : decode cX6_lookAt 32 = .ok (.getfield 9, 3) := by decide +kernel
theorem dX6_lookAt_35 : decode cX6_lookAt 35 = .ok (.iload_n 2, 1) := by decide +kernel
theorem dX6_lookAt_36 : decode cX6_lookAt 36 = .ok (.aload_n 3, 1) := by decide +kernel
theorem dX6_lookAt_37 : decode cX6_lookAt 37 = .ok (.getfield 111, 3) := by decide +kernel
theorem dX6_lookAt_40 : decode cX6_lookAt 40 = .ok (.iastore, 1) := by decide +kernel
theorem dX6_lookAt_41 : decode cX6_lookAt 41 = .ok (.aload_n 0, 1) := by decide +kernel
theorem dX6_lookAt_42 : decode cX6_lookAt 42 = .ok (.getfield 15, 3) := by decide +kernel
theorem dX6_lookAt_45 : decode cX6_lookAt 45 = .ok (.iload_n 2, 1) := by decide +kernel
theorem dX6_lookAt_46 : decode cX6_lookAt 46 = .ok (.iconst 0, 1) := by decide +kernel
theorem dX6_lookAt_47 : decode cX6_lookAt 47 = .ok (.iastore, 1) := by decide +kernel
theorem dX6_lookAt_48 : decode cX6_lookAt 48 = .ok (.aload_n 3, 1) := by decide +kernel
theorem dX6_lookAt_49 : decode cX6_lookAt 49 = .ok (.getfield 39, 3) := by decide +kernel
theorem dX6_lookAt_52 : decode cX6_lookAt 52 = .ok (.ifCond .eq 43, 3) := by decide +kernel
theorem dX6_lookAt_55 : decode cX6_lookAt 55 = .ok (.aload_n 0, 1) := by decide +kernel
theorem dX6_lookAt_56 : decode cX6_lookAt 56 = .ok (.dup, 1) := by decide +kernel
theorem dX6_lookAt_57 : decode cX6_lookAt 57 = .ok (.getfield 104, 3) := by decide +kernel
theorem dX6_lookAt_60 : decode cX6_lookAt 60 = .ok (.iconst 1, 1) := by decide +kernel
theorem dX6_lookAt_61 : decode cX6_lookAt 61 = .ok (.iload_n 2, 1) := by decide +kernel
theorem dX6_lookAt_62 : decode cX6_lookAt 62 = .ok (.ishl, 1) := by decide +kernel
theorem dX6_lookAt_63 : decode cX6_lookAt 63 = .ok (.ior, 1) := by decide +kernel
theorem dX6_lookAt_64 : decode cX6_lookAt 64 = .ok (.putfield 104, 3) := by decide +kernel
theorem dX6_lookAt_67 : decode cX6_lookAt 67 = .ok (.aload_n 0, 1) := by decide +kernel
theorem dX6_lookAt_68 : decode cX6_lookAt 68 = .ok (.getfield 15, 3) := by decide +kernel
theorem dX6_lookAt_71 : decode cX6_lookAt 71 = .ok (.iload_n 2, 1) := by decide +kernel
theorem dX6_lookAt_72 : decode cX6_lookAt 72 = .ok (.aload_n 1, 1) := by decide +kernel
theorem dX6_lookAt_73 : decode cX6_lookAt 73 = .ok (.getfield 47, 3) := by decide +kernel
theorem dX6_lookAt_76 : decode cX6_lookAt 76 = .ok (.aload_n 1, 1) := by decide +kernel
theorem dX6_lookAt_77 : decode cX6_lookAt 77 = .ok (.aload_n 3, 1) := by decide +kernel
theorem dX6_lookAt_78 : decode cX6_lookAt 78 = .ok (.getfield 113, 3) := by decide +kernel
theorem dX6_lookAt_81 : decode cX6_lookAt 81 = .ok (.invokevirtual 24, 3) := by decide +kernel
theorem dX6_lookAt_84 : decode cX6_lookAt 84 = .ok (.aload_n 3, 1) := by decide +kernel
theorem dX6_lookAt_85 : decode cX6_lookAt 85 = .ok (.invokevirtual 116, 3) := by decide +kernel
theorem dX6_lookAt_88 : decode cX6_lookAt 88 = .ok (.invokevirtual 72, 3) := by decide +kernel
theorem dX6_lookAt_91 : decode cX6_lookAt 91 = .ok (.invokevirtual 75, 3) := by decide +kernel
theorem dX6_lookAt_94 : decode cX6_lookAt 94 = .ok (.iastore, 1) := by decide +kernel
theorem dX6_lookAt_95 : decode cX6_lookAt 95 = .ok (.iinc 2 1, 3) := by decide +kernel
theorem dX6_lookAt_98 : decode cX6_lookAt 98 = .ok (.goto (-91), 3) := by decide +kernel
theorem dX6_lookAt_101 : decode cX6_lookAt 101 = .ok (.return_, 1) := by decide +kernel
theorem dX6_suppose_0 : decode cX6_suppose 0 = .ok (.aload_n 1, 1) := by decide +kernel
theorem dX6_suppose_1 : decode cX6_suppose 1 = .ok (.getfield 59, 3) := by decide +kernel
theorem dX6_suppose_4 : decode cX6_suppose 4 = .ok (.istore 4, 2) := by decide +kernel
theorem dX6_suppose_6 : decode cX6_suppose 6 = .ok (.iload 4, 2) := by decide +kernel
theorem dX6_suppose_8 : decode cX6_suppose 8 = .ok (.ifCond .lt 55, 3) := by decide +kernel
theorem dX6_suppose_11 : decode cX6_suppose 11 = .ok (.iload 4, 2) := by decide +kernel
theorem dX6_suppose_13 : decode cX6_suppose 13 = .ok (.aload_n 0, 1) := by decide +kernel
theorem dX6_suppose_14 : decode cX6_suppose 14 = .ok (.getfield 9, 3) := by decide +kernel
theorem dX6_suppose_17 : decode cX6_suppose 17 = .ok (.arraylength, 1) := by decide +kernel
theorem dX6_suppose_18 : decode cX6_suppose 18 = .ok (.if_icmp .ge 45, 3) := by decide +kernel
theorem dX6_suppose_21 : decode cX6_suppose 21 = .ok (.iload 4, 2) := by decide +kernel
theorem dX6_suppose_23 : decode cX6_suppose 23 = .ok (.aload_n 0, 1) := by decide +kernel
theorem dX6_suppose_24 : decode cX6_suppose 24 = .ok (.getfield 15, 3) := by decide +kernel
theorem dX6_suppose_27 : decode cX6_suppose 27 = .ok (.arraylength, 1) := by decide +kernel
theorem dX6_suppose_28 : decode cX6_suppose 28 = .ok (.if_icmp .ge 35, 3) := by decide +kernel
theorem dX6_suppose_31 : decode cX6_suppose 31 = .ok (.aload_n 0, 1) := by decide +kernel
theorem dX6_suppose_32 : decode cX6_suppose 32 = .ok (.dup, 1) := by decide +kernel
theorem dX6_suppose_33 : decode cX6_suppose 33 = .ok (.getfield 104, 3) := by decide +kernel
theorem dX6_suppose_36 : decode cX6_suppose 36 = .ok (.iconst 1, 1) := by decide +kernel
theorem dX6_suppose_37 : decode cX6_suppose 37 = .ok (.iload 4, 2) := by decide +kernel
theorem dX6_suppose_39 : decode cX6_suppose 39 = .ok (.ishl, 1) := by decide +kernel
theorem dX6_suppose_40 : decode cX6_suppose 40 = .ok (.ior, 1) := by decide +kernel
theorem dX6_suppose_41 : decode cX6_suppose 41 = .ok (.putfield 104, 3) := by decide +kernel
theorem dX6_suppose_44 : decode cX6_suppose 44 = .ok (.aload_n 0, 1) := by decide +kernel
theorem dX6_suppose_45 : decode cX6_suppose 45 = .ok (.getfield 9, 3) := by decide +kernel
theorem dX6_suppose_48 : decode cX6_suppose 48 = .ok (.iload 4, 2) := by decide +kernel
theorem dX6_suppose_50 : decode cX6_suppose 50 = .ok (.dup2, 1) := by decide +kernel
theorem dX6_suppose_51 : decode cX6_suppose 51 = .ok (.iaload, 1) := by decide +kernel
theorem dX6_suppose_52 : decode cX6_suppose 52 = .ok (.iload_n 2, 1) := by decide +kernel
theorem dX6_suppose_53 : decode cX6_suppose 53 = .ok (.ior, 1) := by decide +kernel
theorem dX6_suppose_54 : decode cX6_suppose 54 = .ok (.iastore, 1) := by decide +kernel
theorem dX6_suppose_55 : decode cX6_suppose 55 = .ok (.aload_n 0, 1) := by decide +kernel
theorem dX6_suppose_56 : decode cX6_suppose 56 = .ok (.getfield 15, 3) := by decide +kernel
theorem dX6_suppose_59 : decode cX6_suppose 59 = .ok (.iload 4, 2) := by decide +kernel
theorem dX6_suppose_61 : decode cX6_suppose 61 = .ok (.iload_n 3, 1) := by decide +kernel
theorem dX6_suppose_62 : decode cX6_suppose 62 = .ok (.iastore, 1) := by decide +kernel
theorem dX6_suppose_63 : decode cX6_suppose 63 = .ok (.return_, 1) := by decide +kernel
theorem dX6_findStuck_0 : decode cX6_findStuck 0 = .ok (.aload_n 0, 1) := by decide +kernel
theorem dX6_findStuck_1 : decode cX6_findStuck 1 = .ok (.getfield 104, 3) := by decide +kernel
theorem dX6_findStuck_4 : decode cX6_findStuck 4 = .ok (.istore_n 1, 1) := by decide +kernel
theorem dX6_findStuck_5 : decode cX6_findStuck 5 = .ok (.iconst 0, 1) := by decide +kernel
theorem dX6_findStuck_6 : decode cX6_findStuck 6 = .ok (.istore_n 2, 1) := by decide +kernel
theorem dX6_findStuck_7 : decode cX6_findStuck 7 = .ok (.iconst 0, 1) := by decide +kernel
theorem dX6_findStuck_8 : decode cX6_findStuck 8 = .ok (.istore_n 3, 1) := by decide +kernel
theorem dX6_findStuck_9 : decode cX6_findStuck 9 = .ok (.iload_n 3, 1) := by decide +kernel
theorem dX6_findStuck_10 : decode cX6_findStuck 10 = .ok (.aload_n 0, 1) := by decide +kernel
theorem dX6_findStuck_11 : decode cX6_findStuck 11 = .ok (.getfield 9, 3) := by decide +kernel
theorem dX6_findStuck_14 : decode cX6_findStuck 14 = .ok (.arraylength, 1) := by decide +kernel
theorem dX6_findStuck_15 : decode cX6_findStuck 15 = .ok (.if_icmp .ge 18, 3) := by decide +kernel
theorem dX6_findStuck_18 : decode cX6_findStuck 18 = .ok (.iload_n 2, 1) := by decide +kernel
theorem dX6_findStuck_19 : decode cX6_findStuck 19 = .ok (.aload_n 0, 1) := by decide +kernel
theorem dX6_findStuck_20 : decode cX6_findStuck 20 = .ok (.getfield 9, 3) := by decide +kernel
theorem dX6_findStuck_23 : decode cX6_findStuck 23 = .ok (.iload_n 3, 1) := by decide +kernel
theorem dX6_findStuck_24 : decode cX6_findStuck 24 = .ok (.iaload, 1) := by decide +kernel
theorem dX6_findStuck_25 : decode cX6_findStuck 25 = .ok (.ior, 1) := by decide +kernel
theorem dX6_findStuck_26 : decode cX6_findStuck 26 = .ok (.istore_n 2, 1) := by decide +kernel
theorem dX6_findStuck_27 : decode cX6_findStuck 27 = .ok (.iinc 3 1, 3) := by decide +kernel
theorem dX6_findStuck_30 : decode cX6_findStuck 30 = .ok (.goto (-21), 3) := by decide +kernel
theorem dX6_findStuck_33 : decode cX6_findStuck 33 = .ok (.iconst 0, 1) := by decide +kernel
theorem dX6_findStuck_34 : decode cX6_findStuck 34 = .ok (.istore_n 3, 1) := by decide +kernel
theorem dX6_findStuck_35 : decode cX6_findStuck 35 = .ok (.iload_n 3, 1) := by decide +kernel
theorem dX6_findStuck_36 : decode cX6_findStuck 36 = .ok (.iconst 3, 1) := by decide +kernel
theorem dX6_findStuck_37 : decode cX6_findStuck 37 = .ok (.if_icmp .ge 90, 3) := by decide +kernel
theorem dX6_findStuck_40 : decode cX6_findStuck 40 = .ok (.iconst 0, 1) := by decide +kernel
theorem dX6_findStuck_41 : decode cX6_findStuck 41 = .ok (.istore 4, 2) := by decide +kernel
theorem dX6_findStuck_43 : decode cX6_findStuck 43 = .ok (.iload 4, 2) := by decide +kernel
theorem dX6_findStuck_45 : decode cX6_findStuck 45 = .ok (.aload_n 0, 1) := by decide +kernel
theorem dX6_findStuck_46 : decode cX6_findStuck 46 = .ok (.getfield 9, 3) := by decide +kernel
theorem dX6_findStuck_49 : decode cX6_findStuck 49 = .ok (.arraylength, 1) := by decide +kernel
theorem dX6_findStuck_50 : decode cX6_findStuck 50 = .ok (.if_icmp .ge 71, 3) := by decide +kernel
theorem dX6_findStuck_53 : decode cX6_findStuck 53 = .ok (.iload 4, 2) := by decide +kernel
theorem dX6_findStuck_55 : decode cX6_findStuck 55 = .ok (.aload_n 0, 1) := by decide +kernel
theorem dX6_findStuck_56 : decode cX6_findStuck 56 = .ok (.getfield 15, 3) := by decide +kernel
theorem dX6_findStuck_59 : decode cX6_findStuck 59 = .ok (.arraylength, 1) := by decide +kernel
theorem dX6_findStuck_60 : decode cX6_findStuck 60 = .ok (.if_icmp .ge 61, 3) := by decide +kernel
theorem dX6_findStuck_63 : decode cX6_findStuck 63 = .ok (.iload_n 1, 1) := by decide +kernel
theorem dX6_findStuck_64 : decode cX6_findStuck 64 = .ok (.iconst 1, 1) := by decide +kernel
theorem dX6_findStuck_65 : decode cX6_findStuck 65 = .ok (.iload 4, 2) := by decide +kernel
theorem dX6_findStuck_67 : decode cX6_findStuck 67 = .ok (.ishl, 1) := by decide +kernel
theorem dX6_findStuck_68 : decode cX6_findStuck 68 = .ok (.iand, 1) := by decide +kernel
theorem dX6_findStuck_69 : decode cX6_findStuck 69 = .ok (.ifCond .eq 46, 3) := by decide +kernel
theorem dX6_findStuck_72 : decode cX6_findStuck 72 = .ok (.aload_n 0, 1) := by decide +kernel
theorem dX6_findStuck_73 : decode cX6_findStuck 73 = .ok (.getfield 15, 3) := by decide +kernel
theorem dX6_findStuck_76 : decode cX6_findStuck 76 = .ok (.iload 4, 2) := by decide +kernel
theorem dX6_findStuck_78 : decode cX6_findStuck 78 = .ok (.iaload, 1) := by decide +kernel
theorem dX6_findStuck_79 : decode cX6_findStuck 79 = .ok (.iload_n 2, 1) := by decide +kernel
theorem dX6_findStuck_80 : decode cX6_findStuck 80 = .ok (.iand, 1) := by decide +kernel
theorem dX6_findStuck_81 : decode cX6_findStuck 81 = .ok (.aload_n 0, 1) := by decide +kernel
theorem dX6_findStuck_82 : decode cX6_findStuck 82 = .ok (.getfield 9, 3) := by decide +kernel
theorem dX6_findStuck_85 : decode cX6_findStuck 85 = .ok (.iload 4, 2) := by decide +kernel
theorem dX6_findStuck_87 : decode cX6_findStuck 87 = .ok (.iaload, 1) := by decide +kernel
theorem dX6_findStuck_88 : decode cX6_findStuck 88 = .ok (.iconst (-1), 1) := by decide +kernel
theorem dX6_findStuck_89 : decode cX6_findStuck 89 = .ok (.ixor, 1) := by decide +kernel
theorem dX6_findStuck_90 : decode cX6_findStuck 90 = .ok (.iand, 1) := by decide +kernel
theorem dX6_findStuck_91 : decode cX6_findStuck 91 = .ok (.ifCond .ne 24, 3) := by decide +kernel
theorem dX6_findStuck_94 : decode cX6_findStuck 94 = .ok (.iload_n 1, 1) := by decide +kernel
theorem dX6_findStuck_95 : decode cX6_findStuck 95 = .ok (.iconst 1, 1) := by decide +kernel
theorem dX6_findStuck_96 : decode cX6_findStuck 96 = .ok (.iload 4, 2) := by decide +kernel
theorem dX6_findStuck_98 : decode cX6_findStuck 98 = .ok (.ishl, 1) := by decide +kernel
theorem dX6_findStuck_99 : decode cX6_findStuck 99 = .ok (.iconst (-1), 1) := by decide +kernel
theorem dX6_findStuck_100 : decode cX6_findStuck 100 = .ok (.ixor, 1) := by decide +kernel
theorem dX6_findStuck_101 : decode cX6_findStuck 101 = .ok (.iand, 1) := by decide +kernel
theorem dX6_findStuck_102 : decode cX6_findStuck 102 = .ok (.istore_n 1, 1) := by decide +kernel
theorem dX6_findStuck_103 : decode cX6_findStuck 103 = .ok (.iload_n 2, 1) := by decide +kernel
theorem dX6_findStuck_104 : decode cX6_findStuck 104 = .ok (.aload_n 0, 1) := by decide +kernel
theorem dX6_findStuck_105 : decode cX6_findStuck 105 = .ok (.getfield 9, 3) := by decide +kernel
theorem dX6_findStuck_108 : decode cX6_findStuck 108 = .ok (.iload 4, 2) := by decide +kernel
theorem dX6_findStuck_110 : decode cX6_findStuck 110 = .ok (.iaload, 1) := by decide +kernel
theorem dX6_findStuck_111 : decode cX6_findStuck 111 = .ok (.iconst (-1), 1) := by decide +kernel
theorem dX6_findStuck_112 : decode cX6_findStuck 112 = .ok (.ixor, 1) := by decide +kernel
theorem dX6_findStuck_113 : decode cX6_findStuck 113 = .ok (.iand, 1) := by decide +kernel
theorem dX6_findStuck_114 : decode cX6_findStuck 114 = .ok (.istore_n 2, 1) := by decide +kernel
theorem dX6_findStuck_115 : decode cX6_findStuck 115 = .ok (.iinc 4 1, 3) := by decide +kernel
theorem dX6_findStuck_118 : decode cX6_findStuck 118 = .ok (.goto (-75), 3) := by decide +kernel
theorem dX6_findStuck_121 : decode cX6_findStuck 121 = .ok (.iinc 3 1, 3) := by decide +kernel
theorem dX6_findStuck_124 : decode cX6_findStuck 124 = .ok (.goto (-89), 3) := by decide +kernel
theorem dX6_findStuck_127 : decode cX6_findStuck 127 = .ok (.iload_n 1, 1) := by decide +kernel
theorem dX6_findStuck_128 : decode cX6_findStuck 128 = .ok (.ireturn, 1) := by decide +kernel
theorem dX6_lowest_0 : decode cX6_lowest 0 = .ok (.iconst 0, 1) := by decide +kernel
theorem dX6_lowest_1 : decode cX6_lowest 1 = .ok (.istore_n 1, 1) := by decide +kernel
theorem dX6_lowest_2 : decode cX6_lowest 2 = .ok (.iload_n 1, 1) := by decide +kernel
theorem dX6_lowest_3 : decode cX6_lowest 3 = .ok (.iconst 3, 1) := by decide +kernel
theorem dX6_lowest_4 : decode cX6_lowest 4 = .ok (.if_icmp .ge 19, 3) := by decide +kernel
theorem dX6_lowest_7 : decode cX6_lowest 7 = .ok (.iload_n 0, 1) := by decide +kernel
theorem dX6_lowest_8 : decode cX6_lowest 8 = .ok (.iconst 1, 1) := by decide +kernel
theorem dX6_lowest_9 : decode cX6_lowest 9 = .ok (.iload_n 1, 1) := by decide +kernel
theorem dX6_lowest_10 : decode cX6_lowest 10 = .ok (.ishl, 1) := by decide +kernel
theorem dX6_lowest_11 : decode cX6_lowest 11 = .ok (.iand, 1) := by decide +kernel
theorem dX6_lowest_12 : decode cX6_lowest 12 = .ok (.ifCond .eq 5, 3) := by decide +kernel
theorem dX6_lowest_15 : decode cX6_lowest 15 = .ok (.iload_n 1, 1) := by decide +kernel
theorem dX6_lowest_16 : decode cX6_lowest 16 = .ok (.ireturn, 1) := by decide +kernel
theorem dX6_lowest_17 : decode cX6_lowest 17 = .ok (.iinc 1 1, 3) := by decide +kernel
theorem dX6_lowest_20 : decode cX6_lowest 20 = .ok (.goto (-18), 3) := by decide +kernel
theorem dX6_lowest_23 : decode cX6_lowest 23 = .ok (.iconst (-1), 1) := by decide +kernel
theorem dX6_lowest_24 : decode cX6_lowest 24 = .ok (.ireturn, 1) := by decide +kernel
theorem dX7_init_0 : decode cX7_init 0 = .ok (.aload_n 0, 1) := by decide +kernel
theorem dX7_init_1 : decode cX7_init 1 = .ok (.invokespecial 3, 3) := by decide +kernel
theorem dX7_init_4 : decode cX7_init 4 = .ok (.aload_n 0, 1) := by decide +kernel
theorem dX7_init_5 : decode cX7_init 5 = .ok (.bipush 96, 2) := by decide +kernel
theorem dX7_init_7 : decode cX7_init 7 = .ok (.newarray .int, 2) := by decide +kernel
theorem dX7_init_9 : decode cX7_init 9 = .ok (.putfield 9, 3) := by decide +kernel
theorem dX7_init_12 : decode cX7_init 12 = .ok (.return_, 1) := by decide +kernel
theorem dX7_copyFrom_0 : decode cX7_copyFrom 0 = .ok (.aload_n 0, 1) := by decide +kernel
theorem dX7_copyFrom_1 : decode cX7_copyFrom 1 = .ok (.aload_n 1, 1) := by decide +kernel
theorem dX7_copyFrom_2 : decode cX7_copyFrom 2 = .ok (.getfield 15, 3) := by decide +kernel
theorem dX7_copyFrom_5 : decode cX7_copyFrom 5 = .ok (.putfield 15, 3) := by decide +kernel
theorem dX7_copyFrom_8 : decode cX7_copyFrom 8 = .ok (.aload_n 1, 1) := by decide +kernel
theorem dX7_copyFrom_9 : decode cX7_copyFrom 9 = .ok (.getfield 9, 3) := by decide +kernel
theorem dX7_copyFrom_12 : decode cX7_copyFrom 12 = .ok (.aload_n 0, 1) := by decide +kernel
theorem dX7_copyFrom_13 : decode cX7_copyFrom 13 = .ok (.getfield 9, 3) := by decide +kernel
theorem dX7_copyFrom_16 : decode cX7_copyFrom 16 = .ok (.invokestatic 19, 3) := by decide +kernel
theorem dX7_copyFrom_19 : decode cX7_copyFrom 19 = .ok (.return_, 1) := by decide +kernel
theorem dX7_kept_0 : decode cX7_kept 0 = .ok (.aload_n 0, 1) := by decide +kernel
theorem dX7_kept_1 : decode cX7_kept 1 = .ok (.getfield 15, 3) := by decide +kernel
theorem dX7_kept_4 : decode cX7_kept 4 = .ok (.bipush 24, 2) := by decide +kernel
theorem dX7_kept_6 : decode cX7_kept 6 = .ok (.if_icmp .ge 10, 3) := by decide +kernel
theorem dX7_kept_9 : decode cX7_kept 9 = .ok (.aload_n 0, 1) := by decide +kernel
theorem dX7_kept_10 : decode cX7_kept 10 = .ok (.getfield 15, 3) := by decide +kernel
theorem dX7_kept_13 : decode cX7_kept 13 = .ok (.goto 5, 3) := by decide +kernel
theorem dX7_kept_16 : decode cX7_kept 16 = .ok (.bipush 24, 2) := by decide +kernel
theorem dX7_kept_18 : decode cX7_kept 18 = .ok (.ireturn, 1) := by decide +kernel
theorem dX7_add_0 : decode cX7_add 0 = .ok (.aload_n 0, 1) := by decide +kernel
theorem dX7_add_1 : decode cX7_add 1 = .ok (.getfield 15, 3) := by decide +kernel
theorem dX7_add_4 : decode cX7_add 4 = .ok (.bipush 24, 2) := by decide +kernel
theorem dX7_add_6 : decode cX7_add 6 = .ok (.irem, 1) := by decide +kernel
theorem dX7_add_7 : decode cX7_add 7 = .ok (.iconst 4, 1) := by decide +kernel
theorem dX7_add_8 : decode cX7_add 8 = .ok (.imul, 1) := by decide +kernel
theorem dX7_add_9 : decode cX7_add 9 = .ok (.istore 5, 2) := by decide +kernel
theorem dX7_add_11 : decode cX7_add 11 = .ok (.iload 5, 2) := by decide +kernel
theorem dX7_add_13 : decode cX7_add 13 = .ok (.ifCond .lt 64, 3) := by decide +kernel
theorem dX7_add_16 : decode cX7_add 16 = .ok (.iload 5, 2) := by decide +kernel
theorem dX7_add_18 : decode cX7_add 18 = .ok (.iconst 3, 1) := by decide +kernel
theorem dX7_add_19 : decode cX7_add 19 = .ok (.iadd, 1) := by decide +kernel
theorem dX7_add_20 : decode cX7_add 20 = .ok (.aload_n 0, 1) := by decide +kernel
theorem dX7_add_21 : decode cX7_add 21 = .ok (.getfield 9, 3) := by decide +kernel
theorem dX7_add_24 : decode cX7_add 24 = .ok (.arraylength, 1) := by decide +kernel
theorem dX7_add_25 : decode cX7_add 25 = .ok (.if_icmp .ge 52, 3) := by decide +kernel
theorem dX7_add_28 : decode cX7_add 28 = .ok (.aload_n 0, 1) := by decide +kernel
theorem dX7_add_29 : decode cX7_add 29 = .ok (.getfield 9, 3) := by decide +kernel
theorem dX7_add_32 : decode cX7_add 32 = .ok (.iload 5, 2) := by decide +kernel
theorem dX7_add_34 : decode cX7_add 34 = .ok (.iload_n 1, 1) := by decide +kernel
theorem dX7_add_35 : decode cX7_add 35 = .ok (.iastore, 1) := by decide +kernel
theorem dX7_add_36 : decode cX7_add 36 = .ok (.aload_n 0, 1) := by decide +kernel
theorem dX7_add_37 : decode cX7_add 37 = .ok (.getfield 9, 3) := by decide +kernel
theorem dX7_add_40 : decode cX7_add 40 = .ok (.iload 5, 2) := by decide +kernel
theorem dX7_add_42 : decode cX7_add 42 = .ok (.iconst 1, 1) := by decide +kernel
theorem dX7_add_43 : decode cX7_add 43 = .ok (.iadd, 1) := by decide +kernel
theorem dX7_add_44 : decode cX7_add 44 = .ok (.iload_n 2, 1) := by decide +kernel
theorem dX7_add_45 : decode cX7_add 45 = .ok (.iastore, 1) := by decide +kernel
theorem dX7_add_46 : decode cX7_add 46 = .ok (.aload_n 0, 1) := by decide +kernel
theorem dX7_add_47 : decode cX7_add 47 = .ok (.getfield 9, 3) := by decide +kernel
theorem dX7_add_50 : decode cX7_add 50 = .ok (.iload 5, 2) := by decide +kernel
theorem dX7_add_52 : decode cX7_add 52 = .ok (.iconst 2, 1) := by decide +kernel
theorem dX7_add_53 : decode cX7_add 53 = .ok (.iadd, 1) := by decide +kernel
theorem dX7_add_54 : decode cX7_add 54 = .ok (.iload_n 3, 1) := by decide +kernel
theorem dX7_add_55 : decode cX7_add 55 = .ok (.iastore, 1) := by decide +kernel
theorem dX7_add_56 : decode cX7_add 56 = .ok (.aload_n 0, 1) := by decide +kernel
theorem dX7_add_57 : decode cX7_add 57 = .ok (.getfield 9, 3) := by decide +kernel
theorem dX7_add_60 : decode cX7_add 60 = .ok (.iload 5, 2) := by decide +kernel
theorem dX7_add_62 : decode cX7_add 62 = .ok (.iconst 3, 1) := by decide +kernel
theorem dX7_add_63 : decode cX7_add 63 = .ok (.iadd, 1) := by decide +kernel
theorem dX7_add_64 : decode cX7_add 64 = .ok (.iload 4, 2) := by decide +kernel
theorem dX7_add_66 : decode cX7_add 66 = .ok (.iastore, 1) := by decide +kernel
theorem dX7_add_67 : decode cX7_add 67 = .ok (.aload_n 0, 1) := by decide +kernel
theorem dX7_add_68 : decode cX7_add 68 = .ok (.dup, 1) := by decide +kernel
theorem dX7_add_69 : decode cX7_add 69 = .ok (.getfield 15, 3) := by decide +kernel
theorem dX7_add_72 : decode cX7_add 72 = .ok (.iconst 1, 1) := by decide +kernel
theorem dX7_add_73 : decode cX7_add 73 = .ok (.iadd, 1) := by decide +kernel
theorem dX7_add_74 : decode cX7_add 74 = .ok (.putfield 15, 3) := by decide +kernel
theorem dX7_add_77 : decode cX7_add 77 = .ok (.return_, 1) := by decide +kernel
theorem dX7_partOf_0 : decode cX7_partOf 0 = .ok (.aload_n 0, 1) := by decide +kernel
theorem dX7_partOf_1 : decode cX7_partOf 1 = .ok (.getfield 15, 3) := by decide +kernel
theorem dX7_partOf_4 : decode cX7_partOf 4 = .ok (.aload_n 0, 1) := by decide +kernel
theorem dX7_partOf_5 : decode cX7_partOf 5 = .ok (.invokevirtual 23, 3) := by decide +kernel
theorem dX7_partOf_8 : decode cX7_partOf 8 = .ok (.isub, 1) := by decide +kernel
theorem dX7_partOf_9 : decode cX7_partOf 9 = .ok (.iload_n 1, 1) := by decide +kernel
theorem dX7_partOf_10 : decode cX7_partOf 10 = .ok (.iadd, 1) := by decide +kernel
theorem dX7_partOf_11 : decode cX7_partOf 11 = .ok (.bipush 24, 2) := by decide +kernel
theorem dX7_partOf_13 : decode cX7_partOf 13 = .ok (.irem, 1) := by decide +kernel
theorem dX7_partOf_14 : decode cX7_partOf 14 = .ok (.iconst 4, 1) := by decide +kernel
theorem dX7_partOf_15 : decode cX7_partOf 15 = .ok (.imul, 1) := by decide +kernel
theorem dX7_partOf_16 : decode cX7_partOf 16 = .ok (.iload_n 2, 1) := by decide +kernel
theorem dX7_partOf_17 : decode cX7_partOf 17 = .ok (.iadd, 1) := by decide +kernel
theorem dX7_partOf_18 : decode cX7_partOf 18 = .ok (.istore_n 3, 1) := by decide +kernel
theorem dX7_partOf_19 : decode cX7_partOf 19 = .ok (.iload_n 3, 1) := by decide +kernel
theorem dX7_partOf_20 : decode cX7_partOf 20 = .ok (.ifCond .lt 21, 3) := by decide +kernel
theorem dX7_partOf_23 : decode cX7_partOf 23 = .ok (.iload_n 3, 1) := by decide +kernel
theorem dX7_partOf_24 : decode cX7_partOf 24 = .ok (.aload_n 0, 1) := by decide +kernel
theorem dX7_partOf_25 : decode cX7_partOf 25 = .ok (.getfield 9, 3) := by decide +kernel
theorem dX7_partOf_28 : decode cX7_partOf 28 = .ok (.arraylength, 1) := by decide +kernel
theorem dX7_partOf_29 : decode cX7_partOf 29 = .ok (.if_icmp .ge 12, 3) := by decide +kernel
theorem dX7_partOf_32 : decode cX7_partOf 32 = .ok (.aload_n 0, 1) := by decide +kernel
theorem dX7_partOf_33 : decode cX7_partOf 33 = .ok (.getfield 9, 3) := by decide +kernel
theorem dX7_partOf_36 : decode cX7_partOf 36 = .ok (.iload_n 3, 1) := by decide +kernel
theorem dX7_partOf_37 : decode cX7_partOf 37 = .ok (.iaload, 1) := by decide +kernel
theorem dX7_partOf_38 : decode cX7_partOf 38 = .ok (.goto 4, 3) := by decide +kernel
theorem dX7_partOf_41 : decode cX7_partOf 41 = .ok (.iconst (-1), 1) := by decide +kernel
theorem dX7_partOf_42 : decode cX7_partOf 42 = .ok (.ireturn, 1) := by decide +kernel
theorem dX8_init_0 : decode cX8_init 0 = .ok (.aload_n 0, 1) := by decide +kernel
theorem dX8_init_1 : decode cX8_init 1 = .ok (.invokespecial 3, 3) := by decide +kernel
theorem dX8_init_4 : decode cX8_init 4 = .ok (.aload_n 0, 1) := by decide +kernel
theorem dX8_init_5 : decode cX8_init 5 = .ok (.new 9, 3) := by decide +kernel
theorem dX8_init_8 : decode cX8_init 8 = .ok (.dup, 1) := by decide +kernel
theorem dX8_init_9 : decode cX8_init 9 = .ok (.invokespecial 11, 3) := by decide +kernel
theorem dX8_init_12 : decode cX8_init 12 = .ok (.putfield 12, 3) := by decide +kernel
theorem dX8_init_15 : decode cX8_init 15 = .ok (.aload_n 0, 1) := by decide +kernel
theorem dX8_init_16 : decode cX8_init 16 = .ok (.iconst 3, 1) := by decide +kernel
theorem dX8_init_17 : decode cX8_init 17 = .ok (.newarray .int, 2) := by decide +kernel
theorem dX8_init_19 : decode cX8_init 19 = .ok (.putfield 18, 3) := by decide +kernel
theorem dX8_init_22 : decode cX8_init 22 = .ok (.return_, 1) := by decide +kernel
theorem dX8_makeTick_0 : decode cX8_makeTick 0 = .ok (.aload_n 1, 1) := by decide +kernel
theorem dX8_makeTick_1 : decode cX8_makeTick 1 = .ok (.dup, 1) := by decide +kernel
theorem dX8_makeTick_2 : decode cX8_makeTick 2 = .ok (.getfield 22, 3) := by decide +kernel
theorem dX8_makeTick_5 : decode cX8_makeTick 5 = .ok (.iconst 1, 1) := by decide +kernel
theorem dX8_makeTick_6 : decode cX8_makeTick 6 = .ok (.iadd, 1) := by decide +kernel
theorem dX8_makeTick_7 : decode cX8_makeTick 7 = .ok (.putfield 22, 3) := by decide +kernel
theorem dX8_makeTick_10 : decode cX8_makeTick 10 = .ok (.aload_n 0, 1) := by decide +kernel
theorem dX8_makeTick_11 : decode cX8_makeTick 11 = .ok (.aload_n 1, 1) := by decide +kernel
theorem dX8_makeTick_12 : decode cX8_makeTick 12 = .ok (.invokevirtual 28, 3) := by decide +kernel
theorem dX8_makeTick_15 : decode cX8_makeTick 15 = .ok (.iconst 0, 1) := by decide +kernel
theorem dX8_makeTick_16 : decode cX8_makeTick 16 = .ok (.istore_n 2, 1) := by decide +kernel
theorem dX8_makeTick_17 : decode cX8_makeTick 17 = .ok (.iload_n 2, 1) := by decide +kernel
theorem dX8_makeTick_18 : decode cX8_makeTick 18 = .ok (.aload_n 0, 1) := by decide +kernel
theorem dX8_makeTick_19 : decode cX8_makeTick 19 = .ok (.getfield 18, 3) := by decide +kernel
theorem dX8_makeTick_22 : decode cX8_makeTick 22 = .ok (.arraylength, 1) := by decide +kernel
theorem dX8_makeTick_23 : decode cX8_makeTick 23 = .ok (.if_icmp .ge 24, 3) := by decide +kernel
theorem dX8_makeTick_26 : decode cX8_makeTick 26 = .ok (.aload_n 0, 1) := by decide +kernel
theorem dX8_makeTick_27 : decode cX8_makeTick 27 = .ok (.aload_n 1, 1) := by decide +kernel
theorem dX8_makeTick_28 : decode cX8_makeTick 28 = .ok (.aload_n 1, 1) := by decide +kernel
theorem dX8_makeTick_29 : decode cX8_makeTick 29 = .ok (.aload_n 0, 1) := by decide +kernel
theorem dX8_makeTick_30 : decode cX8_makeTick 30 = .ok (.getfield 18, 3) := by decide +kernel
theorem dX8_makeTick_33 : decode cX8_makeTick 33 = .ok (.iload_n 2, 1) := by decide +kernel
theorem dX8_makeTick_34 : decode cX8_makeTick 34 = .ok (.iaload, 1) := by decide +kernel
theorem dX8_makeTick_35 : decode cX8_makeTick 35 = .ok (.invokevirtual 32, 3) := by decide +kernel
theorem dX8_makeTick_38 : decode cX8_makeTick 38 = .ok (.invokevirtual 36, 3) := by decide +kernel
theorem dX8_makeTick_41 : decode cX8_makeTick 41 = .ok (.iinc 2 1, 3) := by decide +kernel
theorem dX8_makeTick_44 : decode cX8_makeTick 44 = .ok (.goto (-27), 3) := by decide +kernel
theorem dX8_makeTick_47 : decode cX8_makeTick 47 = .ok (.aload_n 1, 1) := by decide +kernel
theorem dX8_makeTick_48 : decode cX8_makeTick 48 = .ok (.invokevirtual 40, 3) := by decide +kernel
theorem dX8_makeTick_51 : decode cX8_makeTick 51 = .ok (.return_, 1) := by decide +kernel
theorem dX8_findOrder_0 : decode cX8_findOrder 0 = .ok (.iconst 0, 1) := by decide +kernel
theorem dX8_findOrder_1 : decode cX8_findOrder 1 = .ok (.istore_n 2, 1) := by decide +kernel
theorem dX8_findOrder_2 : decode cX8_findOrder 2 = .ok (.iload_n 2, 1) := by decide +kernel
theorem dX8_findOrder_3 : decode cX8_findOrder 3 = .ok (.iconst 3, 1) := by decide +kernel
theorem dX8_findOrder_4 : decode cX8_findOrder 4 = .ok (.if_icmp .ge 35, 3) := by decide +kernel
theorem dX8_findOrder_7 : decode cX8_findOrder 7 = .ok (.aload_n 1, 1) := by decide +kernel
theorem dX8_findOrder_8 : decode cX8_findOrder 8 = .ok (.iload_n 2, 1) := by decide +kernel
theorem dX8_findOrder_9 : decode cX8_findOrder 9 = .ok (.invokevirtual 43, 3) := by decide +kernel
theorem dX8_findOrder_12 : decode cX8_findOrder 12 = .ok (.istore_n 3, 1) := by decide +kernel
theorem dX8_findOrder_13 : decode cX8_findOrder 13 = .ok (.iload_n 3, 1) := by decide +kernel
theorem dX8_findOrder_14 : decode cX8_findOrder 14 = .ok (.ifCond .lt 19, 3) := by decide +kernel
theorem dX8_findOrder_17 : decode cX8_findOrder 17 = .ok (.iload_n 3, 1) := by decide +kernel
theorem dX8_findOrder_18 : decode cX8_findOrder 18 = .ok (.aload_n 0, 1) := by decide +kernel
theorem dX8_findOrder_19 : decode cX8_findOrder 19 = .ok (.getfield 18, 3) := by decide +kernel
theorem dX8_findOrder_22 : decode cX8_findOrder 22 = .ok (.arraylength, 1) := by decide +kernel
theorem dX8_findOrder_23 : decode cX8_findOrder 23 = .ok (.if_icmp .ge 10, 3) := by decide +kernel
theorem dX8_findOrder_26 : decode cX8_findOrder 26 = .ok (.aload_n 0, 1) := by decide +kernel
theorem dX8_findOrder_27 : decode cX8_findOrder 27 = .ok (.getfield 18, 3) := by decide +kernel
theorem dX8_findOrder_30 : decode cX8_findOrder 30 = .ok (.iload_n 3, 1) := by decide +kernel
theorem dX8_findOrder_31 : decode cX8_findOrder 31 = .ok (.iload_n 2, 1) := by decide +kernel
theorem dX8_findOrder_32 : decode cX8_findOrder 32 = .ok (.iastore, 1) := by decide +kernel
theorem dX8_findOrder_33 : decode cX8_findOrder 33 = .ok (.iinc 2 1, 3) := by decide +kernel
theorem dX8_findOrder_36 : decode cX8_findOrder 36 = .ok (.goto (-34), 3) := by decide +kernel
theorem dX8_findOrder_39 : decode cX8_findOrder 39 = .ok (.return_, 1) := by decide +kernel
theorem dX8_act_0 : decode cX8_act 0 = .ok (.aload_n 2, 1) := by decide +kernel
theorem dX8_act_1 : decode cX8_act 1 = .ok (.getfield 47, 3) := by decide +kernel
theorem dX8_act_4 : decode cX8_act 4 = .ok (.istore_n 3, 1) := by decide +kernel
theorem dX8_act_5 : decode cX8_act 5 = .ok (.aload_n 2, 1) := by decide +kernel
theorem dX8_act_6 : decode cX8_act 6 = .ok (.iconst 0, 1) := by decide +kernel
theorem dX8_act_7 : decode cX8_act 7 = .ok (.putfield 47, 3) := by decide +kernel
theorem dX8_act_10 : decode cX8_act 10 = .ok (.aload_n 2, 1) := by decide +kernel
theorem dX8_act_11 : decode cX8_act 11 = .ok (.getfield 52, 3) := by decide +kernel
theorem dX8_act_14 : decode cX8_act 14 = .ok (.iconst 1, 1) := by decide +kernel
theorem dX8_act_15 : decode cX8_act 15 = .ok (.if_icmp .le 14, 3) := by decide +kernel
theorem dX8_act_18 : decode cX8_act 18 = .ok (.aload_n 2, 1) := by decide +kernel
theorem dX8_act_19 : decode cX8_act 19 = .ok (.dup, 1) := by decide +kernel
theorem dX8_act_20 : decode cX8_act 20 = .ok (.getfield 52, 3) := by decide +kernel
theorem dX8_act_23 : decode cX8_act 23 = .ok (.iconst 1, 1) := by decide +kernel
theorem dX8_act_24 : decode cX8_act 24 = .ok (.isub, 1) := by decide +kernel
theorem dX8_act_25 : decode cX8_act 25 = .ok (.putfield 52, 3) := by decide +kernel
theorem dX8_act_28 : decode cX8_act 28 = .ok (.return_, 1) := by decide +kernel
theorem dX8_act_29 : decode cX8_act 29 = .ok (.aload_n 2, 1) := by decide +kernel
theorem dX8_act_30 : decode cX8_act 30 = .ok (.iconst 0, 1) := by decide +kernel
theorem dX8_act_31 : decode cX8_act 31 = .ok (.putfield 52, 3) := by decide +kernel
theorem dX8_act_34 : decode cX8_act 34 = .ok (.aload_n 2, 1) := by decide +kernel
theorem dX8_act_35 : decode cX8_act 35 = .ok (.getfield 55, 3) := by decide +kernel
theorem dX8_act_38 : decode cX8_act 38 = .ok (.iconst 2, 1) := by decide +kernel
theorem dX8_act_39 : decode cX8_act 39 = .ok (.if_icmp .ne 11, 3) := by decide +kernel
theorem dX8_act_42 : decode cX8_act 42 = .ok (.aload_n 1, 1) := by decide +kernel
theorem dX8_act_43 : decode cX8_act 43 = .ok (.aload_n 2, 1) := by decide +kernel
theorem dX8_act_44 : decode cX8_act 44 = .ok (.invokevirtual 58, 3) := by decide +kernel
theorem dX8_act_47 : decode cX8_act 47 = .ok (.goto 81, 3) := by decide +kernel
theorem dX8_act_50 : decode cX8_act 50 = .ok (.aload_n 1, 1) := by decide +kernel
theorem dX8_act_51 : decode cX8_act 51 = .ok (.aload_n 2, 1) := by decide +kernel
theorem dX8_act_52 : decode cX8_act 52 = .ok (.invokevirtual 62, 3) := by decide +kernel
theorem dX8_act_55 : decode cX8_act 55 = .ok (.ifCond .eq 61, 3) := by decide +kernel
theorem dX8_act_58 : decode cX8_act 58 = .ok (.aload_n 0, 1) := by decide +kernel
theorem dX8_act_59 : decode cX8_act 59 = .ok (.getfield 12, 3) := by decide +kernel
theorem dX8_act_62 : decode cX8_act 62 = .ok (.aload_n 1, 1) := by decide +kernel
theorem dX8_act_63 : decode cX8_act 63 = .ok (.aload_n 2, 1) := by decide +kernel
theorem dX8_act_64 : decode cX8_act 64 = .ok (.invokevirtual 66, 3) := by decide +kernel
theorem dX8_act_67 : decode cX8_act 67 = .ok (.istore 4, 2) := by decide +kernel
theorem dX8_act_69 : decode cX8_act 69 = .ok (.iload 4, 2) := by decide +kernel
theorem dX8_act_71 : decode cX8_act 71 = .ok (.ifCond .eq 22, 3) := by decide +kernel
theorem dX8_act_74 : decode cX8_act 74 = .ok (.aload_n 2, 1) := by decide +kernel
theorem dX8_act_75 : decode cX8_act 75 = .ok (.iload 4, 2) := by decide +kernel
theorem dX8_act_77 : decode cX8_act 77 = .ok (.aload_n 0, 1) := by decide +kernel
theorem dX8_act_78 : decode cX8_act 78 = .ok (.getfield 12, 3) := by decide +kernel
theorem dX8_act_81 : decode cX8_act 81 = .ok (.getfield 70, 3) := by decide +kernel
theorem dX8_act_84 : decode cX8_act 84 = .ok (.iload_n 3, 1) := by decide +kernel
theorem dX8_act_85 : decode cX8_act 85 = .ok (.iconst 1, 1) := by decide +kernel
theorem dX8_act_86 : decode cX8_act 86 = .ok (.iadd, 1) := by decide +kernel
theorem dX8_act_87 : decode cX8_act 87 = .ok (.invokevirtual 73, 3) := by decide +kernel
theorem dX8_act_90 : decode cX8_act 90 = .ok (.goto 23, 3) := by decide +kernel
theorem dX8_act_93 : decode cX8_act 93 = .ok (.aload_n 2, 1) := by decide +kernel
theorem dX8_act_94 : decode cX8_act 94 = .ok (.getfield 55, 3) := by decide +kernel
theorem dX8_act_97 : decode cX8_act 97 = .ok (.ifCond .ne 11, 3) := by decide +kernel
theorem dX8_act_100 : decode cX8_act 100 = .ok (.aload_n 1, 1) := by decide +kernel
theorem dX8_act_101 : decode cX8_act 101 = .ok (.aload_n 2, 1) := by decide +kernel
theorem dX8_act_102 : decode cX8_act 102 = .ok (.invokevirtual 77, 3) := by decide +kernel
theorem dX8_act_105 : decode cX8_act 105 = .ok (.goto 8, 3) := by decide +kernel
theorem dX8_act_108 : decode cX8_act 108 = .ok (.aload_n 1, 1) := by decide +kernel
theorem dX8_act_109 : decode cX8_act 109 = .ok (.aload_n 2, 1) := by decide +kernel
theorem dX8_act_110 : decode cX8_act 110 = .ok (.invokevirtual 80, 3) := by decide +kernel
theorem dX8_act_113 : decode cX8_act 113 = .ok (.goto 15, 3) := by decide +kernel
theorem dX8_act_116 : decode cX8_act 116 = .ok (.aload_n 2, 1) := by decide +kernel
theorem dX8_act_117 : decode cX8_act 117 = .ok (.getfield 55, 3) := by decide +kernel
theorem dX8_act_120 : decode cX8_act 120 = .ok (.ifCond .eq 8, 3) := by decide +kernel
theorem dX8_act_123 : decode cX8_act 123 = .ok (.aload_n 1, 1) := by decide +kernel
theorem dX8_act_124 : decode cX8_act 124 = .ok (.aload_n 2, 1) := by decide +kernel
theorem dX8_act_125 : decode cX8_act 125 = .ok (.invokevirtual 83, 3) := by decide +kernel
theorem dX8_act_128 : decode cX8_act 128 = .ok (.return_, 1) := by decide +kernel
theorem dX9_init_0 : decode cX9_init 0 = .ok (.aload_n 0, 1) := by decide +kernel
