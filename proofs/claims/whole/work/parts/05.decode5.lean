theorem dX12_use_8 : decode cX12_use 8 = .ok (.iconst 1, 1) := by decide +kernel
theorem dX12_use_9 : decode cX12_use 9 = .ok (.putfield 139, 3) := by decide +kernel
theorem dX12_use_12 : decode cX12_use 12 = .ok (.fconst 0, 1) := by decide +kernel
theorem dX12_use_13 : decode cX12_use 13 = .ok (.freturn, 1) := by decide +kernel
theorem dX12_use_14 : decode cX12_use 14 = .ok (.aload_n 0, 1) := by decide +kernel
theorem dX12_use_15 : decode cX12_use 15 = .ok (.aload_n 0, 1) := by decide +kernel
theorem dX12_use_16 : decode cX12_use 16 = .ok (.getfield 158, 3) := by decide +kernel
theorem dX12_use_19 : decode cX12_use 19 = .ok (.ifCond .ne 7, 3) := by decide +kernel
theorem dX12_use_22 : decode cX12_use 22 = .ok (.iconst 2, 1) := by decide +kernel
theorem dX12_use_23 : decode cX12_use 23 = .ok (.goto 4, 3) := by decide +kernel
theorem dX12_use_26 : decode cX12_use 26 = .ok (.iconst 0, 1) := by decide +kernel
theorem dX12_use_27 : decode cX12_use 27 = .ok (.putfield 139, 3) := by decide +kernel
theorem dX12_use_30 : decode cX12_use 30 = .ok (.aload_n 0, 1) := by decide +kernel
theorem dX12_use_31 : decode cX12_use 31 = .ok (.getfield 158, 3) := by decide +kernel
theorem dX12_use_34 : decode cX12_use 34 = .ok (.ifCond .ne 7, 3) := by decide +kernel
theorem dX12_use_37 : decode cX12_use 37 = .ok (.fconst 0, 1) := by decide +kernel
theorem dX12_use_38 : decode cX12_use 38 = .ok (.goto 16, 3) := by decide +kernel
theorem dX12_use_41 : decode cX12_use 41 = .ok (.aload_n 0, 1) := by decide +kernel
theorem dX12_use_42 : decode cX12_use 42 = .ok (.getfield 70, 3) := by decide +kernel
theorem dX12_use_45 : decode cX12_use 45 = .ok (.iload_n 1, 1) := by decide +kernel
theorem dX12_use_46 : decode cX12_use 46 = .ok (.iaload, 1) := by decide +kernel
theorem dX12_use_47 : decode cX12_use 47 = .ok (.i2f, 1) := by decide +kernel
theorem dX12_use_48 : decode cX12_use 48 = .ok (.aload_n 0, 1) := by decide +kernel
theorem dX12_use_49 : decode cX12_use 49 = .ok (.getfield 158, 3) := by decide +kernel
theorem dX12_use_52 : decode cX12_use 52 = .ok (.i2f, 1) := by decide +kernel
theorem dX12_use_53 : decode cX12_use 53 = .ok (.fdiv, 1) := by decide +kernel
theorem dX12_use_54 : decode cX12_use 54 = .ok (.freturn, 1) := by decide +kernel
theorem dX12_meanDuration_0 : decode cX12_meanDuration 0 = .ok (.aload_n 0, 1) := by decide +kernel
theorem dX12_meanDuration_1 : decode cX12_meanDuration 1 = .ok (.aload_n 0, 1) := by decide +kernel
theorem dX12_meanDuration_2 : decode cX12_meanDuration 2 = .ok (.getfield 211, 3) := by decide +kernel
theorem dX12_meanDuration_5 : decode cX12_meanDuration 5 = .ok (.ifCond .ne 7, 3) := by decide +kernel
theorem dX12_meanDuration_8 : decode cX12_meanDuration 8 = .ok (.iconst 1, 1) := by decide +kernel
theorem dX12_meanDuration_9 : decode cX12_meanDuration 9 = .ok (.goto 4, 3) := by decide +kernel
theorem dX12_meanDuration_12 : decode cX12_meanDuration 12 = .ok (.iconst 0, 1) := by decide +kernel
theorem dX12_meanDuration_13 : decode cX12_meanDuration 13 = .ok (.putfield 139, 3) := by decide +kernel
theorem dX12_meanDuration_16 : decode cX12_meanDuration 16 = .ok (.aload_n 0, 1) := by decide +kernel
theorem dX12_meanDuration_17 : decode cX12_meanDuration 17 = .ok (.getfield 211, 3) := by decide +kernel
theorem dX12_meanDuration_20 : decode cX12_meanDuration 20 = .ok (.ifCond .ne 7, 3) := by decide +kernel
theorem dX12_meanDuration_23 : decode cX12_meanDuration 23 = .ok (.dconst 0, 1) := by decide +kernel
theorem dX12_meanDuration_24 : decode cX12_meanDuration 24 = .ok (.goto 14, 3) := by decide +kernel
theorem dX12_meanDuration_27 : decode cX12_meanDuration 27 = .ok (.aload_n 0, 1) := by decide +kernel
theorem dX12_meanDuration_28 : decode cX12_meanDuration 28 = .ok (.getfield 214, 3) := by decide +kernel
theorem dX12_meanDuration_31 : decode cX12_meanDuration 31 = .ok (.i2d, 1) := by decide +kernel
theorem dX12_meanDuration_32 : decode cX12_meanDuration 32 = .ok (.aload_n 0, 1) := by decide +kernel
theorem dX12_meanDuration_33 : decode cX12_meanDuration 33 = .ok (.getfield 211, 3) := by decide +kernel
theorem dX12_meanDuration_36 : decode cX12_meanDuration 36 = .ok (.i2d, 1) := by decide +kernel
theorem dX12_meanDuration_37 : decode cX12_meanDuration 37 = .ok (.ddiv, 1) := by decide +kernel
theorem dX12_meanDuration_38 : decode cX12_meanDuration 38 = .ok (.dreturn, 1) := by decide +kernel
theorem dX12_feed_0 : decode cX12_feed 0 = .ok (.aload_n 0, 1) := by decide +kernel
theorem dX12_feed_1 : decode cX12_feed 1 = .ok (.getfield 318, 3) := by decide +kernel
theorem dX12_feed_4 : decode cX12_feed 4 = .ok (.bipush 80, 2) := by decide +kernel
theorem dX12_feed_6 : decode cX12_feed 6 = .ok (.if_icmp .ne 9, 3) := by decide +kernel
theorem dX12_feed_9 : decode cX12_feed 9 = .ok (.aload_n 0, 1) := by decide +kernel
theorem dX12_feed_10 : decode cX12_feed 10 = .ok (.iconst 1, 1) := by decide +kernel
theorem dX12_feed_11 : decode cX12_feed 11 = .ok (.invokevirtual 268, 3) := by decide +kernel
theorem dX12_feed_14 : decode cX12_feed 14 = .ok (.ireturn, 1) := by decide +kernel
theorem dX12_feed_15 : decode cX12_feed 15 = .ok (.aload_n 0, 1) := by decide +kernel
theorem dX12_feed_16 : decode cX12_feed 16 = .ok (.iconst 0, 1) := by decide +kernel
theorem dX12_feed_17 : decode cX12_feed 17 = .ok (.putfield 139, 3) := by decide +kernel
theorem dX12_feed_20 : decode cX12_feed 20 = .ok (.aload_n 0, 1) := by decide +kernel
theorem dX12_feed_21 : decode cX12_feed 21 = .ok (.getfield 118, 3) := by decide +kernel
theorem dX12_feed_24 : decode cX12_feed 24 = .ok (.aload_n 0, 1) := by decide +kernel
theorem dX12_feed_25 : decode cX12_feed 25 = .ok (.getfield 318, 3) := by decide +kernel
theorem dX12_feed_28 : decode cX12_feed 28 = .ok (.iload_n 1, 1) := by decide +kernel
theorem dX12_feed_29 : decode cX12_feed 29 = .ok (.iastore, 1) := by decide +kernel
theorem dX12_feed_30 : decode cX12_feed 30 = .ok (.aload_n 0, 1) := by decide +kernel
theorem dX12_feed_31 : decode cX12_feed 31 = .ok (.dup, 1) := by decide +kernel
theorem dX12_feed_32 : decode cX12_feed 32 = .ok (.getfield 318, 3) := by decide +kernel
theorem dX12_feed_35 : decode cX12_feed 35 = .ok (.iconst 1, 1) := by decide +kernel
theorem dX12_feed_36 : decode cX12_feed 36 = .ok (.iadd, 1) := by decide +kernel
theorem dX12_feed_37 : decode cX12_feed 37 = .ok (.putfield 318, 3) := by decide +kernel
theorem dX12_feed_40 : decode cX12_feed 40 = .ok (.aload_n 0, 1) := by decide +kernel
theorem dX12_feed_41 : decode cX12_feed 41 = .ok (.getfield 318, 3) := by decide +kernel
theorem dX12_feed_44 : decode cX12_feed 44 = .ok (.ireturn, 1) := by decide +kernel
theorem dX12_skips_0 : decode cX12_skips 0 = .ok (.aload_n 0, 1) := by decide +kernel
theorem dX12_skips_1 : decode cX12_skips 1 = .ok (.getfield 321, 3) := by decide +kernel
theorem dX12_skips_4 : decode cX12_skips 4 = .ok (.aload_n 0, 1) := by decide +kernel
theorem dX12_skips_5 : decode cX12_skips 5 = .ok (.getfield 318, 3) := by decide +kernel
theorem dX12_skips_8 : decode cX12_skips 8 = .ok (.if_icmp .eq 16, 3) := by decide +kernel
theorem dX12_skips_11 : decode cX12_skips 11 = .ok (.aload_n 0, 1) := by decide +kernel
theorem dX12_skips_12 : decode cX12_skips 12 = .ok (.getfield 118, 3) := by decide +kernel
theorem dX12_skips_15 : decode cX12_skips 15 = .ok (.aload_n 0, 1) := by decide +kernel
theorem dX12_skips_16 : decode cX12_skips 16 = .ok (.getfield 321, 3) := by decide +kernel
theorem dX12_skips_19 : decode cX12_skips 19 = .ok (.iaload, 1) := by decide +kernel
theorem dX12_skips_20 : decode cX12_skips 20 = .ok (.iload_n 1, 1) := by decide +kernel
theorem dX12_skips_21 : decode cX12_skips 21 = .ok (.if_icmp .eq 5, 3) := by decide +kernel
theorem dX12_skips_24 : decode cX12_skips 24 = .ok (.iconst 0, 1) := by decide +kernel
theorem dX12_skips_25 : decode cX12_skips 25 = .ok (.ireturn, 1) := by decide +kernel
theorem dX12_skips_26 : decode cX12_skips 26 = .ok (.aload_n 0, 1) := by decide +kernel
theorem dX12_skips_27 : decode cX12_skips 27 = .ok (.dup, 1) := by decide +kernel
theorem dX12_skips_28 : decode cX12_skips 28 = .ok (.getfield 321, 3) := by decide +kernel
theorem dX12_skips_31 : decode cX12_skips 31 = .ok (.iconst 1, 1) := by decide +kernel
theorem dX12_skips_32 : decode cX12_skips 32 = .ok (.iadd, 1) := by decide +kernel
theorem dX12_skips_33 : decode cX12_skips 33 = .ok (.putfield 321, 3) := by decide +kernel
theorem dX12_skips_36 : decode cX12_skips 36 = .ok (.iconst 1, 1) := by decide +kernel
theorem dX12_skips_37 : decode cX12_skips 37 = .ok (.ireturn, 1) := by decide +kernel
theorem dX12_takes_0 : decode cX12_takes 0 = .ok (.aload_n 0, 1) := by decide +kernel
theorem dX12_takes_1 : decode cX12_takes 1 = .ok (.getfield 321, 3) := by decide +kernel
theorem dX12_takes_4 : decode cX12_takes 4 = .ok (.aload_n 0, 1) := by decide +kernel
theorem dX12_takes_5 : decode cX12_takes 5 = .ok (.getfield 318, 3) := by decide +kernel
theorem dX12_takes_8 : decode cX12_takes 8 = .ok (.if_icmp .eq 22, 3) := by decide +kernel
theorem dX12_takes_11 : decode cX12_takes 11 = .ok (.aload_n 0, 1) := by decide +kernel
theorem dX12_takes_12 : decode cX12_takes 12 = .ok (.getfield 118, 3) := by decide +kernel
theorem dX12_takes_15 : decode cX12_takes 15 = .ok (.aload_n 0, 1) := by decide +kernel
theorem dX12_takes_16 : decode cX12_takes 16 = .ok (.getfield 321, 3) := by decide +kernel
theorem dX12_takes_19 : decode cX12_takes 19 = .ok (.iaload, 1) := by decide +kernel
theorem dX12_takes_20 : decode cX12_takes 20 = .ok (.bipush 48, 2) := by decide +kernel
theorem dX12_takes_22 : decode cX12_takes 22 = .ok (.bipush 57, 2) := by decide +kernel
theorem dX12_takes_24 : decode cX12_takes 24 = .ok (.invokestatic 143, 3) := by decide +kernel
theorem dX12_takes_27 : decode cX12_takes 27 = .ok (.ifCond .ne 5, 3) := by decide +kernel
theorem dX12_takes_30 : decode cX12_takes 30 = .ok (.iconst 0, 1) := by decide +kernel
theorem dX12_takes_31 : decode cX12_takes 31 = .ok (.ireturn, 1) := by decide +kernel
theorem dX12_takes_32 : decode cX12_takes 32 = .ok (.aload_n 0, 1) := by decide +kernel
theorem dX12_takes_33 : decode cX12_takes 33 = .ok (.aload_n 0, 1) := by decide +kernel
theorem dX12_takes_34 : decode cX12_takes 34 = .ok (.getfield 118, 3) := by decide +kernel
theorem dX12_takes_37 : decode cX12_takes 37 = .ok (.aload_n 0, 1) := by decide +kernel
theorem dX12_takes_38 : decode cX12_takes 38 = .ok (.getfield 321, 3) := by decide +kernel
theorem dX12_takes_41 : decode cX12_takes 41 = .ok (.iaload, 1) := by decide +kernel
theorem dX12_takes_42 : decode cX12_takes 42 = .ok (.bipush 48, 2) := by decide +kernel
theorem dX12_takes_44 : decode cX12_takes 44 = .ok (.isub, 1) := by decide +kernel
theorem dX12_takes_45 : decode cX12_takes 45 = .ok (.putfield 324, 3) := by decide +kernel
theorem dX12_takes_48 : decode cX12_takes 48 = .ok (.aload_n 0, 1) := by decide +kernel
theorem dX12_takes_49 : decode cX12_takes 49 = .ok (.dup, 1) := by decide +kernel
theorem dX12_takes_50 : decode cX12_takes 50 = .ok (.getfield 321, 3) := by decide +kernel
theorem dX12_takes_53 : decode cX12_takes 53 = .ok (.iconst 1, 1) := by decide +kernel
theorem dX12_takes_54 : decode cX12_takes 54 = .ok (.iadd, 1) := by decide +kernel
theorem dX12_takes_55 : decode cX12_takes 55 = .ok (.putfield 321, 3) := by decide +kernel
theorem dX12_takes_58 : decode cX12_takes 58 = .ok (.iconst 1, 1) := by decide +kernel
theorem dX12_takes_59 : decode cX12_takes 59 = .ok (.ireturn, 1) := by decide +kernel
theorem dX12_takesAt_0 : decode cX12_takesAt 0 = .ok (.aload_n 0, 1) := by decide +kernel
theorem dX12_takesAt_1 : decode cX12_takesAt 1 = .ok (.invokevirtual 327, 3) := by decide +kernel
theorem dX12_takesAt_4 : decode cX12_takesAt 4 = .ok (.ifCond .ne 5, 3) := by decide +kernel
theorem dX12_takesAt_7 : decode cX12_takesAt 7 = .ok (.iconst 0, 1) := by decide +kernel
theorem dX12_takesAt_8 : decode cX12_takesAt 8 = .ok (.ireturn, 1) := by decide +kernel
theorem dX12_takesAt_9 : decode cX12_takesAt 9 = .ok (.aload_n 0, 1) := by decide +kernel
theorem dX12_takesAt_10 : decode cX12_takesAt 10 = .ok (.getfield 124, 3) := by decide +kernel
theorem dX12_takesAt_13 : decode cX12_takesAt 13 = .ok (.bipush 6, 2) := by decide +kernel
theorem dX12_takesAt_15 : decode cX12_takesAt 15 = .ok (.aload_n 0, 1) := by decide +kernel
theorem dX12_takesAt_16 : decode cX12_takesAt 16 = .ok (.getfield 330, 3) := by decide +kernel
theorem dX12_takesAt_19 : decode cX12_takesAt 19 = .ok (.imul, 1) := by decide +kernel
theorem dX12_takesAt_20 : decode cX12_takesAt 20 = .ok (.iload_n 1, 1) := by decide +kernel
theorem dX12_takesAt_21 : decode cX12_takesAt 21 = .ok (.iadd, 1) := by decide +kernel
theorem dX12_takesAt_22 : decode cX12_takesAt 22 = .ok (.aload_n 0, 1) := by decide +kernel
theorem dX12_takesAt_23 : decode cX12_takesAt 23 = .ok (.getfield 324, 3) := by decide +kernel
theorem dX12_takesAt_26 : decode cX12_takesAt 26 = .ok (.iastore, 1) := by decide +kernel
theorem dX12_takesAt_27 : decode cX12_takesAt 27 = .ok (.iconst 1, 1) := by decide +kernel
theorem dX12_takesAt_28 : decode cX12_takesAt 28 = .ok (.ireturn, 1) := by decide +kernel
theorem dX12_takesPath_0 : decode cX12_takesPath 0 = .ok (.iconst 0, 1) := by decide +kernel
theorem dX12_takesPath_1 : decode cX12_takesPath 1 = .ok (.istore_n 1, 1) := by decide +kernel
theorem dX12_takesPath_2 : decode cX12_takesPath 2 = .ok (.iconst 0, 1) := by decide +kernel
theorem dX12_takesPath_3 : decode cX12_takesPath 3 = .ok (.istore_n 2, 1) := by decide +kernel
theorem dX12_takesPath_4 : decode cX12_takesPath 4 = .ok (.aload_n 0, 1) := by decide +kernel
theorem dX12_takesPath_5 : decode cX12_takesPath 5 = .ok (.invokevirtual 327, 3) := by decide +kernel
theorem dX12_takesPath_8 : decode cX12_takesPath 8 = .ok (.ifCond .ne 5, 3) := by decide +kernel
theorem dX12_takesPath_11 : decode cX12_takesPath 11 = .ok (.iconst 0, 1) := by decide +kernel
theorem dX12_takesPath_12 : decode cX12_takesPath 12 = .ok (.ireturn, 1) := by decide +kernel
theorem dX12_takesPath_13 : decode cX12_takesPath 13 = .ok (.iload_n 1, 1) := by decide +kernel
theorem dX12_takesPath_14 : decode cX12_takesPath 14 = .ok (.ifCond .lt 12, 3) := by decide +kernel
theorem dX12_takesPath_17 : decode cX12_takesPath 17 = .ok (.aload_n 0, 1) := by decide +kernel
theorem dX12_takesPath_18 : decode cX12_takesPath 18 = .ok (.getfield 324, 3) := by decide +kernel
theorem dX12_takesPath_21 : decode cX12_takesPath 21 = .ok (.bipush 8, 2) := by decide +kernel
theorem dX12_takesPath_23 : decode cX12_takesPath 23 = .ok (.if_icmp .lt 7, 3) := by decide +kernel
theorem dX12_takesPath_26 : decode cX12_takesPath 26 = .ok (.iconst (-1), 1) := by decide +kernel
theorem dX12_takesPath_27 : decode cX12_takesPath 27 = .ok (.goto 14, 3) := by decide +kernel
theorem dX12_takesPath_30 : decode cX12_takesPath 30 = .ok (.bipush 10, 2) := by decide +kernel
theorem dX12_takesPath_32 : decode cX12_takesPath 32 = .ok (.iload_n 1, 1) := by decide +kernel
theorem dX12_takesPath_33 : decode cX12_takesPath 33 = .ok (.imul, 1) := by decide +kernel
theorem dX12_takesPath_34 : decode cX12_takesPath 34 = .ok (.aload_n 0, 1) := by decide +kernel
theorem dX12_takesPath_35 : decode cX12_takesPath 35 = .ok (.getfield 324, 3) := by decide +kernel
theorem dX12_takesPath_38 : decode cX12_takesPath 38 = .ok (.iadd, 1) := by decide +kernel
theorem dX12_takesPath_39 : decode cX12_takesPath 39 = .ok (.iconst 1, 1) := by decide +kernel
theorem dX12_takesPath_40 : decode cX12_takesPath 40 = .ok (.iadd, 1) := by decide +kernel
theorem dX12_takesPath_41 : decode cX12_takesPath 41 = .ok (.istore_n 1, 1) := by decide +kernel
theorem dX12_takesPath_42 : decode cX12_takesPath 42 = .ok (.iinc 2 1, 3) := by decide +kernel
theorem dX12_takesPath_45 : decode cX12_takesPath 45 = .ok (.iload_n 2, 1) := by decide +kernel
theorem dX12_takesPath_46 : decode cX12_takesPath 46 = .ok (.iconst 5, 1) := by decide +kernel
theorem dX12_takesPath_47 : decode cX12_takesPath 47 = .ok (.if_icmp .ge 12, 3) := by decide +kernel
theorem dX12_takesPath_50 : decode cX12_takesPath 50 = .ok (.aload_n 0, 1) := by decide +kernel
theorem dX12_takesPath_51 : decode cX12_takesPath 51 = .ok (.bipush 44, 2) := by decide +kernel
theorem dX12_takesPath_53 : decode cX12_takesPath 53 = .ok (.invokevirtual 333, 3) := by decide +kernel
theorem dX12_takesPath_56 : decode cX12_takesPath 56 = .ok (.ifCond .ne (-52), 3) := by decide +kernel
theorem dX12_takesPath_59 : decode cX12_takesPath 59 = .ok (.aload_n 0, 1) := by decide +kernel
theorem dX12_takesPath_60 : decode cX12_takesPath 60 = .ok (.getfield 124, 3) := by decide +kernel
theorem dX12_takesPath_63 : decode cX12_takesPath 63 = .ok (.bipush 6, 2) := by decide +kernel
theorem dX12_takesPath_65 : decode cX12_takesPath 65 = .ok (.aload_n 0, 1) := by decide +kernel
theorem dX12_takesPath_66 : decode cX12_takesPath 66 = .ok (.getfield 330, 3) := by decide +kernel
theorem dX12_takesPath_69 : decode cX12_takesPath 69 = .ok (.imul, 1) := by decide +kernel
theorem dX12_takesPath_70 : decode cX12_takesPath 70 = .ok (.iconst 1, 1) := by decide +kernel
theorem dX12_takesPath_71 : decode cX12_takesPath 71 = .ok (.iadd, 1) := by decide +kernel
theorem dX12_takesPath_72 : decode cX12_takesPath 72 = .ok (.iload_n 1, 1) := by decide +kernel
theorem dX12_takesPath_73 : decode cX12_takesPath 73 = .ok (.iastore, 1) := by decide +kernel
theorem dX12_takesPath_74 : decode cX12_takesPath 74 = .ok (.iconst 1, 1) := by decide +kernel
theorem dX12_takesPath_75 : decode cX12_takesPath 75 = .ok (.ireturn, 1) := by decide +kernel
theorem dX12_takesJob_0 : decode cX12_takesJob 0 = .ok (.aload_n 0, 1) := by decide +kernel
theorem dX12_takesJob_1 : decode cX12_takesJob 1 = .ok (.getfield 121, 3) := by decide +kernel
theorem dX12_takesJob_4 : decode cX12_takesJob 4 = .ok (.aload_n 0, 1) := by decide +kernel
theorem dX12_takesJob_5 : decode cX12_takesJob 5 = .ok (.getfield 330, 3) := by decide +kernel
theorem dX12_takesJob_8 : decode cX12_takesJob 8 = .ok (.iconst 0, 1) := by decide +kernel
theorem dX12_takesJob_9 : decode cX12_takesJob 9 = .ok (.iastore, 1) := by decide +kernel
theorem dX12_takesJob_10 : decode cX12_takesJob 10 = .ok (.aload_n 0, 1) := by decide +kernel
theorem dX12_takesJob_11 : decode cX12_takesJob 11 = .ok (.getfield 124, 3) := by decide +kernel
theorem dX12_takesJob_14 : decode cX12_takesJob 14 = .ok (.bipush 6, 2) := by decide +kernel
theorem dX12_takesJob_16 : decode cX12_takesJob 16 = .ok (.aload_n 0, 1) := by decide +kernel
theorem dX12_takesJob_17 : decode cX12_takesJob 17 = .ok (.getfield 330, 3) := by decide +kernel
theorem dX12_takesJob_20 : decode cX12_takesJob 20 = .ok (.imul, 1) := by decide +kernel
theorem dX12_takesJob_21 : decode cX12_takesJob 21 = .ok (.iconst 4, 1) := by decide +kernel
theorem dX12_takesJob_22 : decode cX12_takesJob 22 = .ok (.iadd, 1) := by decide +kernel
theorem dX12_takesJob_23 : decode cX12_takesJob 23 = .ok (.iconst (-1), 1) := by decide +kernel
theorem dX12_takesJob_24 : decode cX12_takesJob 24 = .ok (.iastore, 1) := by decide +kernel
theorem dX12_takesJob_25 : decode cX12_takesJob 25 = .ok (.aload_n 0, 1) := by decide +kernel
theorem dX12_takesJob_26 : decode cX12_takesJob 26 = .ok (.getfield 124, 3) := by decide +kernel
theorem dX12_takesJob_29 : decode cX12_takesJob 29 = .ok (.bipush 6, 2) := by decide +kernel
theorem dX12_takesJob_31 : decode cX12_takesJob 31 = .ok (.aload_n 0, 1) := by decide +kernel
theorem dX12_takesJob_32 : decode cX12_takesJob 32 = .ok (.getfield 330, 3) := by decide +kernel
theorem dX12_takesJob_35 : decode cX12_takesJob 35 = .ok (.imul, 1) := by decide +kernel
theorem dX12_takesJob_36 : decode cX12_takesJob 36 = .ok (.iconst 5, 1) := by decide +kernel
theorem dX12_takesJob_37 : decode cX12_takesJob 37 = .ok (.iadd, 1) := by decide +kernel
theorem dX12_takesJob_38 : decode cX12_takesJob 38 = .ok (.iconst (-1), 1) := by decide +kernel
theorem dX12_takesJob_39 : decode cX12_takesJob 39 = .ok (.iastore, 1) := by decide +kernel
theorem dX12_takesJob_40 : decode cX12_takesJob 40 = .ok (.aload_n 0, 1) := by decide +kernel
theorem dX12_takesJob_41 : decode cX12_takesJob 41 = .ok (.iconst 0, 1) := by decide +kernel
theorem dX12_takesJob_42 : decode cX12_takesJob 42 = .ok (.invokevirtual 336, 3) := by decide +kernel
theorem dX12_takesJob_45 : decode cX12_takesJob 45 = .ok (.ifCond .eq 53, 3) := by decide +kernel
theorem dX12_takesJob_48 : decode cX12_takesJob 48 = .ok (.aload_n 0, 1) := by decide +kernel
theorem dX12_takesJob_49 : decode cX12_takesJob 49 = .ok (.bipush 58, 2) := by decide +kernel
theorem dX12_takesJob_51 : decode cX12_takesJob 51 = .ok (.invokevirtual 333, 3) := by decide +kernel
theorem dX12_takesJob_54 : decode cX12_takesJob 54 = .ok (.ifCond .eq 44, 3) := by decide +kernel
theorem dX12_takesJob_57 : decode cX12_takesJob 57 = .ok (.aload_n 0, 1) := by decide +kernel
theorem dX12_takesJob_58 : decode cX12_takesJob 58 = .ok (.invokevirtual 339, 3) := by decide +kernel
theorem dX12_takesJob_61 : decode cX12_takesJob 61 = .ok (.ifCond .eq 37, 3) := by decide +kernel
theorem dX12_takesJob_64 : decode cX12_takesJob 64 = .ok (.aload_n 0, 1) := by decide +kernel
theorem dX12_takesJob_65 : decode cX12_takesJob 65 = .ok (.bipush 47, 2) := by decide +kernel
theorem dX12_takesJob_67 : decode cX12_takesJob 67 = .ok (.invokevirtual 333, 3) := by decide +kernel
theorem dX12_takesJob_70 : decode cX12_takesJob 70 = .ok (.ifCond .eq 28, 3) := by decide +kernel
theorem dX12_takesJob_73 : decode cX12_takesJob 73 = .ok (.aload_n 0, 1) := by decide +kernel
theorem dX12_takesJob_74 : decode cX12_takesJob 74 = .ok (.iconst 2, 1) := by decide +kernel
theorem dX12_takesJob_75 : decode cX12_takesJob 75 = .ok (.invokevirtual 336, 3) := by decide +kernel
theorem dX12_takesJob_78 : decode cX12_takesJob 78 = .ok (.ifCond .eq 20, 3) := by decide +kernel
theorem dX12_takesJob_81 : decode cX12_takesJob 81 = .ok (.aload_n 0, 1) := by decide +kernel
theorem dX12_takesJob_82 : decode cX12_takesJob 82 = .ok (.bipush 119, 2) := by decide +kernel
theorem dX12_takesJob_84 : decode cX12_takesJob 84 = .ok (.invokevirtual 333, 3) := by decide +kernel
theorem dX12_takesJob_87 : decode cX12_takesJob 87 = .ok (.ifCond .eq 11, 3) := by decide +kernel
theorem dX12_takesJob_90 : decode cX12_takesJob 90 = .ok (.aload_n 0, 1) := by decide +kernel
theorem dX12_takesJob_91 : decode cX12_takesJob 91 = .ok (.iconst 3, 1) := by decide +kernel
theorem dX12_takesJob_92 : decode cX12_takesJob 92 = .ok (.invokevirtual 336, 3) := by decide +kernel
theorem dX12_takesJob_95 : decode cX12_takesJob 95 = .ok (.ifCond .ne 5, 3) := by decide +kernel
theorem dX12_takesJob_98 : decode cX12_takesJob 98 = .ok (.iconst 0, 1) := by decide +kernel
theorem dX12_takesJob_99 : decode cX12_takesJob 99 = .ok (.ireturn, 1) := by decide +kernel
theorem dX12_takesJob_100 : decode cX12_takesJob 100 = .ok (.aload_n 0, 1) := by decide +kernel
theorem dX12_takesJob_101 : decode cX12_takesJob 101 = .ok (.bipush 60, 2) := by decide +kernel
theorem dX12_takesJob_103 : decode cX12_takesJob 103 = .ok (.invokevirtual 333, 3) := by decide +kernel
theorem dX12_takesJob_106 : decode cX12_takesJob 106 = .ok (.ifCond .eq 13, 3) := by decide +kernel
theorem dX12_takesJob_109 : decode cX12_takesJob 109 = .ok (.aload_n 0, 1) := by decide +kernel
theorem dX12_takesJob_110 : decode cX12_takesJob 110 = .ok (.iconst 4, 1) := by decide +kernel
theorem dX12_takesJob_111 : decode cX12_takesJob 111 = .ok (.invokevirtual 336, 3) := by decide +kernel
theorem dX12_takesJob_114 : decode cX12_takesJob 114 = .ok (.ifCond .ne 5, 3) := by decide +kernel
theorem dX12_takesJob_117 : decode cX12_takesJob 117 = .ok (.iconst 0, 1) := by decide +kernel
theorem dX12_takesJob_118 : decode cX12_takesJob 118 = .ok (.ireturn, 1) := by decide +kernel
theorem dX12_takesJob_119 : decode cX12_takesJob 119 = .ok (.aload_n 0, 1) := by decide +kernel
theorem dX12_takesJob_120 : decode cX12_takesJob 120 = .ok (.bipush 62, 2) := by decide +kernel
theorem dX12_takesJob_122 : decode cX12_takesJob 122 = .ok (.invokevirtual 333, 3) := by decide +kernel
theorem dX12_takesJob_125 : decode cX12_takesJob 125 = .ok (.ifCond .eq 11, 3) := by decide +kernel
theorem dX12_takesJob_128 : decode cX12_takesJob 128 = .ok (.aload_n 0, 1) := by decide +kernel
theorem dX12_takesJob_129 : decode cX12_takesJob 129 = .ok (.iconst 5, 1) := by decide +kernel
theorem dX12_takesJob_130 : decode cX12_takesJob 130 = .ok (.invokevirtual 336, 3) := by decide +kernel
theorem dX12_takesJob_133 : decode cX12_takesJob 133 = .ok (.ifCond .eq 7, 3) := by decide +kernel
theorem dX12_takesJob_136 : decode cX12_takesJob 136 = .ok (.iconst 1, 1) := by decide +kernel
theorem dX12_takesJob_137 : decode cX12_takesJob 137 = .ok (.goto 4, 3) := by decide +kernel
theorem dX12_takesJob_140 : decode cX12_takesJob 140 = .ok (.iconst 0, 1) := by decide +kernel
theorem dX12_takesJob_141 : decode cX12_takesJob 141 = .ok (.ireturn, 1) := by decide +kernel
theorem dX12_takesTicks_0 : decode cX12_takesTicks 0 = .ok (.aload_n 0, 1) := by decide +kernel
theorem dX12_takesTicks_1 : decode cX12_takesTicks 1 = .ok (.getfield 121, 3) := by decide +kernel
theorem dX12_takesTicks_4 : decode cX12_takesTicks 4 = .ok (.aload_n 0, 1) := by decide +kernel
theorem dX12_takesTicks_5 : decode cX12_takesTicks 5 = .ok (.getfield 330, 3) := by decide +kernel
theorem dX12_takesTicks_8 : decode cX12_takesTicks 8 = .ok (.iconst 1, 1) := by decide +kernel
theorem dX12_takesTicks_9 : decode cX12_takesTicks 9 = .ok (.iastore, 1) := by decide +kernel
theorem dX12_takesTicks_10 : decode cX12_takesTicks 10 = .ok (.aload_n 0, 1) := by decide +kernel
theorem dX12_takesTicks_11 : decode cX12_takesTicks 11 = .ok (.iconst 0, 1) := by decide +kernel
theorem dX12_takesTicks_12 : decode cX12_takesTicks 12 = .ok (.invokevirtual 336, 3) := by decide +kernel
theorem dX12_takesTicks_15 : decode cX12_takesTicks 15 = .ok (.ifCond .ne 5, 3) := by decide +kernel
theorem dX12_takesTicks_18 : decode cX12_takesTicks 18 = .ok (.iconst 0, 1) := by decide +kernel
theorem dX12_takesTicks_19 : decode cX12_takesTicks 19 = .ok (.ireturn, 1) := by decide +kernel
theorem dX12_takesTicks_20 : decode cX12_takesTicks 20 = .ok (.aload_n 0, 1) := by decide +kernel
theorem dX12_takesTicks_21 : decode cX12_takesTicks 21 = .ok (.invokevirtual 327, 3) := by decide +kernel
theorem dX12_takesTicks_24 : decode cX12_takesTicks 24 = .ok (.ifCond .eq 35, 3) := by decide +kernel
theorem dX12_takesTicks_27 : decode cX12_takesTicks 27 = .ok (.aload_n 0, 1) := by decide +kernel
theorem dX12_takesTicks_28 : decode cX12_takesTicks 28 = .ok (.getfield 124, 3) := by decide +kernel
theorem dX12_takesTicks_31 : decode cX12_takesTicks 31 = .ok (.bipush 6, 2) := by decide +kernel
theorem dX12_takesTicks_33 : decode cX12_takesTicks 33 = .ok (.aload_n 0, 1) := by decide +kernel
theorem dX12_takesTicks_34 : decode cX12_takesTicks 34 = .ok (.getfield 330, 3) := by decide +kernel
theorem dX12_takesTicks_37 : decode cX12_takesTicks 37 = .ok (.imul, 1) := by decide +kernel
theorem dX12_takesTicks_38 : decode cX12_takesTicks 38 = .ok (.bipush 10, 2) := by decide +kernel
theorem dX12_takesTicks_40 : decode cX12_takesTicks 40 = .ok (.aload_n 0, 1) := by decide +kernel
theorem dX12_takesTicks_41 : decode cX12_takesTicks 41 = .ok (.getfield 124, 3) := by decide +kernel
theorem dX12_takesTicks_44 : decode cX12_takesTicks 44 = .ok (.bipush 6, 2) := by decide +kernel
theorem dX12_takesTicks_46 : decode cX12_takesTicks 46 = .ok (.aload_n 0, 1) := by decide +kernel
theorem dX12_takesTicks_47 : decode cX12_takesTicks 47 = .ok (.getfield 330, 3) := by decide +kernel
theorem dX12_takesTicks_50 : decode cX12_takesTicks 50 = .ok (.imul, 1) := by decide +kernel
theorem dX12_takesTicks_51 : decode cX12_takesTicks 51 = .ok (.iaload, 1) := by decide +kernel
theorem dX12_takesTicks_52 : decode cX12_takesTicks 52 = .ok (.imul, 1) := by decide +kernel
theorem dX12_takesTicks_53 : decode cX12_takesTicks 53 = .ok (.aload_n 0, 1) := by decide +kernel
theorem dX12_takesTicks_54 : decode cX12_takesTicks 54 = .ok (.getfield 324, 3) := by decide +kernel
theorem dX12_takesTicks_57 : decode cX12_takesTicks 57 = .ok (.iadd, 1) := by decide +kernel
theorem dX12_takesTicks_58 : decode cX12_takesTicks 58 = .ok (.iastore, 1) := by decide +kernel
theorem dX12_takesTicks_59 : decode cX12_takesTicks 59 = .ok (.iconst 1, 1) := by decide +kernel
theorem dX12_takesTicks_60 : decode cX12_takesTicks 60 = .ok (.ireturn, 1) := by decide +kernel
theorem dX12_takesCommand_0 : decode cX12_takesCommand 0 = .ok (.aload_n 0, 1) := by decide +kernel
theorem dX12_takesCommand_1 : decode cX12_takesCommand 1 = .ok (.bipush 106, 2) := by decide +kernel
theorem dX12_takesCommand_3 : decode cX12_takesCommand 3 = .ok (.invokevirtual 333, 3) := by decide +kernel
theorem dX12_takesCommand_6 : decode cX12_takesCommand 6 = .ok (.ifCond .eq 8, 3) := by decide +kernel
theorem dX12_takesCommand_9 : decode cX12_takesCommand 9 = .ok (.aload_n 0, 1) := by decide +kernel
theorem dX12_takesCommand_10 : decode cX12_takesCommand 10 = .ok (.invokevirtual 342, 3) := by decide +kernel
theorem dX12_takesCommand_13 : decode cX12_takesCommand 13 = .ok (.ireturn, 1) := by decide +kernel
theorem dX12_takesCommand_14 : decode cX12_takesCommand 14 = .ok (.aload_n 0, 1) := by decide +kernel
theorem dX12_takesCommand_15 : decode cX12_takesCommand 15 = .ok (.bipush 116, 2) := by decide +kernel
theorem dX12_takesCommand_17 : decode cX12_takesCommand 17 = .ok (.invokevirtual 333, 3) := by decide +kernel
theorem dX12_takesCommand_20 : decode cX12_takesCommand 20 = .ok (.ifCond .eq 8, 3) := by decide +kernel
theorem dX12_takesCommand_23 : decode cX12_takesCommand 23 = .ok (.aload_n 0, 1) := by decide +kernel
theorem dX12_takesCommand_24 : decode cX12_takesCommand 24 = .ok (.invokevirtual 345, 3) := by decide +kernel
theorem dX12_takesCommand_27 : decode cX12_takesCommand 27 = .ok (.ireturn, 1) := by decide +kernel
theorem dX12_takesCommand_28 : decode cX12_takesCommand 28 = .ok (.aload_n 0, 1) := by decide +kernel
theorem dX12_takesCommand_29 : decode cX12_takesCommand 29 = .ok (.getfield 121, 3) := by decide +kernel
theorem dX12_takesCommand_32 : decode cX12_takesCommand 32 = .ok (.aload_n 0, 1) := by decide +kernel
theorem dX12_takesCommand_33 : decode cX12_takesCommand 33 = .ok (.getfield 330, 3) := by decide +kernel
theorem dX12_takesCommand_36 : decode cX12_takesCommand 36 = .ok (.iconst 2, 1) := by decide +kernel
theorem dX12_takesCommand_37 : decode cX12_takesCommand 37 = .ok (.iastore, 1) := by decide +kernel
theorem dX12_takesCommand_38 : decode cX12_takesCommand 38 = .ok (.aload_n 0, 1) := by decide +kernel
theorem dX12_takesCommand_39 : decode cX12_takesCommand 39 = .ok (.bipush 105, 2) := by decide +kernel
theorem dX12_takesCommand_41 : decode cX12_takesCommand 41 = .ok (.invokevirtual 333, 3) := by decide +kernel
theorem dX12_takesCommand_44 : decode cX12_takesCommand 44 = .ok (.ifCond .eq 23, 3) := by decide +kernel
theorem dX12_takesCommand_47 : decode cX12_takesCommand 47 = .ok (.aload_n 0, 1) := by decide +kernel
theorem dX12_takesCommand_48 : decode cX12_takesCommand 48 = .ok (.iconst 0, 1) := by decide +kernel
theorem dX12_takesCommand_49 : decode cX12_takesCommand 49 = .ok (.invokevirtual 336, 3) := by decide +kernel
theorem dX12_takesCommand_52 : decode cX12_takesCommand 52 = .ok (.ifCond .eq 15, 3) := by decide +kernel
theorem dX12_takesCommand_55 : decode cX12_takesCommand 55 = .ok (.aload_n 0, 1) := by decide +kernel
theorem dX12_takesCommand_56 : decode cX12_takesCommand 56 = .ok (.iconst 1, 1) := by decide +kernel
theorem dX12_takesCommand_57 : decode cX12_takesCommand 57 = .ok (.invokevirtual 336, 3) := by decide +kernel
theorem dX12_takesCommand_60 : decode cX12_takesCommand 60 = .ok (.ifCond .eq 7, 3) := by decide +kernel
theorem dX12_takesCommand_63 : decode cX12_takesCommand 63 = .ok (.iconst 1, 1) := by decide +kernel
theorem dX12_takesCommand_64 : decode cX12_takesCommand 64 = .ok (.goto 4, 3) := by decide +kernel
theorem dX12_takesCommand_67 : decode cX12_takesCommand 67 = .ok (.iconst 0, 1) := by decide +kernel
theorem dX12_takesCommand_68 : decode cX12_takesCommand 68 = .ok (.ireturn, 1) := by decide +kernel
theorem dX12_takesText_0 : decode cX12_takesText 0 = .ok (.aload_n 0, 1) := by decide +kernel
theorem dX12_takesText_1 : decode cX12_takesText 1 = .ok (.iconst 0, 1) := by decide +kernel
theorem dX12_takesText_2 : decode cX12_takesText 2 = .ok (.putfield 321, 3) := by decide +kernel
theorem dX12_takesText_5 : decode cX12_takesText 5 = .ok (.aload_n 0, 1) := by decide +kernel
theorem dX12_takesText_6 : decode cX12_takesText 6 = .ok (.iconst 0, 1) := by decide +kernel
theorem dX12_takesText_7 : decode cX12_takesText 7 = .ok (.putfield 330, 3) := by decide +kernel
theorem dX12_takesText_10 : decode cX12_takesText 10 = .ok (.aload_n 0, 1) := by decide +kernel
theorem dX12_takesText_11 : decode cX12_takesText 11 = .ok (.invokevirtual 348, 3) := by decide +kernel
theorem dX12_takesText_14 : decode cX12_takesText 14 = .ok (.ifCond .ne 5, 3) := by decide +kernel
theorem dX12_takesText_17 : decode cX12_takesText 17 = .ok (.iconst 0, 1) := by decide +kernel
theorem dX12_takesText_18 : decode cX12_takesText 18 = .ok (.ireturn, 1) := by decide +kernel
theorem dX12_takesText_19 : decode cX12_takesText 19 = .ok (.aload_n 0, 1) := by decide +kernel
theorem dX12_takesText_20 : decode cX12_takesText 20 = .ok (.dup, 1) := by decide +kernel
theorem dX12_takesText_21 : decode cX12_takesText 21 = .ok (.getfield 330, 3) := by decide +kernel
theorem dX12_takesText_24 : decode cX12_takesText 24 = .ok (.iconst 1, 1) := by decide +kernel
theorem dX12_takesText_25 : decode cX12_takesText 25 = .ok (.iadd, 1) := by decide +kernel
theorem dX12_takesText_26 : decode cX12_takesText 26 = .ok (.putfield 330, 3) := by decide +kernel
theorem dX12_takesText_29 : decode cX12_takesText 29 = .ok (.aload_n 0, 1) := by decide +kernel
theorem dX12_takesText_30 : decode cX12_takesText 30 = .ok (.bipush 59, 2) := by decide +kernel
theorem dX12_takesText_32 : decode cX12_takesText 32 = .ok (.invokevirtual 333, 3) := by decide +kernel
theorem dX12_takesText_35 : decode cX12_takesText 35 = .ok (.ifCond .ne (-25), 3) := by decide +kernel
theorem dX12_takesText_38 : decode cX12_takesText 38 = .ok (.aload_n 0, 1) := by decide +kernel
theorem dX12_takesText_39 : decode cX12_takesText 39 = .ok (.getfield 321, 3) := by decide +kernel
theorem dX12_takesText_42 : decode cX12_takesText 42 = .ok (.aload_n 0, 1) := by decide +kernel
theorem dX12_takesText_43 : decode cX12_takesText 43 = .ok (.getfield 318, 3) := by decide +kernel
theorem dX12_takesText_46 : decode cX12_takesText 46 = .ok (.if_icmp .ne 7, 3) := by decide +kernel
theorem dX12_takesText_49 : decode cX12_takesText 49 = .ok (.iconst 1, 1) := by decide +kernel
theorem dX12_takesText_50 : decode cX12_takesText 50 = .ok (.goto 4, 3) := by decide +kernel
theorem dX12_takesText_53 : decode cX12_takesText 53 = .ok (.iconst 0, 1) := by decide +kernel
theorem dX12_takesText_54 : decode cX12_takesText 54 = .ok (.ireturn, 1) := by decide +kernel
theorem dX12_does_0 : decode cX12_does 0 = .ok (.bipush 6, 2) := by decide +kernel
theorem dX12_does_2 : decode cX12_does 2 = .ok (.iload_n 1, 1) := by decide +kernel
theorem dX12_does_3 : decode cX12_does 3 = .ok (.imul, 1) := by decide +kernel
theorem dX12_does_4 : decode cX12_does 4 = .ok (.istore_n 2, 1) := by decide +kernel
theorem dX12_does_5 : decode cX12_does 5 = .ok (.aload_n 0, 1) := by decide +kernel
theorem dX12_does_6 : decode cX12_does 6 = .ok (.getfield 121, 3) := by decide +kernel
theorem dX12_does_9 : decode cX12_does 9 = .ok (.iload_n 1, 1) := by decide +kernel
theorem dX12_does_10 : decode cX12_does 10 = .ok (.iaload, 1) := by decide +kernel
theorem dX12_does_11 : decode cX12_does 11 = .ok (.ifCond .ne 111, 3) := by decide +kernel
theorem dX12_does_14 : decode cX12_does 14 = .ok (.aload_n 0, 1) := by decide +kernel
theorem dX12_does_15 : decode cX12_does 15 = .ok (.aload_n 0, 1) := by decide +kernel
theorem dX12_does_16 : decode cX12_does 16 = .ok (.getfield 124, 3) := by decide +kernel
theorem dX12_does_19 : decode cX12_does 19 = .ok (.iload_n 2, 1) := by decide +kernel
theorem dX12_does_20 : decode cX12_does 20 = .ok (.iaload, 1) := by decide +kernel
theorem dX12_does_21 : decode cX12_does 21 = .ok (.aload_n 0, 1) := by decide +kernel
theorem dX12_does_22 : decode cX12_does 22 = .ok (.getfield 124, 3) := by decide +kernel
theorem dX12_does_25 : decode cX12_does 25 = .ok (.iload_n 2, 1) := by decide +kernel
theorem dX12_does_26 : decode cX12_does 26 = .ok (.iconst 1, 1) := by decide +kernel
theorem dX12_does_27 : decode cX12_does 27 = .ok (.iadd, 1) := by decide +kernel
theorem dX12_does_28 : decode cX12_does 28 = .ok (.iaload, 1) := by decide +kernel
theorem dX12_does_29 : decode cX12_does 29 = .ok (.aload_n 0, 1) := by decide +kernel
theorem dX12_does_30 : decode cX12_does 30 = .ok (.getfield 124, 3) := by decide +kernel
theorem dX12_does_33 : decode cX12_does 33 = .ok (.iload_n 2, 1) := by decide +kernel
theorem dX12_does_34 : decode cX12_does 34 = .ok (.iconst 2, 1) := by decide +kernel
theorem dX12_does_35 : decode cX12_does 35 = .ok (.iadd, 1) := by decide +kernel
theorem dX12_does_36 : decode cX12_does 36 = .ok (.iaload, 1) := by decide +kernel
theorem dX12_does_37 : decode cX12_does 37 = .ok (.aload_n 0, 1) := by decide +kernel
theorem dX12_does_38 : decode cX12_does 38 = .ok (.getfield 124, 3) := by decide +kernel
theorem dX12_does_41 : decode cX12_does 41 = .ok (.iload_n 2, 1) := by decide +kernel
theorem dX12_does_42 : decode cX12_does 42 = .ok (.iconst 3, 1) := by decide +kernel
theorem dX12_does_43 : decode cX12_does 43 = .ok (.iadd, 1) := by decide +kernel
theorem dX12_does_44 : decode cX12_does 44 = .ok (.iaload, 1) := by decide +kernel
theorem dX12_does_45 : decode cX12_does 45 = .ok (.aload_n 0, 1) := by decide +kernel
theorem dX12_does_46 : decode cX12_does 46 = .ok (.getfield 124, 3) := by decide +kernel
theorem dX12_does_49 : decode cX12_does 49 = .ok (.iload_n 2, 1) := by decide +kernel
theorem dX12_does_50 : decode cX12_does 50 = .ok (.iconst 4, 1) := by decide +kernel
theorem dX12_does_51 : decode cX12_does 51 = .ok (.iadd, 1) := by decide +kernel
theorem dX12_does_52 : decode cX12_does 52 = .ok (.iaload, 1) := by decide +kernel
theorem dX12_does_53 : decode cX12_does 53 = .ok (.aload_n 0, 1) := by decide +kernel
theorem dX12_does_54 : decode cX12_does 54 = .ok (.getfield 124, 3) := by decide +kernel
theorem dX12_does_57 : decode cX12_does 57 = .ok (.iload_n 2, 1) := by decide +kernel
theorem dX12_does_58 : decode cX12_does 58 = .ok (.iconst 5, 1) := by decide +kernel
theorem dX12_does_59 : decode cX12_does 59 = .ok (.iadd, 1) := by decide +kernel
theorem dX12_does_60 : decode cX12_does 60 = .ok (.iaload, 1) := by decide +kernel
theorem dX12_does_61 : decode cX12_does 61 = .ok (.invokevirtual 283, 3) := by decide +kernel
theorem dX12_does_64 : decode cX12_does 64 = .ok (.ifCond .le 5, 3) := by decide +kernel
theorem dX12_does_67 : decode cX12_does 67 = .ok (.iconst 0, 1) := by decide +kernel
theorem dX12_does_68 : decode cX12_does 68 = .ok (.ireturn, 1) := by decide +kernel
theorem dX12_does_69 : decode cX12_does 69 = .ok (.aload_n 0, 1) := by decide +kernel
theorem dX12_does_70 : decode cX12_does 70 = .ok (.aload_n 0, 1) := by decide +kernel
theorem dX12_does_71 : decode cX12_does 71 = .ok (.getfield 124, 3) := by decide +kernel
theorem dX12_does_74 : decode cX12_does 74 = .ok (.iload_n 2, 1) := by decide +kernel
theorem dX12_does_75 : decode cX12_does 75 = .ok (.iaload, 1) := by decide +kernel
theorem dX12_does_76 : decode cX12_does 76 = .ok (.aload_n 0, 1) := by decide +kernel
theorem dX12_does_77 : decode cX12_does 77 = .ok (.getfield 124, 3) := by decide +kernel
theorem dX12_does_80 : decode cX12_does 80 = .ok (.iload_n 2, 1) := by decide +kernel
theorem dX12_does_81 : decode cX12_does 81 = .ok (.iconst 1, 1) := by decide +kernel
theorem dX12_does_82 : decode cX12_does 82 = .ok (.iadd, 1) := by decide +kernel
theorem dX12_does_83 : decode cX12_does 83 = .ok (.iaload, 1) := by decide +kernel
theorem dX12_does_84 : decode cX12_does 84 = .ok (.aload_n 0, 1) := by decide +kernel
theorem dX12_does_85 : decode cX12_does 85 = .ok (.getfield 124, 3) := by decide +kernel
theorem dX12_does_88 : decode cX12_does 88 = .ok (.iload_n 2, 1) := by decide +kernel
theorem dX12_does_89 : decode cX12_does 89 = .ok (.iconst 2, 1) := by decide +kernel
theorem dX12_does_90 : decode cX12_does 90 = .ok (.iadd, 1) := by decide +kernel
theorem dX12_does_91 : decode cX12_does 91 = .ok (.iaload, 1) := by decide +kernel
theorem dX12_does_92 : decode cX12_does 92 = .ok (.aload_n 0, 1) := by decide +kernel
theorem dX12_does_93 : decode cX12_does 93 = .ok (.getfield 124, 3) := by decide +kernel
theorem dX12_does_96 : decode cX12_does 96 = .ok (.iload_n 2, 1) := by decide +kernel
theorem dX12_does_97 : decode cX12_does 97 = .ok (.iconst 3, 1) := by decide +kernel
theorem dX12_does_98 : decode cX12_does 98 = .ok (.iadd, 1) := by decide +kernel
theorem dX12_does_99 : decode cX12_does 99 = .ok (.iaload, 1) := by decide +kernel
theorem dX12_does_100 : decode cX12_does 100 = .ok (.aload_n 0, 1) := by decide +kernel
theorem dX12_does_101 : decode cX12_does 101 = .ok (.getfield 124, 3) := by decide +kernel
theorem dX12_does_104 : decode cX12_does 104 = .ok (.iload_n 2, 1) := by decide +kernel
theorem dX12_does_105 : decode cX12_does 105 = .ok (.iconst 4, 1) := by decide +kernel
theorem dX12_does_106 : decode cX12_does 106 = .ok (.iadd, 1) := by decide +kernel
theorem dX12_does_107 : decode cX12_does 107 = .ok (.iaload, 1) := by decide +kernel
theorem dX12_does_108 : decode cX12_does 108 = .ok (.aload_n 0, 1) := by decide +kernel
theorem dX12_does_109 : decode cX12_does 109 = .ok (.getfield 124, 3) := by decide +kernel
theorem dX12_does_112 : decode cX12_does 112 = .ok (.iload_n 2, 1) := by decide +kernel
theorem dX12_does_113 : decode cX12_does 113 = .ok (.iconst 5, 1) := by decide +kernel
theorem dX12_does_114 : decode cX12_does 114 = .ok (.iadd, 1) := by decide +kernel
theorem dX12_does_115 : decode cX12_does 115 = .ok (.iaload, 1) := by decide +kernel
theorem dX12_does_116 : decode cX12_does 116 = .ok (.invokevirtual 287, 3) := by decide +kernel
theorem dX12_does_119 : decode cX12_does 119 = .ok (.goto 155, 3) := by decide +kernel
theorem dX12_does_122 : decode cX12_does 122 = .ok (.aload_n 0, 1) := by decide +kernel
theorem dX12_does_123 : decode cX12_does 123 = .ok (.getfield 121, 3) := by decide +kernel
theorem dX12_does_126 : decode cX12_does 126 = .ok (.iload_n 1, 1) := by decide +kernel
theorem dX12_does_127 : decode cX12_does 127 = .ok (.iaload, 1) := by decide +kernel
theorem dX12_does_128 : decode cX12_does 128 = .ok (.iconst 1, 1) := by decide +kernel
theorem dX12_does_129 : decode cX12_does 129 = .ok (.if_icmp .ne 45, 3) := by decide +kernel
theorem dX12_does_132 : decode cX12_does 132 = .ok (.aload_n 0, 1) := by decide +kernel
theorem dX12_does_133 : decode cX12_does 133 = .ok (.getfield 124, 3) := by decide +kernel
theorem dX12_does_136 : decode cX12_does 136 = .ok (.iload_n 2, 1) := by decide +kernel
theorem dX12_does_137 : decode cX12_does 137 = .ok (.iaload, 1) := by decide +kernel
theorem dX12_does_138 : decode cX12_does 138 = .ok (.iconst 1, 1) := by decide +kernel
theorem dX12_does_139 : decode cX12_does 139 = .ok (.bipush 50, 2) := by decide +kernel
theorem dX12_does_141 : decode cX12_does 141 = .ok (.invokestatic 143, 3) := by decide +kernel
theorem dX12_does_144 : decode cX12_does 144 = .ok (.ifCond .ne 5, 3) := by decide +kernel
theorem dX12_does_147 : decode cX12_does 147 = .ok (.iconst 0, 1) := by decide +kernel
theorem dX12_does_148 : decode cX12_does 148 = .ok (.ireturn, 1) := by decide +kernel
theorem dX12_does_149 : decode cX12_does 149 = .ok (.iconst 0, 1) := by decide +kernel
theorem dX12_does_150 : decode cX12_does 150 = .ok (.istore_n 3, 1) := by decide +kernel
theorem dX12_does_151 : decode cX12_does 151 = .ok (.iload_n 3, 1) := by decide +kernel
theorem dX12_does_152 : decode cX12_does 152 = .ok (.aload_n 0, 1) := by decide +kernel
theorem dX12_does_153 : decode cX12_does 153 = .ok (.getfield 124, 3) := by decide +kernel
theorem dX12_does_156 : decode cX12_does 156 = .ok (.iload_n 2, 1) := by decide +kernel
theorem dX12_does_157 : decode cX12_does 157 = .ok (.iaload, 1) := by decide +kernel
theorem dX12_does_158 : decode cX12_does 158 = .ok (.if_icmp .ge 13, 3) := by decide +kernel
theorem dX12_does_161 : decode cX12_does 161 = .ok (.aload_n 0, 1) := by decide +kernel
theorem dX12_does_162 : decode cX12_does 162 = .ok (.invokevirtual 297, 3) := by decide +kernel
theorem dX12_does_165 : decode cX12_does 165 = .ok (.iinc 3 1, 3) := by decide +kernel
theorem dX12_does_168 : decode cX12_does 168 = .ok (.goto (-17), 3) := by decide +kernel
theorem dX12_does_171 : decode cX12_does 171 = .ok (.goto 103, 3) := by decide +kernel
theorem dX12_does_174 : decode cX12_does 174 = .ok (.aload_n 0, 1) := by decide +kernel
theorem dX12_does_175 : decode cX12_does 175 = .ok (.getfield 124, 3) := by decide +kernel
theorem dX12_does_178 : decode cX12_does 178 = .ok (.iload_n 2, 1) := by decide +kernel
theorem dX12_does_179 : decode cX12_does 179 = .ok (.iaload, 1) := by decide +kernel
theorem dX12_does_180 : decode cX12_does 180 = .ok (.invokestatic 248, 3) := by decide +kernel
theorem dX12_does_183 : decode cX12_does 183 = .ok (.ifCond .eq 42, 3) := by decide +kernel
theorem dX12_does_186 : decode cX12_does 186 = .ok (.aload_n 0, 1) := by decide +kernel
theorem dX12_does_187 : decode cX12_does 187 = .ok (.getfield 124, 3) := by decide +kernel
theorem dX12_does_190 : decode cX12_does 190 = .ok (.iload_n 2, 1) := by decide +kernel
theorem dX12_does_191 : decode cX12_does 191 = .ok (.iconst 1, 1) := by decide +kernel
theorem dX12_does_192 : decode cX12_does 192 = .ok (.iadd, 1) := by decide +kernel
theorem dX12_does_193 : decode cX12_does 193 = .ok (.iaload, 1) := by decide +kernel
theorem dX12_does_194 : decode cX12_does 194 = .ok (.invokestatic 248, 3) := by decide +kernel
theorem dX12_does_197 : decode cX12_does 197 = .ok (.ifCond .eq 28, 3) := by decide +kernel
theorem dX12_does_200 : decode cX12_does 200 = .ok (.aload_n 0, 1) := by decide +kernel
theorem dX12_does_201 : decode cX12_does 201 = .ok (.getfield 7, 3) := by decide +kernel
theorem dX12_does_204 : decode cX12_does 204 = .ok (.aload_n 0, 1) := by decide +kernel
theorem dX12_does_205 : decode cX12_does 205 = .ok (.getfield 124, 3) := by decide +kernel
theorem dX12_does_208 : decode cX12_does 208 = .ok (.iload_n 2, 1) := by decide +kernel
theorem dX12_does_209 : decode cX12_does 209 = .ok (.iaload, 1) := by decide +kernel
theorem dX12_does_210 : decode cX12_does 210 = .ok (.iaload, 1) := by decide +kernel
theorem dX12_does_211 : decode cX12_does 211 = .ok (.aload_n 0, 1) := by decide +kernel
theorem dX12_does_212 : decode cX12_does 212 = .ok (.getfield 124, 3) := by decide +kernel
theorem dX12_does_215 : decode cX12_does 215 = .ok (.iload_n 2, 1) := by decide +kernel
theorem dX12_does_216 : decode cX12_does 216 = .ok (.iconst 1, 1) := by decide +kernel
theorem dX12_does_217 : decode cX12_does 217 = .ok (.iadd, 1) := by decide +kernel
theorem dX12_does_218 : decode cX12_does 218 = .ok (.iaload, 1) := by decide +kernel
theorem dX12_does_219 : decode cX12_does 219 = .ok (.invokestatic 245, 3) := by decide +kernel
theorem dX12_does_222 : decode cX12_does 222 = .ok (.ifCond .ne 7, 3) := by decide +kernel
theorem dX12_does_225 : decode cX12_does 225 = .ok (.iconst 1, 1) := by decide +kernel
theorem dX12_does_226 : decode cX12_does 226 = .ok (.goto 4, 3) := by decide +kernel
theorem dX12_does_229 : decode cX12_does 229 = .ok (.iconst 0, 1) := by decide +kernel
theorem dX12_does_230 : decode cX12_does 230 = .ok (.istore_n 3, 1) := by decide +kernel
theorem dX12_does_231 : decode cX12_does 231 = .ok (.aload_n 0, 1) := by decide +kernel
theorem dX12_does_232 : decode cX12_does 232 = .ok (.aload_n 0, 1) := by decide +kernel
theorem dX12_does_233 : decode cX12_does 233 = .ok (.getfield 124, 3) := by decide +kernel
theorem dX12_does_236 : decode cX12_does 236 = .ok (.iload_n 2, 1) := by decide +kernel
theorem dX12_does_237 : decode cX12_does 237 = .ok (.iaload, 1) := by decide +kernel
theorem dX12_does_238 : decode cX12_does 238 = .ok (.aload_n 0, 1) := by decide +kernel
theorem dX12_does_239 : decode cX12_does 239 = .ok (.getfield 124, 3) := by decide +kernel
theorem dX12_does_242 : decode cX12_does 242 = .ok (.iload_n 2, 1) := by decide +kernel
theorem dX12_does_243 : decode cX12_does 243 = .ok (.iconst 1, 1) := by decide +kernel
theorem dX12_does_244 : decode cX12_does 244 = .ok (.iadd, 1) := by decide +kernel
theorem dX12_does_245 : decode cX12_does 245 = .ok (.iaload, 1) := by decide +kernel
theorem dX12_does_246 : decode cX12_does 246 = .ok (.iload_n 3, 1) := by decide +kernel
theorem dX12_does_247 : decode cX12_does 247 = .ok (.invokevirtual 254, 3) := by decide +kernel
theorem dX12_does_250 : decode cX12_does 250 = .ok (.ifCond .le 5, 3) := by decide +kernel
theorem dX12_does_253 : decode cX12_does 253 = .ok (.iconst 0, 1) := by decide +kernel
theorem dX12_does_254 : decode cX12_does 254 = .ok (.ireturn, 1) := by decide +kernel
theorem dX12_does_255 : decode cX12_does 255 = .ok (.aload_n 0, 1) := by decide +kernel
theorem dX12_does_256 : decode cX12_does 256 = .ok (.aload_n 0, 1) := by decide +kernel
theorem dX12_does_257 : decode cX12_does 257 = .ok (.getfield 124, 3) := by decide +kernel
theorem dX12_does_260 : decode cX12_does 260 = .ok (.iload_n 2, 1) := by decide +kernel
theorem dX12_does_261 : decode cX12_does 261 = .ok (.iaload, 1) := by decide +kernel
theorem dX12_does_262 : decode cX12_does 262 = .ok (.aload_n 0, 1) := by decide +kernel
theorem dX12_does_263 : decode cX12_does 263 = .ok (.getfield 124, 3) := by decide +kernel
theorem dX12_does_266 : decode cX12_does 266 = .ok (.iload_n 2, 1) := by decide +kernel
theorem dX12_does_267 : decode cX12_does 267 = .ok (.iconst 1, 1) := by decide +kernel
theorem dX12_does_268 : decode cX12_does 268 = .ok (.iadd, 1) := by decide +kernel
theorem dX12_does_269 : decode cX12_does 269 = .ok (.iaload, 1) := by decide +kernel
theorem dX12_does_270 : decode cX12_does 270 = .ok (.iload_n 3, 1) := by decide +kernel
theorem dX12_does_271 : decode cX12_does 271 = .ok (.invokevirtual 261, 3) := by decide +kernel
theorem dX12_does_274 : decode cX12_does 274 = .ok (.iconst 1, 1) := by decide +kernel
theorem dX12_does_275 : decode cX12_does 275 = .ok (.ireturn, 1) := by decide +kernel
theorem dX12_perform_0 : decode cX12_perform 0 = .ok (.aload_n 0, 1) := by decide +kernel
theorem dX12_perform_1 : decode cX12_perform 1 = .ok (.invokevirtual 351, 3) := by decide +kernel
theorem dX12_perform_4 : decode cX12_perform 4 = .ok (.istore_n 1, 1) := by decide +kernel
theorem dX12_perform_5 : decode cX12_perform 5 = .ok (.aload_n 0, 1) := by decide +kernel
theorem dX12_perform_6 : decode cX12_perform 6 = .ok (.iconst 0, 1) := by decide +kernel
theorem dX12_perform_7 : decode cX12_perform 7 = .ok (.putfield 318, 3) := by decide +kernel
theorem dX12_perform_10 : decode cX12_perform 10 = .ok (.aload_n 0, 1) := by decide +kernel
theorem dX12_perform_11 : decode cX12_perform 11 = .ok (.iconst 0, 1) := by decide +kernel
theorem dX12_perform_12 : decode cX12_perform 12 = .ok (.putfield 139, 3) := by decide +kernel
theorem dX12_perform_15 : decode cX12_perform 15 = .ok (.iload_n 1, 1) := by decide +kernel
theorem dX12_perform_16 : decode cX12_perform 16 = .ok (.ifCond .ne 11, 3) := by decide +kernel
theorem dX12_perform_19 : decode cX12_perform 19 = .ok (.bipush (-100), 2) := by decide +kernel
theorem dX12_perform_21 : decode cX12_perform 21 = .ok (.aload_n 0, 1) := by decide +kernel
theorem dX12_perform_22 : decode cX12_perform 22 = .ok (.getfield 321, 3) := by decide +kernel
theorem dX12_perform_25 : decode cX12_perform 25 = .ok (.isub, 1) := by decide +kernel
theorem dX12_perform_26 : decode cX12_perform 26 = .ok (.ireturn, 1) := by decide +kernel
theorem dX12_perform_27 : decode cX12_perform 27 = .ok (.aload_n 0, 1) := by decide +kernel
theorem dX12_perform_28 : decode cX12_perform 28 = .ok (.aload_n 0, 1) := by decide +kernel
theorem dX12_perform_29 : decode cX12_perform 29 = .ok (.getfield 136, 3) := by decide +kernel
theorem dX12_perform_32 : decode cX12_perform 32 = .ok (.iconst 0, 1) := by decide +kernel
theorem dX12_perform_33 : decode cX12_perform 33 = .ok (.iconst 1, 1) := by decide +kernel
theorem dX12_perform_34 : decode cX12_perform 34 = .ok (.invokevirtual 300, 3) := by decide +kernel
theorem dX12_perform_37 : decode cX12_perform 37 = .ok (.iconst 0, 1) := by decide +kernel
theorem dX12_perform_38 : decode cX12_perform 38 = .ok (.istore_n 2, 1) := by decide +kernel
theorem dX12_perform_39 : decode cX12_perform 39 = .ok (.iload_n 2, 1) := by decide +kernel
theorem dX12_perform_40 : decode cX12_perform 40 = .ok (.aload_n 0, 1) := by decide +kernel
theorem dX12_perform_41 : decode cX12_perform 41 = .ok (.getfield 330, 3) := by decide +kernel
theorem dX12_perform_44 : decode cX12_perform 44 = .ok (.if_icmp .ge 36, 3) := by decide +kernel
theorem dX12_perform_47 : decode cX12_perform 47 = .ok (.aload_n 0, 1) := by decide +kernel
theorem dX12_perform_48 : decode cX12_perform 48 = .ok (.iload_n 2, 1) := by decide +kernel
theorem dX12_perform_49 : decode cX12_perform 49 = .ok (.invokevirtual 354, 3) := by decide +kernel
theorem dX12_perform_52 : decode cX12_perform 52 = .ok (.ifCond .eq 6, 3) := by decide +kernel
theorem dX12_perform_55 : decode cX12_perform 55 = .ok (.goto 19, 3) := by decide +kernel
theorem dX12_perform_58 : decode cX12_perform 58 = .ok (.aload_n 0, 1) := by decide +kernel
theorem dX12_perform_59 : decode cX12_perform 59 = .ok (.aload_n 0, 1) := by decide +kernel
theorem dX12_perform_60 : decode cX12_perform 60 = .ok (.getfield 136, 3) := by decide +kernel
theorem dX12_perform_63 : decode cX12_perform 63 = .ok (.iconst 0, 1) := by decide +kernel
theorem dX12_perform_64 : decode cX12_perform 64 = .ok (.iconst 0, 1) := by decide +kernel
theorem dX12_perform_65 : decode cX12_perform 65 = .ok (.invokevirtual 300, 3) := by decide +kernel
theorem dX12_perform_68 : decode cX12_perform 68 = .ok (.aload_n 0, 1) := by decide +kernel
theorem dX12_perform_69 : decode cX12_perform 69 = .ok (.iconst 1, 1) := by decide +kernel
theorem dX12_perform_70 : decode cX12_perform 70 = .ok (.invokevirtual 268, 3) := by decide +kernel
theorem dX12_perform_73 : decode cX12_perform 73 = .ok (.ireturn, 1) := by decide +kernel
theorem dX12_perform_74 : decode cX12_perform 74 = .ok (.iinc 2 1, 3) := by decide +kernel
theorem dX12_perform_77 : decode cX12_perform 77 = .ok (.goto (-38), 3) := by decide +kernel
theorem dX12_perform_80 : decode cX12_perform 80 = .ok (.aload_n 0, 1) := by decide +kernel
theorem dX12_perform_81 : decode cX12_perform 81 = .ok (.aload_n 0, 1) := by decide +kernel
theorem dX12_perform_82 : decode cX12_perform 82 = .ok (.getfield 133, 3) := by decide +kernel
theorem dX12_perform_85 : decode cX12_perform 85 = .ok (.iconst 0, 1) := by decide +kernel
theorem dX12_perform_86 : decode cX12_perform 86 = .ok (.iconst 1, 1) := by decide +kernel
theorem dX12_perform_87 : decode cX12_perform 87 = .ok (.invokevirtual 300, 3) := by decide +kernel
theorem dX12_perform_90 : decode cX12_perform 90 = .ok (.aload_n 0, 1) := by decide +kernel
theorem dX12_perform_91 : decode cX12_perform 91 = .ok (.aload_n 0, 1) := by decide +kernel
theorem dX12_perform_92 : decode cX12_perform 92 = .ok (.getfield 136, 3) := by decide +kernel
theorem dX12_perform_95 : decode cX12_perform 95 = .ok (.iconst 0, 1) := by decide +kernel
theorem dX12_perform_96 : decode cX12_perform 96 = .ok (.iconst 0, 1) := by decide +kernel
theorem dX12_perform_97 : decode cX12_perform 97 = .ok (.invokevirtual 300, 3) := by decide +kernel
theorem dX12_perform_100 : decode cX12_perform 100 = .ok (.aload_n 0, 1) := by decide +kernel
theorem dX12_perform_101 : decode cX12_perform 101 = .ok (.invokevirtual 258, 3) := by decide +kernel
theorem dX12_perform_104 : decode cX12_perform 104 = .ok (.aload_n 0, 1) := by decide +kernel
theorem dX12_perform_105 : decode cX12_perform 105 = .ok (.aload_n 0, 1) := by decide +kernel
theorem dX12_perform_106 : decode cX12_perform 106 = .ok (.getfield 133, 3) := by decide +kernel
theorem dX12_perform_109 : decode cX12_perform 109 = .ok (.iconst 0, 1) := by decide +kernel
theorem dX12_perform_110 : decode cX12_perform 110 = .ok (.iconst 0, 1) := by decide +kernel
theorem dX12_perform_111 : decode cX12_perform 111 = .ok (.invokevirtual 300, 3) := by decide +kernel
theorem dX12_perform_114 : decode cX12_perform 114 = .ok (.aload_n 0, 1) := by decide +kernel
theorem dX12_perform_115 : decode cX12_perform 115 = .ok (.getfield 330, 3) := by decide +kernel
theorem dX12_perform_118 : decode cX12_perform 118 = .ok (.ireturn, 1) := by decide +kernel
theorem dX12_passes_0 : decode cX12_passes 0 = .ok (.iconst 0, 1) := by decide +kernel
theorem dX12_passes_1 : decode cX12_passes 1 = .ok (.istore_n 3, 1) := by decide +kernel
theorem dX12_passes_2 : decode cX12_passes 2 = .ok (.iload_n 3, 1) := by decide +kernel
theorem dX12_passes_3 : decode cX12_passes 3 = .ok (.aload_n 1, 1) := by decide +kernel
theorem dX12_passes_4 : decode cX12_passes 4 = .ok (.arraylength, 1) := by decide +kernel
theorem dX12_passes_5 : decode cX12_passes 5 = .ok (.if_icmp .ge 47, 3) := by decide +kernel
theorem dX12_passes_8 : decode cX12_passes 8 = .ok (.aload_n 0, 1) := by decide +kernel
theorem dX12_passes_9 : decode cX12_passes 9 = .ok (.getfield 357, 3) := by decide +kernel
theorem dX12_passes_12 : decode cX12_passes 12 = .ok (.ifCond .eq 15, 3) := by decide +kernel
theorem dX12_passes_15 : decode cX12_passes 15 = .ok (.aload_n 2, 1) := by decide +kernel
theorem dX12_passes_16 : decode cX12_passes 16 = .ok (.aload_n 0, 1) := by decide +kernel
theorem dX12_passes_17 : decode cX12_passes 17 = .ok (.getfield 360, 3) := by decide +kernel
theorem dX12_passes_20 : decode cX12_passes 20 = .ok (.aload_n 1, 1) := by decide +kernel
theorem dX12_passes_21 : decode cX12_passes 21 = .ok (.iload_n 3, 1) := by decide +kernel
theorem dX12_passes_22 : decode cX12_passes 22 = .ok (.iaload, 1) := by decide +kernel
theorem dX12_passes_23 : decode cX12_passes 23 = .ok (.iastore, 1) := by decide +kernel
theorem dX12_passes_24 : decode cX12_passes 24 = .ok (.goto 12, 3) := by decide +kernel
theorem dX12_passes_27 : decode cX12_passes 27 = .ok (.aload_n 1, 1) := by decide +kernel
theorem dX12_passes_28 : decode cX12_passes 28 = .ok (.iload_n 3, 1) := by decide +kernel
theorem dX12_passes_29 : decode cX12_passes 29 = .ok (.aload_n 2, 1) := by decide +kernel
theorem dX12_passes_30 : decode cX12_passes 30 = .ok (.aload_n 0, 1) := by decide +kernel
theorem dX12_passes_31 : decode cX12_passes 31 = .ok (.getfield 360, 3) := by decide +kernel
theorem dX12_passes_34 : decode cX12_passes 34 = .ok (.iaload, 1) := by decide +kernel
theorem dX12_passes_35 : decode cX12_passes 35 = .ok (.iastore, 1) := by decide +kernel
theorem dX12_passes_36 : decode cX12_passes 36 = .ok (.aload_n 0, 1) := by decide +kernel
theorem dX12_passes_37 : decode cX12_passes 37 = .ok (.dup, 1) := by decide +kernel
theorem dX12_passes_38 : decode cX12_passes 38 = .ok (.getfield 360, 3) := by decide +kernel
theorem dX12_passes_41 : decode cX12_passes 41 = .ok (.iconst 1, 1) := by decide +kernel
theorem dX12_passes_42 : decode cX12_passes 42 = .ok (.iadd, 1) := by decide +kernel
theorem dX12_passes_43 : decode cX12_passes 43 = .ok (.putfield 360, 3) := by decide +kernel
theorem dX12_passes_46 : decode cX12_passes 46 = .ok (.iinc 3 1, 3) := by decide +kernel
theorem dX12_passes_49 : decode cX12_passes 49 = .ok (.goto (-47), 3) := by decide +kernel
theorem dX12_passes_52 : decode cX12_passes 52 = .ok (.return_, 1) := by decide +kernel
theorem dX12_pass_0 : decode cX12_pass 0 = .ok (.aload_n 0, 1) := by decide +kernel
theorem dX12_pass_1 : decode cX12_pass 1 = .ok (.getfield 357, 3) := by decide +kernel
theorem dX12_pass_4 : decode cX12_pass 4 = .ok (.ifCond .eq 7, 3) := by decide +kernel
theorem dX12_pass_7 : decode cX12_pass 7 = .ok (.iload_n 1, 1) := by decide +kernel
theorem dX12_pass_8 : decode cX12_pass 8 = .ok (.goto 9, 3) := by decide +kernel
theorem dX12_pass_11 : decode cX12_pass 11 = .ok (.aload_n 2, 1) := by decide +kernel
theorem dX12_pass_12 : decode cX12_pass 12 = .ok (.aload_n 0, 1) := by decide +kernel
theorem dX12_pass_13 : decode cX12_pass 13 = .ok (.getfield 360, 3) := by decide +kernel
theorem dX12_pass_16 : decode cX12_pass 16 = .ok (.iaload, 1) := by decide +kernel
theorem dX12_pass_17 : decode cX12_pass 17 = .ok (.istore_n 3, 1) := by decide +kernel
theorem dX12_pass_18 : decode cX12_pass 18 = .ok (.aload_n 2, 1) := by decide +kernel
theorem dX12_pass_19 : decode cX12_pass 19 = .ok (.aload_n 0, 1) := by decide +kernel
theorem dX12_pass_20 : decode cX12_pass 20 = .ok (.getfield 360, 3) := by decide +kernel
theorem dX12_pass_23 : decode cX12_pass 23 = .ok (.iload_n 3, 1) := by decide +kernel
theorem dX12_pass_24 : decode cX12_pass 24 = .ok (.iastore, 1) := by decide +kernel
theorem dX12_pass_25 : decode cX12_pass 25 = .ok (.aload_n 0, 1) := by decide +kernel
theorem dX12_pass_26 : decode cX12_pass 26 = .ok (.dup, 1) := by decide +kernel
theorem dX12_pass_27 : decode cX12_pass 27 = .ok (.getfield 360, 3) := by decide +kernel
theorem dX12_pass_30 : decode cX12_pass 30 = .ok (.iconst 1, 1) := by decide +kernel
theorem dX12_pass_31 : decode cX12_pass 31 = .ok (.iadd, 1) := by decide +kernel
theorem dX12_pass_32 : decode cX12_pass 32 = .ok (.putfield 360, 3) := by decide +kernel
theorem dX12_pass_35 : decode cX12_pass 35 = .ok (.iload_n 3, 1) := by decide +kernel
theorem dX12_pass_36 : decode cX12_pass 36 = .ok (.ireturn, 1) := by decide +kernel
theorem dX12_passArms_0 : decode cX12_passArms 0 = .ok (.aload_n 0, 1) := by decide +kernel
theorem dX12_passArms_1 : decode cX12_passArms 1 = .ok (.aload_n 0, 1) := by decide +kernel
theorem dX12_passArms_2 : decode cX12_passArms 2 = .ok (.getfield 37, 3) := by decide +kernel
theorem dX12_passArms_5 : decode cX12_passArms 5 = .ok (.aload_n 1, 1) := by decide +kernel
theorem dX12_passArms_6 : decode cX12_passArms 6 = .ok (.invokevirtual 363, 3) := by decide +kernel
theorem dX12_passArms_9 : decode cX12_passArms 9 = .ok (.aload_n 0, 1) := by decide +kernel
theorem dX12_passArms_10 : decode cX12_passArms 10 = .ok (.aload_n 0, 1) := by decide +kernel
theorem dX12_passArms_11 : decode cX12_passArms 11 = .ok (.getfield 40, 3) := by decide +kernel
theorem dX12_passArms_14 : decode cX12_passArms 14 = .ok (.aload_n 1, 1) := by decide +kernel
theorem dX12_passArms_15 : decode cX12_passArms 15 = .ok (.invokevirtual 363, 3) := by decide +kernel
theorem dX12_passArms_18 : decode cX12_passArms 18 = .ok (.aload_n 0, 1) := by decide +kernel
theorem dX12_passArms_19 : decode cX12_passArms 19 = .ok (.aload_n 0, 1) := by decide +kernel
theorem dX12_passArms_20 : decode cX12_passArms 20 = .ok (.getfield 43, 3) := by decide +kernel
theorem dX12_passArms_23 : decode cX12_passArms 23 = .ok (.aload_n 1, 1) := by decide +kernel
theorem dX12_passArms_24 : decode cX12_passArms 24 = .ok (.invokevirtual 363, 3) := by decide +kernel
theorem dX12_passArms_27 : decode cX12_passArms 27 = .ok (.aload_n 0, 1) := by decide +kernel
theorem dX12_passArms_28 : decode cX12_passArms 28 = .ok (.aload_n 0, 1) := by decide +kernel
theorem dX12_passArms_29 : decode cX12_passArms 29 = .ok (.getfield 46, 3) := by decide +kernel
theorem dX12_passArms_32 : decode cX12_passArms 32 = .ok (.aload_n 1, 1) := by decide +kernel
theorem dX12_passArms_33 : decode cX12_passArms 33 = .ok (.invokevirtual 363, 3) := by decide +kernel
theorem dX12_passArms_36 : decode cX12_passArms 36 = .ok (.aload_n 0, 1) := by decide +kernel
theorem dX12_passArms_37 : decode cX12_passArms 37 = .ok (.aload_n 0, 1) := by decide +kernel
theorem dX12_passArms_38 : decode cX12_passArms 38 = .ok (.getfield 49, 3) := by decide +kernel
theorem dX12_passArms_41 : decode cX12_passArms 41 = .ok (.aload_n 1, 1) := by decide +kernel
theorem dX12_passArms_42 : decode cX12_passArms 42 = .ok (.invokevirtual 363, 3) := by decide +kernel
theorem dX12_passArms_45 : decode cX12_passArms 45 = .ok (.aload_n 0, 1) := by decide +kernel
theorem dX12_passArms_46 : decode cX12_passArms 46 = .ok (.aload_n 0, 1) := by decide +kernel
theorem dX12_passArms_47 : decode cX12_passArms 47 = .ok (.getfield 52, 3) := by decide +kernel
theorem dX12_passArms_50 : decode cX12_passArms 50 = .ok (.aload_n 1, 1) := by decide +kernel
theorem dX12_passArms_51 : decode cX12_passArms 51 = .ok (.invokevirtual 363, 3) := by decide +kernel
theorem dX12_passArms_54 : decode cX12_passArms 54 = .ok (.aload_n 0, 1) := by decide +kernel
theorem dX12_passArms_55 : decode cX12_passArms 55 = .ok (.aload_n 0, 1) := by decide +kernel
theorem dX12_passArms_56 : decode cX12_passArms 56 = .ok (.getfield 55, 3) := by decide +kernel
theorem dX12_passArms_59 : decode cX12_passArms 59 = .ok (.aload_n 1, 1) := by decide +kernel
theorem dX12_passArms_60 : decode cX12_passArms 60 = .ok (.invokevirtual 363, 3) := by decide +kernel
theorem dX12_passArms_63 : decode cX12_passArms 63 = .ok (.aload_n 0, 1) := by decide +kernel
theorem dX12_passArms_64 : decode cX12_passArms 64 = .ok (.aload_n 0, 1) := by decide +kernel
theorem dX12_passArms_65 : decode cX12_passArms 65 = .ok (.getfield 58, 3) := by decide +kernel
theorem dX12_passArms_68 : decode cX12_passArms 68 = .ok (.aload_n 1, 1) := by decide +kernel
theorem dX12_passArms_69 : decode cX12_passArms 69 = .ok (.invokevirtual 363, 3) := by decide +kernel
theorem dX12_passArms_72 : decode cX12_passArms 72 = .ok (.aload_n 0, 1) := by decide +kernel
theorem dX12_passArms_73 : decode cX12_passArms 73 = .ok (.aload_n 0, 1) := by decide +kernel
theorem dX12_passArms_74 : decode cX12_passArms 74 = .ok (.getfield 61, 3) := by decide +kernel
theorem dX12_passArms_77 : decode cX12_passArms 77 = .ok (.aload_n 1, 1) := by decide +kernel
theorem dX12_passArms_78 : decode cX12_passArms 78 = .ok (.invokevirtual 363, 3) := by decide +kernel
theorem dX12_passArms_81 : decode cX12_passArms 81 = .ok (.aload_n 0, 1) := by decide +kernel
theorem dX12_passArms_82 : decode cX12_passArms 82 = .ok (.aload_n 0, 1) := by decide +kernel
theorem dX12_passArms_83 : decode cX12_passArms 83 = .ok (.getfield 64, 3) := by decide +kernel
theorem dX12_passArms_86 : decode cX12_passArms 86 = .ok (.aload_n 1, 1) := by decide +kernel
theorem dX12_passArms_87 : decode cX12_passArms 87 = .ok (.invokevirtual 363, 3) := by decide +kernel
theorem dX12_passArms_90 : decode cX12_passArms 90 = .ok (.aload_n 0, 1) := by decide +kernel
theorem dX12_passArms_91 : decode cX12_passArms 91 = .ok (.aload_n 0, 1) := by decide +kernel
theorem dX12_passArms_92 : decode cX12_passArms 92 = .ok (.getfield 67, 3) := by decide +kernel
theorem dX12_passArms_95 : decode cX12_passArms 95 = .ok (.aload_n 1, 1) := by decide +kernel
theorem dX12_passArms_96 : decode cX12_passArms 96 = .ok (.invokevirtual 363, 3) := by decide +kernel
theorem dX12_passArms_99 : decode cX12_passArms 99 = .ok (.aload_n 0, 1) := by decide +kernel
theorem dX12_passArms_100 : decode cX12_passArms 100 = .ok (.aload_n 0, 1) := by decide +kernel
theorem dX12_passArms_101 : decode cX12_passArms 101 = .ok (.getfield 70, 3) := by decide +kernel
theorem dX12_passArms_104 : decode cX12_passArms 104 = .ok (.aload_n 1, 1) := by decide +kernel
theorem dX12_passArms_105 : decode cX12_passArms 105 = .ok (.invokevirtual 363, 3) := by decide +kernel
theorem dX12_passArms_108 : decode cX12_passArms 108 = .ok (.return_, 1) := by decide +kernel
theorem dX12_passJobs_0 : decode cX12_passJobs 0 = .ok (.aload_n 0, 1) := by decide +kernel
theorem dX12_passJobs_1 : decode cX12_passJobs 1 = .ok (.aload_n 0, 1) := by decide +kernel
theorem dX12_passJobs_2 : decode cX12_passJobs 2 = .ok (.getfield 73, 3) := by decide +kernel
theorem dX12_passJobs_5 : decode cX12_passJobs 5 = .ok (.aload_n 1, 1) := by decide +kernel
theorem dX12_passJobs_6 : decode cX12_passJobs 6 = .ok (.invokevirtual 363, 3) := by decide +kernel
theorem dX12_passJobs_9 : decode cX12_passJobs 9 = .ok (.aload_n 0, 1) := by decide +kernel
theorem dX12_passJobs_10 : decode cX12_passJobs 10 = .ok (.aload_n 0, 1) := by decide +kernel
theorem dX12_passJobs_11 : decode cX12_passJobs 11 = .ok (.getfield 76, 3) := by decide +kernel
theorem dX12_passJobs_14 : decode cX12_passJobs 14 = .ok (.aload_n 1, 1) := by decide +kernel
theorem dX12_passJobs_15 : decode cX12_passJobs 15 = .ok (.invokevirtual 363, 3) := by decide +kernel
theorem dX12_passJobs_18 : decode cX12_passJobs 18 = .ok (.aload_n 0, 1) := by decide +kernel
theorem dX12_passJobs_19 : decode cX12_passJobs 19 = .ok (.aload_n 0, 1) := by decide +kernel
theorem dX12_passJobs_20 : decode cX12_passJobs 20 = .ok (.getfield 79, 3) := by decide +kernel
theorem dX12_passJobs_23 : decode cX12_passJobs 23 = .ok (.aload_n 1, 1) := by decide +kernel
theorem dX12_passJobs_24 : decode cX12_passJobs 24 = .ok (.invokevirtual 363, 3) := by decide +kernel
theorem dX12_passJobs_27 : decode cX12_passJobs 27 = .ok (.aload_n 0, 1) := by decide +kernel
theorem dX12_passJobs_28 : decode cX12_passJobs 28 = .ok (.aload_n 0, 1) := by decide +kernel
theorem dX12_passJobs_29 : decode cX12_passJobs 29 = .ok (.getfield 82, 3) := by decide +kernel
theorem dX12_passJobs_32 : decode cX12_passJobs 32 = .ok (.aload_n 1, 1) := by decide +kernel
theorem dX12_passJobs_33 : decode cX12_passJobs 33 = .ok (.invokevirtual 363, 3) := by decide +kernel
theorem dX12_passJobs_36 : decode cX12_passJobs 36 = .ok (.aload_n 0, 1) := by decide +kernel
theorem dX12_passJobs_37 : decode cX12_passJobs 37 = .ok (.aload_n 0, 1) := by decide +kernel
theorem dX12_passJobs_38 : decode cX12_passJobs 38 = .ok (.getfield 85, 3) := by decide +kernel
theorem dX12_passJobs_41 : decode cX12_passJobs 41 = .ok (.aload_n 1, 1) := by decide +kernel
theorem dX12_passJobs_42 : decode cX12_passJobs 42 = .ok (.invokevirtual 363, 3) := by decide +kernel
theorem dX12_passJobs_45 : decode cX12_passJobs 45 = .ok (.aload_n 0, 1) := by decide +kernel
theorem dX12_passJobs_46 : decode cX12_passJobs 46 = .ok (.aload_n 0, 1) := by decide +kernel
theorem dX12_passJobs_47 : decode cX12_passJobs 47 = .ok (.getfield 88, 3) := by decide +kernel
theorem dX12_passJobs_50 : decode cX12_passJobs 50 = .ok (.aload_n 1, 1) := by decide +kernel
theorem dX12_passJobs_51 : decode cX12_passJobs 51 = .ok (.invokevirtual 363, 3) := by decide +kernel
theorem dX12_passJobs_54 : decode cX12_passJobs 54 = .ok (.aload_n 0, 1) := by decide +kernel
theorem dX12_passJobs_55 : decode cX12_passJobs 55 = .ok (.aload_n 0, 1) := by decide +kernel
theorem dX12_passJobs_56 : decode cX12_passJobs 56 = .ok (.getfield 91, 3) := by decide +kernel
theorem dX12_passJobs_59 : decode cX12_passJobs 59 = .ok (.aload_n 1, 1) := by decide +kernel
theorem dX12_passJobs_60 : decode cX12_passJobs 60 = .ok (.invokevirtual 363, 3) := by decide +kernel
theorem dX12_passJobs_63 : decode cX12_passJobs 63 = .ok (.aload_n 0, 1) := by decide +kernel
theorem dX12_passJobs_64 : decode cX12_passJobs 64 = .ok (.aload_n 0, 1) := by decide +kernel
theorem dX12_passJobs_65 : decode cX12_passJobs 65 = .ok (.getfield 94, 3) := by decide +kernel
theorem dX12_passJobs_68 : decode cX12_passJobs 68 = .ok (.aload_n 1, 1) := by decide +kernel
theorem dX12_passJobs_69 : decode cX12_passJobs 69 = .ok (.invokevirtual 363, 3) := by decide +kernel
theorem dX12_passJobs_72 : decode cX12_passJobs 72 = .ok (.aload_n 0, 1) := by decide +kernel
theorem dX12_passJobs_73 : decode cX12_passJobs 73 = .ok (.aload_n 0, 1) := by decide +kernel
theorem dX12_passJobs_74 : decode cX12_passJobs 74 = .ok (.getfield 97, 3) := by decide +kernel
theorem dX12_passJobs_77 : decode cX12_passJobs 77 = .ok (.aload_n 1, 1) := by decide +kernel
theorem dX12_passJobs_78 : decode cX12_passJobs 78 = .ok (.invokevirtual 363, 3) := by decide +kernel
theorem dX12_passJobs_81 : decode cX12_passJobs 81 = .ok (.aload_n 0, 1) := by decide +kernel
theorem dX12_passJobs_82 : decode cX12_passJobs 82 = .ok (.aload_n 0, 1) := by decide +kernel
theorem dX12_passJobs_83 : decode cX12_passJobs 83 = .ok (.getfield 100, 3) := by decide +kernel
theorem dX12_passJobs_86 : decode cX12_passJobs 86 = .ok (.aload_n 1, 1) := by decide +kernel
theorem dX12_passJobs_87 : decode cX12_passJobs 87 = .ok (.invokevirtual 363, 3) := by decide +kernel
theorem dX12_passJobs_90 : decode cX12_passJobs 90 = .ok (.return_, 1) := by decide +kernel
theorem dX12_passAll_0 : decode cX12_passAll 0 = .ok (.aload_n 0, 1) := by decide +kernel
theorem dX12_passAll_1 : decode cX12_passAll 1 = .ok (.iload_n 3, 1) := by decide +kernel
theorem dX12_passAll_2 : decode cX12_passAll 2 = .ok (.putfield 357, 3) := by decide +kernel
theorem dX12_passAll_5 : decode cX12_passAll 5 = .ok (.aload_n 0, 1) := by decide +kernel
theorem dX12_passAll_6 : decode cX12_passAll 6 = .ok (.iload_n 2, 1) := by decide +kernel
theorem dX12_passAll_7 : decode cX12_passAll 7 = .ok (.putfield 360, 3) := by decide +kernel
theorem dX12_passAll_10 : decode cX12_passAll 10 = .ok (.aload_n 0, 1) := by decide +kernel
theorem dX12_passAll_11 : decode cX12_passAll 11 = .ok (.aload_n 0, 1) := by decide +kernel
theorem dX12_passAll_12 : decode cX12_passAll 12 = .ok (.getfield 7, 3) := by decide +kernel
theorem dX12_passAll_15 : decode cX12_passAll 15 = .ok (.aload_n 1, 1) := by decide +kernel
theorem dX12_passAll_16 : decode cX12_passAll 16 = .ok (.invokevirtual 363, 3) := by decide +kernel
theorem dX12_passAll_19 : decode cX12_passAll 19 = .ok (.aload_n 0, 1) := by decide +kernel
theorem dX12_passAll_20 : decode cX12_passAll 20 = .ok (.aload_n 0, 1) := by decide +kernel
theorem dX12_passAll_21 : decode cX12_passAll 21 = .ok (.getfield 13, 3) := by decide +kernel
theorem dX12_passAll_24 : decode cX12_passAll 24 = .ok (.aload_n 1, 1) := by decide +kernel
theorem dX12_passAll_25 : decode cX12_passAll 25 = .ok (.invokevirtual 363, 3) := by decide +kernel
theorem dX12_passAll_28 : decode cX12_passAll 28 = .ok (.aload_n 0, 1) := by decide +kernel
theorem dX12_passAll_29 : decode cX12_passAll 29 = .ok (.aload_n 0, 1) := by decide +kernel
theorem dX12_passAll_30 : decode cX12_passAll 30 = .ok (.getfield 16, 3) := by decide +kernel
theorem dX12_passAll_33 : decode cX12_passAll 33 = .ok (.aload_n 1, 1) := by decide +kernel
theorem dX12_passAll_34 : decode cX12_passAll 34 = .ok (.invokevirtual 363, 3) := by decide +kernel
theorem dX12_passAll_37 : decode cX12_passAll 37 = .ok (.aload_n 0, 1) := by decide +kernel
theorem dX12_passAll_38 : decode cX12_passAll 38 = .ok (.aload_n 0, 1) := by decide +kernel
theorem dX12_passAll_39 : decode cX12_passAll 39 = .ok (.getfield 19, 3) := by decide +kernel
theorem dX12_passAll_42 : decode cX12_passAll 42 = .ok (.aload_n 1, 1) := by decide +kernel
theorem dX12_passAll_43 : decode cX12_passAll 43 = .ok (.invokevirtual 363, 3) := by decide +kernel
theorem dX12_passAll_46 : decode cX12_passAll 46 = .ok (.aload_n 0, 1) := by decide +kernel
theorem dX12_passAll_47 : decode cX12_passAll 47 = .ok (.aload_n 0, 1) := by decide +kernel
theorem dX12_passAll_48 : decode cX12_passAll 48 = .ok (.getfield 22, 3) := by decide +kernel
theorem dX12_passAll_51 : decode cX12_passAll 51 = .ok (.aload_n 1, 1) := by decide +kernel
theorem dX12_passAll_52 : decode cX12_passAll 52 = .ok (.invokevirtual 363, 3) := by decide +kernel
theorem dX12_passAll_55 : decode cX12_passAll 55 = .ok (.aload_n 0, 1) := by decide +kernel
theorem dX12_passAll_56 : decode cX12_passAll 56 = .ok (.aload_n 0, 1) := by decide +kernel
theorem dX12_passAll_57 : decode cX12_passAll 57 = .ok (.getfield 25, 3) := by decide +kernel
theorem dX12_passAll_60 : decode cX12_passAll 60 = .ok (.aload_n 1, 1) := by decide +kernel
theorem dX12_passAll_61 : decode cX12_passAll 61 = .ok (.invokevirtual 363, 3) := by decide +kernel
theorem dX12_passAll_64 : decode cX12_passAll 64 = .ok (.aload_n 0, 1) := by decide +kernel
theorem dX12_passAll_65 : decode cX12_passAll 65 = .ok (.aload_n 0, 1) := by decide +kernel
theorem dX12_passAll_66 : decode cX12_passAll 66 = .ok (.getfield 28, 3) := by decide +kernel
theorem dX12_passAll_69 : decode cX12_passAll 69 = .ok (.aload_n 1, 1) := by decide +kernel
theorem dX12_passAll_70 : decode cX12_passAll 70 = .ok (.invokevirtual 363, 3) := by decide +kernel
theorem dX12_passAll_73 : decode cX12_passAll 73 = .ok (.aload_n 0, 1) := by decide +kernel
theorem dX12_passAll_74 : decode cX12_passAll 74 = .ok (.aload_n 0, 1) := by decide +kernel
theorem dX12_passAll_75 : decode cX12_passAll 75 = .ok (.getfield 31, 3) := by decide +kernel
theorem dX12_passAll_78 : decode cX12_passAll 78 = .ok (.aload_n 1, 1) := by decide +kernel
theorem dX12_passAll_79 : decode cX12_passAll 79 = .ok (.invokevirtual 363, 3) := by decide +kernel
theorem dX12_passAll_82 : decode cX12_passAll 82 = .ok (.aload_n 0, 1) := by decide +kernel
theorem dX12_passAll_83 : decode cX12_passAll 83 = .ok (.aload_n 0, 1) := by decide +kernel
theorem dX12_passAll_84 : decode cX12_passAll 84 = .ok (.getfield 34, 3) := by decide +kernel
theorem dX12_passAll_87 : decode cX12_passAll 87 = .ok (.aload_n 1, 1) := by decide +kernel
theorem dX12_passAll_88 : decode cX12_passAll 88 = .ok (.invokevirtual 363, 3) := by decide +kernel
theorem dX12_passAll_91 : decode cX12_passAll 91 = .ok (.aload_n 0, 1) := by decide +kernel
theorem dX12_passAll_92 : decode cX12_passAll 92 = .ok (.aload_n 1, 1) := by decide +kernel
theorem dX12_passAll_93 : decode cX12_passAll 93 = .ok (.invokevirtual 367, 3) := by decide +kernel
theorem dX12_passAll_96 : decode cX12_passAll 96 = .ok (.aload_n 0, 1) := by decide +kernel
theorem dX12_passAll_97 : decode cX12_passAll 97 = .ok (.aload_n 1, 1) := by decide +kernel
theorem dX12_passAll_98 : decode cX12_passAll 98 = .ok (.invokevirtual 371, 3) := by decide +kernel
theorem dX12_passAll_101 : decode cX12_passAll 101 = .ok (.aload_n 0, 1) := by decide +kernel
theorem dX12_passAll_102 : decode cX12_passAll 102 = .ok (.aload_n 0, 1) := by decide +kernel
theorem dX12_passAll_103 : decode cX12_passAll 103 = .ok (.getfield 103, 3) := by decide +kernel
theorem dX12_passAll_106 : decode cX12_passAll 106 = .ok (.aload_n 1, 1) := by decide +kernel
theorem dX12_passAll_107 : decode cX12_passAll 107 = .ok (.invokevirtual 363, 3) := by decide +kernel
theorem dX12_passAll_110 : decode cX12_passAll 110 = .ok (.aload_n 0, 1) := by decide +kernel
theorem dX12_passAll_111 : decode cX12_passAll 111 = .ok (.aload_n 0, 1) := by decide +kernel
theorem dX12_passAll_112 : decode cX12_passAll 112 = .ok (.aload_n 0, 1) := by decide +kernel
theorem dX12_passAll_113 : decode cX12_passAll 113 = .ok (.getfield 158, 3) := by decide +kernel
theorem dX12_passAll_116 : decode cX12_passAll 116 = .ok (.aload_n 1, 1) := by decide +kernel
theorem dX12_passAll_117 : decode cX12_passAll 117 = .ok (.invokevirtual 374, 3) := by decide +kernel
theorem dX12_passAll_120 : decode cX12_passAll 120 = .ok (.putfield 158, 3) := by decide +kernel
theorem dX12_passAll_123 : decode cX12_passAll 123 = .ok (.aload_n 0, 1) := by decide +kernel
theorem dX12_passAll_124 : decode cX12_passAll 124 = .ok (.aload_n 0, 1) := by decide +kernel
theorem dX12_passAll_125 : decode cX12_passAll 125 = .ok (.aload_n 0, 1) := by decide +kernel
theorem dX12_passAll_126 : decode cX12_passAll 126 = .ok (.getfield 280, 3) := by decide +kernel
theorem dX12_passAll_129 : decode cX12_passAll 129 = .ok (.aload_n 1, 1) := by decide +kernel
theorem dX12_passAll_130 : decode cX12_passAll 130 = .ok (.invokevirtual 374, 3) := by decide +kernel
theorem dX12_passAll_133 : decode cX12_passAll 133 = .ok (.putfield 280, 3) := by decide +kernel
theorem dX12_passAll_136 : decode cX12_passAll 136 = .ok (.aload_n 0, 1) := by decide +kernel
theorem dX12_passAll_137 : decode cX12_passAll 137 = .ok (.aload_n 0, 1) := by decide +kernel
theorem dX12_passAll_138 : decode cX12_passAll 138 = .ok (.aload_n 0, 1) := by decide +kernel
theorem dX12_passAll_139 : decode cX12_passAll 139 = .ok (.getfield 223, 3) := by decide +kernel
theorem dX12_passAll_142 : decode cX12_passAll 142 = .ok (.aload_n 1, 1) := by decide +kernel
theorem dX12_passAll_143 : decode cX12_passAll 143 = .ok (.invokevirtual 374, 3) := by decide +kernel
theorem dX12_passAll_146 : decode cX12_passAll 146 = .ok (.putfield 223, 3) := by decide +kernel
theorem dX12_passAll_149 : decode cX12_passAll 149 = .ok (.aload_n 0, 1) := by decide +kernel
theorem dX12_passAll_150 : decode cX12_passAll 150 = .ok (.aload_n 0, 1) := by decide +kernel
theorem dX12_passAll_151 : decode cX12_passAll 151 = .ok (.aload_n 0, 1) := by decide +kernel
theorem dX12_passAll_152 : decode cX12_passAll 152 = .ok (.getfield 220, 3) := by decide +kernel
theorem dX12_passAll_155 : decode cX12_passAll 155 = .ok (.aload_n 1, 1) := by decide +kernel
theorem dX12_passAll_156 : decode cX12_passAll 156 = .ok (.invokevirtual 374, 3) := by decide +kernel
theorem dX12_passAll_159 : decode cX12_passAll 159 = .ok (.putfield 220, 3) := by decide +kernel
theorem dX12_passAll_162 : decode cX12_passAll 162 = .ok (.aload_n 0, 1) := by decide +kernel
theorem dX12_passAll_163 : decode cX12_passAll 163 = .ok (.aload_n 0, 1) := by decide +kernel
theorem dX12_passAll_164 : decode cX12_passAll 164 = .ok (.aload_n 0, 1) := by decide +kernel
theorem dX12_passAll_165 : decode cX12_passAll 165 = .ok (.getfield 211, 3) := by decide +kernel
theorem dX12_passAll_168 : decode cX12_passAll 168 = .ok (.aload_n 1, 1) := by decide +kernel
theorem dX12_passAll_169 : decode cX12_passAll 169 = .ok (.invokevirtual 374, 3) := by decide +kernel
theorem dX12_passAll_172 : decode cX12_passAll 172 = .ok (.putfield 211, 3) := by decide +kernel
theorem dX12_passAll_175 : decode cX12_passAll 175 = .ok (.aload_n 0, 1) := by decide +kernel
theorem dX12_passAll_176 : decode cX12_passAll 176 = .ok (.aload_n 0, 1) := by decide +kernel
theorem dX12_passAll_177 : decode cX12_passAll 177 = .ok (.aload_n 0, 1) := by decide +kernel
theorem dX12_passAll_178 : decode cX12_passAll 178 = .ok (.getfield 291, 3) := by decide +kernel
theorem dX12_passAll_181 : decode cX12_passAll 181 = .ok (.aload_n 1, 1) := by decide +kernel
theorem dX12_passAll_182 : decode cX12_passAll 182 = .ok (.invokevirtual 374, 3) := by decide +kernel
theorem dX12_passAll_185 : decode cX12_passAll 185 = .ok (.putfield 291, 3) := by decide +kernel
theorem dX12_passAll_188 : decode cX12_passAll 188 = .ok (.aload_n 0, 1) := by decide +kernel
theorem dX12_passAll_189 : decode cX12_passAll 189 = .ok (.aload_n 0, 1) := by decide +kernel
theorem dX12_passAll_190 : decode cX12_passAll 190 = .ok (.aload_n 0, 1) := by decide +kernel
theorem dX12_passAll_191 : decode cX12_passAll 191 = .ok (.getfield 214, 3) := by decide +kernel
theorem dX12_passAll_194 : decode cX12_passAll 194 = .ok (.aload_n 1, 1) := by decide +kernel
theorem dX12_passAll_195 : decode cX12_passAll 195 = .ok (.invokevirtual 374, 3) := by decide +kernel
theorem dX12_passAll_198 : decode cX12_passAll 198 = .ok (.putfield 214, 3) := by decide +kernel
theorem dX12_passAll_201 : decode cX12_passAll 201 = .ok (.aload_n 0, 1) := by decide +kernel
theorem dX12_passAll_202 : decode cX12_passAll 202 = .ok (.aload_n 0, 1) := by decide +kernel
theorem dX12_passAll_203 : decode cX12_passAll 203 = .ok (.aload_n 0, 1) := by decide +kernel
theorem dX12_passAll_204 : decode cX12_passAll 204 = .ok (.getfield 155, 3) := by decide +kernel
theorem dX12_passAll_207 : decode cX12_passAll 207 = .ok (.aload_n 1, 1) := by decide +kernel
theorem dX12_passAll_208 : decode cX12_passAll 208 = .ok (.invokevirtual 374, 3) := by decide +kernel
theorem dX12_passAll_211 : decode cX12_passAll 211 = .ok (.putfield 155, 3) := by decide +kernel
theorem dX12_passAll_214 : decode cX12_passAll 214 = .ok (.return_, 1) := by decide +kernel
theorem dX12_remembers_0 : decode cX12_remembers 0 = .ok (.aload_n 0, 1) := by decide +kernel
theorem dX12_remembers_1 : decode cX12_remembers 1 = .ok (.getfield 378, 3) := by decide +kernel
theorem dX12_remembers_4 : decode cX12_remembers 4 = .ok (.bipush 6, 2) := by decide +kernel
theorem dX12_remembers_6 : decode cX12_remembers 6 = .ok (.if_icmp .ne 44, 3) := by decide +kernel
theorem dX12_remembers_9 : decode cX12_remembers 9 = .ok (.iconst 0, 1) := by decide +kernel
theorem dX12_remembers_10 : decode cX12_remembers 10 = .ok (.istore_n 1, 1) := by decide +kernel
theorem dX12_remembers_11 : decode cX12_remembers 11 = .ok (.iload_n 1, 1) := by decide +kernel
theorem dX12_remembers_12 : decode cX12_remembers 12 = .ok (.sipush 2865, 3) := by decide +kernel
theorem dX12_remembers_15 : decode cX12_remembers 15 = .ok (.if_icmp .ge 25, 3) := by decide +kernel
theorem dX12_remembers_18 : decode cX12_remembers 18 = .ok (.aload_n 0, 1) := by decide +kernel
theorem dX12_remembers_19 : decode cX12_remembers 19 = .ok (.getfield 127, 3) := by decide +kernel
theorem dX12_remembers_22 : decode cX12_remembers 22 = .ok (.iload_n 1, 1) := by decide +kernel
theorem dX12_remembers_23 : decode cX12_remembers 23 = .ok (.aload_n 0, 1) := by decide +kernel
theorem dX12_remembers_24 : decode cX12_remembers 24 = .ok (.getfield 127, 3) := by decide +kernel
theorem dX12_remembers_27 : decode cX12_remembers 27 = .ok (.iload_n 1, 1) := by decide +kernel
theorem dX12_remembers_28 : decode cX12_remembers 28 = .ok (.sipush 573, 3) := by decide +kernel
theorem dX12_remembers_31 : decode cX12_remembers 31 = .ok (.iadd, 1) := by decide +kernel
theorem dX12_remembers_32 : decode cX12_remembers 32 = .ok (.iaload, 1) := by decide +kernel
theorem dX12_remembers_33 : decode cX12_remembers 33 = .ok (.iastore, 1) := by decide +kernel
theorem dX12_remembers_34 : decode cX12_remembers 34 = .ok (.iinc 1 1, 3) := by decide +kernel
theorem dX12_remembers_37 : decode cX12_remembers 37 = .ok (.goto (-26), 3) := by decide +kernel
theorem dX12_remembers_40 : decode cX12_remembers 40 = .ok (.aload_n 0, 1) := by decide +kernel
theorem dX12_remembers_41 : decode cX12_remembers 41 = .ok (.dup, 1) := by decide +kernel
theorem dX12_remembers_42 : decode cX12_remembers 42 = .ok (.getfield 378, 3) := by decide +kernel
theorem dX12_remembers_45 : decode cX12_remembers 45 = .ok (.iconst 1, 1) := by decide +kernel
theorem dX12_remembers_46 : decode cX12_remembers 46 = .ok (.isub, 1) := by decide +kernel
theorem dX12_remembers_47 : decode cX12_remembers 47 = .ok (.putfield 378, 3) := by decide +kernel
theorem dX12_remembers_50 : decode cX12_remembers 50 = .ok (.aload_n 0, 1) := by decide +kernel
theorem dX12_remembers_51 : decode cX12_remembers 51 = .ok (.aload_n 0, 1) := by decide +kernel
theorem dX12_remembers_52 : decode cX12_remembers 52 = .ok (.getfield 127, 3) := by decide +kernel
theorem dX12_remembers_55 : decode cX12_remembers 55 = .ok (.sipush 573, 3) := by decide +kernel
theorem dX12_remembers_58 : decode cX12_remembers 58 = .ok (.aload_n 0, 1) := by decide +kernel
theorem dX12_remembers_59 : decode cX12_remembers 59 = .ok (.getfield 378, 3) := by decide +kernel
theorem dX12_remembers_62 : decode cX12_remembers 62 = .ok (.imul, 1) := by decide +kernel
theorem dX12_remembers_63 : decode cX12_remembers 63 = .ok (.iconst 1, 1) := by decide +kernel
theorem dX12_remembers_64 : decode cX12_remembers 64 = .ok (.invokevirtual 300, 3) := by decide +kernel
theorem dX12_remembers_67 : decode cX12_remembers 67 = .ok (.aload_n 0, 1) := by decide +kernel
theorem dX12_remembers_68 : decode cX12_remembers 68 = .ok (.dup, 1) := by decide +kernel
theorem dX12_remembers_69 : decode cX12_remembers 69 = .ok (.getfield 378, 3) := by decide +kernel
theorem dX12_remembers_72 : decode cX12_remembers 72 = .ok (.iconst 1, 1) := by decide +kernel
theorem dX12_remembers_73 : decode cX12_remembers 73 = .ok (.iadd, 1) := by decide +kernel
theorem dX12_remembers_74 : decode cX12_remembers 74 = .ok (.putfield 378, 3) := by decide +kernel
theorem dX12_remembers_77 : decode cX12_remembers 77 = .ok (.return_, 1) := by decide +kernel
theorem dX12_undo_0 : decode cX12_undo 0 = .ok (.aload_n 0, 1) := by decide +kernel
theorem dX12_undo_1 : decode cX12_undo 1 = .ok (.getfield 378, 3) := by decide +kernel
theorem dX12_undo_4 : decode cX12_undo 4 = .ok (.ifCond .ne 9, 3) := by decide +kernel
theorem dX12_undo_7 : decode cX12_undo 7 = .ok (.aload_n 0, 1) := by decide +kernel
theorem dX12_undo_8 : decode cX12_undo 8 = .ok (.iconst 1, 1) := by decide +kernel
theorem dX12_undo_9 : decode cX12_undo 9 = .ok (.invokevirtual 268, 3) := by decide +kernel
theorem dX12_undo_12 : decode cX12_undo 12 = .ok (.ireturn, 1) := by decide +kernel
theorem dX12_undo_13 : decode cX12_undo 13 = .ok (.aload_n 0, 1) := by decide +kernel
theorem dX12_undo_14 : decode cX12_undo 14 = .ok (.iconst 0, 1) := by decide +kernel
theorem dX12_undo_15 : decode cX12_undo 15 = .ok (.putfield 139, 3) := by decide +kernel
theorem dX12_undo_18 : decode cX12_undo 18 = .ok (.aload_n 0, 1) := by decide +kernel
theorem dX12_undo_19 : decode cX12_undo 19 = .ok (.dup, 1) := by decide +kernel
theorem dX12_undo_20 : decode cX12_undo 20 = .ok (.getfield 378, 3) := by decide +kernel
theorem dX12_undo_23 : decode cX12_undo 23 = .ok (.iconst 1, 1) := by decide +kernel
theorem dX12_undo_24 : decode cX12_undo 24 = .ok (.isub, 1) := by decide +kernel
theorem dX12_undo_25 : decode cX12_undo 25 = .ok (.putfield 378, 3) := by decide +kernel
theorem dX12_undo_28 : decode cX12_undo 28 = .ok (.aload_n 0, 1) := by decide +kernel
theorem dX12_undo_29 : decode cX12_undo 29 = .ok (.aload_n 0, 1) := by decide +kernel
theorem dX12_undo_30 : decode cX12_undo 30 = .ok (.getfield 127, 3) := by decide +kernel
theorem dX12_undo_33 : decode cX12_undo 33 = .ok (.sipush 573, 3) := by decide +kernel
theorem dX12_undo_36 : decode cX12_undo 36 = .ok (.aload_n 0, 1) := by decide +kernel
theorem dX12_undo_37 : decode cX12_undo 37 = .ok (.getfield 378, 3) := by decide +kernel
theorem dX12_undo_40 : decode cX12_undo 40 = .ok (.imul, 1) := by decide +kernel
theorem dX12_undo_41 : decode cX12_undo 41 = .ok (.iconst 0, 1) := by decide +kernel
theorem dX12_undo_42 : decode cX12_undo 42 = .ok (.invokevirtual 300, 3) := by decide +kernel
theorem dX12_undo_45 : decode cX12_undo 45 = .ok (.aload_n 0, 1) := by decide +kernel
theorem dX12_undo_46 : decode cX12_undo 46 = .ok (.getfield 378, 3) := by decide +kernel
theorem dX12_undo_49 : decode cX12_undo 49 = .ok (.ireturn, 1) := by decide +kernel
theorem dX12_save_0 : decode cX12_save 0 = .ok (.aload_n 0, 1) := by decide +kernel
theorem dX12_save_1 : decode cX12_save 1 = .ok (.iconst 0, 1) := by decide +kernel
theorem dX12_save_2 : decode cX12_save 2 = .ok (.putfield 139, 3) := by decide +kernel
theorem dX12_save_5 : decode cX12_save 5 = .ok (.aload_n 0, 1) := by decide +kernel
theorem dX12_save_6 : decode cX12_save 6 = .ok (.iconst 1, 1) := by decide +kernel
theorem dX12_save_7 : decode cX12_save 7 = .ok (.putfield 381, 3) := by decide +kernel
theorem dX12_save_10 : decode cX12_save 10 = .ok (.aload_n 0, 1) := by decide +kernel
theorem dX12_save_11 : decode cX12_save 11 = .ok (.aload_n 0, 1) := by decide +kernel
theorem dX12_save_12 : decode cX12_save 12 = .ok (.getfield 130, 3) := by decide +kernel
theorem dX12_save_15 : decode cX12_save 15 = .ok (.iconst 0, 1) := by decide +kernel
theorem dX12_save_16 : decode cX12_save 16 = .ok (.iconst 1, 1) := by decide +kernel
theorem dX12_save_17 : decode cX12_save 17 = .ok (.invokevirtual 300, 3) := by decide +kernel
theorem dX12_save_20 : decode cX12_save 20 = .ok (.aload_n 0, 1) := by decide +kernel
theorem dX12_save_21 : decode cX12_save 21 = .ok (.getfield 158, 3) := by decide +kernel
theorem dX12_save_24 : decode cX12_save 24 = .ok (.ireturn, 1) := by decide +kernel
theorem dX12_restore_0 : decode cX12_restore 0 = .ok (.aload_n 0, 1) := by decide +kernel
theorem dX12_restore_1 : decode cX12_restore 1 = .ok (.getfield 381, 3) := by decide +kernel
theorem dX12_restore_4 : decode cX12_restore 4 = .ok (.ifCond .ne 9, 3) := by decide +kernel
theorem dX12_restore_7 : decode cX12_restore 7 = .ok (.aload_n 0, 1) := by decide +kernel
theorem dX12_restore_8 : decode cX12_restore 8 = .ok (.iconst 1, 1) := by decide +kernel
theorem dX12_restore_9 : decode cX12_restore 9 = .ok (.invokevirtual 268, 3) := by decide +kernel
theorem dX12_restore_12 : decode cX12_restore 12 = .ok (.ireturn, 1) := by decide +kernel
theorem dX12_restore_13 : decode cX12_restore 13 = .ok (.aload_n 0, 1) := by decide +kernel
theorem dX12_restore_14 : decode cX12_restore 14 = .ok (.iconst 0, 1) := by decide +kernel
theorem dX12_restore_15 : decode cX12_restore 15 = .ok (.putfield 139, 3) := by decide +kernel
theorem dX12_restore_18 : decode cX12_restore 18 = .ok (.aload_n 0, 1) := by decide +kernel
theorem dX12_restore_19 : decode cX12_restore 19 = .ok (.aload_n 0, 1) := by decide +kernel
theorem dX12_restore_20 : decode cX12_restore 20 = .ok (.getfield 130, 3) := by decide +kernel
theorem dX12_restore_23 : decode cX12_restore 23 = .ok (.iconst 0, 1) := by decide +kernel
theorem dX12_restore_24 : decode cX12_restore 24 = .ok (.iconst 0, 1) := by decide +kernel
theorem dX12_restore_25 : decode cX12_restore 25 = .ok (.invokevirtual 300, 3) := by decide +kernel
theorem dX12_restore_28 : decode cX12_restore 28 = .ok (.aload_n 0, 1) := by decide +kernel
theorem dX12_restore_29 : decode cX12_restore 29 = .ok (.iconst 0, 1) := by decide +kernel
theorem dX12_restore_30 : decode cX12_restore 30 = .ok (.putfield 378, 3) := by decide +kernel
theorem dX12_restore_33 : decode cX12_restore 33 = .ok (.aload_n 0, 1) := by decide +kernel
theorem dX12_restore_34 : decode cX12_restore 34 = .ok (.getfield 158, 3) := by decide +kernel
theorem dX12_restore_37 : decode cX12_restore 37 = .ok (.ireturn, 1) := by decide +kernel
