theorem dX12_ticks_134 : decode cX12_ticks 134 = .ok (.goto (-63), 3) := by decide +kernel
theorem dX12_ticks_137 : decode cX12_ticks 137 = .ok (.return_, 1) := by decide +kernel
theorem dX12_holderOf_0 : decode cX12_holderOf 0 = .ok (.iconst 0, 1) := by decide +kernel
theorem dX12_holderOf_1 : decode cX12_holderOf 1 = .ok (.istore_n 2, 1) := by decide +kernel
theorem dX12_holderOf_2 : decode cX12_holderOf 2 = .ok (.iload_n 2, 1) := by decide +kernel
theorem dX12_holderOf_3 : decode cX12_holderOf 3 = .ok (.iconst 3, 1) := by decide +kernel
theorem dX12_holderOf_4 : decode cX12_holderOf 4 = .ok (.if_icmp .ge 23, 3) := by decide +kernel
theorem dX12_holderOf_7 : decode cX12_holderOf 7 = .ok (.aload_n 0, 1) := by decide +kernel
theorem dX12_holderOf_8 : decode cX12_holderOf 8 = .ok (.iload_n 2, 1) := by decide +kernel
theorem dX12_holderOf_9 : decode cX12_holderOf 9 = .ok (.invokevirtual 161, 3) := by decide +kernel
theorem dX12_holderOf_12 : decode cX12_holderOf 12 = .ok (.iload_n 1, 1) := by decide +kernel
theorem dX12_holderOf_13 : decode cX12_holderOf 13 = .ok (.invokestatic 245, 3) := by decide +kernel
theorem dX12_holderOf_16 : decode cX12_holderOf 16 = .ok (.ifCond .eq 5, 3) := by decide +kernel
theorem dX12_holderOf_19 : decode cX12_holderOf 19 = .ok (.iload_n 2, 1) := by decide +kernel
theorem dX12_holderOf_20 : decode cX12_holderOf 20 = .ok (.ireturn, 1) := by decide +kernel
theorem dX12_holderOf_21 : decode cX12_holderOf 21 = .ok (.iinc 2 1, 3) := by decide +kernel
theorem dX12_holderOf_24 : decode cX12_holderOf 24 = .ok (.goto (-22), 3) := by decide +kernel
theorem dX12_holderOf_27 : decode cX12_holderOf 27 = .ok (.iconst (-1), 1) := by decide +kernel
theorem dX12_holderOf_28 : decode cX12_holderOf 28 = .ok (.ireturn, 1) := by decide +kernel
theorem dX12_locks_0 : decode cX12_locks 0 = .ok (.aload_n 0, 1) := by decide +kernel
theorem dX12_locks_1 : decode cX12_locks 1 = .ok (.getfield 7, 3) := by decide +kernel
theorem dX12_locks_4 : decode cX12_locks 4 = .ok (.iload_n 1, 1) := by decide +kernel
theorem dX12_locks_5 : decode cX12_locks 5 = .ok (.iload_n 3, 1) := by decide +kernel
theorem dX12_locks_6 : decode cX12_locks 6 = .ok (.ifCond .eq 16, 3) := by decide +kernel
theorem dX12_locks_9 : decode cX12_locks 9 = .ok (.aload_n 0, 1) := by decide +kernel
theorem dX12_locks_10 : decode cX12_locks 10 = .ok (.getfield 7, 3) := by decide +kernel
theorem dX12_locks_13 : decode cX12_locks 13 = .ok (.iload_n 1, 1) := by decide +kernel
theorem dX12_locks_14 : decode cX12_locks 14 = .ok (.iaload, 1) := by decide +kernel
theorem dX12_locks_15 : decode cX12_locks 15 = .ok (.iconst 1, 1) := by decide +kernel
theorem dX12_locks_16 : decode cX12_locks 16 = .ok (.iload_n 2, 1) := by decide +kernel
theorem dX12_locks_17 : decode cX12_locks 17 = .ok (.ishl, 1) := by decide +kernel
theorem dX12_locks_18 : decode cX12_locks 18 = .ok (.ior, 1) := by decide +kernel
theorem dX12_locks_19 : decode cX12_locks 19 = .ok (.goto 15, 3) := by decide +kernel
theorem dX12_locks_22 : decode cX12_locks 22 = .ok (.aload_n 0, 1) := by decide +kernel
theorem dX12_locks_23 : decode cX12_locks 23 = .ok (.getfield 7, 3) := by decide +kernel
theorem dX12_locks_26 : decode cX12_locks 26 = .ok (.iload_n 1, 1) := by decide +kernel
theorem dX12_locks_27 : decode cX12_locks 27 = .ok (.iaload, 1) := by decide +kernel
theorem dX12_locks_28 : decode cX12_locks 28 = .ok (.iconst 1, 1) := by decide +kernel
theorem dX12_locks_29 : decode cX12_locks 29 = .ok (.iload_n 2, 1) := by decide +kernel
theorem dX12_locks_30 : decode cX12_locks 30 = .ok (.ishl, 1) := by decide +kernel
theorem dX12_locks_31 : decode cX12_locks 31 = .ok (.iconst (-1), 1) := by decide +kernel
theorem dX12_locks_32 : decode cX12_locks 32 = .ok (.ixor, 1) := by decide +kernel
theorem dX12_locks_33 : decode cX12_locks 33 = .ok (.iand, 1) := by decide +kernel
theorem dX12_locks_34 : decode cX12_locks 34 = .ok (.iastore, 1) := by decide +kernel
theorem dX12_locks_35 : decode cX12_locks 35 = .ok (.aload_n 0, 1) := by decide +kernel
theorem dX12_locks_36 : decode cX12_locks 36 = .ok (.getfield 7, 3) := by decide +kernel
theorem dX12_locks_39 : decode cX12_locks 39 = .ok (.iload_n 2, 1) := by decide +kernel
theorem dX12_locks_40 : decode cX12_locks 40 = .ok (.iload_n 3, 1) := by decide +kernel
theorem dX12_locks_41 : decode cX12_locks 41 = .ok (.ifCond .eq 16, 3) := by decide +kernel
theorem dX12_locks_44 : decode cX12_locks 44 = .ok (.aload_n 0, 1) := by decide +kernel
theorem dX12_locks_45 : decode cX12_locks 45 = .ok (.getfield 7, 3) := by decide +kernel
theorem dX12_locks_48 : decode cX12_locks 48 = .ok (.iload_n 2, 1) := by decide +kernel
theorem dX12_locks_49 : decode cX12_locks 49 = .ok (.iaload, 1) := by decide +kernel
theorem dX12_locks_50 : decode cX12_locks 50 = .ok (.iconst 1, 1) := by decide +kernel
theorem dX12_locks_51 : decode cX12_locks 51 = .ok (.iload_n 1, 1) := by decide +kernel
theorem dX12_locks_52 : decode cX12_locks 52 = .ok (.ishl, 1) := by decide +kernel
theorem dX12_locks_53 : decode cX12_locks 53 = .ok (.ior, 1) := by decide +kernel
theorem dX12_locks_54 : decode cX12_locks 54 = .ok (.goto 15, 3) := by decide +kernel
theorem dX12_locks_57 : decode cX12_locks 57 = .ok (.aload_n 0, 1) := by decide +kernel
theorem dX12_locks_58 : decode cX12_locks 58 = .ok (.getfield 7, 3) := by decide +kernel
theorem dX12_locks_61 : decode cX12_locks 61 = .ok (.iload_n 2, 1) := by decide +kernel
theorem dX12_locks_62 : decode cX12_locks 62 = .ok (.iaload, 1) := by decide +kernel
theorem dX12_locks_63 : decode cX12_locks 63 = .ok (.iconst 1, 1) := by decide +kernel
theorem dX12_locks_64 : decode cX12_locks 64 = .ok (.iload_n 1, 1) := by decide +kernel
theorem dX12_locks_65 : decode cX12_locks 65 = .ok (.ishl, 1) := by decide +kernel
theorem dX12_locks_66 : decode cX12_locks 66 = .ok (.iconst (-1), 1) := by decide +kernel
theorem dX12_locks_67 : decode cX12_locks 67 = .ok (.ixor, 1) := by decide +kernel
theorem dX12_locks_68 : decode cX12_locks 68 = .ok (.iand, 1) := by decide +kernel
theorem dX12_locks_69 : decode cX12_locks 69 = .ok (.iastore, 1) := by decide +kernel
theorem dX12_locks_70 : decode cX12_locks 70 = .ok (.return_, 1) := by decide +kernel
theorem dX12_notLocked_0 : decode cX12_notLocked 0 = .ok (.iload_n 1, 1) := by decide +kernel
theorem dX12_notLocked_1 : decode cX12_notLocked 1 = .ok (.invokestatic 248, 3) := by decide +kernel
theorem dX12_notLocked_4 : decode cX12_notLocked 4 = .ok (.ifCond .eq 10, 3) := by decide +kernel
theorem dX12_notLocked_7 : decode cX12_notLocked 7 = .ok (.iload_n 2, 1) := by decide +kernel
theorem dX12_notLocked_8 : decode cX12_notLocked 8 = .ok (.invokestatic 248, 3) := by decide +kernel
theorem dX12_notLocked_11 : decode cX12_notLocked 11 = .ok (.ifCond .ne 5, 3) := by decide +kernel
theorem dX12_notLocked_14 : decode cX12_notLocked 14 = .ok (.iconst 1, 1) := by decide +kernel
theorem dX12_notLocked_15 : decode cX12_notLocked 15 = .ok (.ireturn, 1) := by decide +kernel
theorem dX12_notLocked_16 : decode cX12_notLocked 16 = .ok (.iload_n 1, 1) := by decide +kernel
theorem dX12_notLocked_17 : decode cX12_notLocked 17 = .ok (.iload_n 2, 1) := by decide +kernel
theorem dX12_notLocked_18 : decode cX12_notLocked 18 = .ok (.if_icmp .ne 5, 3) := by decide +kernel
theorem dX12_notLocked_21 : decode cX12_notLocked 21 = .ok (.iconst 2, 1) := by decide +kernel
theorem dX12_notLocked_22 : decode cX12_notLocked 22 = .ok (.ireturn, 1) := by decide +kernel
theorem dX12_notLocked_23 : decode cX12_notLocked 23 = .ok (.aload_n 0, 1) := by decide +kernel
theorem dX12_notLocked_24 : decode cX12_notLocked 24 = .ok (.iload_n 1, 1) := by decide +kernel
theorem dX12_notLocked_25 : decode cX12_notLocked 25 = .ok (.invokevirtual 251, 3) := by decide +kernel
theorem dX12_notLocked_28 : decode cX12_notLocked 28 = .ok (.istore 4, 2) := by decide +kernel
theorem dX12_notLocked_30 : decode cX12_notLocked 30 = .ok (.aload_n 0, 1) := by decide +kernel
theorem dX12_notLocked_31 : decode cX12_notLocked 31 = .ok (.iload_n 2, 1) := by decide +kernel
theorem dX12_notLocked_32 : decode cX12_notLocked 32 = .ok (.invokevirtual 251, 3) := by decide +kernel
theorem dX12_notLocked_35 : decode cX12_notLocked 35 = .ok (.istore 5, 2) := by decide +kernel
theorem dX12_notLocked_37 : decode cX12_notLocked 37 = .ok (.iload_n 3, 1) := by decide +kernel
theorem dX12_notLocked_38 : decode cX12_notLocked 38 = .ok (.ifCond .eq 37, 3) := by decide +kernel
theorem dX12_notLocked_41 : decode cX12_notLocked 41 = .ok (.aload_n 0, 1) := by decide +kernel
theorem dX12_notLocked_42 : decode cX12_notLocked 42 = .ok (.getfield 7, 3) := by decide +kernel
theorem dX12_notLocked_45 : decode cX12_notLocked 45 = .ok (.iload_n 1, 1) := by decide +kernel
theorem dX12_notLocked_46 : decode cX12_notLocked 46 = .ok (.iaload, 1) := by decide +kernel
theorem dX12_notLocked_47 : decode cX12_notLocked 47 = .ok (.iload_n 2, 1) := by decide +kernel
theorem dX12_notLocked_48 : decode cX12_notLocked 48 = .ok (.invokestatic 245, 3) := by decide +kernel
theorem dX12_notLocked_51 : decode cX12_notLocked 51 = .ok (.ifCond .ne 24, 3) := by decide +kernel
theorem dX12_notLocked_54 : decode cX12_notLocked 54 = .ok (.iload 4, 2) := by decide +kernel
theorem dX12_notLocked_56 : decode cX12_notLocked 56 = .ok (.ifCond .lt 19, 3) := by decide +kernel
theorem dX12_notLocked_59 : decode cX12_notLocked 59 = .ok (.iload 5, 2) := by decide +kernel
theorem dX12_notLocked_61 : decode cX12_notLocked 61 = .ok (.ifCond .lt 14, 3) := by decide +kernel
theorem dX12_notLocked_64 : decode cX12_notLocked 64 = .ok (.iload 4, 2) := by decide +kernel
theorem dX12_notLocked_66 : decode cX12_notLocked 66 = .ok (.iload 5, 2) := by decide +kernel
theorem dX12_notLocked_68 : decode cX12_notLocked 68 = .ok (.if_icmp .eq 7, 3) := by decide +kernel
theorem dX12_notLocked_71 : decode cX12_notLocked 71 = .ok (.iconst 3, 1) := by decide +kernel
theorem dX12_notLocked_72 : decode cX12_notLocked 72 = .ok (.goto 4, 3) := by decide +kernel
theorem dX12_notLocked_75 : decode cX12_notLocked 75 = .ok (.iconst 0, 1) := by decide +kernel
theorem dX12_notLocked_76 : decode cX12_notLocked 76 = .ok (.ireturn, 1) := by decide +kernel
theorem dX12_setInterlock_0 : decode cX12_setInterlock 0 = .ok (.aload_n 0, 1) := by decide +kernel
theorem dX12_setInterlock_1 : decode cX12_setInterlock 1 = .ok (.aload_n 0, 1) := by decide +kernel
theorem dX12_setInterlock_2 : decode cX12_setInterlock 2 = .ok (.iload_n 1, 1) := by decide +kernel
theorem dX12_setInterlock_3 : decode cX12_setInterlock 3 = .ok (.iload_n 2, 1) := by decide +kernel
theorem dX12_setInterlock_4 : decode cX12_setInterlock 4 = .ok (.iload_n 3, 1) := by decide +kernel
theorem dX12_setInterlock_5 : decode cX12_setInterlock 5 = .ok (.invokevirtual 254, 3) := by decide +kernel
theorem dX12_setInterlock_8 : decode cX12_setInterlock 8 = .ok (.putfield 139, 3) := by decide +kernel
theorem dX12_setInterlock_11 : decode cX12_setInterlock 11 = .ok (.aload_n 0, 1) := by decide +kernel
theorem dX12_setInterlock_12 : decode cX12_setInterlock 12 = .ok (.getfield 139, 3) := by decide +kernel
theorem dX12_setInterlock_15 : decode cX12_setInterlock 15 = .ok (.ifCond .le 5, 3) := by decide +kernel
theorem dX12_setInterlock_18 : decode cX12_setInterlock 18 = .ok (.iconst 0, 1) := by decide +kernel
theorem dX12_setInterlock_19 : decode cX12_setInterlock 19 = .ok (.ireturn, 1) := by decide +kernel
theorem dX12_setInterlock_20 : decode cX12_setInterlock 20 = .ok (.aload_n 0, 1) := by decide +kernel
theorem dX12_setInterlock_21 : decode cX12_setInterlock 21 = .ok (.getfield 7, 3) := by decide +kernel
theorem dX12_setInterlock_24 : decode cX12_setInterlock 24 = .ok (.iload_n 1, 1) := by decide +kernel
theorem dX12_setInterlock_25 : decode cX12_setInterlock 25 = .ok (.iaload, 1) := by decide +kernel
theorem dX12_setInterlock_26 : decode cX12_setInterlock 26 = .ok (.iload_n 2, 1) := by decide +kernel
theorem dX12_setInterlock_27 : decode cX12_setInterlock 27 = .ok (.invokestatic 245, 3) := by decide +kernel
theorem dX12_setInterlock_30 : decode cX12_setInterlock 30 = .ok (.istore 4, 2) := by decide +kernel
theorem dX12_setInterlock_32 : decode cX12_setInterlock 32 = .ok (.aload_n 0, 1) := by decide +kernel
theorem dX12_setInterlock_33 : decode cX12_setInterlock 33 = .ok (.invokevirtual 258, 3) := by decide +kernel
theorem dX12_setInterlock_36 : decode cX12_setInterlock 36 = .ok (.aload_n 0, 1) := by decide +kernel
theorem dX12_setInterlock_37 : decode cX12_setInterlock 37 = .ok (.iload_n 1, 1) := by decide +kernel
theorem dX12_setInterlock_38 : decode cX12_setInterlock 38 = .ok (.iload_n 2, 1) := by decide +kernel
theorem dX12_setInterlock_39 : decode cX12_setInterlock 39 = .ok (.iload_n 3, 1) := by decide +kernel
theorem dX12_setInterlock_40 : decode cX12_setInterlock 40 = .ok (.invokevirtual 261, 3) := by decide +kernel
theorem dX12_setInterlock_43 : decode cX12_setInterlock 43 = .ok (.iload 4, 2) := by decide +kernel
theorem dX12_setInterlock_45 : decode cX12_setInterlock 45 = .ok (.ireturn, 1) := by decide +kernel
theorem dX12_setReach_0 : decode cX12_setReach 0 = .ok (.iload_n 1, 1) := by decide +kernel
theorem dX12_setReach_1 : decode cX12_setReach 1 = .ok (.invokestatic 265, 3) := by decide +kernel
theorem dX12_setReach_4 : decode cX12_setReach 4 = .ok (.ifCond .ne 9, 3) := by decide +kernel
theorem dX12_setReach_7 : decode cX12_setReach 7 = .ok (.aload_n 0, 1) := by decide +kernel
theorem dX12_setReach_8 : decode cX12_setReach 8 = .ok (.iconst 1, 1) := by decide +kernel
theorem dX12_setReach_9 : decode cX12_setReach 9 = .ok (.invokevirtual 268, 3) := by decide +kernel
theorem dX12_setReach_12 : decode cX12_setReach 12 = .ok (.ireturn, 1) := by decide +kernel
theorem dX12_setReach_13 : decode cX12_setReach 13 = .ok (.iload_n 2, 1) := by decide +kernel
theorem dX12_setReach_14 : decode cX12_setReach 14 = .ok (.iconst 0, 1) := by decide +kernel
theorem dX12_setReach_15 : decode cX12_setReach 15 = .ok (.sipush 255, 3) := by decide +kernel
theorem dX12_setReach_18 : decode cX12_setReach 18 = .ok (.invokestatic 143, 3) := by decide +kernel
theorem dX12_setReach_21 : decode cX12_setReach 21 = .ok (.ifCond .ne 9, 3) := by decide +kernel
theorem dX12_setReach_24 : decode cX12_setReach 24 = .ok (.aload_n 0, 1) := by decide +kernel
theorem dX12_setReach_25 : decode cX12_setReach 25 = .ok (.iconst 2, 1) := by decide +kernel
theorem dX12_setReach_26 : decode cX12_setReach 26 = .ok (.invokevirtual 268, 3) := by decide +kernel
theorem dX12_setReach_29 : decode cX12_setReach 29 = .ok (.ireturn, 1) := by decide +kernel
theorem dX12_setReach_30 : decode cX12_setReach 30 = .ok (.aload_n 0, 1) := by decide +kernel
theorem dX12_setReach_31 : decode cX12_setReach 31 = .ok (.iconst 0, 1) := by decide +kernel
theorem dX12_setReach_32 : decode cX12_setReach 32 = .ok (.putfield 139, 3) := by decide +kernel
theorem dX12_setReach_35 : decode cX12_setReach 35 = .ok (.aload_n 0, 1) := by decide +kernel
theorem dX12_setReach_36 : decode cX12_setReach 36 = .ok (.invokevirtual 258, 3) := by decide +kernel
theorem dX12_setReach_39 : decode cX12_setReach 39 = .ok (.aload_n 0, 1) := by decide +kernel
theorem dX12_setReach_40 : decode cX12_setReach 40 = .ok (.getfield 37, 3) := by decide +kernel
theorem dX12_setReach_43 : decode cX12_setReach 43 = .ok (.iload_n 1, 1) := by decide +kernel
theorem dX12_setReach_44 : decode cX12_setReach 44 = .ok (.iaload, 1) := by decide +kernel
theorem dX12_setReach_45 : decode cX12_setReach 45 = .ok (.istore_n 3, 1) := by decide +kernel
theorem dX12_setReach_46 : decode cX12_setReach 46 = .ok (.aload_n 0, 1) := by decide +kernel
theorem dX12_setReach_47 : decode cX12_setReach 47 = .ok (.getfield 37, 3) := by decide +kernel
theorem dX12_setReach_50 : decode cX12_setReach 50 = .ok (.iload_n 1, 1) := by decide +kernel
theorem dX12_setReach_51 : decode cX12_setReach 51 = .ok (.iload_n 2, 1) := by decide +kernel
theorem dX12_setReach_52 : decode cX12_setReach 52 = .ok (.iastore, 1) := by decide +kernel
theorem dX12_setReach_53 : decode cX12_setReach 53 = .ok (.iload_n 3, 1) := by decide +kernel
theorem dX12_setReach_54 : decode cX12_setReach 54 = .ok (.ireturn, 1) := by decide +kernel
theorem dX12_setCapacity_0 : decode cX12_setCapacity 0 = .ok (.iload_n 1, 1) := by decide +kernel
theorem dX12_setCapacity_1 : decode cX12_setCapacity 1 = .ok (.invokestatic 271, 3) := by decide +kernel
theorem dX12_setCapacity_4 : decode cX12_setCapacity 4 = .ok (.ifCond .ne 9, 3) := by decide +kernel
theorem dX12_setCapacity_7 : decode cX12_setCapacity 7 = .ok (.aload_n 0, 1) := by decide +kernel
theorem dX12_setCapacity_8 : decode cX12_setCapacity 8 = .ok (.iconst 1, 1) := by decide +kernel
theorem dX12_setCapacity_9 : decode cX12_setCapacity 9 = .ok (.invokevirtual 268, 3) := by decide +kernel
theorem dX12_setCapacity_12 : decode cX12_setCapacity 12 = .ok (.ireturn, 1) := by decide +kernel
theorem dX12_setCapacity_13 : decode cX12_setCapacity 13 = .ok (.iload_n 2, 1) := by decide +kernel
theorem dX12_setCapacity_14 : decode cX12_setCapacity 14 = .ok (.iconst 1, 1) := by decide +kernel
theorem dX12_setCapacity_15 : decode cX12_setCapacity 15 = .ok (.iconst 4, 1) := by decide +kernel
theorem dX12_setCapacity_16 : decode cX12_setCapacity 16 = .ok (.invokestatic 143, 3) := by decide +kernel
theorem dX12_setCapacity_19 : decode cX12_setCapacity 19 = .ok (.ifCond .ne 9, 3) := by decide +kernel
theorem dX12_setCapacity_22 : decode cX12_setCapacity 22 = .ok (.aload_n 0, 1) := by decide +kernel
theorem dX12_setCapacity_23 : decode cX12_setCapacity 23 = .ok (.iconst 2, 1) := by decide +kernel
theorem dX12_setCapacity_24 : decode cX12_setCapacity 24 = .ok (.invokevirtual 268, 3) := by decide +kernel
theorem dX12_setCapacity_27 : decode cX12_setCapacity 27 = .ok (.ireturn, 1) := by decide +kernel
theorem dX12_setCapacity_28 : decode cX12_setCapacity 28 = .ok (.aload_n 0, 1) := by decide +kernel
theorem dX12_setCapacity_29 : decode cX12_setCapacity 29 = .ok (.getfield 19, 3) := by decide +kernel
theorem dX12_setCapacity_32 : decode cX12_setCapacity 32 = .ok (.iload_n 1, 1) := by decide +kernel
theorem dX12_setCapacity_33 : decode cX12_setCapacity 33 = .ok (.iaload, 1) := by decide +kernel
theorem dX12_setCapacity_34 : decode cX12_setCapacity 34 = .ok (.aload_n 0, 1) := by decide +kernel
theorem dX12_setCapacity_35 : decode cX12_setCapacity 35 = .ok (.getfield 25, 3) := by decide +kernel
theorem dX12_setCapacity_38 : decode cX12_setCapacity 38 = .ok (.iload_n 1, 1) := by decide +kernel
theorem dX12_setCapacity_39 : decode cX12_setCapacity 39 = .ok (.iaload, 1) := by decide +kernel
theorem dX12_setCapacity_40 : decode cX12_setCapacity 40 = .ok (.iadd, 1) := by decide +kernel
theorem dX12_setCapacity_41 : decode cX12_setCapacity 41 = .ok (.iload_n 2, 1) := by decide +kernel
theorem dX12_setCapacity_42 : decode cX12_setCapacity 42 = .ok (.if_icmp .le 9, 3) := by decide +kernel
theorem dX12_setCapacity_45 : decode cX12_setCapacity 45 = .ok (.aload_n 0, 1) := by decide +kernel
theorem dX12_setCapacity_46 : decode cX12_setCapacity 46 = .ok (.iconst 3, 1) := by decide +kernel
theorem dX12_setCapacity_47 : decode cX12_setCapacity 47 = .ok (.invokevirtual 268, 3) := by decide +kernel
theorem dX12_setCapacity_50 : decode cX12_setCapacity 50 = .ok (.ireturn, 1) := by decide +kernel
theorem dX12_setCapacity_51 : decode cX12_setCapacity 51 = .ok (.aload_n 0, 1) := by decide +kernel
theorem dX12_setCapacity_52 : decode cX12_setCapacity 52 = .ok (.iconst 0, 1) := by decide +kernel
theorem dX12_setCapacity_53 : decode cX12_setCapacity 53 = .ok (.putfield 139, 3) := by decide +kernel
theorem dX12_setCapacity_56 : decode cX12_setCapacity 56 = .ok (.aload_n 0, 1) := by decide +kernel
theorem dX12_setCapacity_57 : decode cX12_setCapacity 57 = .ok (.invokevirtual 258, 3) := by decide +kernel
theorem dX12_setCapacity_60 : decode cX12_setCapacity 60 = .ok (.aload_n 0, 1) := by decide +kernel
theorem dX12_setCapacity_61 : decode cX12_setCapacity 61 = .ok (.getfield 16, 3) := by decide +kernel
theorem dX12_setCapacity_64 : decode cX12_setCapacity 64 = .ok (.iload_n 1, 1) := by decide +kernel
theorem dX12_setCapacity_65 : decode cX12_setCapacity 65 = .ok (.iaload, 1) := by decide +kernel
theorem dX12_setCapacity_66 : decode cX12_setCapacity 66 = .ok (.istore_n 3, 1) := by decide +kernel
theorem dX12_setCapacity_67 : decode cX12_setCapacity 67 = .ok (.aload_n 0, 1) := by decide +kernel
theorem dX12_setCapacity_68 : decode cX12_setCapacity 68 = .ok (.getfield 16, 3) := by decide +kernel
theorem dX12_setCapacity_71 : decode cX12_setCapacity 71 = .ok (.iload_n 1, 1) := by decide +kernel
theorem dX12_setCapacity_72 : decode cX12_setCapacity 72 = .ok (.iload_n 2, 1) := by decide +kernel
theorem dX12_setCapacity_73 : decode cX12_setCapacity 73 = .ok (.iastore, 1) := by decide +kernel
theorem dX12_setCapacity_74 : decode cX12_setCapacity 74 = .ok (.iload_n 3, 1) := by decide +kernel
theorem dX12_setCapacity_75 : decode cX12_setCapacity 75 = .ok (.ireturn, 1) := by decide +kernel
theorem dX12_supply_0 : decode cX12_supply 0 = .ok (.iload_n 1, 1) := by decide +kernel
theorem dX12_supply_1 : decode cX12_supply 1 = .ok (.invokestatic 271, 3) := by decide +kernel
theorem dX12_supply_4 : decode cX12_supply 4 = .ok (.ifCond .ne 9, 3) := by decide +kernel
theorem dX12_supply_7 : decode cX12_supply 7 = .ok (.aload_n 0, 1) := by decide +kernel
theorem dX12_supply_8 : decode cX12_supply 8 = .ok (.iconst 1, 1) := by decide +kernel
theorem dX12_supply_9 : decode cX12_supply 9 = .ok (.invokevirtual 268, 3) := by decide +kernel
theorem dX12_supply_12 : decode cX12_supply 12 = .ok (.ireturn, 1) := by decide +kernel
theorem dX12_supply_13 : decode cX12_supply 13 = .ok (.aload_n 0, 1) := by decide +kernel
theorem dX12_supply_14 : decode cX12_supply 14 = .ok (.getfield 19, 3) := by decide +kernel
theorem dX12_supply_17 : decode cX12_supply 17 = .ok (.iload_n 1, 1) := by decide +kernel
theorem dX12_supply_18 : decode cX12_supply 18 = .ok (.iaload, 1) := by decide +kernel
theorem dX12_supply_19 : decode cX12_supply 19 = .ok (.aload_n 0, 1) := by decide +kernel
theorem dX12_supply_20 : decode cX12_supply 20 = .ok (.getfield 25, 3) := by decide +kernel
theorem dX12_supply_23 : decode cX12_supply 23 = .ok (.iload_n 1, 1) := by decide +kernel
theorem dX12_supply_24 : decode cX12_supply 24 = .ok (.iaload, 1) := by decide +kernel
theorem dX12_supply_25 : decode cX12_supply 25 = .ok (.iadd, 1) := by decide +kernel
theorem dX12_supply_26 : decode cX12_supply 26 = .ok (.aload_n 0, 1) := by decide +kernel
theorem dX12_supply_27 : decode cX12_supply 27 = .ok (.getfield 16, 3) := by decide +kernel
theorem dX12_supply_30 : decode cX12_supply 30 = .ok (.iload_n 1, 1) := by decide +kernel
theorem dX12_supply_31 : decode cX12_supply 31 = .ok (.iaload, 1) := by decide +kernel
theorem dX12_supply_32 : decode cX12_supply 32 = .ok (.if_icmp .lt 9, 3) := by decide +kernel
theorem dX12_supply_35 : decode cX12_supply 35 = .ok (.aload_n 0, 1) := by decide +kernel
theorem dX12_supply_36 : decode cX12_supply 36 = .ok (.iconst 2, 1) := by decide +kernel
theorem dX12_supply_37 : decode cX12_supply 37 = .ok (.invokevirtual 268, 3) := by decide +kernel
theorem dX12_supply_40 : decode cX12_supply 40 = .ok (.ireturn, 1) := by decide +kernel
theorem dX12_supply_41 : decode cX12_supply 41 = .ok (.aload_n 0, 1) := by decide +kernel
theorem dX12_supply_42 : decode cX12_supply 42 = .ok (.iconst 0, 1) := by decide +kernel
theorem dX12_supply_43 : decode cX12_supply 43 = .ok (.putfield 139, 3) := by decide +kernel
theorem dX12_supply_46 : decode cX12_supply 46 = .ok (.aload_n 0, 1) := by decide +kernel
theorem dX12_supply_47 : decode cX12_supply 47 = .ok (.invokevirtual 258, 3) := by decide +kernel
theorem dX12_supply_50 : decode cX12_supply 50 = .ok (.aload_n 0, 1) := by decide +kernel
theorem dX12_supply_51 : decode cX12_supply 51 = .ok (.iload_n 1, 1) := by decide +kernel
theorem dX12_supply_52 : decode cX12_supply 52 = .ok (.aload_n 0, 1) := by decide +kernel
theorem dX12_supply_53 : decode cX12_supply 53 = .ok (.getfield 223, 3) := by decide +kernel
theorem dX12_supply_56 : decode cX12_supply 56 = .ok (.invokevirtual 226, 3) := by decide +kernel
theorem dX12_supply_59 : decode cX12_supply 59 = .ok (.aload_n 0, 1) := by decide +kernel
theorem dX12_supply_60 : decode cX12_supply 60 = .ok (.dup, 1) := by decide +kernel
theorem dX12_supply_61 : decode cX12_supply 61 = .ok (.getfield 223, 3) := by decide +kernel
theorem dX12_supply_64 : decode cX12_supply 64 = .ok (.iconst 1, 1) := by decide +kernel
theorem dX12_supply_65 : decode cX12_supply 65 = .ok (.iadd, 1) := by decide +kernel
theorem dX12_supply_66 : decode cX12_supply 66 = .ok (.putfield 223, 3) := by decide +kernel
theorem dX12_supply_69 : decode cX12_supply 69 = .ok (.aload_n 0, 1) := by decide +kernel
theorem dX12_supply_70 : decode cX12_supply 70 = .ok (.getfield 223, 3) := by decide +kernel
theorem dX12_supply_73 : decode cX12_supply 73 = .ok (.iconst 1, 1) := by decide +kernel
theorem dX12_supply_74 : decode cX12_supply 74 = .ok (.isub, 1) := by decide +kernel
theorem dX12_supply_75 : decode cX12_supply 75 = .ok (.ireturn, 1) := by decide +kernel
theorem dX12_zone_0 : decode cX12_zone 0 = .ok (.iload_n 1, 1) := by decide +kernel
theorem dX12_zone_1 : decode cX12_zone 1 = .ok (.invokestatic 248, 3) := by decide +kernel
theorem dX12_zone_4 : decode cX12_zone 4 = .ok (.ifCond .ne 9, 3) := by decide +kernel
theorem dX12_zone_7 : decode cX12_zone 7 = .ok (.aload_n 0, 1) := by decide +kernel
theorem dX12_zone_8 : decode cX12_zone 8 = .ok (.iconst 1, 1) := by decide +kernel
theorem dX12_zone_9 : decode cX12_zone 9 = .ok (.invokevirtual 268, 3) := by decide +kernel
theorem dX12_zone_12 : decode cX12_zone 12 = .ok (.ireturn, 1) := by decide +kernel
theorem dX12_zone_13 : decode cX12_zone 13 = .ok (.iload_n 2, 1) := by decide +kernel
theorem dX12_zone_14 : decode cX12_zone 14 = .ok (.iconst 0, 1) := by decide +kernel
theorem dX12_zone_15 : decode cX12_zone 15 = .ok (.iconst 4, 1) := by decide +kernel
theorem dX12_zone_16 : decode cX12_zone 16 = .ok (.invokestatic 143, 3) := by decide +kernel
theorem dX12_zone_19 : decode cX12_zone 19 = .ok (.ifCond .ne 9, 3) := by decide +kernel
theorem dX12_zone_22 : decode cX12_zone 22 = .ok (.aload_n 0, 1) := by decide +kernel
theorem dX12_zone_23 : decode cX12_zone 23 = .ok (.iconst 2, 1) := by decide +kernel
theorem dX12_zone_24 : decode cX12_zone 24 = .ok (.invokevirtual 268, 3) := by decide +kernel
theorem dX12_zone_27 : decode cX12_zone 27 = .ok (.ireturn, 1) := by decide +kernel
theorem dX12_zone_28 : decode cX12_zone 28 = .ok (.aload_n 0, 1) := by decide +kernel
theorem dX12_zone_29 : decode cX12_zone 29 = .ok (.iconst 0, 1) := by decide +kernel
theorem dX12_zone_30 : decode cX12_zone 30 = .ok (.putfield 139, 3) := by decide +kernel
theorem dX12_zone_33 : decode cX12_zone 33 = .ok (.iconst 0, 1) := by decide +kernel
theorem dX12_zone_34 : decode cX12_zone 34 = .ok (.istore_n 3, 1) := by decide +kernel
theorem dX12_zone_35 : decode cX12_zone 35 = .ok (.iload_n 2, 1) := by decide +kernel
theorem dX12_zone_36 : decode cX12_zone 36 = .ok (.tableswitch 129 0 3 #[32, 38, 44, 86], 32) := by decide +kernel
theorem dX12_zone_68 : decode cX12_zone 68 = .ok (.aload_n 0, 1) := by decide +kernel
theorem dX12_zone_69 : decode cX12_zone 69 = .ok (.iload_n 1, 1) := by decide +kernel
theorem dX12_zone_70 : decode cX12_zone 70 = .ok (.invokevirtual 251, 3) := by decide +kernel
theorem dX12_zone_73 : decode cX12_zone 73 = .ok (.ireturn, 1) := by decide +kernel
theorem dX12_zone_74 : decode cX12_zone 74 = .ok (.aload_n 0, 1) := by decide +kernel
theorem dX12_zone_75 : decode cX12_zone 75 = .ok (.iload_n 1, 1) := by decide +kernel
theorem dX12_zone_76 : decode cX12_zone 76 = .ok (.invokevirtual 164, 3) := by decide +kernel
theorem dX12_zone_79 : decode cX12_zone 79 = .ok (.ireturn, 1) := by decide +kernel
theorem dX12_zone_80 : decode cX12_zone 80 = .ok (.iconst 0, 1) := by decide +kernel
theorem dX12_zone_81 : decode cX12_zone 81 = .ok (.istore 4, 2) := by decide +kernel
theorem dX12_zone_83 : decode cX12_zone 83 = .ok (.iload 4, 2) := by decide +kernel
theorem dX12_zone_85 : decode cX12_zone 85 = .ok (.iconst 3, 1) := by decide +kernel
theorem dX12_zone_86 : decode cX12_zone 86 = .ok (.if_icmp .ge 34, 3) := by decide +kernel
theorem dX12_zone_89 : decode cX12_zone 89 = .ok (.iload_n 3, 1) := by decide +kernel
theorem dX12_zone_90 : decode cX12_zone 90 = .ok (.aload_n 0, 1) := by decide +kernel
theorem dX12_zone_91 : decode cX12_zone 91 = .ok (.getfield 37, 3) := by decide +kernel
theorem dX12_zone_94 : decode cX12_zone 94 = .ok (.iload 4, 2) := by decide +kernel
theorem dX12_zone_96 : decode cX12_zone 96 = .ok (.iaload, 1) := by decide +kernel
theorem dX12_zone_97 : decode cX12_zone 97 = .ok (.iload_n 1, 1) := by decide +kernel
theorem dX12_zone_98 : decode cX12_zone 98 = .ok (.invokestatic 245, 3) := by decide +kernel
theorem dX12_zone_101 : decode cX12_zone 101 = .ok (.ifCond .eq 10, 3) := by decide +kernel
theorem dX12_zone_104 : decode cX12_zone 104 = .ok (.iconst 1, 1) := by decide +kernel
theorem dX12_zone_105 : decode cX12_zone 105 = .ok (.iload 4, 2) := by decide +kernel
theorem dX12_zone_107 : decode cX12_zone 107 = .ok (.ishl, 1) := by decide +kernel
theorem dX12_zone_108 : decode cX12_zone 108 = .ok (.goto 4, 3) := by decide +kernel
theorem dX12_zone_111 : decode cX12_zone 111 = .ok (.iconst 0, 1) := by decide +kernel
theorem dX12_zone_112 : decode cX12_zone 112 = .ok (.ior, 1) := by decide +kernel
theorem dX12_zone_113 : decode cX12_zone 113 = .ok (.istore_n 3, 1) := by decide +kernel
theorem dX12_zone_114 : decode cX12_zone 114 = .ok (.iinc 4 1, 3) := by decide +kernel
theorem dX12_zone_117 : decode cX12_zone 117 = .ok (.goto (-34), 3) := by decide +kernel
theorem dX12_zone_120 : decode cX12_zone 120 = .ok (.iload_n 3, 1) := by decide +kernel
theorem dX12_zone_121 : decode cX12_zone 121 = .ok (.ireturn, 1) := by decide +kernel
theorem dX12_zone_122 : decode cX12_zone 122 = .ok (.iconst 0, 1) := by decide +kernel
theorem dX12_zone_123 : decode cX12_zone 123 = .ok (.istore 4, 2) := by decide +kernel
theorem dX12_zone_125 : decode cX12_zone 125 = .ok (.iload 4, 2) := by decide +kernel
theorem dX12_zone_127 : decode cX12_zone 127 = .ok (.iconst 3, 1) := by decide +kernel
theorem dX12_zone_128 : decode cX12_zone 128 = .ok (.if_icmp .ge 35, 3) := by decide +kernel
theorem dX12_zone_131 : decode cX12_zone 131 = .ok (.iload_n 3, 1) := by decide +kernel
theorem dX12_zone_132 : decode cX12_zone 132 = .ok (.aload_n 0, 1) := by decide +kernel
theorem dX12_zone_133 : decode cX12_zone 133 = .ok (.iload 4, 2) := by decide +kernel
theorem dX12_zone_135 : decode cX12_zone 135 = .ok (.invokevirtual 161, 3) := by decide +kernel
theorem dX12_zone_138 : decode cX12_zone 138 = .ok (.aload_n 0, 1) := by decide +kernel
theorem dX12_zone_139 : decode cX12_zone 139 = .ok (.iload_n 1, 1) := by decide +kernel
theorem dX12_zone_140 : decode cX12_zone 140 = .ok (.invokevirtual 164, 3) := by decide +kernel
theorem dX12_zone_143 : decode cX12_zone 143 = .ok (.iand, 1) := by decide +kernel
theorem dX12_zone_144 : decode cX12_zone 144 = .ok (.ifCond .eq 10, 3) := by decide +kernel
theorem dX12_zone_147 : decode cX12_zone 147 = .ok (.iconst 1, 1) := by decide +kernel
theorem dX12_zone_148 : decode cX12_zone 148 = .ok (.iload 4, 2) := by decide +kernel
theorem dX12_zone_150 : decode cX12_zone 150 = .ok (.ishl, 1) := by decide +kernel
theorem dX12_zone_151 : decode cX12_zone 151 = .ok (.goto 4, 3) := by decide +kernel
theorem dX12_zone_154 : decode cX12_zone 154 = .ok (.iconst 0, 1) := by decide +kernel
theorem dX12_zone_155 : decode cX12_zone 155 = .ok (.ior, 1) := by decide +kernel
theorem dX12_zone_156 : decode cX12_zone 156 = .ok (.istore_n 3, 1) := by decide +kernel
theorem dX12_zone_157 : decode cX12_zone 157 = .ok (.iinc 4 1, 3) := by decide +kernel
theorem dX12_zone_160 : decode cX12_zone 160 = .ok (.goto (-35), 3) := by decide +kernel
theorem dX12_zone_163 : decode cX12_zone 163 = .ok (.iload_n 3, 1) := by decide +kernel
theorem dX12_zone_164 : decode cX12_zone 164 = .ok (.ireturn, 1) := by decide +kernel
theorem dX12_zone_165 : decode cX12_zone 165 = .ok (.aload_n 0, 1) := by decide +kernel
theorem dX12_zone_166 : decode cX12_zone 166 = .ok (.getfield 13, 3) := by decide +kernel
theorem dX12_zone_169 : decode cX12_zone 169 = .ok (.iload_n 1, 1) := by decide +kernel
theorem dX12_zone_170 : decode cX12_zone 170 = .ok (.iaload, 1) := by decide +kernel
theorem dX12_zone_171 : decode cX12_zone 171 = .ok (.ireturn, 1) := by decide +kernel
theorem dX12_buffer_0 : decode cX12_buffer 0 = .ok (.iload_n 1, 1) := by decide +kernel
theorem dX12_buffer_1 : decode cX12_buffer 1 = .ok (.invokestatic 271, 3) := by decide +kernel
theorem dX12_buffer_4 : decode cX12_buffer 4 = .ok (.ifCond .ne 9, 3) := by decide +kernel
theorem dX12_buffer_7 : decode cX12_buffer 7 = .ok (.aload_n 0, 1) := by decide +kernel
theorem dX12_buffer_8 : decode cX12_buffer 8 = .ok (.iconst 1, 1) := by decide +kernel
theorem dX12_buffer_9 : decode cX12_buffer 9 = .ok (.invokevirtual 268, 3) := by decide +kernel
theorem dX12_buffer_12 : decode cX12_buffer 12 = .ok (.ireturn, 1) := by decide +kernel
theorem dX12_buffer_13 : decode cX12_buffer 13 = .ok (.iload_n 2, 1) := by decide +kernel
theorem dX12_buffer_14 : decode cX12_buffer 14 = .ok (.iconst 0, 1) := by decide +kernel
theorem dX12_buffer_15 : decode cX12_buffer 15 = .ok (.iconst 5, 1) := by decide +kernel
theorem dX12_buffer_16 : decode cX12_buffer 16 = .ok (.invokestatic 143, 3) := by decide +kernel
theorem dX12_buffer_19 : decode cX12_buffer 19 = .ok (.ifCond .ne 9, 3) := by decide +kernel
theorem dX12_buffer_22 : decode cX12_buffer 22 = .ok (.aload_n 0, 1) := by decide +kernel
theorem dX12_buffer_23 : decode cX12_buffer 23 = .ok (.iconst 2, 1) := by decide +kernel
theorem dX12_buffer_24 : decode cX12_buffer 24 = .ok (.invokevirtual 268, 3) := by decide +kernel
theorem dX12_buffer_27 : decode cX12_buffer 27 = .ok (.ireturn, 1) := by decide +kernel
theorem dX12_buffer_28 : decode cX12_buffer 28 = .ok (.aload_n 0, 1) := by decide +kernel
theorem dX12_buffer_29 : decode cX12_buffer 29 = .ok (.iconst 0, 1) := by decide +kernel
theorem dX12_buffer_30 : decode cX12_buffer 30 = .ok (.putfield 139, 3) := by decide +kernel
theorem dX12_buffer_33 : decode cX12_buffer 33 = .ok (.iload_n 2, 1) := by decide +kernel
theorem dX12_buffer_34 : decode cX12_buffer 34 = .ok (.tableswitch 69 0 4 #[34, 41, 48, 55, 62], 34) := by decide +kernel
theorem dX12_buffer_68 : decode cX12_buffer 68 = .ok (.aload_n 0, 1) := by decide +kernel
theorem dX12_buffer_69 : decode cX12_buffer 69 = .ok (.getfield 16, 3) := by decide +kernel
theorem dX12_buffer_72 : decode cX12_buffer 72 = .ok (.iload_n 1, 1) := by decide +kernel
theorem dX12_buffer_73 : decode cX12_buffer 73 = .ok (.iaload, 1) := by decide +kernel
theorem dX12_buffer_74 : decode cX12_buffer 74 = .ok (.ireturn, 1) := by decide +kernel
theorem dX12_buffer_75 : decode cX12_buffer 75 = .ok (.aload_n 0, 1) := by decide +kernel
theorem dX12_buffer_76 : decode cX12_buffer 76 = .ok (.getfield 19, 3) := by decide +kernel
theorem dX12_buffer_79 : decode cX12_buffer 79 = .ok (.iload_n 1, 1) := by decide +kernel
theorem dX12_buffer_80 : decode cX12_buffer 80 = .ok (.iaload, 1) := by decide +kernel
theorem dX12_buffer_81 : decode cX12_buffer 81 = .ok (.ireturn, 1) := by decide +kernel
theorem dX12_buffer_82 : decode cX12_buffer 82 = .ok (.aload_n 0, 1) := by decide +kernel
theorem dX12_buffer_83 : decode cX12_buffer 83 = .ok (.getfield 25, 3) := by decide +kernel
theorem dX12_buffer_86 : decode cX12_buffer 86 = .ok (.iload_n 1, 1) := by decide +kernel
theorem dX12_buffer_87 : decode cX12_buffer 87 = .ok (.iaload, 1) := by decide +kernel
theorem dX12_buffer_88 : decode cX12_buffer 88 = .ok (.ireturn, 1) := by decide +kernel
theorem dX12_buffer_89 : decode cX12_buffer 89 = .ok (.aload_n 0, 1) := by decide +kernel
theorem dX12_buffer_90 : decode cX12_buffer 90 = .ok (.getfield 28, 3) := by decide +kernel
theorem dX12_buffer_93 : decode cX12_buffer 93 = .ok (.iload_n 1, 1) := by decide +kernel
theorem dX12_buffer_94 : decode cX12_buffer 94 = .ok (.iaload, 1) := by decide +kernel
theorem dX12_buffer_95 : decode cX12_buffer 95 = .ok (.ireturn, 1) := by decide +kernel
theorem dX12_buffer_96 : decode cX12_buffer 96 = .ok (.aload_n 0, 1) := by decide +kernel
theorem dX12_buffer_97 : decode cX12_buffer 97 = .ok (.getfield 31, 3) := by decide +kernel
theorem dX12_buffer_100 : decode cX12_buffer 100 = .ok (.iload_n 1, 1) := by decide +kernel
theorem dX12_buffer_101 : decode cX12_buffer 101 = .ok (.iaload, 1) := by decide +kernel
theorem dX12_buffer_102 : decode cX12_buffer 102 = .ok (.ireturn, 1) := by decide +kernel
theorem dX12_buffer_103 : decode cX12_buffer 103 = .ok (.aload_n 0, 1) := by decide +kernel
theorem dX12_buffer_104 : decode cX12_buffer 104 = .ok (.getfield 34, 3) := by decide +kernel
theorem dX12_buffer_107 : decode cX12_buffer 107 = .ok (.iload_n 1, 1) := by decide +kernel
theorem dX12_buffer_108 : decode cX12_buffer 108 = .ok (.iaload, 1) := by decide +kernel
theorem dX12_buffer_109 : decode cX12_buffer 109 = .ok (.ireturn, 1) := by decide +kernel
theorem dX12_part_0 : decode cX12_part 0 = .ok (.iload_n 1, 1) := by decide +kernel
theorem dX12_part_1 : decode cX12_part 1 = .ok (.invokestatic 271, 3) := by decide +kernel
theorem dX12_part_4 : decode cX12_part 4 = .ok (.ifCond .ne 9, 3) := by decide +kernel
theorem dX12_part_7 : decode cX12_part 7 = .ok (.aload_n 0, 1) := by decide +kernel
theorem dX12_part_8 : decode cX12_part 8 = .ok (.iconst 1, 1) := by decide +kernel
theorem dX12_part_9 : decode cX12_part 9 = .ok (.invokevirtual 268, 3) := by decide +kernel
theorem dX12_part_12 : decode cX12_part 12 = .ok (.ireturn, 1) := by decide +kernel
theorem dX12_part_13 : decode cX12_part 13 = .ok (.iload_n 2, 1) := by decide +kernel
theorem dX12_part_14 : decode cX12_part 14 = .ok (.iconst 0, 1) := by decide +kernel
theorem dX12_part_15 : decode cX12_part 15 = .ok (.aload_n 0, 1) := by decide +kernel
theorem dX12_part_16 : decode cX12_part 16 = .ok (.getfield 19, 3) := by decide +kernel
theorem dX12_part_19 : decode cX12_part 19 = .ok (.iload_n 1, 1) := by decide +kernel
theorem dX12_part_20 : decode cX12_part 20 = .ok (.iaload, 1) := by decide +kernel
theorem dX12_part_21 : decode cX12_part 21 = .ok (.iconst 1, 1) := by decide +kernel
theorem dX12_part_22 : decode cX12_part 22 = .ok (.isub, 1) := by decide +kernel
theorem dX12_part_23 : decode cX12_part 23 = .ok (.invokestatic 143, 3) := by decide +kernel
theorem dX12_part_26 : decode cX12_part 26 = .ok (.ifCond .ne 9, 3) := by decide +kernel
theorem dX12_part_29 : decode cX12_part 29 = .ok (.aload_n 0, 1) := by decide +kernel
theorem dX12_part_30 : decode cX12_part 30 = .ok (.iconst 2, 1) := by decide +kernel
theorem dX12_part_31 : decode cX12_part 31 = .ok (.invokevirtual 268, 3) := by decide +kernel
theorem dX12_part_34 : decode cX12_part 34 = .ok (.ireturn, 1) := by decide +kernel
theorem dX12_part_35 : decode cX12_part 35 = .ok (.aload_n 0, 1) := by decide +kernel
theorem dX12_part_36 : decode cX12_part 36 = .ok (.iconst 0, 1) := by decide +kernel
theorem dX12_part_37 : decode cX12_part 37 = .ok (.putfield 139, 3) := by decide +kernel
theorem dX12_part_40 : decode cX12_part 40 = .ok (.aload_n 0, 1) := by decide +kernel
theorem dX12_part_41 : decode cX12_part 41 = .ok (.getfield 22, 3) := by decide +kernel
theorem dX12_part_44 : decode cX12_part 44 = .ok (.iconst 4, 1) := by decide +kernel
theorem dX12_part_45 : decode cX12_part 45 = .ok (.iload_n 1, 1) := by decide +kernel
theorem dX12_part_46 : decode cX12_part 46 = .ok (.imul, 1) := by decide +kernel
theorem dX12_part_47 : decode cX12_part 47 = .ok (.iload_n 2, 1) := by decide +kernel
theorem dX12_part_48 : decode cX12_part 48 = .ok (.iadd, 1) := by decide +kernel
theorem dX12_part_49 : decode cX12_part 49 = .ok (.iaload, 1) := by decide +kernel
theorem dX12_part_50 : decode cX12_part 50 = .ok (.ireturn, 1) := by decide +kernel
theorem dX12_digitsOf_0 : decode cX12_digitsOf 0 = .ok (.iconst 0, 1) := by decide +kernel
theorem dX12_digitsOf_1 : decode cX12_digitsOf 1 = .ok (.istore_n 1, 1) := by decide +kernel
theorem dX12_digitsOf_2 : decode cX12_digitsOf 2 = .ok (.iload_n 0, 1) := by decide +kernel
theorem dX12_digitsOf_3 : decode cX12_digitsOf 3 = .ok (.istore_n 2, 1) := by decide +kernel
theorem dX12_digitsOf_4 : decode cX12_digitsOf 4 = .ok (.iload_n 2, 1) := by decide +kernel
theorem dX12_digitsOf_5 : decode cX12_digitsOf 5 = .ok (.ifCond .le 14, 3) := by decide +kernel
theorem dX12_digitsOf_8 : decode cX12_digitsOf 8 = .ok (.iinc 1 1, 3) := by decide +kernel
theorem dX12_digitsOf_11 : decode cX12_digitsOf 11 = .ok (.iload_n 2, 1) := by decide +kernel
theorem dX12_digitsOf_12 : decode cX12_digitsOf 12 = .ok (.bipush 10, 2) := by decide +kernel
theorem dX12_digitsOf_14 : decode cX12_digitsOf 14 = .ok (.idiv, 1) := by decide +kernel
theorem dX12_digitsOf_15 : decode cX12_digitsOf 15 = .ok (.istore_n 2, 1) := by decide +kernel
theorem dX12_digitsOf_16 : decode cX12_digitsOf 16 = .ok (.goto (-12), 3) := by decide +kernel
theorem dX12_digitsOf_19 : decode cX12_digitsOf 19 = .ok (.iload_n 1, 1) := by decide +kernel
theorem dX12_digitsOf_20 : decode cX12_digitsOf 20 = .ok (.ireturn, 1) := by decide +kernel
theorem dX12_setOf_0 : decode cX12_setOf 0 = .ok (.iload_n 0, 1) := by decide +kernel
theorem dX12_setOf_1 : decode cX12_setOf 1 = .ok (.ifCond .le 11, 3) := by decide +kernel
theorem dX12_setOf_4 : decode cX12_setOf 4 = .ok (.iload_n 0, 1) := by decide +kernel
theorem dX12_setOf_5 : decode cX12_setOf 5 = .ok (.invokestatic 274, 3) := by decide +kernel
theorem dX12_setOf_8 : decode cX12_setOf 8 = .ok (.iconst 5, 1) := by decide +kernel
theorem dX12_setOf_9 : decode cX12_setOf 9 = .ok (.if_icmp .le 5, 3) := by decide +kernel
theorem dX12_setOf_12 : decode cX12_setOf 12 = .ok (.iconst (-1), 1) := by decide +kernel
theorem dX12_setOf_13 : decode cX12_setOf 13 = .ok (.ireturn, 1) := by decide +kernel
theorem dX12_setOf_14 : decode cX12_setOf 14 = .ok (.iconst 0, 1) := by decide +kernel
theorem dX12_setOf_15 : decode cX12_setOf 15 = .ok (.istore_n 1, 1) := by decide +kernel
theorem dX12_setOf_16 : decode cX12_setOf 16 = .ok (.iconst (-1), 1) := by decide +kernel
theorem dX12_setOf_17 : decode cX12_setOf 17 = .ok (.istore_n 2, 1) := by decide +kernel
theorem dX12_setOf_18 : decode cX12_setOf 18 = .ok (.iload_n 0, 1) := by decide +kernel
theorem dX12_setOf_19 : decode cX12_setOf 19 = .ok (.istore_n 3, 1) := by decide +kernel
theorem dX12_setOf_20 : decode cX12_setOf 20 = .ok (.iload_n 3, 1) := by decide +kernel
theorem dX12_setOf_21 : decode cX12_setOf 21 = .ok (.ifCond .le 48, 3) := by decide +kernel
theorem dX12_setOf_24 : decode cX12_setOf 24 = .ok (.iload_n 3, 1) := by decide +kernel
theorem dX12_setOf_25 : decode cX12_setOf 25 = .ok (.bipush 10, 2) := by decide +kernel
theorem dX12_setOf_27 : decode cX12_setOf 27 = .ok (.irem, 1) := by decide +kernel
theorem dX12_setOf_28 : decode cX12_setOf 28 = .ok (.istore 4, 2) := by decide +kernel
theorem dX12_setOf_30 : decode cX12_setOf 30 = .ok (.iload 4, 2) := by decide +kernel
theorem dX12_setOf_32 : decode cX12_setOf 32 = .ok (.iconst 1, 1) := by decide +kernel
theorem dX12_setOf_33 : decode cX12_setOf 33 = .ok (.bipush 8, 2) := by decide +kernel
theorem dX12_setOf_35 : decode cX12_setOf 35 = .ok (.invokestatic 143, 3) := by decide +kernel
theorem dX12_setOf_38 : decode cX12_setOf 38 = .ok (.ifCond .eq 9, 3) := by decide +kernel
theorem dX12_setOf_41 : decode cX12_setOf 41 = .ok (.iload 4, 2) := by decide +kernel
theorem dX12_setOf_43 : decode cX12_setOf 43 = .ok (.iload_n 2, 1) := by decide +kernel
theorem dX12_setOf_44 : decode cX12_setOf 44 = .ok (.if_icmp .ne 5, 3) := by decide +kernel
theorem dX12_setOf_47 : decode cX12_setOf 47 = .ok (.iconst (-1), 1) := by decide +kernel
theorem dX12_setOf_48 : decode cX12_setOf 48 = .ok (.ireturn, 1) := by decide +kernel
theorem dX12_setOf_49 : decode cX12_setOf 49 = .ok (.iload_n 1, 1) := by decide +kernel
theorem dX12_setOf_50 : decode cX12_setOf 50 = .ok (.iconst 1, 1) := by decide +kernel
theorem dX12_setOf_51 : decode cX12_setOf 51 = .ok (.iload 4, 2) := by decide +kernel
theorem dX12_setOf_53 : decode cX12_setOf 53 = .ok (.iconst 1, 1) := by decide +kernel
theorem dX12_setOf_54 : decode cX12_setOf 54 = .ok (.isub, 1) := by decide +kernel
theorem dX12_setOf_55 : decode cX12_setOf 55 = .ok (.ishl, 1) := by decide +kernel
theorem dX12_setOf_56 : decode cX12_setOf 56 = .ok (.ior, 1) := by decide +kernel
theorem dX12_setOf_57 : decode cX12_setOf 57 = .ok (.istore_n 1, 1) := by decide +kernel
theorem dX12_setOf_58 : decode cX12_setOf 58 = .ok (.iload 4, 2) := by decide +kernel
theorem dX12_setOf_60 : decode cX12_setOf 60 = .ok (.istore_n 2, 1) := by decide +kernel
theorem dX12_setOf_61 : decode cX12_setOf 61 = .ok (.iload_n 3, 1) := by decide +kernel
theorem dX12_setOf_62 : decode cX12_setOf 62 = .ok (.bipush 10, 2) := by decide +kernel
theorem dX12_setOf_64 : decode cX12_setOf 64 = .ok (.idiv, 1) := by decide +kernel
theorem dX12_setOf_65 : decode cX12_setOf 65 = .ok (.istore_n 3, 1) := by decide +kernel
theorem dX12_setOf_66 : decode cX12_setOf 66 = .ok (.goto (-46), 3) := by decide +kernel
theorem dX12_setOf_69 : decode cX12_setOf 69 = .ok (.iload_n 1, 1) := by decide +kernel
theorem dX12_setOf_70 : decode cX12_setOf 70 = .ok (.ireturn, 1) := by decide +kernel
theorem dX12_notGiven_0 : decode cX12_notGiven 0 = .ok (.iload_n 1, 1) := by decide +kernel
theorem dX12_notGiven_1 : decode cX12_notGiven 1 = .ok (.invokestatic 265, 3) := by decide +kernel
theorem dX12_notGiven_4 : decode cX12_notGiven 4 = .ok (.ifCond .eq 31, 3) := by decide +kernel
theorem dX12_notGiven_7 : decode cX12_notGiven 7 = .ok (.iload 5, 2) := by decide +kernel
theorem dX12_notGiven_9 : decode cX12_notGiven 9 = .ok (.iconst (-1), 1) := by decide +kernel
theorem dX12_notGiven_10 : decode cX12_notGiven 10 = .ok (.if_icmp .eq 11, 3) := by decide +kernel
theorem dX12_notGiven_13 : decode cX12_notGiven 13 = .ok (.iload 5, 2) := by decide +kernel
theorem dX12_notGiven_15 : decode cX12_notGiven 15 = .ok (.invokestatic 271, 3) := by decide +kernel
theorem dX12_notGiven_18 : decode cX12_notGiven 18 = .ok (.ifCond .eq 17, 3) := by decide +kernel
theorem dX12_notGiven_21 : decode cX12_notGiven 21 = .ok (.iload 6, 2) := by decide +kernel
theorem dX12_notGiven_23 : decode cX12_notGiven 23 = .ok (.iconst (-1), 1) := by decide +kernel
theorem dX12_notGiven_24 : decode cX12_notGiven 24 = .ok (.if_icmp .eq 13, 3) := by decide +kernel
theorem dX12_notGiven_27 : decode cX12_notGiven 27 = .ok (.iload 6, 2) := by decide +kernel
theorem dX12_notGiven_29 : decode cX12_notGiven 29 = .ok (.invokestatic 271, 3) := by decide +kernel
theorem dX12_notGiven_32 : decode cX12_notGiven 32 = .ok (.ifCond .ne 5, 3) := by decide +kernel
theorem dX12_notGiven_35 : decode cX12_notGiven 35 = .ok (.iconst 1, 1) := by decide +kernel
theorem dX12_notGiven_36 : decode cX12_notGiven 36 = .ok (.ireturn, 1) := by decide +kernel
theorem dX12_notGiven_37 : decode cX12_notGiven 37 = .ok (.iload_n 2, 1) := by decide +kernel
theorem dX12_notGiven_38 : decode cX12_notGiven 38 = .ok (.invokestatic 277, 3) := by decide +kernel
theorem dX12_notGiven_41 : decode cX12_notGiven 41 = .ok (.istore 7, 2) := by decide +kernel
theorem dX12_notGiven_43 : decode cX12_notGiven 43 = .ok (.iload 7, 2) := by decide +kernel
theorem dX12_notGiven_45 : decode cX12_notGiven 45 = .ok (.ifCond .lt 24, 3) := by decide +kernel
theorem dX12_notGiven_48 : decode cX12_notGiven 48 = .ok (.iload_n 3, 1) := by decide +kernel
theorem dX12_notGiven_49 : decode cX12_notGiven 49 = .ok (.iconst 1, 1) := by decide +kernel
theorem dX12_notGiven_50 : decode cX12_notGiven 50 = .ok (.bipush 9, 2) := by decide +kernel
theorem dX12_notGiven_52 : decode cX12_notGiven 52 = .ok (.invokestatic 143, 3) := by decide +kernel
theorem dX12_notGiven_55 : decode cX12_notGiven 55 = .ok (.ifCond .eq 14, 3) := by decide +kernel
theorem dX12_notGiven_58 : decode cX12_notGiven 58 = .ok (.iload 4, 2) := by decide +kernel
theorem dX12_notGiven_60 : decode cX12_notGiven 60 = .ok (.iconst 0, 1) := by decide +kernel
theorem dX12_notGiven_61 : decode cX12_notGiven 61 = .ok (.bipush 9, 2) := by decide +kernel
theorem dX12_notGiven_63 : decode cX12_notGiven 63 = .ok (.invokestatic 143, 3) := by decide +kernel
theorem dX12_notGiven_66 : decode cX12_notGiven 66 = .ok (.ifCond .ne 5, 3) := by decide +kernel
theorem dX12_notGiven_69 : decode cX12_notGiven 69 = .ok (.iconst 2, 1) := by decide +kernel
theorem dX12_notGiven_70 : decode cX12_notGiven 70 = .ok (.ireturn, 1) := by decide +kernel
theorem dX12_notGiven_71 : decode cX12_notGiven 71 = .ok (.iload 7, 2) := by decide +kernel
theorem dX12_notGiven_73 : decode cX12_notGiven 73 = .ok (.aload_n 0, 1) := by decide +kernel
theorem dX12_notGiven_74 : decode cX12_notGiven 74 = .ok (.getfield 37, 3) := by decide +kernel
theorem dX12_notGiven_77 : decode cX12_notGiven 77 = .ok (.iload_n 1, 1) := by decide +kernel
theorem dX12_notGiven_78 : decode cX12_notGiven 78 = .ok (.iaload, 1) := by decide +kernel
theorem dX12_notGiven_79 : decode cX12_notGiven 79 = .ok (.iconst (-1), 1) := by decide +kernel
theorem dX12_notGiven_80 : decode cX12_notGiven 80 = .ok (.ixor, 1) := by decide +kernel
theorem dX12_notGiven_81 : decode cX12_notGiven 81 = .ok (.iand, 1) := by decide +kernel
theorem dX12_notGiven_82 : decode cX12_notGiven 82 = .ok (.ifCond .eq 5, 3) := by decide +kernel
theorem dX12_notGiven_85 : decode cX12_notGiven 85 = .ok (.iconst 3, 1) := by decide +kernel
theorem dX12_notGiven_86 : decode cX12_notGiven 86 = .ok (.ireturn, 1) := by decide +kernel
theorem dX12_notGiven_87 : decode cX12_notGiven 87 = .ok (.aload_n 0, 1) := by decide +kernel
theorem dX12_notGiven_88 : decode cX12_notGiven 88 = .ok (.getfield 280, 3) := by decide +kernel
theorem dX12_notGiven_91 : decode cX12_notGiven 91 = .ok (.bipush 30, 2) := by decide +kernel
theorem dX12_notGiven_93 : decode cX12_notGiven 93 = .ok (.if_icmp .ne 7, 3) := by decide +kernel
theorem dX12_notGiven_96 : decode cX12_notGiven 96 = .ok (.iconst 4, 1) := by decide +kernel
theorem dX12_notGiven_97 : decode cX12_notGiven 97 = .ok (.goto 4, 3) := by decide +kernel
theorem dX12_notGiven_100 : decode cX12_notGiven 100 = .ok (.iconst 0, 1) := by decide +kernel
theorem dX12_notGiven_101 : decode cX12_notGiven 101 = .ok (.ireturn, 1) := by decide +kernel
theorem dX12_gives_0 : decode cX12_gives 0 = .ok (.aload_n 0, 1) := by decide +kernel
theorem dX12_gives_1 : decode cX12_gives 1 = .ok (.getfield 73, 3) := by decide +kernel
theorem dX12_gives_4 : decode cX12_gives 4 = .ok (.aload_n 0, 1) := by decide +kernel
theorem dX12_gives_5 : decode cX12_gives 5 = .ok (.getfield 280, 3) := by decide +kernel
theorem dX12_gives_8 : decode cX12_gives 8 = .ok (.iload_n 1, 1) := by decide +kernel
theorem dX12_gives_9 : decode cX12_gives 9 = .ok (.iastore, 1) := by decide +kernel
theorem dX12_gives_10 : decode cX12_gives 10 = .ok (.aload_n 0, 1) := by decide +kernel
theorem dX12_gives_11 : decode cX12_gives 11 = .ok (.getfield 76, 3) := by decide +kernel
theorem dX12_gives_14 : decode cX12_gives 14 = .ok (.aload_n 0, 1) := by decide +kernel
theorem dX12_gives_15 : decode cX12_gives 15 = .ok (.getfield 280, 3) := by decide +kernel
theorem dX12_gives_18 : decode cX12_gives 18 = .ok (.iload_n 2, 1) := by decide +kernel
theorem dX12_gives_19 : decode cX12_gives 19 = .ok (.iastore, 1) := by decide +kernel
theorem dX12_gives_20 : decode cX12_gives 20 = .ok (.aload_n 0, 1) := by decide +kernel
theorem dX12_gives_21 : decode cX12_gives 21 = .ok (.getfield 79, 3) := by decide +kernel
theorem dX12_gives_24 : decode cX12_gives 24 = .ok (.aload_n 0, 1) := by decide +kernel
theorem dX12_gives_25 : decode cX12_gives 25 = .ok (.getfield 280, 3) := by decide +kernel
theorem dX12_gives_28 : decode cX12_gives 28 = .ok (.iload_n 2, 1) := by decide +kernel
theorem dX12_gives_29 : decode cX12_gives 29 = .ok (.invokestatic 274, 3) := by decide +kernel
theorem dX12_gives_32 : decode cX12_gives 32 = .ok (.iastore, 1) := by decide +kernel
theorem dX12_gives_33 : decode cX12_gives 33 = .ok (.aload_n 0, 1) := by decide +kernel
theorem dX12_gives_34 : decode cX12_gives 34 = .ok (.getfield 82, 3) := by decide +kernel
theorem dX12_gives_37 : decode cX12_gives 37 = .ok (.aload_n 0, 1) := by decide +kernel
theorem dX12_gives_38 : decode cX12_gives 38 = .ok (.getfield 280, 3) := by decide +kernel
theorem dX12_gives_41 : decode cX12_gives 41 = .ok (.iload_n 3, 1) := by decide +kernel
theorem dX12_gives_42 : decode cX12_gives 42 = .ok (.iastore, 1) := by decide +kernel
theorem dX12_gives_43 : decode cX12_gives 43 = .ok (.aload_n 0, 1) := by decide +kernel
theorem dX12_gives_44 : decode cX12_gives 44 = .ok (.getfield 85, 3) := by decide +kernel
theorem dX12_gives_47 : decode cX12_gives 47 = .ok (.aload_n 0, 1) := by decide +kernel
theorem dX12_gives_48 : decode cX12_gives 48 = .ok (.getfield 280, 3) := by decide +kernel
theorem dX12_gives_51 : decode cX12_gives 51 = .ok (.iload 4, 2) := by decide +kernel
theorem dX12_gives_53 : decode cX12_gives 53 = .ok (.iastore, 1) := by decide +kernel
theorem dX12_gives_54 : decode cX12_gives 54 = .ok (.aload_n 0, 1) := by decide +kernel
theorem dX12_gives_55 : decode cX12_gives 55 = .ok (.getfield 88, 3) := by decide +kernel
theorem dX12_gives_58 : decode cX12_gives 58 = .ok (.aload_n 0, 1) := by decide +kernel
theorem dX12_gives_59 : decode cX12_gives 59 = .ok (.getfield 280, 3) := by decide +kernel
theorem dX12_gives_62 : decode cX12_gives 62 = .ok (.iload 5, 2) := by decide +kernel
theorem dX12_gives_64 : decode cX12_gives 64 = .ok (.iastore, 1) := by decide +kernel
theorem dX12_gives_65 : decode cX12_gives 65 = .ok (.aload_n 0, 1) := by decide +kernel
theorem dX12_gives_66 : decode cX12_gives 66 = .ok (.getfield 91, 3) := by decide +kernel
theorem dX12_gives_69 : decode cX12_gives 69 = .ok (.aload_n 0, 1) := by decide +kernel
theorem dX12_gives_70 : decode cX12_gives 70 = .ok (.getfield 280, 3) := by decide +kernel
theorem dX12_gives_73 : decode cX12_gives 73 = .ok (.iload 6, 2) := by decide +kernel
theorem dX12_gives_75 : decode cX12_gives 75 = .ok (.iastore, 1) := by decide +kernel
theorem dX12_gives_76 : decode cX12_gives 76 = .ok (.aload_n 0, 1) := by decide +kernel
theorem dX12_gives_77 : decode cX12_gives 77 = .ok (.getfield 94, 3) := by decide +kernel
theorem dX12_gives_80 : decode cX12_gives 80 = .ok (.aload_n 0, 1) := by decide +kernel
theorem dX12_gives_81 : decode cX12_gives 81 = .ok (.getfield 280, 3) := by decide +kernel
theorem dX12_gives_84 : decode cX12_gives 84 = .ok (.iconst 0, 1) := by decide +kernel
theorem dX12_gives_85 : decode cX12_gives 85 = .ok (.iastore, 1) := by decide +kernel
theorem dX12_gives_86 : decode cX12_gives 86 = .ok (.aload_n 0, 1) := by decide +kernel
theorem dX12_gives_87 : decode cX12_gives 87 = .ok (.getfield 97, 3) := by decide +kernel
theorem dX12_gives_90 : decode cX12_gives 90 = .ok (.aload_n 0, 1) := by decide +kernel
theorem dX12_gives_91 : decode cX12_gives 91 = .ok (.getfield 280, 3) := by decide +kernel
theorem dX12_gives_94 : decode cX12_gives 94 = .ok (.iconst (-1), 1) := by decide +kernel
theorem dX12_gives_95 : decode cX12_gives 95 = .ok (.iastore, 1) := by decide +kernel
theorem dX12_gives_96 : decode cX12_gives 96 = .ok (.aload_n 0, 1) := by decide +kernel
theorem dX12_gives_97 : decode cX12_gives 97 = .ok (.getfield 100, 3) := by decide +kernel
theorem dX12_gives_100 : decode cX12_gives 100 = .ok (.aload_n 0, 1) := by decide +kernel
theorem dX12_gives_101 : decode cX12_gives 101 = .ok (.getfield 280, 3) := by decide +kernel
theorem dX12_gives_104 : decode cX12_gives 104 = .ok (.iconst (-1), 1) := by decide +kernel
theorem dX12_gives_105 : decode cX12_gives 105 = .ok (.iastore, 1) := by decide +kernel
theorem dX12_gives_106 : decode cX12_gives 106 = .ok (.aload_n 0, 1) := by decide +kernel
theorem dX12_gives_107 : decode cX12_gives 107 = .ok (.getfield 43, 3) := by decide +kernel
theorem dX12_gives_110 : decode cX12_gives 110 = .ok (.bipush 30, 2) := by decide +kernel
theorem dX12_gives_112 : decode cX12_gives 112 = .ok (.iload_n 1, 1) := by decide +kernel
theorem dX12_gives_113 : decode cX12_gives 113 = .ok (.imul, 1) := by decide +kernel
theorem dX12_gives_114 : decode cX12_gives 114 = .ok (.aload_n 0, 1) := by decide +kernel
theorem dX12_gives_115 : decode cX12_gives 115 = .ok (.getfield 40, 3) := by decide +kernel
theorem dX12_gives_118 : decode cX12_gives 118 = .ok (.iload_n 1, 1) := by decide +kernel
theorem dX12_gives_119 : decode cX12_gives 119 = .ok (.iaload, 1) := by decide +kernel
theorem dX12_gives_120 : decode cX12_gives 120 = .ok (.iadd, 1) := by decide +kernel
theorem dX12_gives_121 : decode cX12_gives 121 = .ok (.aload_n 0, 1) := by decide +kernel
theorem dX12_gives_122 : decode cX12_gives 122 = .ok (.getfield 280, 3) := by decide +kernel
theorem dX12_gives_125 : decode cX12_gives 125 = .ok (.iastore, 1) := by decide +kernel
theorem dX12_gives_126 : decode cX12_gives 126 = .ok (.aload_n 0, 1) := by decide +kernel
theorem dX12_gives_127 : decode cX12_gives 127 = .ok (.getfield 40, 3) := by decide +kernel
theorem dX12_gives_130 : decode cX12_gives 130 = .ok (.iload_n 1, 1) := by decide +kernel
theorem dX12_gives_131 : decode cX12_gives 131 = .ok (.dup2, 1) := by decide +kernel
theorem dX12_gives_132 : decode cX12_gives 132 = .ok (.iaload, 1) := by decide +kernel
theorem dX12_gives_133 : decode cX12_gives 133 = .ok (.iconst 1, 1) := by decide +kernel
theorem dX12_gives_134 : decode cX12_gives 134 = .ok (.iadd, 1) := by decide +kernel
theorem dX12_gives_135 : decode cX12_gives 135 = .ok (.iastore, 1) := by decide +kernel
theorem dX12_gives_136 : decode cX12_gives 136 = .ok (.aload_n 0, 1) := by decide +kernel
theorem dX12_gives_137 : decode cX12_gives 137 = .ok (.dup, 1) := by decide +kernel
theorem dX12_gives_138 : decode cX12_gives 138 = .ok (.getfield 280, 3) := by decide +kernel
theorem dX12_gives_141 : decode cX12_gives 141 = .ok (.iconst 1, 1) := by decide +kernel
theorem dX12_gives_142 : decode cX12_gives 142 = .ok (.iadd, 1) := by decide +kernel
theorem dX12_gives_143 : decode cX12_gives 143 = .ok (.putfield 280, 3) := by decide +kernel
theorem dX12_gives_146 : decode cX12_gives 146 = .ok (.return_, 1) := by decide +kernel
theorem dX12_give_0 : decode cX12_give 0 = .ok (.aload_n 0, 1) := by decide +kernel
theorem dX12_give_1 : decode cX12_give 1 = .ok (.aload_n 0, 1) := by decide +kernel
theorem dX12_give_2 : decode cX12_give 2 = .ok (.iload_n 1, 1) := by decide +kernel
theorem dX12_give_3 : decode cX12_give 3 = .ok (.iload_n 2, 1) := by decide +kernel
theorem dX12_give_4 : decode cX12_give 4 = .ok (.iload_n 3, 1) := by decide +kernel
theorem dX12_give_5 : decode cX12_give 5 = .ok (.iload 4, 2) := by decide +kernel
theorem dX12_give_7 : decode cX12_give 7 = .ok (.iload 5, 2) := by decide +kernel
theorem dX12_give_9 : decode cX12_give 9 = .ok (.iload 6, 2) := by decide +kernel
theorem dX12_give_11 : decode cX12_give 11 = .ok (.invokevirtual 283, 3) := by decide +kernel
theorem dX12_give_14 : decode cX12_give 14 = .ok (.putfield 139, 3) := by decide +kernel
theorem dX12_give_17 : decode cX12_give 17 = .ok (.aload_n 0, 1) := by decide +kernel
theorem dX12_give_18 : decode cX12_give 18 = .ok (.getfield 139, 3) := by decide +kernel
theorem dX12_give_21 : decode cX12_give 21 = .ok (.ifCond .le 5, 3) := by decide +kernel
theorem dX12_give_24 : decode cX12_give 24 = .ok (.iconst 0, 1) := by decide +kernel
theorem dX12_give_25 : decode cX12_give 25 = .ok (.ireturn, 1) := by decide +kernel
theorem dX12_give_26 : decode cX12_give 26 = .ok (.aload_n 0, 1) := by decide +kernel
theorem dX12_give_27 : decode cX12_give 27 = .ok (.invokevirtual 258, 3) := by decide +kernel
theorem dX12_give_30 : decode cX12_give 30 = .ok (.aload_n 0, 1) := by decide +kernel
theorem dX12_give_31 : decode cX12_give 31 = .ok (.iload_n 1, 1) := by decide +kernel
theorem dX12_give_32 : decode cX12_give 32 = .ok (.iload_n 2, 1) := by decide +kernel
theorem dX12_give_33 : decode cX12_give 33 = .ok (.iload_n 3, 1) := by decide +kernel
theorem dX12_give_34 : decode cX12_give 34 = .ok (.iload 4, 2) := by decide +kernel
theorem dX12_give_36 : decode cX12_give 36 = .ok (.iload 5, 2) := by decide +kernel
theorem dX12_give_38 : decode cX12_give 38 = .ok (.iload 6, 2) := by decide +kernel
theorem dX12_give_40 : decode cX12_give 40 = .ok (.invokevirtual 287, 3) := by decide +kernel
theorem dX12_give_43 : decode cX12_give 43 = .ok (.aload_n 0, 1) := by decide +kernel
theorem dX12_give_44 : decode cX12_give 44 = .ok (.getfield 280, 3) := by decide +kernel
theorem dX12_give_47 : decode cX12_give 47 = .ok (.iconst 1, 1) := by decide +kernel
theorem dX12_give_48 : decode cX12_give 48 = .ok (.isub, 1) := by decide +kernel
theorem dX12_give_49 : decode cX12_give 49 = .ok (.ireturn, 1) := by decide +kernel
theorem dX12_withdraw_0 : decode cX12_withdraw 0 = .ok (.iload_n 1, 1) := by decide +kernel
theorem dX12_withdraw_1 : decode cX12_withdraw 1 = .ok (.invokestatic 265, 3) := by decide +kernel
theorem dX12_withdraw_4 : decode cX12_withdraw 4 = .ok (.ifCond .ne 9, 3) := by decide +kernel
theorem dX12_withdraw_7 : decode cX12_withdraw 7 = .ok (.aload_n 0, 1) := by decide +kernel
theorem dX12_withdraw_8 : decode cX12_withdraw 8 = .ok (.iconst 1, 1) := by decide +kernel
theorem dX12_withdraw_9 : decode cX12_withdraw 9 = .ok (.invokevirtual 268, 3) := by decide +kernel
theorem dX12_withdraw_12 : decode cX12_withdraw 12 = .ok (.ireturn, 1) := by decide +kernel
theorem dX12_withdraw_13 : decode cX12_withdraw 13 = .ok (.aload_n 0, 1) := by decide +kernel
theorem dX12_withdraw_14 : decode cX12_withdraw 14 = .ok (.getfield 40, 3) := by decide +kernel
theorem dX12_withdraw_17 : decode cX12_withdraw 17 = .ok (.iload_n 1, 1) := by decide +kernel
theorem dX12_withdraw_18 : decode cX12_withdraw 18 = .ok (.iaload, 1) := by decide +kernel
theorem dX12_withdraw_19 : decode cX12_withdraw 19 = .ok (.ifCond .ne 9, 3) := by decide +kernel
theorem dX12_withdraw_22 : decode cX12_withdraw 22 = .ok (.aload_n 0, 1) := by decide +kernel
theorem dX12_withdraw_23 : decode cX12_withdraw 23 = .ok (.iconst 2, 1) := by decide +kernel
theorem dX12_withdraw_24 : decode cX12_withdraw 24 = .ok (.invokevirtual 268, 3) := by decide +kernel
theorem dX12_withdraw_27 : decode cX12_withdraw 27 = .ok (.ireturn, 1) := by decide +kernel
theorem dX12_withdraw_28 : decode cX12_withdraw 28 = .ok (.aload_n 0, 1) := by decide +kernel
theorem dX12_withdraw_29 : decode cX12_withdraw 29 = .ok (.iconst 0, 1) := by decide +kernel
theorem dX12_withdraw_30 : decode cX12_withdraw 30 = .ok (.putfield 139, 3) := by decide +kernel
theorem dX12_withdraw_33 : decode cX12_withdraw 33 = .ok (.aload_n 0, 1) := by decide +kernel
theorem dX12_withdraw_34 : decode cX12_withdraw 34 = .ok (.invokevirtual 258, 3) := by decide +kernel
theorem dX12_withdraw_37 : decode cX12_withdraw 37 = .ok (.aload_n 0, 1) := by decide +kernel
theorem dX12_withdraw_38 : decode cX12_withdraw 38 = .ok (.getfield 40, 3) := by decide +kernel
theorem dX12_withdraw_41 : decode cX12_withdraw 41 = .ok (.iload_n 1, 1) := by decide +kernel
theorem dX12_withdraw_42 : decode cX12_withdraw 42 = .ok (.dup2, 1) := by decide +kernel
theorem dX12_withdraw_43 : decode cX12_withdraw 43 = .ok (.iaload, 1) := by decide +kernel
theorem dX12_withdraw_44 : decode cX12_withdraw 44 = .ok (.iconst 1, 1) := by decide +kernel
theorem dX12_withdraw_45 : decode cX12_withdraw 45 = .ok (.isub, 1) := by decide +kernel
theorem dX12_withdraw_46 : decode cX12_withdraw 46 = .ok (.iastore, 1) := by decide +kernel
theorem dX12_withdraw_47 : decode cX12_withdraw 47 = .ok (.aload_n 0, 1) := by decide +kernel
theorem dX12_withdraw_48 : decode cX12_withdraw 48 = .ok (.getfield 43, 3) := by decide +kernel
theorem dX12_withdraw_51 : decode cX12_withdraw 51 = .ok (.bipush 30, 2) := by decide +kernel
theorem dX12_withdraw_53 : decode cX12_withdraw 53 = .ok (.iload_n 1, 1) := by decide +kernel
theorem dX12_withdraw_54 : decode cX12_withdraw 54 = .ok (.imul, 1) := by decide +kernel
theorem dX12_withdraw_55 : decode cX12_withdraw 55 = .ok (.aload_n 0, 1) := by decide +kernel
theorem dX12_withdraw_56 : decode cX12_withdraw 56 = .ok (.getfield 40, 3) := by decide +kernel
theorem dX12_withdraw_59 : decode cX12_withdraw 59 = .ok (.iload_n 1, 1) := by decide +kernel
theorem dX12_withdraw_60 : decode cX12_withdraw 60 = .ok (.iaload, 1) := by decide +kernel
theorem dX12_withdraw_61 : decode cX12_withdraw 61 = .ok (.iadd, 1) := by decide +kernel
theorem dX12_withdraw_62 : decode cX12_withdraw 62 = .ok (.iaload, 1) := by decide +kernel
theorem dX12_withdraw_63 : decode cX12_withdraw 63 = .ok (.istore_n 2, 1) := by decide +kernel
theorem dX12_withdraw_64 : decode cX12_withdraw 64 = .ok (.aload_n 0, 1) := by decide +kernel
theorem dX12_withdraw_65 : decode cX12_withdraw 65 = .ok (.getfield 94, 3) := by decide +kernel
theorem dX12_withdraw_68 : decode cX12_withdraw 68 = .ok (.iload_n 2, 1) := by decide +kernel
theorem dX12_withdraw_69 : decode cX12_withdraw 69 = .ok (.iconst 3, 1) := by decide +kernel
theorem dX12_withdraw_70 : decode cX12_withdraw 70 = .ok (.iastore, 1) := by decide +kernel
theorem dX12_withdraw_71 : decode cX12_withdraw 71 = .ok (.aload_n 0, 1) := by decide +kernel
theorem dX12_withdraw_72 : decode cX12_withdraw 72 = .ok (.dup, 1) := by decide +kernel
theorem dX12_withdraw_73 : decode cX12_withdraw 73 = .ok (.getfield 291, 3) := by decide +kernel
theorem dX12_withdraw_76 : decode cX12_withdraw 76 = .ok (.iconst 1, 1) := by decide +kernel
theorem dX12_withdraw_77 : decode cX12_withdraw 77 = .ok (.iadd, 1) := by decide +kernel
theorem dX12_withdraw_78 : decode cX12_withdraw 78 = .ok (.putfield 291, 3) := by decide +kernel
theorem dX12_withdraw_81 : decode cX12_withdraw 81 = .ok (.iload_n 2, 1) := by decide +kernel
theorem dX12_withdraw_82 : decode cX12_withdraw 82 = .ok (.ireturn, 1) := by decide +kernel
theorem dX12_isJob_0 : decode cX12_isJob 0 = .ok (.iload_n 1, 1) := by decide +kernel
theorem dX12_isJob_1 : decode cX12_isJob 1 = .ok (.ifCond .lt 15, 3) := by decide +kernel
theorem dX12_isJob_4 : decode cX12_isJob 4 = .ok (.iload_n 1, 1) := by decide +kernel
theorem dX12_isJob_5 : decode cX12_isJob 5 = .ok (.aload_n 0, 1) := by decide +kernel
theorem dX12_isJob_6 : decode cX12_isJob 6 = .ok (.getfield 280, 3) := by decide +kernel
theorem dX12_isJob_9 : decode cX12_isJob 9 = .ok (.if_icmp .ge 7, 3) := by decide +kernel
theorem dX12_isJob_12 : decode cX12_isJob 12 = .ok (.iconst 1, 1) := by decide +kernel
theorem dX12_isJob_13 : decode cX12_isJob 13 = .ok (.goto 4, 3) := by decide +kernel
theorem dX12_isJob_16 : decode cX12_isJob 16 = .ok (.iconst 0, 1) := by decide +kernel
theorem dX12_isJob_17 : decode cX12_isJob 17 = .ok (.ireturn, 1) := by decide +kernel
theorem dX12_job_0 : decode cX12_job 0 = .ok (.aload_n 0, 1) := by decide +kernel
theorem dX12_job_1 : decode cX12_job 1 = .ok (.iload_n 1, 1) := by decide +kernel
theorem dX12_job_2 : decode cX12_job 2 = .ok (.invokevirtual 294, 3) := by decide +kernel
theorem dX12_job_5 : decode cX12_job 5 = .ok (.ifCond .ne 9, 3) := by decide +kernel
theorem dX12_job_8 : decode cX12_job 8 = .ok (.aload_n 0, 1) := by decide +kernel
theorem dX12_job_9 : decode cX12_job 9 = .ok (.iconst 1, 1) := by decide +kernel
theorem dX12_job_10 : decode cX12_job 10 = .ok (.invokevirtual 268, 3) := by decide +kernel
theorem dX12_job_13 : decode cX12_job 13 = .ok (.ireturn, 1) := by decide +kernel
theorem dX12_job_14 : decode cX12_job 14 = .ok (.iload_n 2, 1) := by decide +kernel
theorem dX12_job_15 : decode cX12_job 15 = .ok (.iconst 0, 1) := by decide +kernel
theorem dX12_job_16 : decode cX12_job 16 = .ok (.bipush 8, 2) := by decide +kernel
theorem dX12_job_18 : decode cX12_job 18 = .ok (.invokestatic 143, 3) := by decide +kernel
theorem dX12_job_21 : decode cX12_job 21 = .ok (.ifCond .ne 9, 3) := by decide +kernel
theorem dX12_job_24 : decode cX12_job 24 = .ok (.aload_n 0, 1) := by decide +kernel
theorem dX12_job_25 : decode cX12_job 25 = .ok (.iconst 2, 1) := by decide +kernel
theorem dX12_job_26 : decode cX12_job 26 = .ok (.invokevirtual 268, 3) := by decide +kernel
theorem dX12_job_29 : decode cX12_job 29 = .ok (.ireturn, 1) := by decide +kernel
theorem dX12_job_30 : decode cX12_job 30 = .ok (.aload_n 0, 1) := by decide +kernel
theorem dX12_job_31 : decode cX12_job 31 = .ok (.iconst 0, 1) := by decide +kernel
theorem dX12_job_32 : decode cX12_job 32 = .ok (.putfield 139, 3) := by decide +kernel
theorem dX12_job_35 : decode cX12_job 35 = .ok (.iload_n 2, 1) := by decide +kernel
theorem dX12_job_36 : decode cX12_job 36 = .ok (.tableswitch 104 0 7 #[48, 55, 62, 69, 76, 83, 90, 97], 48) := by decide +kernel
theorem dX12_job_84 : decode cX12_job 84 = .ok (.aload_n 0, 1) := by decide +kernel
theorem dX12_job_85 : decode cX12_job 85 = .ok (.getfield 73, 3) := by decide +kernel
theorem dX12_job_88 : decode cX12_job 88 = .ok (.iload_n 1, 1) := by decide +kernel
theorem dX12_job_89 : decode cX12_job 89 = .ok (.iaload, 1) := by decide +kernel
theorem dX12_job_90 : decode cX12_job 90 = .ok (.ireturn, 1) := by decide +kernel
theorem dX12_job_91 : decode cX12_job 91 = .ok (.aload_n 0, 1) := by decide +kernel
theorem dX12_job_92 : decode cX12_job 92 = .ok (.getfield 76, 3) := by decide +kernel
theorem dX12_job_95 : decode cX12_job 95 = .ok (.iload_n 1, 1) := by decide +kernel
theorem dX12_job_96 : decode cX12_job 96 = .ok (.iaload, 1) := by decide +kernel
theorem dX12_job_97 : decode cX12_job 97 = .ok (.ireturn, 1) := by decide +kernel
theorem dX12_job_98 : decode cX12_job 98 = .ok (.aload_n 0, 1) := by decide +kernel
theorem dX12_job_99 : decode cX12_job 99 = .ok (.getfield 82, 3) := by decide +kernel
theorem dX12_job_102 : decode cX12_job 102 = .ok (.iload_n 1, 1) := by decide +kernel
theorem dX12_job_103 : decode cX12_job 103 = .ok (.iaload, 1) := by decide +kernel
theorem dX12_job_104 : decode cX12_job 104 = .ok (.ireturn, 1) := by decide +kernel
theorem dX12_job_105 : decode cX12_job 105 = .ok (.aload_n 0, 1) := by decide +kernel
theorem dX12_job_106 : decode cX12_job 106 = .ok (.getfield 85, 3) := by decide +kernel
theorem dX12_job_109 : decode cX12_job 109 = .ok (.iload_n 1, 1) := by decide +kernel
theorem dX12_job_110 : decode cX12_job 110 = .ok (.iaload, 1) := by decide +kernel
theorem dX12_job_111 : decode cX12_job 111 = .ok (.ireturn, 1) := by decide +kernel
theorem dX12_job_112 : decode cX12_job 112 = .ok (.aload_n 0, 1) := by decide +kernel
theorem dX12_job_113 : decode cX12_job 113 = .ok (.getfield 88, 3) := by decide +kernel
theorem dX12_job_116 : decode cX12_job 116 = .ok (.iload_n 1, 1) := by decide +kernel
theorem dX12_job_117 : decode cX12_job 117 = .ok (.iaload, 1) := by decide +kernel
theorem dX12_job_118 : decode cX12_job 118 = .ok (.ireturn, 1) := by decide +kernel
theorem dX12_job_119 : decode cX12_job 119 = .ok (.aload_n 0, 1) := by decide +kernel
theorem dX12_job_120 : decode cX12_job 120 = .ok (.getfield 91, 3) := by decide +kernel
theorem dX12_job_123 : decode cX12_job 123 = .ok (.iload_n 1, 1) := by decide +kernel
theorem dX12_job_124 : decode cX12_job 124 = .ok (.iaload, 1) := by decide +kernel
theorem dX12_job_125 : decode cX12_job 125 = .ok (.ireturn, 1) := by decide +kernel
theorem dX12_job_126 : decode cX12_job 126 = .ok (.aload_n 0, 1) := by decide +kernel
theorem dX12_job_127 : decode cX12_job 127 = .ok (.getfield 94, 3) := by decide +kernel
theorem dX12_job_130 : decode cX12_job 130 = .ok (.iload_n 1, 1) := by decide +kernel
theorem dX12_job_131 : decode cX12_job 131 = .ok (.iaload, 1) := by decide +kernel
theorem dX12_job_132 : decode cX12_job 132 = .ok (.ireturn, 1) := by decide +kernel
theorem dX12_job_133 : decode cX12_job 133 = .ok (.aload_n 0, 1) := by decide +kernel
theorem dX12_job_134 : decode cX12_job 134 = .ok (.getfield 97, 3) := by decide +kernel
theorem dX12_job_137 : decode cX12_job 137 = .ok (.iload_n 1, 1) := by decide +kernel
theorem dX12_job_138 : decode cX12_job 138 = .ok (.iaload, 1) := by decide +kernel
theorem dX12_job_139 : decode cX12_job 139 = .ok (.ireturn, 1) := by decide +kernel
theorem dX12_job_140 : decode cX12_job 140 = .ok (.aload_n 0, 1) := by decide +kernel
theorem dX12_job_141 : decode cX12_job 141 = .ok (.getfield 100, 3) := by decide +kernel
theorem dX12_job_144 : decode cX12_job 144 = .ok (.iload_n 1, 1) := by decide +kernel
theorem dX12_job_145 : decode cX12_job 145 = .ok (.iaload, 1) := by decide +kernel
theorem dX12_job_146 : decode cX12_job 146 = .ok (.ireturn, 1) := by decide +kernel
theorem dX12_arm_0 : decode cX12_arm 0 = .ok (.iload_n 1, 1) := by decide +kernel
theorem dX12_arm_1 : decode cX12_arm 1 = .ok (.invokestatic 265, 3) := by decide +kernel
theorem dX12_arm_4 : decode cX12_arm 4 = .ok (.ifCond .ne 9, 3) := by decide +kernel
theorem dX12_arm_7 : decode cX12_arm 7 = .ok (.aload_n 0, 1) := by decide +kernel
theorem dX12_arm_8 : decode cX12_arm 8 = .ok (.iconst 1, 1) := by decide +kernel
theorem dX12_arm_9 : decode cX12_arm 9 = .ok (.invokevirtual 268, 3) := by decide +kernel
theorem dX12_arm_12 : decode cX12_arm 12 = .ok (.ireturn, 1) := by decide +kernel
theorem dX12_arm_13 : decode cX12_arm 13 = .ok (.iload_n 2, 1) := by decide +kernel
theorem dX12_arm_14 : decode cX12_arm 14 = .ok (.iconst 0, 1) := by decide +kernel
theorem dX12_arm_15 : decode cX12_arm 15 = .ok (.bipush 9, 2) := by decide +kernel
theorem dX12_arm_17 : decode cX12_arm 17 = .ok (.invokestatic 143, 3) := by decide +kernel
theorem dX12_arm_20 : decode cX12_arm 20 = .ok (.ifCond .ne 9, 3) := by decide +kernel
theorem dX12_arm_23 : decode cX12_arm 23 = .ok (.aload_n 0, 1) := by decide +kernel
theorem dX12_arm_24 : decode cX12_arm 24 = .ok (.iconst 2, 1) := by decide +kernel
theorem dX12_arm_25 : decode cX12_arm 25 = .ok (.invokevirtual 268, 3) := by decide +kernel
theorem dX12_arm_28 : decode cX12_arm 28 = .ok (.ireturn, 1) := by decide +kernel
theorem dX12_arm_29 : decode cX12_arm 29 = .ok (.aload_n 0, 1) := by decide +kernel
theorem dX12_arm_30 : decode cX12_arm 30 = .ok (.iconst 0, 1) := by decide +kernel
theorem dX12_arm_31 : decode cX12_arm 31 = .ok (.putfield 139, 3) := by decide +kernel
theorem dX12_arm_34 : decode cX12_arm 34 = .ok (.iload_n 2, 1) := by decide +kernel
theorem dX12_arm_35 : decode cX12_arm 35 = .ok (.tableswitch 123 0 8 #[49, 56, 63, 70, 77, 96, 103, 110, 116], 49) := by decide +kernel
theorem dX12_arm_84 : decode cX12_arm 84 = .ok (.aload_n 0, 1) := by decide +kernel
theorem dX12_arm_85 : decode cX12_arm 85 = .ok (.getfield 37, 3) := by decide +kernel
theorem dX12_arm_88 : decode cX12_arm 88 = .ok (.iload_n 1, 1) := by decide +kernel
theorem dX12_arm_89 : decode cX12_arm 89 = .ok (.iaload, 1) := by decide +kernel
theorem dX12_arm_90 : decode cX12_arm 90 = .ok (.ireturn, 1) := by decide +kernel
theorem dX12_arm_91 : decode cX12_arm 91 = .ok (.aload_n 0, 1) := by decide +kernel
theorem dX12_arm_92 : decode cX12_arm 92 = .ok (.getfield 49, 3) := by decide +kernel
theorem dX12_arm_95 : decode cX12_arm 95 = .ok (.iload_n 1, 1) := by decide +kernel
theorem dX12_arm_96 : decode cX12_arm 96 = .ok (.iaload, 1) := by decide +kernel
theorem dX12_arm_97 : decode cX12_arm 97 = .ok (.ireturn, 1) := by decide +kernel
theorem dX12_arm_98 : decode cX12_arm 98 = .ok (.aload_n 0, 1) := by decide +kernel
theorem dX12_arm_99 : decode cX12_arm 99 = .ok (.getfield 46, 3) := by decide +kernel
theorem dX12_arm_102 : decode cX12_arm 102 = .ok (.iload_n 1, 1) := by decide +kernel
theorem dX12_arm_103 : decode cX12_arm 103 = .ok (.iaload, 1) := by decide +kernel
theorem dX12_arm_104 : decode cX12_arm 104 = .ok (.ireturn, 1) := by decide +kernel
theorem dX12_arm_105 : decode cX12_arm 105 = .ok (.aload_n 0, 1) := by decide +kernel
theorem dX12_arm_106 : decode cX12_arm 106 = .ok (.getfield 40, 3) := by decide +kernel
theorem dX12_arm_109 : decode cX12_arm 109 = .ok (.iload_n 1, 1) := by decide +kernel
theorem dX12_arm_110 : decode cX12_arm 110 = .ok (.iaload, 1) := by decide +kernel
theorem dX12_arm_111 : decode cX12_arm 111 = .ok (.ireturn, 1) := by decide +kernel
theorem dX12_arm_112 : decode cX12_arm 112 = .ok (.aload_n 0, 1) := by decide +kernel
theorem dX12_arm_113 : decode cX12_arm 113 = .ok (.getfield 49, 3) := by decide +kernel
theorem dX12_arm_116 : decode cX12_arm 116 = .ok (.iload_n 1, 1) := by decide +kernel
theorem dX12_arm_117 : decode cX12_arm 117 = .ok (.iaload, 1) := by decide +kernel
theorem dX12_arm_118 : decode cX12_arm 118 = .ok (.ifCond .ne 7, 3) := by decide +kernel
theorem dX12_arm_121 : decode cX12_arm 121 = .ok (.iconst (-1), 1) := by decide +kernel
theorem dX12_arm_122 : decode cX12_arm 122 = .ok (.goto 8, 3) := by decide +kernel
theorem dX12_arm_125 : decode cX12_arm 125 = .ok (.aload_n 0, 1) := by decide +kernel
theorem dX12_arm_126 : decode cX12_arm 126 = .ok (.iload_n 1, 1) := by decide +kernel
theorem dX12_arm_127 : decode cX12_arm 127 = .ok (.invokevirtual 151, 3) := by decide +kernel
theorem dX12_arm_130 : decode cX12_arm 130 = .ok (.ireturn, 1) := by decide +kernel
theorem dX12_arm_131 : decode cX12_arm 131 = .ok (.aload_n 0, 1) := by decide +kernel
theorem dX12_arm_132 : decode cX12_arm 132 = .ok (.getfield 55, 3) := by decide +kernel
theorem dX12_arm_135 : decode cX12_arm 135 = .ok (.iload_n 1, 1) := by decide +kernel
theorem dX12_arm_136 : decode cX12_arm 136 = .ok (.iaload, 1) := by decide +kernel
theorem dX12_arm_137 : decode cX12_arm 137 = .ok (.ireturn, 1) := by decide +kernel
theorem dX12_arm_138 : decode cX12_arm 138 = .ok (.aload_n 0, 1) := by decide +kernel
theorem dX12_arm_139 : decode cX12_arm 139 = .ok (.getfield 58, 3) := by decide +kernel
theorem dX12_arm_142 : decode cX12_arm 142 = .ok (.iload_n 1, 1) := by decide +kernel
theorem dX12_arm_143 : decode cX12_arm 143 = .ok (.iaload, 1) := by decide +kernel
theorem dX12_arm_144 : decode cX12_arm 144 = .ok (.ireturn, 1) := by decide +kernel
theorem dX12_arm_145 : decode cX12_arm 145 = .ok (.aload_n 0, 1) := by decide +kernel
theorem dX12_arm_146 : decode cX12_arm 146 = .ok (.iload_n 1, 1) := by decide +kernel
theorem dX12_arm_147 : decode cX12_arm 147 = .ok (.invokevirtual 161, 3) := by decide +kernel
theorem dX12_arm_150 : decode cX12_arm 150 = .ok (.ireturn, 1) := by decide +kernel
theorem dX12_arm_151 : decode cX12_arm 151 = .ok (.aload_n 0, 1) := by decide +kernel
theorem dX12_arm_152 : decode cX12_arm 152 = .ok (.getfield 67, 3) := by decide +kernel
theorem dX12_arm_155 : decode cX12_arm 155 = .ok (.iload_n 1, 1) := by decide +kernel
theorem dX12_arm_156 : decode cX12_arm 156 = .ok (.iaload, 1) := by decide +kernel
theorem dX12_arm_157 : decode cX12_arm 157 = .ok (.ireturn, 1) := by decide +kernel
theorem dX12_arm_158 : decode cX12_arm 158 = .ok (.aload_n 0, 1) := by decide +kernel
theorem dX12_arm_159 : decode cX12_arm 159 = .ok (.getfield 70, 3) := by decide +kernel
theorem dX12_arm_162 : decode cX12_arm 162 = .ok (.iload_n 1, 1) := by decide +kernel
theorem dX12_arm_163 : decode cX12_arm 163 = .ok (.iaload, 1) := by decide +kernel
theorem dX12_arm_164 : decode cX12_arm 164 = .ok (.ireturn, 1) := by decide +kernel
theorem dX12_waiting_0 : decode cX12_waiting 0 = .ok (.iload_n 1, 1) := by decide +kernel
theorem dX12_waiting_1 : decode cX12_waiting 1 = .ok (.invokestatic 265, 3) := by decide +kernel
theorem dX12_waiting_4 : decode cX12_waiting 4 = .ok (.ifCond .eq 19, 3) := by decide +kernel
theorem dX12_waiting_7 : decode cX12_waiting 7 = .ok (.iload_n 2, 1) := by decide +kernel
theorem dX12_waiting_8 : decode cX12_waiting 8 = .ok (.iconst 0, 1) := by decide +kernel
theorem dX12_waiting_9 : decode cX12_waiting 9 = .ok (.aload_n 0, 1) := by decide +kernel
theorem dX12_waiting_10 : decode cX12_waiting 10 = .ok (.getfield 40, 3) := by decide +kernel
theorem dX12_waiting_13 : decode cX12_waiting 13 = .ok (.iload_n 1, 1) := by decide +kernel
theorem dX12_waiting_14 : decode cX12_waiting 14 = .ok (.iaload, 1) := by decide +kernel
theorem dX12_waiting_15 : decode cX12_waiting 15 = .ok (.iconst 1, 1) := by decide +kernel
theorem dX12_waiting_16 : decode cX12_waiting 16 = .ok (.isub, 1) := by decide +kernel
theorem dX12_waiting_17 : decode cX12_waiting 17 = .ok (.invokestatic 143, 3) := by decide +kernel
theorem dX12_waiting_20 : decode cX12_waiting 20 = .ok (.ifCond .ne 9, 3) := by decide +kernel
theorem dX12_waiting_23 : decode cX12_waiting 23 = .ok (.aload_n 0, 1) := by decide +kernel
theorem dX12_waiting_24 : decode cX12_waiting 24 = .ok (.iconst 1, 1) := by decide +kernel
theorem dX12_waiting_25 : decode cX12_waiting 25 = .ok (.invokevirtual 268, 3) := by decide +kernel
theorem dX12_waiting_28 : decode cX12_waiting 28 = .ok (.ireturn, 1) := by decide +kernel
theorem dX12_waiting_29 : decode cX12_waiting 29 = .ok (.aload_n 0, 1) := by decide +kernel
theorem dX12_waiting_30 : decode cX12_waiting 30 = .ok (.iconst 0, 1) := by decide +kernel
theorem dX12_waiting_31 : decode cX12_waiting 31 = .ok (.putfield 139, 3) := by decide +kernel
theorem dX12_waiting_34 : decode cX12_waiting 34 = .ok (.aload_n 0, 1) := by decide +kernel
theorem dX12_waiting_35 : decode cX12_waiting 35 = .ok (.getfield 43, 3) := by decide +kernel
theorem dX12_waiting_38 : decode cX12_waiting 38 = .ok (.bipush 30, 2) := by decide +kernel
theorem dX12_waiting_40 : decode cX12_waiting 40 = .ok (.iload_n 1, 1) := by decide +kernel
theorem dX12_waiting_41 : decode cX12_waiting 41 = .ok (.imul, 1) := by decide +kernel
theorem dX12_waiting_42 : decode cX12_waiting 42 = .ok (.iload_n 2, 1) := by decide +kernel
theorem dX12_waiting_43 : decode cX12_waiting 43 = .ok (.iadd, 1) := by decide +kernel
theorem dX12_waiting_44 : decode cX12_waiting 44 = .ok (.iaload, 1) := by decide +kernel
theorem dX12_waiting_45 : decode cX12_waiting 45 = .ok (.ireturn, 1) := by decide +kernel
theorem dX12_tick_0 : decode cX12_tick 0 = .ok (.iload_n 1, 1) := by decide +kernel
theorem dX12_tick_1 : decode cX12_tick 1 = .ok (.iconst 1, 1) := by decide +kernel
theorem dX12_tick_2 : decode cX12_tick 2 = .ok (.bipush 50, 2) := by decide +kernel
theorem dX12_tick_4 : decode cX12_tick 4 = .ok (.invokestatic 143, 3) := by decide +kernel
theorem dX12_tick_7 : decode cX12_tick 7 = .ok (.ifCond .ne 9, 3) := by decide +kernel
theorem dX12_tick_10 : decode cX12_tick 10 = .ok (.aload_n 0, 1) := by decide +kernel
theorem dX12_tick_11 : decode cX12_tick 11 = .ok (.iconst 1, 1) := by decide +kernel
theorem dX12_tick_12 : decode cX12_tick 12 = .ok (.invokevirtual 268, 3) := by decide +kernel
theorem dX12_tick_15 : decode cX12_tick 15 = .ok (.ireturn, 1) := by decide +kernel
theorem dX12_tick_16 : decode cX12_tick 16 = .ok (.aload_n 0, 1) := by decide +kernel
theorem dX12_tick_17 : decode cX12_tick 17 = .ok (.iconst 0, 1) := by decide +kernel
theorem dX12_tick_18 : decode cX12_tick 18 = .ok (.putfield 139, 3) := by decide +kernel
theorem dX12_tick_21 : decode cX12_tick 21 = .ok (.aload_n 0, 1) := by decide +kernel
theorem dX12_tick_22 : decode cX12_tick 22 = .ok (.invokevirtual 258, 3) := by decide +kernel
theorem dX12_tick_25 : decode cX12_tick 25 = .ok (.aload_n 0, 1) := by decide +kernel
theorem dX12_tick_26 : decode cX12_tick 26 = .ok (.getfield 211, 3) := by decide +kernel
theorem dX12_tick_29 : decode cX12_tick 29 = .ok (.istore_n 2, 1) := by decide +kernel
theorem dX12_tick_30 : decode cX12_tick 30 = .ok (.iconst 0, 1) := by decide +kernel
theorem dX12_tick_31 : decode cX12_tick 31 = .ok (.istore_n 3, 1) := by decide +kernel
theorem dX12_tick_32 : decode cX12_tick 32 = .ok (.iload_n 3, 1) := by decide +kernel
theorem dX12_tick_33 : decode cX12_tick 33 = .ok (.iload_n 1, 1) := by decide +kernel
theorem dX12_tick_34 : decode cX12_tick 34 = .ok (.if_icmp .ge 13, 3) := by decide +kernel
theorem dX12_tick_37 : decode cX12_tick 37 = .ok (.aload_n 0, 1) := by decide +kernel
theorem dX12_tick_38 : decode cX12_tick 38 = .ok (.invokevirtual 297, 3) := by decide +kernel
theorem dX12_tick_41 : decode cX12_tick 41 = .ok (.iinc 3 1, 3) := by decide +kernel
theorem dX12_tick_44 : decode cX12_tick 44 = .ok (.goto (-12), 3) := by decide +kernel
theorem dX12_tick_47 : decode cX12_tick 47 = .ok (.aload_n 0, 1) := by decide +kernel
theorem dX12_tick_48 : decode cX12_tick 48 = .ok (.getfield 211, 3) := by decide +kernel
theorem dX12_tick_51 : decode cX12_tick 51 = .ok (.iload_n 2, 1) := by decide +kernel
theorem dX12_tick_52 : decode cX12_tick 52 = .ok (.isub, 1) := by decide +kernel
theorem dX12_tick_53 : decode cX12_tick 53 = .ok (.ireturn, 1) := by decide +kernel
theorem dX12_reason_0 : decode cX12_reason 0 = .ok (.iload_n 1, 1) := by decide +kernel
theorem dX12_reason_1 : decode cX12_reason 1 = .ok (.invokestatic 265, 3) := by decide +kernel
theorem dX12_reason_4 : decode cX12_reason 4 = .ok (.ifCond .ne 9, 3) := by decide +kernel
theorem dX12_reason_7 : decode cX12_reason 7 = .ok (.aload_n 0, 1) := by decide +kernel
theorem dX12_reason_8 : decode cX12_reason 8 = .ok (.iconst 1, 1) := by decide +kernel
theorem dX12_reason_9 : decode cX12_reason 9 = .ok (.invokevirtual 268, 3) := by decide +kernel
theorem dX12_reason_12 : decode cX12_reason 12 = .ok (.ireturn, 1) := by decide +kernel
theorem dX12_reason_13 : decode cX12_reason 13 = .ok (.aload_n 0, 1) := by decide +kernel
theorem dX12_reason_14 : decode cX12_reason 14 = .ok (.getfield 58, 3) := by decide +kernel
theorem dX12_reason_17 : decode cX12_reason 17 = .ok (.iload_n 1, 1) := by decide +kernel
theorem dX12_reason_18 : decode cX12_reason 18 = .ok (.iaload, 1) := by decide +kernel
theorem dX12_reason_19 : decode cX12_reason 19 = .ok (.ifCond .ne 9, 3) := by decide +kernel
theorem dX12_reason_22 : decode cX12_reason 22 = .ok (.aload_n 0, 1) := by decide +kernel
theorem dX12_reason_23 : decode cX12_reason 23 = .ok (.iconst 2, 1) := by decide +kernel
theorem dX12_reason_24 : decode cX12_reason 24 = .ok (.invokevirtual 268, 3) := by decide +kernel
theorem dX12_reason_27 : decode cX12_reason 27 = .ok (.ireturn, 1) := by decide +kernel
theorem dX12_reason_28 : decode cX12_reason 28 = .ok (.aload_n 0, 1) := by decide +kernel
theorem dX12_reason_29 : decode cX12_reason 29 = .ok (.iconst 0, 1) := by decide +kernel
theorem dX12_reason_30 : decode cX12_reason 30 = .ok (.putfield 139, 3) := by decide +kernel
theorem dX12_reason_33 : decode cX12_reason 33 = .ok (.iload_n 2, 1) := by decide +kernel
theorem dX12_reason_34 : decode cX12_reason 34 = .ok (.ifCond .eq 12, 3) := by decide +kernel
theorem dX12_reason_37 : decode cX12_reason 37 = .ok (.aload_n 0, 1) := by decide +kernel
theorem dX12_reason_38 : decode cX12_reason 38 = .ok (.getfield 64, 3) := by decide +kernel
theorem dX12_reason_41 : decode cX12_reason 41 = .ok (.iload_n 1, 1) := by decide +kernel
theorem dX12_reason_42 : decode cX12_reason 42 = .ok (.iaload, 1) := by decide +kernel
theorem dX12_reason_43 : decode cX12_reason 43 = .ok (.goto 9, 3) := by decide +kernel
theorem dX12_reason_46 : decode cX12_reason 46 = .ok (.aload_n 0, 1) := by decide +kernel
theorem dX12_reason_47 : decode cX12_reason 47 = .ok (.getfield 61, 3) := by decide +kernel
theorem dX12_reason_50 : decode cX12_reason 50 = .ok (.iload_n 1, 1) := by decide +kernel
theorem dX12_reason_51 : decode cX12_reason 51 = .ok (.iaload, 1) := by decide +kernel
theorem dX12_reason_52 : decode cX12_reason 52 = .ok (.ireturn, 1) := by decide +kernel
theorem dX12_wouldBe_0 : decode cX12_wouldBe 0 = .ok (.iload_n 1, 1) := by decide +kernel
theorem dX12_wouldBe_1 : decode cX12_wouldBe 1 = .ok (.invokestatic 265, 3) := by decide +kernel
theorem dX12_wouldBe_4 : decode cX12_wouldBe 4 = .ok (.ifCond .ne 9, 3) := by decide +kernel
theorem dX12_wouldBe_7 : decode cX12_wouldBe 7 = .ok (.aload_n 0, 1) := by decide +kernel
theorem dX12_wouldBe_8 : decode cX12_wouldBe 8 = .ok (.iconst 1, 1) := by decide +kernel
theorem dX12_wouldBe_9 : decode cX12_wouldBe 9 = .ok (.invokevirtual 268, 3) := by decide +kernel
theorem dX12_wouldBe_12 : decode cX12_wouldBe 12 = .ok (.ireturn, 1) := by decide +kernel
theorem dX12_wouldBe_13 : decode cX12_wouldBe 13 = .ok (.aload_n 0, 1) := by decide +kernel
theorem dX12_wouldBe_14 : decode cX12_wouldBe 14 = .ok (.getfield 49, 3) := by decide +kernel
theorem dX12_wouldBe_17 : decode cX12_wouldBe 17 = .ok (.iload_n 1, 1) := by decide +kernel
theorem dX12_wouldBe_18 : decode cX12_wouldBe 18 = .ok (.iaload, 1) := by decide +kernel
theorem dX12_wouldBe_19 : decode cX12_wouldBe 19 = .ok (.ifCond .ne 7, 3) := by decide +kernel
theorem dX12_wouldBe_22 : decode cX12_wouldBe 22 = .ok (.iconst 1, 1) := by decide +kernel
theorem dX12_wouldBe_23 : decode cX12_wouldBe 23 = .ok (.goto 4, 3) := by decide +kernel
theorem dX12_wouldBe_26 : decode cX12_wouldBe 26 = .ok (.iconst 0, 1) := by decide +kernel
theorem dX12_wouldBe_27 : decode cX12_wouldBe 27 = .ok (.istore_n 2, 1) := by decide +kernel
theorem dX12_wouldBe_28 : decode cX12_wouldBe 28 = .ok (.iload_n 2, 1) := by decide +kernel
theorem dX12_wouldBe_29 : decode cX12_wouldBe 29 = .ok (.ifCond .eq 18, 3) := by decide +kernel
theorem dX12_wouldBe_32 : decode cX12_wouldBe 32 = .ok (.aload_n 0, 1) := by decide +kernel
theorem dX12_wouldBe_33 : decode cX12_wouldBe 33 = .ok (.getfield 40, 3) := by decide +kernel
theorem dX12_wouldBe_36 : decode cX12_wouldBe 36 = .ok (.iload_n 1, 1) := by decide +kernel
theorem dX12_wouldBe_37 : decode cX12_wouldBe 37 = .ok (.iaload, 1) := by decide +kernel
theorem dX12_wouldBe_38 : decode cX12_wouldBe 38 = .ok (.ifCond .ne 9, 3) := by decide +kernel
theorem dX12_wouldBe_41 : decode cX12_wouldBe 41 = .ok (.aload_n 0, 1) := by decide +kernel
theorem dX12_wouldBe_42 : decode cX12_wouldBe 42 = .ok (.iconst 2, 1) := by decide +kernel
theorem dX12_wouldBe_43 : decode cX12_wouldBe 43 = .ok (.invokevirtual 268, 3) := by decide +kernel
theorem dX12_wouldBe_46 : decode cX12_wouldBe 46 = .ok (.ireturn, 1) := by decide +kernel
theorem dX12_wouldBe_47 : decode cX12_wouldBe 47 = .ok (.iload_n 2, 1) := by decide +kernel
theorem dX12_wouldBe_48 : decode cX12_wouldBe 48 = .ok (.ifCond .eq 15, 3) := by decide +kernel
theorem dX12_wouldBe_51 : decode cX12_wouldBe 51 = .ok (.aload_n 0, 1) := by decide +kernel
theorem dX12_wouldBe_52 : decode cX12_wouldBe 52 = .ok (.getfield 43, 3) := by decide +kernel
theorem dX12_wouldBe_55 : decode cX12_wouldBe 55 = .ok (.bipush 30, 2) := by decide +kernel
theorem dX12_wouldBe_57 : decode cX12_wouldBe 57 = .ok (.iload_n 1, 1) := by decide +kernel
theorem dX12_wouldBe_58 : decode cX12_wouldBe 58 = .ok (.imul, 1) := by decide +kernel
theorem dX12_wouldBe_59 : decode cX12_wouldBe 59 = .ok (.iaload, 1) := by decide +kernel
theorem dX12_wouldBe_60 : decode cX12_wouldBe 60 = .ok (.goto 9, 3) := by decide +kernel
theorem dX12_wouldBe_63 : decode cX12_wouldBe 63 = .ok (.aload_n 0, 1) := by decide +kernel
theorem dX12_wouldBe_64 : decode cX12_wouldBe 64 = .ok (.getfield 46, 3) := by decide +kernel
theorem dX12_wouldBe_67 : decode cX12_wouldBe 67 = .ok (.iload_n 1, 1) := by decide +kernel
theorem dX12_wouldBe_68 : decode cX12_wouldBe 68 = .ok (.iaload, 1) := by decide +kernel
theorem dX12_wouldBe_69 : decode cX12_wouldBe 69 = .ok (.istore_n 3, 1) := by decide +kernel
theorem dX12_wouldBe_70 : decode cX12_wouldBe 70 = .ok (.iload_n 2, 1) := by decide +kernel
theorem dX12_wouldBe_71 : decode cX12_wouldBe 71 = .ok (.ifCond .eq 7, 3) := by decide +kernel
theorem dX12_wouldBe_74 : decode cX12_wouldBe 74 = .ok (.iconst 0, 1) := by decide +kernel
theorem dX12_wouldBe_75 : decode cX12_wouldBe 75 = .ok (.goto 25, 3) := by decide +kernel
theorem dX12_wouldBe_78 : decode cX12_wouldBe 78 = .ok (.aload_n 0, 1) := by decide +kernel
theorem dX12_wouldBe_79 : decode cX12_wouldBe 79 = .ok (.getfield 52, 3) := by decide +kernel
theorem dX12_wouldBe_82 : decode cX12_wouldBe 82 = .ok (.iload_n 1, 1) := by decide +kernel
theorem dX12_wouldBe_83 : decode cX12_wouldBe 83 = .ok (.iaload, 1) := by decide +kernel
theorem dX12_wouldBe_84 : decode cX12_wouldBe 84 = .ok (.aload_n 0, 1) := by decide +kernel
theorem dX12_wouldBe_85 : decode cX12_wouldBe 85 = .ok (.getfield 49, 3) := by decide +kernel
theorem dX12_wouldBe_88 : decode cX12_wouldBe 88 = .ok (.iload_n 1, 1) := by decide +kernel
theorem dX12_wouldBe_89 : decode cX12_wouldBe 89 = .ok (.iaload, 1) := by decide +kernel
theorem dX12_wouldBe_90 : decode cX12_wouldBe 90 = .ok (.iconst 2, 1) := by decide +kernel
theorem dX12_wouldBe_91 : decode cX12_wouldBe 91 = .ok (.if_icmp .ne 7, 3) := by decide +kernel
theorem dX12_wouldBe_94 : decode cX12_wouldBe 94 = .ok (.iconst 2, 1) := by decide +kernel
theorem dX12_wouldBe_95 : decode cX12_wouldBe 95 = .ok (.goto 4, 3) := by decide +kernel
theorem dX12_wouldBe_98 : decode cX12_wouldBe 98 = .ok (.iconst 1, 1) := by decide +kernel
theorem dX12_wouldBe_99 : decode cX12_wouldBe 99 = .ok (.iadd, 1) := by decide +kernel
theorem dX12_wouldBe_100 : decode cX12_wouldBe 100 = .ok (.istore 4, 2) := by decide +kernel
theorem dX12_wouldBe_102 : decode cX12_wouldBe 102 = .ok (.iload 4, 2) := by decide +kernel
theorem dX12_wouldBe_104 : decode cX12_wouldBe 104 = .ok (.aload_n 0, 1) := by decide +kernel
theorem dX12_wouldBe_105 : decode cX12_wouldBe 105 = .ok (.getfield 79, 3) := by decide +kernel
theorem dX12_wouldBe_108 : decode cX12_wouldBe 108 = .ok (.iload_n 3, 1) := by decide +kernel
theorem dX12_wouldBe_109 : decode cX12_wouldBe 109 = .ok (.iaload, 1) := by decide +kernel
theorem dX12_wouldBe_110 : decode cX12_wouldBe 110 = .ok (.if_icmp .lt 9, 3) := by decide +kernel
theorem dX12_wouldBe_113 : decode cX12_wouldBe 113 = .ok (.aload_n 0, 1) := by decide +kernel
theorem dX12_wouldBe_114 : decode cX12_wouldBe 114 = .ok (.iconst 2, 1) := by decide +kernel
theorem dX12_wouldBe_115 : decode cX12_wouldBe 115 = .ok (.invokevirtual 268, 3) := by decide +kernel
theorem dX12_wouldBe_118 : decode cX12_wouldBe 118 = .ok (.ireturn, 1) := by decide +kernel
theorem dX12_wouldBe_119 : decode cX12_wouldBe 119 = .ok (.aload_n 0, 1) := by decide +kernel
theorem dX12_wouldBe_120 : decode cX12_wouldBe 120 = .ok (.iconst 0, 1) := by decide +kernel
theorem dX12_wouldBe_121 : decode cX12_wouldBe 121 = .ok (.putfield 139, 3) := by decide +kernel
theorem dX12_wouldBe_124 : decode cX12_wouldBe 124 = .ok (.aload_n 0, 1) := by decide +kernel
theorem dX12_wouldBe_125 : decode cX12_wouldBe 125 = .ok (.iload_n 1, 1) := by decide +kernel
theorem dX12_wouldBe_126 : decode cX12_wouldBe 126 = .ok (.iload_n 3, 1) := by decide +kernel
theorem dX12_wouldBe_127 : decode cX12_wouldBe 127 = .ok (.iload 4, 2) := by decide +kernel
theorem dX12_wouldBe_129 : decode cX12_wouldBe 129 = .ok (.iload_n 2, 1) := by decide +kernel
theorem dX12_wouldBe_130 : decode cX12_wouldBe 130 = .ok (.invokevirtual 187, 3) := by decide +kernel
theorem dX12_wouldBe_133 : decode cX12_wouldBe 133 = .ok (.ireturn, 1) := by decide +kernel
theorem dX12_isQuiet_0 : decode cX12_isQuiet 0 = .ok (.iconst 0, 1) := by decide +kernel
theorem dX12_isQuiet_1 : decode cX12_isQuiet 1 = .ok (.istore_n 1, 1) := by decide +kernel
theorem dX12_isQuiet_2 : decode cX12_isQuiet 2 = .ok (.iload_n 1, 1) := by decide +kernel
theorem dX12_isQuiet_3 : decode cX12_isQuiet 3 = .ok (.iconst 3, 1) := by decide +kernel
theorem dX12_isQuiet_4 : decode cX12_isQuiet 4 = .ok (.if_icmp .ge 29, 3) := by decide +kernel
theorem dX12_isQuiet_7 : decode cX12_isQuiet 7 = .ok (.aload_n 0, 1) := by decide +kernel
theorem dX12_isQuiet_8 : decode cX12_isQuiet 8 = .ok (.getfield 49, 3) := by decide +kernel
theorem dX12_isQuiet_11 : decode cX12_isQuiet 11 = .ok (.iload_n 1, 1) := by decide +kernel
theorem dX12_isQuiet_12 : decode cX12_isQuiet 12 = .ok (.iaload, 1) := by decide +kernel
theorem dX12_isQuiet_13 : decode cX12_isQuiet 13 = .ok (.ifCond .ne 12, 3) := by decide +kernel
theorem dX12_isQuiet_16 : decode cX12_isQuiet 16 = .ok (.aload_n 0, 1) := by decide +kernel
theorem dX12_isQuiet_17 : decode cX12_isQuiet 17 = .ok (.getfield 40, 3) := by decide +kernel
theorem dX12_isQuiet_20 : decode cX12_isQuiet 20 = .ok (.iload_n 1, 1) := by decide +kernel
theorem dX12_isQuiet_21 : decode cX12_isQuiet 21 = .ok (.iaload, 1) := by decide +kernel
theorem dX12_isQuiet_22 : decode cX12_isQuiet 22 = .ok (.ifCond .le 5, 3) := by decide +kernel
theorem dX12_isQuiet_25 : decode cX12_isQuiet 25 = .ok (.iconst 0, 1) := by decide +kernel
theorem dX12_isQuiet_26 : decode cX12_isQuiet 26 = .ok (.ireturn, 1) := by decide +kernel
theorem dX12_isQuiet_27 : decode cX12_isQuiet 27 = .ok (.iinc 1 1, 3) := by decide +kernel
theorem dX12_isQuiet_30 : decode cX12_isQuiet 30 = .ok (.goto (-28), 3) := by decide +kernel
theorem dX12_isQuiet_33 : decode cX12_isQuiet 33 = .ok (.iconst 1, 1) := by decide +kernel
theorem dX12_isQuiet_34 : decode cX12_isQuiet 34 = .ok (.ireturn, 1) := by decide +kernel
theorem dX12_findsEnd_0 : decode cX12_findsEnd 0 = .ok (.aload_n 0, 1) := by decide +kernel
theorem dX12_findsEnd_1 : decode cX12_findsEnd 1 = .ok (.aload_n 0, 1) := by decide +kernel
theorem dX12_findsEnd_2 : decode cX12_findsEnd 2 = .ok (.getfield 133, 3) := by decide +kernel
theorem dX12_findsEnd_5 : decode cX12_findsEnd 5 = .ok (.iconst 0, 1) := by decide +kernel
theorem dX12_findsEnd_6 : decode cX12_findsEnd 6 = .ok (.iconst 1, 1) := by decide +kernel
theorem dX12_findsEnd_7 : decode cX12_findsEnd 7 = .ok (.invokevirtual 300, 3) := by decide +kernel
theorem dX12_findsEnd_10 : decode cX12_findsEnd 10 = .ok (.iconst 0, 1) := by decide +kernel
theorem dX12_findsEnd_11 : decode cX12_findsEnd 11 = .ok (.istore_n 2, 1) := by decide +kernel
theorem dX12_findsEnd_12 : decode cX12_findsEnd 12 = .ok (.iload_n 2, 1) := by decide +kernel
theorem dX12_findsEnd_13 : decode cX12_findsEnd 13 = .ok (.sipush 200, 3) := by decide +kernel
theorem dX12_findsEnd_16 : decode cX12_findsEnd 16 = .ok (.if_icmp .gt 37, 3) := by decide +kernel
theorem dX12_findsEnd_19 : decode cX12_findsEnd 19 = .ok (.iload_n 1, 1) := by decide +kernel
theorem dX12_findsEnd_20 : decode cX12_findsEnd 20 = .ok (.ifCond .ge 13, 3) := by decide +kernel
theorem dX12_findsEnd_23 : decode cX12_findsEnd 23 = .ok (.aload_n 0, 1) := by decide +kernel
theorem dX12_findsEnd_24 : decode cX12_findsEnd 24 = .ok (.invokevirtual 304, 3) := by decide +kernel
theorem dX12_findsEnd_27 : decode cX12_findsEnd 27 = .ok (.ifCond .eq 16, 3) := by decide +kernel
theorem dX12_findsEnd_30 : decode cX12_findsEnd 30 = .ok (.goto 23, 3) := by decide +kernel
theorem dX12_findsEnd_33 : decode cX12_findsEnd 33 = .ok (.aload_n 0, 1) := by decide +kernel
theorem dX12_findsEnd_34 : decode cX12_findsEnd 34 = .ok (.getfield 94, 3) := by decide +kernel
theorem dX12_findsEnd_37 : decode cX12_findsEnd 37 = .ok (.iload_n 1, 1) := by decide +kernel
theorem dX12_findsEnd_38 : decode cX12_findsEnd 38 = .ok (.iaload, 1) := by decide +kernel
theorem dX12_findsEnd_39 : decode cX12_findsEnd 39 = .ok (.iconst 2, 1) := by decide +kernel
theorem dX12_findsEnd_40 : decode cX12_findsEnd 40 = .ok (.if_icmp .eq 13, 3) := by decide +kernel
theorem dX12_findsEnd_43 : decode cX12_findsEnd 43 = .ok (.aload_n 0, 1) := by decide +kernel
theorem dX12_findsEnd_44 : decode cX12_findsEnd 44 = .ok (.invokevirtual 297, 3) := by decide +kernel
theorem dX12_findsEnd_47 : decode cX12_findsEnd 47 = .ok (.iinc 2 1, 3) := by decide +kernel
theorem dX12_findsEnd_50 : decode cX12_findsEnd 50 = .ok (.goto (-38), 3) := by decide +kernel
theorem dX12_findsEnd_53 : decode cX12_findsEnd 53 = .ok (.aload_n 0, 1) := by decide +kernel
theorem dX12_findsEnd_54 : decode cX12_findsEnd 54 = .ok (.aload_n 0, 1) := by decide +kernel
theorem dX12_findsEnd_55 : decode cX12_findsEnd 55 = .ok (.getfield 133, 3) := by decide +kernel
theorem dX12_findsEnd_58 : decode cX12_findsEnd 58 = .ok (.iconst 0, 1) := by decide +kernel
theorem dX12_findsEnd_59 : decode cX12_findsEnd 59 = .ok (.iconst 0, 1) := by decide +kernel
theorem dX12_findsEnd_60 : decode cX12_findsEnd 60 = .ok (.invokevirtual 300, 3) := by decide +kernel
theorem dX12_findsEnd_63 : decode cX12_findsEnd 63 = .ok (.iload_n 2, 1) := by decide +kernel
theorem dX12_findsEnd_64 : decode cX12_findsEnd 64 = .ok (.ireturn, 1) := by decide +kernel
theorem dX12_endsAfter_0 : decode cX12_endsAfter 0 = .ok (.aload_n 0, 1) := by decide +kernel
theorem dX12_endsAfter_1 : decode cX12_endsAfter 1 = .ok (.iload_n 1, 1) := by decide +kernel
theorem dX12_endsAfter_2 : decode cX12_endsAfter 2 = .ok (.invokevirtual 294, 3) := by decide +kernel
theorem dX12_endsAfter_5 : decode cX12_endsAfter 5 = .ok (.ifCond .ne 9, 3) := by decide +kernel
theorem dX12_endsAfter_8 : decode cX12_endsAfter 8 = .ok (.aload_n 0, 1) := by decide +kernel
theorem dX12_endsAfter_9 : decode cX12_endsAfter 9 = .ok (.iconst 1, 1) := by decide +kernel
theorem dX12_endsAfter_10 : decode cX12_endsAfter 10 = .ok (.invokevirtual 268, 3) := by decide +kernel
theorem dX12_endsAfter_13 : decode cX12_endsAfter 13 = .ok (.ireturn, 1) := by decide +kernel
theorem dX12_endsAfter_14 : decode cX12_endsAfter 14 = .ok (.aload_n 0, 1) := by decide +kernel
theorem dX12_endsAfter_15 : decode cX12_endsAfter 15 = .ok (.getfield 94, 3) := by decide +kernel
theorem dX12_endsAfter_18 : decode cX12_endsAfter 18 = .ok (.iload_n 1, 1) := by decide +kernel
theorem dX12_endsAfter_19 : decode cX12_endsAfter 19 = .ok (.iaload, 1) := by decide +kernel
theorem dX12_endsAfter_20 : decode cX12_endsAfter 20 = .ok (.iconst 3, 1) := by decide +kernel
theorem dX12_endsAfter_21 : decode cX12_endsAfter 21 = .ok (.if_icmp .ne 9, 3) := by decide +kernel
theorem dX12_endsAfter_24 : decode cX12_endsAfter 24 = .ok (.aload_n 0, 1) := by decide +kernel
theorem dX12_endsAfter_25 : decode cX12_endsAfter 25 = .ok (.iconst 2, 1) := by decide +kernel
theorem dX12_endsAfter_26 : decode cX12_endsAfter 26 = .ok (.invokevirtual 268, 3) := by decide +kernel
theorem dX12_endsAfter_29 : decode cX12_endsAfter 29 = .ok (.ireturn, 1) := by decide +kernel
theorem dX12_endsAfter_30 : decode cX12_endsAfter 30 = .ok (.aload_n 0, 1) := by decide +kernel
theorem dX12_endsAfter_31 : decode cX12_endsAfter 31 = .ok (.iload_n 1, 1) := by decide +kernel
theorem dX12_endsAfter_32 : decode cX12_endsAfter 32 = .ok (.invokevirtual 308, 3) := by decide +kernel
theorem dX12_endsAfter_35 : decode cX12_endsAfter 35 = .ok (.istore_n 2, 1) := by decide +kernel
theorem dX12_endsAfter_36 : decode cX12_endsAfter 36 = .ok (.aload_n 0, 1) := by decide +kernel
theorem dX12_endsAfter_37 : decode cX12_endsAfter 37 = .ok (.iload_n 2, 1) := by decide +kernel
theorem dX12_endsAfter_38 : decode cX12_endsAfter 38 = .ok (.sipush 200, 3) := by decide +kernel
theorem dX12_endsAfter_41 : decode cX12_endsAfter 41 = .ok (.if_icmp .le 7, 3) := by decide +kernel
theorem dX12_endsAfter_44 : decode cX12_endsAfter 44 = .ok (.iconst 2, 1) := by decide +kernel
theorem dX12_endsAfter_45 : decode cX12_endsAfter 45 = .ok (.goto 4, 3) := by decide +kernel
theorem dX12_endsAfter_48 : decode cX12_endsAfter 48 = .ok (.iconst 0, 1) := by decide +kernel
theorem dX12_endsAfter_49 : decode cX12_endsAfter 49 = .ok (.putfield 139, 3) := by decide +kernel
theorem dX12_endsAfter_52 : decode cX12_endsAfter 52 = .ok (.iload_n 2, 1) := by decide +kernel
theorem dX12_endsAfter_53 : decode cX12_endsAfter 53 = .ok (.sipush 200, 3) := by decide +kernel
theorem dX12_endsAfter_56 : decode cX12_endsAfter 56 = .ok (.if_icmp .le 7, 3) := by decide +kernel
theorem dX12_endsAfter_59 : decode cX12_endsAfter 59 = .ok (.iconst 0, 1) := by decide +kernel
theorem dX12_endsAfter_60 : decode cX12_endsAfter 60 = .ok (.goto 4, 3) := by decide +kernel
theorem dX12_endsAfter_63 : decode cX12_endsAfter 63 = .ok (.iload_n 2, 1) := by decide +kernel
theorem dX12_endsAfter_64 : decode cX12_endsAfter 64 = .ok (.ireturn, 1) := by decide +kernel
theorem dX12_idleAfter_0 : decode cX12_idleAfter 0 = .ok (.aload_n 0, 1) := by decide +kernel
theorem dX12_idleAfter_1 : decode cX12_idleAfter 1 = .ok (.iconst (-1), 1) := by decide +kernel
theorem dX12_idleAfter_2 : decode cX12_idleAfter 2 = .ok (.invokevirtual 308, 3) := by decide +kernel
theorem dX12_idleAfter_5 : decode cX12_idleAfter 5 = .ok (.istore_n 1, 1) := by decide +kernel
theorem dX12_idleAfter_6 : decode cX12_idleAfter 6 = .ok (.aload_n 0, 1) := by decide +kernel
theorem dX12_idleAfter_7 : decode cX12_idleAfter 7 = .ok (.iload_n 1, 1) := by decide +kernel
theorem dX12_idleAfter_8 : decode cX12_idleAfter 8 = .ok (.sipush 200, 3) := by decide +kernel
theorem dX12_idleAfter_11 : decode cX12_idleAfter 11 = .ok (.if_icmp .le 7, 3) := by decide +kernel
theorem dX12_idleAfter_14 : decode cX12_idleAfter 14 = .ok (.iconst 1, 1) := by decide +kernel
theorem dX12_idleAfter_15 : decode cX12_idleAfter 15 = .ok (.goto 4, 3) := by decide +kernel
theorem dX12_idleAfter_18 : decode cX12_idleAfter 18 = .ok (.iconst 0, 1) := by decide +kernel
theorem dX12_idleAfter_19 : decode cX12_idleAfter 19 = .ok (.putfield 139, 3) := by decide +kernel
theorem dX12_idleAfter_22 : decode cX12_idleAfter 22 = .ok (.iload_n 1, 1) := by decide +kernel
theorem dX12_idleAfter_23 : decode cX12_idleAfter 23 = .ok (.sipush 200, 3) := by decide +kernel
theorem dX12_idleAfter_26 : decode cX12_idleAfter 26 = .ok (.if_icmp .le 7, 3) := by decide +kernel
theorem dX12_idleAfter_29 : decode cX12_idleAfter 29 = .ok (.iconst 0, 1) := by decide +kernel
theorem dX12_idleAfter_30 : decode cX12_idleAfter 30 = .ok (.goto 4, 3) := by decide +kernel
theorem dX12_idleAfter_33 : decode cX12_idleAfter 33 = .ok (.iload_n 1, 1) := by decide +kernel
theorem dX12_idleAfter_34 : decode cX12_idleAfter 34 = .ok (.ireturn, 1) := by decide +kernel
theorem dX12_isSafe_0 : decode cX12_isSafe 0 = .ok (.aload_n 0, 1) := by decide +kernel
theorem dX12_isSafe_1 : decode cX12_isSafe 1 = .ok (.iconst 0, 1) := by decide +kernel
theorem dX12_isSafe_2 : decode cX12_isSafe 2 = .ok (.putfield 139, 3) := by decide +kernel
theorem dX12_isSafe_5 : decode cX12_isSafe 5 = .ok (.aload_n 0, 1) := by decide +kernel
theorem dX12_isSafe_6 : decode cX12_isSafe 6 = .ok (.invokevirtual 180, 3) := by decide +kernel
theorem dX12_isSafe_9 : decode cX12_isSafe 9 = .ok (.aload_n 0, 1) := by decide +kernel
theorem dX12_isSafe_10 : decode cX12_isSafe 10 = .ok (.invokevirtual 183, 3) := by decide +kernel
theorem dX12_isSafe_13 : decode cX12_isSafe 13 = .ok (.ifCond .ge 7, 3) := by decide +kernel
theorem dX12_isSafe_16 : decode cX12_isSafe 16 = .ok (.iconst 1, 1) := by decide +kernel
theorem dX12_isSafe_17 : decode cX12_isSafe 17 = .ok (.goto 4, 3) := by decide +kernel
theorem dX12_isSafe_20 : decode cX12_isSafe 20 = .ok (.iconst 0, 1) := by decide +kernel
theorem dX12_isSafe_21 : decode cX12_isSafe 21 = .ok (.ireturn, 1) := by decide +kernel
theorem dX12_entry_0 : decode cX12_entry 0 = .ok (.iload_n 1, 1) := by decide +kernel
theorem dX12_entry_1 : decode cX12_entry 1 = .ok (.iconst 0, 1) := by decide +kernel
theorem dX12_entry_2 : decode cX12_entry 2 = .ok (.aload_n 0, 1) := by decide +kernel
theorem dX12_entry_3 : decode cX12_entry 3 = .ok (.getfield 155, 3) := by decide +kernel
theorem dX12_entry_6 : decode cX12_entry 6 = .ok (.iconst 1, 1) := by decide +kernel
theorem dX12_entry_7 : decode cX12_entry 7 = .ok (.isub, 1) := by decide +kernel
theorem dX12_entry_8 : decode cX12_entry 8 = .ok (.invokestatic 143, 3) := by decide +kernel
theorem dX12_entry_11 : decode cX12_entry 11 = .ok (.ifCond .ne 9, 3) := by decide +kernel
theorem dX12_entry_14 : decode cX12_entry 14 = .ok (.aload_n 0, 1) := by decide +kernel
theorem dX12_entry_15 : decode cX12_entry 15 = .ok (.iconst 1, 1) := by decide +kernel
theorem dX12_entry_16 : decode cX12_entry 16 = .ok (.invokevirtual 268, 3) := by decide +kernel
theorem dX12_entry_19 : decode cX12_entry 19 = .ok (.ireturn, 1) := by decide +kernel
theorem dX12_entry_20 : decode cX12_entry 20 = .ok (.iload_n 2, 1) := by decide +kernel
theorem dX12_entry_21 : decode cX12_entry 21 = .ok (.iconst 0, 1) := by decide +kernel
theorem dX12_entry_22 : decode cX12_entry 22 = .ok (.iconst 3, 1) := by decide +kernel
theorem dX12_entry_23 : decode cX12_entry 23 = .ok (.invokestatic 143, 3) := by decide +kernel
theorem dX12_entry_26 : decode cX12_entry 26 = .ok (.ifCond .ne 9, 3) := by decide +kernel
theorem dX12_entry_29 : decode cX12_entry 29 = .ok (.aload_n 0, 1) := by decide +kernel
theorem dX12_entry_30 : decode cX12_entry 30 = .ok (.iconst 2, 1) := by decide +kernel
theorem dX12_entry_31 : decode cX12_entry 31 = .ok (.invokevirtual 268, 3) := by decide +kernel
theorem dX12_entry_34 : decode cX12_entry 34 = .ok (.ireturn, 1) := by decide +kernel
theorem dX12_entry_35 : decode cX12_entry 35 = .ok (.aload_n 0, 1) := by decide +kernel
theorem dX12_entry_36 : decode cX12_entry 36 = .ok (.iconst 0, 1) := by decide +kernel
theorem dX12_entry_37 : decode cX12_entry 37 = .ok (.putfield 139, 3) := by decide +kernel
theorem dX12_entry_40 : decode cX12_entry 40 = .ok (.aload_n 0, 1) := by decide +kernel
theorem dX12_entry_41 : decode cX12_entry 41 = .ok (.getfield 103, 3) := by decide +kernel
theorem dX12_entry_44 : decode cX12_entry 44 = .ok (.iconst 4, 1) := by decide +kernel
theorem dX12_entry_45 : decode cX12_entry 45 = .ok (.iload_n 1, 1) := by decide +kernel
theorem dX12_entry_46 : decode cX12_entry 46 = .ok (.imul, 1) := by decide +kernel
theorem dX12_entry_47 : decode cX12_entry 47 = .ok (.iload_n 2, 1) := by decide +kernel
theorem dX12_entry_48 : decode cX12_entry 48 = .ok (.iadd, 1) := by decide +kernel
theorem dX12_entry_49 : decode cX12_entry 49 = .ok (.iaload, 1) := by decide +kernel
theorem dX12_entry_50 : decode cX12_entry 50 = .ok (.ireturn, 1) := by decide +kernel
theorem dX12_sum_0 : decode cX12_sum 0 = .ok (.iconst 0, 1) := by decide +kernel
theorem dX12_sum_1 : decode cX12_sum 1 = .ok (.istore_n 1, 1) := by decide +kernel
theorem dX12_sum_2 : decode cX12_sum 2 = .ok (.iconst 0, 1) := by decide +kernel
theorem dX12_sum_3 : decode cX12_sum 3 = .ok (.istore_n 2, 1) := by decide +kernel
theorem dX12_sum_4 : decode cX12_sum 4 = .ok (.iload_n 2, 1) := by decide +kernel
theorem dX12_sum_5 : decode cX12_sum 5 = .ok (.aload_n 0, 1) := by decide +kernel
theorem dX12_sum_6 : decode cX12_sum 6 = .ok (.arraylength, 1) := by decide +kernel
theorem dX12_sum_7 : decode cX12_sum 7 = .ok (.if_icmp .ge 15, 3) := by decide +kernel
theorem dX12_sum_10 : decode cX12_sum 10 = .ok (.iload_n 1, 1) := by decide +kernel
theorem dX12_sum_11 : decode cX12_sum 11 = .ok (.aload_n 0, 1) := by decide +kernel
theorem dX12_sum_12 : decode cX12_sum 12 = .ok (.iload_n 2, 1) := by decide +kernel
theorem dX12_sum_13 : decode cX12_sum 13 = .ok (.iaload, 1) := by decide +kernel
theorem dX12_sum_14 : decode cX12_sum 14 = .ok (.iadd, 1) := by decide +kernel
theorem dX12_sum_15 : decode cX12_sum 15 = .ok (.istore_n 1, 1) := by decide +kernel
theorem dX12_sum_16 : decode cX12_sum 16 = .ok (.iinc 2 1, 3) := by decide +kernel
theorem dX12_sum_19 : decode cX12_sum 19 = .ok (.goto (-15), 3) := by decide +kernel
theorem dX12_sum_22 : decode cX12_sum 22 = .ok (.iload_n 1, 1) := by decide +kernel
theorem dX12_sum_23 : decode cX12_sum 23 = .ok (.ireturn, 1) := by decide +kernel
theorem dX12_interlocks_0 : decode cX12_interlocks 0 = .ok (.iconst 0, 1) := by decide +kernel
theorem dX12_interlocks_1 : decode cX12_interlocks 1 = .ok (.istore_n 1, 1) := by decide +kernel
theorem dX12_interlocks_2 : decode cX12_interlocks 2 = .ok (.iconst 0, 1) := by decide +kernel
theorem dX12_interlocks_3 : decode cX12_interlocks 3 = .ok (.istore_n 2, 1) := by decide +kernel
theorem dX12_interlocks_4 : decode cX12_interlocks 4 = .ok (.iload_n 2, 1) := by decide +kernel
theorem dX12_interlocks_5 : decode cX12_interlocks 5 = .ok (.bipush 8, 2) := by decide +kernel
theorem dX12_interlocks_7 : decode cX12_interlocks 7 = .ok (.if_icmp .ge 35, 3) := by decide +kernel
theorem dX12_interlocks_10 : decode cX12_interlocks 10 = .ok (.iconst 0, 1) := by decide +kernel
theorem dX12_interlocks_11 : decode cX12_interlocks 11 = .ok (.istore_n 3, 1) := by decide +kernel
theorem dX12_interlocks_12 : decode cX12_interlocks 12 = .ok (.iload_n 3, 1) := by decide +kernel
theorem dX12_interlocks_13 : decode cX12_interlocks 13 = .ok (.iload_n 2, 1) := by decide +kernel
theorem dX12_interlocks_14 : decode cX12_interlocks 14 = .ok (.if_icmp .ge 22, 3) := by decide +kernel
theorem dX12_interlocks_17 : decode cX12_interlocks 17 = .ok (.iload_n 1, 1) := by decide +kernel
theorem dX12_interlocks_18 : decode cX12_interlocks 18 = .ok (.aload_n 0, 1) := by decide +kernel
theorem dX12_interlocks_19 : decode cX12_interlocks 19 = .ok (.getfield 7, 3) := by decide +kernel
theorem dX12_interlocks_22 : decode cX12_interlocks 22 = .ok (.iload_n 2, 1) := by decide +kernel
theorem dX12_interlocks_23 : decode cX12_interlocks 23 = .ok (.iaload, 1) := by decide +kernel
theorem dX12_interlocks_24 : decode cX12_interlocks 24 = .ok (.iload_n 3, 1) := by decide +kernel
theorem dX12_interlocks_25 : decode cX12_interlocks 25 = .ok (.ishr, 1) := by decide +kernel
theorem dX12_interlocks_26 : decode cX12_interlocks 26 = .ok (.iconst 1, 1) := by decide +kernel
theorem dX12_interlocks_27 : decode cX12_interlocks 27 = .ok (.iand, 1) := by decide +kernel
theorem dX12_interlocks_28 : decode cX12_interlocks 28 = .ok (.iadd, 1) := by decide +kernel
theorem dX12_interlocks_29 : decode cX12_interlocks 29 = .ok (.istore_n 1, 1) := by decide +kernel
theorem dX12_interlocks_30 : decode cX12_interlocks 30 = .ok (.iinc 3 1, 3) := by decide +kernel
theorem dX12_interlocks_33 : decode cX12_interlocks 33 = .ok (.goto (-21), 3) := by decide +kernel
theorem dX12_interlocks_36 : decode cX12_interlocks 36 = .ok (.iinc 2 1, 3) := by decide +kernel
theorem dX12_interlocks_39 : decode cX12_interlocks 39 = .ok (.goto (-35), 3) := by decide +kernel
theorem dX12_interlocks_42 : decode cX12_interlocks 42 = .ok (.iload_n 1, 1) := by decide +kernel
theorem dX12_interlocks_43 : decode cX12_interlocks 43 = .ok (.ireturn, 1) := by decide +kernel
theorem dX12_account_0 : decode cX12_account 0 = .ok (.iload_n 1, 1) := by decide +kernel
theorem dX12_account_1 : decode cX12_account 1 = .ok (.iconst 0, 1) := by decide +kernel
theorem dX12_account_2 : decode cX12_account 2 = .ok (.bipush 9, 2) := by decide +kernel
theorem dX12_account_4 : decode cX12_account 4 = .ok (.invokestatic 143, 3) := by decide +kernel
theorem dX12_account_7 : decode cX12_account 7 = .ok (.ifCond .ne 9, 3) := by decide +kernel
theorem dX12_account_10 : decode cX12_account 10 = .ok (.aload_n 0, 1) := by decide +kernel
theorem dX12_account_11 : decode cX12_account 11 = .ok (.iconst 1, 1) := by decide +kernel
theorem dX12_account_12 : decode cX12_account 12 = .ok (.invokevirtual 268, 3) := by decide +kernel
theorem dX12_account_15 : decode cX12_account 15 = .ok (.ireturn, 1) := by decide +kernel
theorem dX12_account_16 : decode cX12_account 16 = .ok (.aload_n 0, 1) := by decide +kernel
theorem dX12_account_17 : decode cX12_account 17 = .ok (.iconst 0, 1) := by decide +kernel
theorem dX12_account_18 : decode cX12_account 18 = .ok (.putfield 139, 3) := by decide +kernel
theorem dX12_account_21 : decode cX12_account 21 = .ok (.iload_n 1, 1) := by decide +kernel
theorem dX12_account_22 : decode cX12_account 22 = .ok (.tableswitch 101 0 8 #[50, 55, 60, 65, 70, 75, 83, 88, 93], 50) := by decide +kernel
theorem dX12_account_72 : decode cX12_account 72 = .ok (.aload_n 0, 1) := by decide +kernel
theorem dX12_account_73 : decode cX12_account 73 = .ok (.getfield 158, 3) := by decide +kernel
theorem dX12_account_76 : decode cX12_account 76 = .ok (.ireturn, 1) := by decide +kernel
theorem dX12_account_77 : decode cX12_account 77 = .ok (.aload_n 0, 1) := by decide +kernel
theorem dX12_account_78 : decode cX12_account 78 = .ok (.getfield 280, 3) := by decide +kernel
theorem dX12_account_81 : decode cX12_account 81 = .ok (.ireturn, 1) := by decide +kernel
theorem dX12_account_82 : decode cX12_account 82 = .ok (.aload_n 0, 1) := by decide +kernel
theorem dX12_account_83 : decode cX12_account 83 = .ok (.getfield 211, 3) := by decide +kernel
theorem dX12_account_86 : decode cX12_account 86 = .ok (.ireturn, 1) := by decide +kernel
theorem dX12_account_87 : decode cX12_account 87 = .ok (.aload_n 0, 1) := by decide +kernel
theorem dX12_account_88 : decode cX12_account 88 = .ok (.getfield 291, 3) := by decide +kernel
theorem dX12_account_91 : decode cX12_account 91 = .ok (.ireturn, 1) := by decide +kernel
theorem dX12_account_92 : decode cX12_account 92 = .ok (.aload_n 0, 1) := by decide +kernel
theorem dX12_account_93 : decode cX12_account 93 = .ok (.getfield 223, 3) := by decide +kernel
theorem dX12_account_96 : decode cX12_account 96 = .ok (.ireturn, 1) := by decide +kernel
theorem dX12_account_97 : decode cX12_account 97 = .ok (.aload_n 0, 1) := by decide +kernel
theorem dX12_account_98 : decode cX12_account 98 = .ok (.getfield 19, 3) := by decide +kernel
theorem dX12_account_101 : decode cX12_account 101 = .ok (.invokestatic 311, 3) := by decide +kernel
theorem dX12_account_104 : decode cX12_account 104 = .ok (.ireturn, 1) := by decide +kernel
theorem dX12_account_105 : decode cX12_account 105 = .ok (.aload_n 0, 1) := by decide +kernel
theorem dX12_account_106 : decode cX12_account 106 = .ok (.getfield 220, 3) := by decide +kernel
theorem dX12_account_109 : decode cX12_account 109 = .ok (.ireturn, 1) := by decide +kernel
theorem dX12_account_110 : decode cX12_account 110 = .ok (.aload_n 0, 1) := by decide +kernel
theorem dX12_account_111 : decode cX12_account 111 = .ok (.getfield 155, 3) := by decide +kernel
theorem dX12_account_114 : decode cX12_account 114 = .ok (.ireturn, 1) := by decide +kernel
theorem dX12_account_115 : decode cX12_account 115 = .ok (.aload_n 0, 1) := by decide +kernel
theorem dX12_account_116 : decode cX12_account 116 = .ok (.getfield 67, 3) := by decide +kernel
theorem dX12_account_119 : decode cX12_account 119 = .ok (.invokestatic 311, 3) := by decide +kernel
theorem dX12_account_122 : decode cX12_account 122 = .ok (.ireturn, 1) := by decide +kernel
theorem dX12_account_123 : decode cX12_account 123 = .ok (.aload_n 0, 1) := by decide +kernel
theorem dX12_account_124 : decode cX12_account 124 = .ok (.invokevirtual 315, 3) := by decide +kernel
theorem dX12_account_127 : decode cX12_account 127 = .ok (.ireturn, 1) := by decide +kernel
theorem dX12_use_0 : decode cX12_use 0 = .ok (.iload_n 1, 1) := by decide +kernel
theorem dX12_use_1 : decode cX12_use 1 = .ok (.invokestatic 265, 3) := by decide +kernel
theorem dX12_use_4 : decode cX12_use 4 = .ok (.ifCond .ne 10, 3) := by decide +kernel
theorem dX12_use_7 : decode cX12_use 7 = .ok (.aload_n 0, 1) := by decide +kernel
