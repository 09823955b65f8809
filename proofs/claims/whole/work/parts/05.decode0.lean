theorem dX0_init_0 : decode cX0_init 0 = .ok (.aload_n 0, 1) := by decide +kernel
theorem dX0_init_1 : decode cX0_init 1 = .ok (.invokespecial 3, 3) := by decide +kernel
theorem dX0_init_4 : decode cX0_init 4 = .ok (.aload_n 0, 1) := by decide +kernel
theorem dX0_init_5 : decode cX0_init 5 = .ok (.iload_n 1, 1) := by decide +kernel
theorem dX0_init_6 : decode cX0_init 6 = .ok (.putfield 9, 3) := by decide +kernel
theorem dX0_init_9 : decode cX0_init 9 = .ok (.aload_n 0, 1) := by decide +kernel
theorem dX0_init_10 : decode cX0_init 10 = .ok (.sipush 255, 3) := by decide +kernel
theorem dX0_init_13 : decode cX0_init 13 = .ok (.putfield 15, 3) := by decide +kernel
theorem dX0_init_16 : decode cX0_init 16 = .ok (.aload_n 0, 1) := by decide +kernel
theorem dX0_init_17 : decode cX0_init 17 = .ok (.iconst 0, 1) := by decide +kernel
theorem dX0_init_18 : decode cX0_init 18 = .ok (.putfield 18, 3) := by decide +kernel
theorem dX0_init_21 : decode cX0_init 21 = .ok (.aload_n 0, 1) := by decide +kernel
theorem dX0_init_22 : decode cX0_init 22 = .ok (.iconst (-1), 1) := by decide +kernel
theorem dX0_init_23 : decode cX0_init 23 = .ok (.putfield 21, 3) := by decide +kernel
theorem dX0_init_26 : decode cX0_init 26 = .ok (.aload_n 0, 1) := by decide +kernel
theorem dX0_init_27 : decode cX0_init 27 = .ok (.bipush 30, 2) := by decide +kernel
theorem dX0_init_29 : decode cX0_init 29 = .ok (.newarray .int, 2) := by decide +kernel
theorem dX0_init_31 : decode cX0_init 31 = .ok (.putfield 24, 3) := by decide +kernel
theorem dX0_init_34 : decode cX0_init 34 = .ok (.return_, 1) := by decide +kernel
theorem dX0_copyFrom_0 : decode cX0_copyFrom 0 = .ok (.aload_n 0, 1) := by decide +kernel
theorem dX0_copyFrom_1 : decode cX0_copyFrom 1 = .ok (.aload_n 1, 1) := by decide +kernel
theorem dX0_copyFrom_2 : decode cX0_copyFrom 2 = .ok (.getfield 15, 3) := by decide +kernel
theorem dX0_copyFrom_5 : decode cX0_copyFrom 5 = .ok (.putfield 15, 3) := by decide +kernel
theorem dX0_copyFrom_8 : decode cX0_copyFrom 8 = .ok (.aload_n 0, 1) := by decide +kernel
theorem dX0_copyFrom_9 : decode cX0_copyFrom 9 = .ok (.aload_n 1, 1) := by decide +kernel
theorem dX0_copyFrom_10 : decode cX0_copyFrom 10 = .ok (.getfield 18, 3) := by decide +kernel
theorem dX0_copyFrom_13 : decode cX0_copyFrom 13 = .ok (.putfield 18, 3) := by decide +kernel
theorem dX0_copyFrom_16 : decode cX0_copyFrom 16 = .ok (.aload_n 0, 1) := by decide +kernel
theorem dX0_copyFrom_17 : decode cX0_copyFrom 17 = .ok (.aload_n 1, 1) := by decide +kernel
theorem dX0_copyFrom_18 : decode cX0_copyFrom 18 = .ok (.getfield 21, 3) := by decide +kernel
theorem dX0_copyFrom_21 : decode cX0_copyFrom 21 = .ok (.putfield 21, 3) := by decide +kernel
theorem dX0_copyFrom_24 : decode cX0_copyFrom 24 = .ok (.aload_n 0, 1) := by decide +kernel
theorem dX0_copyFrom_25 : decode cX0_copyFrom 25 = .ok (.aload_n 1, 1) := by decide +kernel
theorem dX0_copyFrom_26 : decode cX0_copyFrom 26 = .ok (.getfield 28, 3) := by decide +kernel
theorem dX0_copyFrom_29 : decode cX0_copyFrom 29 = .ok (.putfield 28, 3) := by decide +kernel
theorem dX0_copyFrom_32 : decode cX0_copyFrom 32 = .ok (.aload_n 0, 1) := by decide +kernel
theorem dX0_copyFrom_33 : decode cX0_copyFrom 33 = .ok (.aload_n 1, 1) := by decide +kernel
theorem dX0_copyFrom_34 : decode cX0_copyFrom 34 = .ok (.getfield 31, 3) := by decide +kernel
theorem dX0_copyFrom_37 : decode cX0_copyFrom 37 = .ok (.putfield 31, 3) := by decide +kernel
theorem dX0_copyFrom_40 : decode cX0_copyFrom 40 = .ok (.aload_n 0, 1) := by decide +kernel
theorem dX0_copyFrom_41 : decode cX0_copyFrom 41 = .ok (.aload_n 1, 1) := by decide +kernel
theorem dX0_copyFrom_42 : decode cX0_copyFrom 42 = .ok (.getfield 34, 3) := by decide +kernel
theorem dX0_copyFrom_45 : decode cX0_copyFrom 45 = .ok (.putfield 34, 3) := by decide +kernel
theorem dX0_copyFrom_48 : decode cX0_copyFrom 48 = .ok (.aload_n 0, 1) := by decide +kernel
theorem dX0_copyFrom_49 : decode cX0_copyFrom 49 = .ok (.aload_n 1, 1) := by decide +kernel
theorem dX0_copyFrom_50 : decode cX0_copyFrom 50 = .ok (.getfield 37, 3) := by decide +kernel
theorem dX0_copyFrom_53 : decode cX0_copyFrom 53 = .ok (.putfield 37, 3) := by decide +kernel
theorem dX0_copyFrom_56 : decode cX0_copyFrom 56 = .ok (.aload_n 0, 1) := by decide +kernel
theorem dX0_copyFrom_57 : decode cX0_copyFrom 57 = .ok (.aload_n 1, 1) := by decide +kernel
theorem dX0_copyFrom_58 : decode cX0_copyFrom 58 = .ok (.getfield 40, 3) := by decide +kernel
theorem dX0_copyFrom_61 : decode cX0_copyFrom 61 = .ok (.putfield 40, 3) := by decide +kernel
theorem dX0_copyFrom_64 : decode cX0_copyFrom 64 = .ok (.aload_n 0, 1) := by decide +kernel
theorem dX0_copyFrom_65 : decode cX0_copyFrom 65 = .ok (.aload_n 1, 1) := by decide +kernel
theorem dX0_copyFrom_66 : decode cX0_copyFrom 66 = .ok (.getfield 43, 3) := by decide +kernel
theorem dX0_copyFrom_69 : decode cX0_copyFrom 69 = .ok (.putfield 43, 3) := by decide +kernel
theorem dX0_copyFrom_72 : decode cX0_copyFrom 72 = .ok (.aload_n 0, 1) := by decide +kernel
theorem dX0_copyFrom_73 : decode cX0_copyFrom 73 = .ok (.aload_n 1, 1) := by decide +kernel
theorem dX0_copyFrom_74 : decode cX0_copyFrom 74 = .ok (.getfield 46, 3) := by decide +kernel
theorem dX0_copyFrom_77 : decode cX0_copyFrom 77 = .ok (.putfield 46, 3) := by decide +kernel
theorem dX0_copyFrom_80 : decode cX0_copyFrom 80 = .ok (.aload_n 0, 1) := by decide +kernel
theorem dX0_copyFrom_81 : decode cX0_copyFrom 81 = .ok (.aload_n 1, 1) := by decide +kernel
theorem dX0_copyFrom_82 : decode cX0_copyFrom 82 = .ok (.getfield 49, 3) := by decide +kernel
theorem dX0_copyFrom_85 : decode cX0_copyFrom 85 = .ok (.putfield 49, 3) := by decide +kernel
theorem dX0_copyFrom_88 : decode cX0_copyFrom 88 = .ok (.aload_n 0, 1) := by decide +kernel
theorem dX0_copyFrom_89 : decode cX0_copyFrom 89 = .ok (.aload_n 1, 1) := by decide +kernel
theorem dX0_copyFrom_90 : decode cX0_copyFrom 90 = .ok (.getfield 52, 3) := by decide +kernel
theorem dX0_copyFrom_93 : decode cX0_copyFrom 93 = .ok (.putfield 52, 3) := by decide +kernel
theorem dX0_copyFrom_96 : decode cX0_copyFrom 96 = .ok (.aload_n 1, 1) := by decide +kernel
theorem dX0_copyFrom_97 : decode cX0_copyFrom 97 = .ok (.getfield 24, 3) := by decide +kernel
theorem dX0_copyFrom_100 : decode cX0_copyFrom 100 = .ok (.aload_n 0, 1) := by decide +kernel
theorem dX0_copyFrom_101 : decode cX0_copyFrom 101 = .ok (.getfield 24, 3) := by decide +kernel
theorem dX0_copyFrom_104 : decode cX0_copyFrom 104 = .ok (.invokestatic 55, 3) := by decide +kernel
theorem dX0_copyFrom_107 : decode cX0_copyFrom 107 = .ok (.return_, 1) := by decide +kernel
theorem dX0_rowAt_0 : decode cX0_rowAt 0 = .ok (.iload_n 1, 1) := by decide +kernel
theorem dX0_rowAt_1 : decode cX0_rowAt 1 = .ok (.ifCond .lt 29, 3) := by decide +kernel
theorem dX0_rowAt_4 : decode cX0_rowAt 4 = .ok (.iload_n 1, 1) := by decide +kernel
theorem dX0_rowAt_5 : decode cX0_rowAt 5 = .ok (.aload_n 0, 1) := by decide +kernel
theorem dX0_rowAt_6 : decode cX0_rowAt 6 = .ok (.getfield 52, 3) := by decide +kernel
theorem dX0_rowAt_9 : decode cX0_rowAt 9 = .ok (.if_icmp .ge 21, 3) := by decide +kernel
theorem dX0_rowAt_12 : decode cX0_rowAt 12 = .ok (.iload_n 1, 1) := by decide +kernel
theorem dX0_rowAt_13 : decode cX0_rowAt 13 = .ok (.aload_n 0, 1) := by decide +kernel
theorem dX0_rowAt_14 : decode cX0_rowAt 14 = .ok (.getfield 24, 3) := by decide +kernel
theorem dX0_rowAt_17 : decode cX0_rowAt 17 = .ok (.arraylength, 1) := by decide +kernel
theorem dX0_rowAt_18 : decode cX0_rowAt 18 = .ok (.if_icmp .ge 12, 3) := by decide +kernel
theorem dX0_rowAt_21 : decode cX0_rowAt 21 = .ok (.aload_n 0, 1) := by decide +kernel
theorem dX0_rowAt_22 : decode cX0_rowAt 22 = .ok (.getfield 24, 3) := by decide +kernel
theorem dX0_rowAt_25 : decode cX0_rowAt 25 = .ok (.iload_n 1, 1) := by decide +kernel
theorem dX0_rowAt_26 : decode cX0_rowAt 26 = .ok (.iaload, 1) := by decide +kernel
theorem dX0_rowAt_27 : decode cX0_rowAt 27 = .ok (.goto 4, 3) := by decide +kernel
theorem dX0_rowAt_30 : decode cX0_rowAt 30 = .ok (.iconst (-1), 1) := by decide +kernel
theorem dX0_rowAt_31 : decode cX0_rowAt 31 = .ok (.ireturn, 1) := by decide +kernel
theorem dX0_addToRow_0 : decode cX0_addToRow 0 = .ok (.aload_n 0, 1) := by decide +kernel
theorem dX0_addToRow_1 : decode cX0_addToRow 1 = .ok (.getfield 52, 3) := by decide +kernel
theorem dX0_addToRow_4 : decode cX0_addToRow 4 = .ok (.ifCond .lt 35, 3) := by decide +kernel
theorem dX0_addToRow_7 : decode cX0_addToRow 7 = .ok (.aload_n 0, 1) := by decide +kernel
theorem dX0_addToRow_8 : decode cX0_addToRow 8 = .ok (.getfield 52, 3) := by decide +kernel
theorem dX0_addToRow_11 : decode cX0_addToRow 11 = .ok (.aload_n 0, 1) := by decide +kernel
theorem dX0_addToRow_12 : decode cX0_addToRow 12 = .ok (.getfield 24, 3) := by decide +kernel
theorem dX0_addToRow_15 : decode cX0_addToRow 15 = .ok (.arraylength, 1) := by decide +kernel
theorem dX0_addToRow_16 : decode cX0_addToRow 16 = .ok (.if_icmp .ge 23, 3) := by decide +kernel
theorem dX0_addToRow_19 : decode cX0_addToRow 19 = .ok (.aload_n 0, 1) := by decide +kernel
theorem dX0_addToRow_20 : decode cX0_addToRow 20 = .ok (.getfield 24, 3) := by decide +kernel
theorem dX0_addToRow_23 : decode cX0_addToRow 23 = .ok (.aload_n 0, 1) := by decide +kernel
theorem dX0_addToRow_24 : decode cX0_addToRow 24 = .ok (.getfield 52, 3) := by decide +kernel
theorem dX0_addToRow_27 : decode cX0_addToRow 27 = .ok (.iload_n 1, 1) := by decide +kernel
theorem dX0_addToRow_28 : decode cX0_addToRow 28 = .ok (.iastore, 1) := by decide +kernel
theorem dX0_addToRow_29 : decode cX0_addToRow 29 = .ok (.aload_n 0, 1) := by decide +kernel
theorem dX0_addToRow_30 : decode cX0_addToRow 30 = .ok (.dup, 1) := by decide +kernel
theorem dX0_addToRow_31 : decode cX0_addToRow 31 = .ok (.getfield 52, 3) := by decide +kernel
theorem dX0_addToRow_34 : decode cX0_addToRow 34 = .ok (.iconst 1, 1) := by decide +kernel
theorem dX0_addToRow_35 : decode cX0_addToRow 35 = .ok (.iadd, 1) := by decide +kernel
theorem dX0_addToRow_36 : decode cX0_addToRow 36 = .ok (.putfield 52, 3) := by decide +kernel
theorem dX0_addToRow_39 : decode cX0_addToRow 39 = .ok (.return_, 1) := by decide +kernel
theorem dX0_takeFirstOfRow_0 : decode cX0_takeFirstOfRow 0 = .ok (.iconst (-1), 1) := by decide +kernel
theorem dX0_takeFirstOfRow_1 : decode cX0_takeFirstOfRow 1 = .ok (.istore_n 1, 1) := by decide +kernel
theorem dX0_takeFirstOfRow_2 : decode cX0_takeFirstOfRow 2 = .ok (.aload_n 0, 1) := by decide +kernel
theorem dX0_takeFirstOfRow_3 : decode cX0_takeFirstOfRow 3 = .ok (.getfield 52, 3) := by decide +kernel
theorem dX0_takeFirstOfRow_6 : decode cX0_takeFirstOfRow 6 = .ok (.ifCond .le 67, 3) := by decide +kernel
theorem dX0_takeFirstOfRow_9 : decode cX0_takeFirstOfRow 9 = .ok (.aload_n 0, 1) := by decide +kernel
theorem dX0_takeFirstOfRow_10 : decode cX0_takeFirstOfRow 10 = .ok (.getfield 24, 3) := by decide +kernel
theorem dX0_takeFirstOfRow_13 : decode cX0_takeFirstOfRow 13 = .ok (.arraylength, 1) := by decide +kernel
theorem dX0_takeFirstOfRow_14 : decode cX0_takeFirstOfRow 14 = .ok (.ifCond .le 59, 3) := by decide +kernel
theorem dX0_takeFirstOfRow_17 : decode cX0_takeFirstOfRow 17 = .ok (.aload_n 0, 1) := by decide +kernel
theorem dX0_takeFirstOfRow_18 : decode cX0_takeFirstOfRow 18 = .ok (.getfield 24, 3) := by decide +kernel
theorem dX0_takeFirstOfRow_21 : decode cX0_takeFirstOfRow 21 = .ok (.iconst 0, 1) := by decide +kernel
theorem dX0_takeFirstOfRow_22 : decode cX0_takeFirstOfRow 22 = .ok (.iaload, 1) := by decide +kernel
theorem dX0_takeFirstOfRow_23 : decode cX0_takeFirstOfRow 23 = .ok (.istore_n 1, 1) := by decide +kernel
theorem dX0_takeFirstOfRow_24 : decode cX0_takeFirstOfRow 24 = .ok (.iconst 1, 1) := by decide +kernel
theorem dX0_takeFirstOfRow_25 : decode cX0_takeFirstOfRow 25 = .ok (.istore_n 2, 1) := by decide +kernel
theorem dX0_takeFirstOfRow_26 : decode cX0_takeFirstOfRow 26 = .ok (.iload_n 2, 1) := by decide +kernel
theorem dX0_takeFirstOfRow_27 : decode cX0_takeFirstOfRow 27 = .ok (.aload_n 0, 1) := by decide +kernel
theorem dX0_takeFirstOfRow_28 : decode cX0_takeFirstOfRow 28 = .ok (.getfield 52, 3) := by decide +kernel
theorem dX0_takeFirstOfRow_31 : decode cX0_takeFirstOfRow 31 = .ok (.if_icmp .ge 32, 3) := by decide +kernel
theorem dX0_takeFirstOfRow_34 : decode cX0_takeFirstOfRow 34 = .ok (.iload_n 2, 1) := by decide +kernel
theorem dX0_takeFirstOfRow_35 : decode cX0_takeFirstOfRow 35 = .ok (.aload_n 0, 1) := by decide +kernel
theorem dX0_takeFirstOfRow_36 : decode cX0_takeFirstOfRow 36 = .ok (.getfield 24, 3) := by decide +kernel
theorem dX0_takeFirstOfRow_39 : decode cX0_takeFirstOfRow 39 = .ok (.arraylength, 1) := by decide +kernel
theorem dX0_takeFirstOfRow_40 : decode cX0_takeFirstOfRow 40 = .ok (.if_icmp .ge 23, 3) := by decide +kernel
theorem dX0_takeFirstOfRow_43 : decode cX0_takeFirstOfRow 43 = .ok (.aload_n 0, 1) := by decide +kernel
theorem dX0_takeFirstOfRow_44 : decode cX0_takeFirstOfRow 44 = .ok (.getfield 24, 3) := by decide +kernel
theorem dX0_takeFirstOfRow_47 : decode cX0_takeFirstOfRow 47 = .ok (.iload_n 2, 1) := by decide +kernel
theorem dX0_takeFirstOfRow_48 : decode cX0_takeFirstOfRow 48 = .ok (.iconst 1, 1) := by decide +kernel
theorem dX0_takeFirstOfRow_49 : decode cX0_takeFirstOfRow 49 = .ok (.isub, 1) := by decide +kernel
theorem dX0_takeFirstOfRow_50 : decode cX0_takeFirstOfRow 50 = .ok (.aload_n 0, 1) := by decide +kernel
theorem dX0_takeFirstOfRow_51 : decode cX0_takeFirstOfRow 51 = .ok (.getfield 24, 3) := by decide +kernel
theorem dX0_takeFirstOfRow_54 : decode cX0_takeFirstOfRow 54 = .ok (.iload_n 2, 1) := by decide +kernel
theorem dX0_takeFirstOfRow_55 : decode cX0_takeFirstOfRow 55 = .ok (.iaload, 1) := by decide +kernel
theorem dX0_takeFirstOfRow_56 : decode cX0_takeFirstOfRow 56 = .ok (.iastore, 1) := by decide +kernel
theorem dX0_takeFirstOfRow_57 : decode cX0_takeFirstOfRow 57 = .ok (.iinc 2 1, 3) := by decide +kernel
theorem dX0_takeFirstOfRow_60 : decode cX0_takeFirstOfRow 60 = .ok (.goto (-34), 3) := by decide +kernel
theorem dX0_takeFirstOfRow_63 : decode cX0_takeFirstOfRow 63 = .ok (.aload_n 0, 1) := by decide +kernel
theorem dX0_takeFirstOfRow_64 : decode cX0_takeFirstOfRow 64 = .ok (.dup, 1) := by decide +kernel
theorem dX0_takeFirstOfRow_65 : decode cX0_takeFirstOfRow 65 = .ok (.getfield 52, 3) := by decide +kernel
theorem dX0_takeFirstOfRow_68 : decode cX0_takeFirstOfRow 68 = .ok (.iconst 1, 1) := by decide +kernel
theorem dX0_takeFirstOfRow_69 : decode cX0_takeFirstOfRow 69 = .ok (.isub, 1) := by decide +kernel
theorem dX0_takeFirstOfRow_70 : decode cX0_takeFirstOfRow 70 = .ok (.putfield 52, 3) := by decide +kernel
theorem dX0_takeFirstOfRow_73 : decode cX0_takeFirstOfRow 73 = .ok (.iload_n 1, 1) := by decide +kernel
theorem dX0_takeFirstOfRow_74 : decode cX0_takeFirstOfRow 74 = .ok (.ireturn, 1) := by decide +kernel
theorem dX0_takeLastOfRow_0 : decode cX0_takeLastOfRow 0 = .ok (.aload_n 0, 1) := by decide +kernel
theorem dX0_takeLastOfRow_1 : decode cX0_takeLastOfRow 1 = .ok (.aload_n 0, 1) := by decide +kernel
theorem dX0_takeLastOfRow_2 : decode cX0_takeLastOfRow 2 = .ok (.getfield 52, 3) := by decide +kernel
theorem dX0_takeLastOfRow_5 : decode cX0_takeLastOfRow 5 = .ok (.iconst 1, 1) := by decide +kernel
theorem dX0_takeLastOfRow_6 : decode cX0_takeLastOfRow 6 = .ok (.isub, 1) := by decide +kernel
theorem dX0_takeLastOfRow_7 : decode cX0_takeLastOfRow 7 = .ok (.invokevirtual 59, 3) := by decide +kernel
theorem dX0_takeLastOfRow_10 : decode cX0_takeLastOfRow 10 = .ok (.istore_n 1, 1) := by decide +kernel
theorem dX0_takeLastOfRow_11 : decode cX0_takeLastOfRow 11 = .ok (.aload_n 0, 1) := by decide +kernel
theorem dX0_takeLastOfRow_12 : decode cX0_takeLastOfRow 12 = .ok (.getfield 52, 3) := by decide +kernel
theorem dX0_takeLastOfRow_15 : decode cX0_takeLastOfRow 15 = .ok (.ifCond .le 13, 3) := by decide +kernel
theorem dX0_takeLastOfRow_18 : decode cX0_takeLastOfRow 18 = .ok (.aload_n 0, 1) := by decide +kernel
theorem dX0_takeLastOfRow_19 : decode cX0_takeLastOfRow 19 = .ok (.dup, 1) := by decide +kernel
theorem dX0_takeLastOfRow_20 : decode cX0_takeLastOfRow 20 = .ok (.getfield 52, 3) := by decide +kernel
theorem dX0_takeLastOfRow_23 : decode cX0_takeLastOfRow 23 = .ok (.iconst 1, 1) := by decide +kernel
theorem dX0_takeLastOfRow_24 : decode cX0_takeLastOfRow 24 = .ok (.isub, 1) := by decide +kernel
theorem dX0_takeLastOfRow_25 : decode cX0_takeLastOfRow 25 = .ok (.putfield 52, 3) := by decide +kernel
theorem dX0_takeLastOfRow_28 : decode cX0_takeLastOfRow 28 = .ok (.iload_n 1, 1) := by decide +kernel
theorem dX0_takeLastOfRow_29 : decode cX0_takeLastOfRow 29 = .ok (.ireturn, 1) := by decide +kernel
theorem dX0_requestedJob_0 : decode cX0_requestedJob 0 = .ok (.aload_n 0, 1) := by decide +kernel
theorem dX0_requestedJob_1 : decode cX0_requestedJob 1 = .ok (.getfield 18, 3) := by decide +kernel
theorem dX0_requestedJob_4 : decode cX0_requestedJob 4 = .ok (.ifCond .ne 11, 3) := by decide +kernel
theorem dX0_requestedJob_7 : decode cX0_requestedJob 7 = .ok (.aload_n 0, 1) := by decide +kernel
theorem dX0_requestedJob_8 : decode cX0_requestedJob 8 = .ok (.iconst 0, 1) := by decide +kernel
theorem dX0_requestedJob_9 : decode cX0_requestedJob 9 = .ok (.invokevirtual 59, 3) := by decide +kernel
theorem dX0_requestedJob_12 : decode cX0_requestedJob 12 = .ok (.goto 7, 3) := by decide +kernel
theorem dX0_requestedJob_15 : decode cX0_requestedJob 15 = .ok (.aload_n 0, 1) := by decide +kernel
theorem dX0_requestedJob_16 : decode cX0_requestedJob 16 = .ok (.getfield 21, 3) := by decide +kernel
theorem dX0_requestedJob_19 : decode cX0_requestedJob 19 = .ok (.ireturn, 1) := by decide +kernel
theorem dX0_requestedPlace_0 : decode cX0_requestedPlace 0 = .ok (.aload_n 0, 1) := by decide +kernel
theorem dX0_requestedPlace_1 : decode cX0_requestedPlace 1 = .ok (.getfield 18, 3) := by decide +kernel
theorem dX0_requestedPlace_4 : decode cX0_requestedPlace 4 = .ok (.ifCond .ne 5, 3) := by decide +kernel
theorem dX0_requestedPlace_7 : decode cX0_requestedPlace 7 = .ok (.iconst 0, 1) := by decide +kernel
theorem dX0_requestedPlace_8 : decode cX0_requestedPlace 8 = .ok (.ireturn, 1) := by decide +kernel
theorem dX0_requestedPlace_9 : decode cX0_requestedPlace 9 = .ok (.aload_n 0, 1) := by decide +kernel
theorem dX0_requestedPlace_10 : decode cX0_requestedPlace 10 = .ok (.invokevirtual 63, 3) := by decide +kernel
theorem dX0_requestedPlace_13 : decode cX0_requestedPlace 13 = .ok (.iconst 1, 1) := by decide +kernel
theorem dX0_requestedPlace_14 : decode cX0_requestedPlace 14 = .ok (.iadd, 1) := by decide +kernel
theorem dX0_requestedPlace_15 : decode cX0_requestedPlace 15 = .ok (.ireturn, 1) := by decide +kernel
theorem dX0_lastHeldPlace_0 : decode cX0_lastHeldPlace 0 = .ok (.aload_n 0, 1) := by decide +kernel
theorem dX0_lastHeldPlace_1 : decode cX0_lastHeldPlace 1 = .ok (.getfield 18, 3) := by decide +kernel
theorem dX0_lastHeldPlace_4 : decode cX0_lastHeldPlace 4 = .ok (.iconst 2, 1) := by decide +kernel
theorem dX0_lastHeldPlace_5 : decode cX0_lastHeldPlace 5 = .ok (.if_icmp .ne 12, 3) := by decide +kernel
theorem dX0_lastHeldPlace_8 : decode cX0_lastHeldPlace 8 = .ok (.aload_n 0, 1) := by decide +kernel
theorem dX0_lastHeldPlace_9 : decode cX0_lastHeldPlace 9 = .ok (.getfield 28, 3) := by decide +kernel
theorem dX0_lastHeldPlace_12 : decode cX0_lastHeldPlace 12 = .ok (.iconst 1, 1) := by decide +kernel
theorem dX0_lastHeldPlace_13 : decode cX0_lastHeldPlace 13 = .ok (.iadd, 1) := by decide +kernel
theorem dX0_lastHeldPlace_14 : decode cX0_lastHeldPlace 14 = .ok (.goto 7, 3) := by decide +kernel
theorem dX0_lastHeldPlace_17 : decode cX0_lastHeldPlace 17 = .ok (.aload_n 0, 1) := by decide +kernel
theorem dX0_lastHeldPlace_18 : decode cX0_lastHeldPlace 18 = .ok (.getfield 28, 3) := by decide +kernel
theorem dX0_lastHeldPlace_21 : decode cX0_lastHeldPlace 21 = .ok (.ireturn, 1) := by decide +kernel
theorem dX0_refuse_0 : decode cX0_refuse 0 = .ok (.aload_n 0, 1) := by decide +kernel
theorem dX0_refuse_1 : decode cX0_refuse 1 = .ok (.iload_n 1, 1) := by decide +kernel
theorem dX0_refuse_2 : decode cX0_refuse 2 = .ok (.putfield 40, 3) := by decide +kernel
theorem dX0_refuse_5 : decode cX0_refuse 5 = .ok (.aload_n 0, 1) := by decide +kernel
theorem dX0_refuse_6 : decode cX0_refuse 6 = .ok (.iload_n 2, 1) := by decide +kernel
theorem dX0_refuse_7 : decode cX0_refuse 7 = .ok (.putfield 43, 3) := by decide +kernel
theorem dX0_refuse_10 : decode cX0_refuse 10 = .ok (.aload_n 0, 1) := by decide +kernel
theorem dX0_refuse_11 : decode cX0_refuse 11 = .ok (.iload_n 3, 1) := by decide +kernel
theorem dX0_refuse_12 : decode cX0_refuse 12 = .ok (.putfield 37, 3) := by decide +kernel
theorem dX0_refuse_15 : decode cX0_refuse 15 = .ok (.aload_n 0, 1) := by decide +kernel
theorem dX0_refuse_16 : decode cX0_refuse 16 = .ok (.dup, 1) := by decide +kernel
theorem dX0_refuse_17 : decode cX0_refuse 17 = .ok (.getfield 46, 3) := by decide +kernel
theorem dX0_refuse_20 : decode cX0_refuse 20 = .ok (.iconst 1, 1) := by decide +kernel
theorem dX0_refuse_21 : decode cX0_refuse 21 = .ok (.iadd, 1) := by decide +kernel
theorem dX0_refuse_22 : decode cX0_refuse 22 = .ok (.putfield 46, 3) := by decide +kernel
theorem dX0_refuse_25 : decode cX0_refuse 25 = .ok (.aload_n 0, 1) := by decide +kernel
theorem dX0_refuse_26 : decode cX0_refuse 26 = .ok (.getfield 18, 3) := by decide +kernel
theorem dX0_refuse_29 : decode cX0_refuse 29 = .ok (.iconst 1, 1) := by decide +kernel
theorem dX0_refuse_30 : decode cX0_refuse 30 = .ok (.if_icmp .ne 8, 3) := by decide +kernel
theorem dX0_refuse_33 : decode cX0_refuse 33 = .ok (.aload_n 0, 1) := by decide +kernel
theorem dX0_refuse_34 : decode cX0_refuse 34 = .ok (.iconst 3, 1) := by decide +kernel
theorem dX0_refuse_35 : decode cX0_refuse 35 = .ok (.putfield 18, 3) := by decide +kernel
theorem dX0_refuse_38 : decode cX0_refuse 38 = .ok (.return_, 1) := by decide +kernel
theorem dX0_workAt_0 : decode cX0_workAt 0 = .ok (.aload_n 0, 1) := by decide +kernel
theorem dX0_workAt_1 : decode cX0_workAt 1 = .ok (.iconst 1, 1) := by decide +kernel
theorem dX0_workAt_2 : decode cX0_workAt 2 = .ok (.putfield 18, 3) := by decide +kernel
theorem dX0_workAt_5 : decode cX0_workAt 5 = .ok (.aload_n 0, 1) := by decide +kernel
theorem dX0_workAt_6 : decode cX0_workAt 6 = .ok (.iload_n 1, 1) := by decide +kernel
theorem dX0_workAt_7 : decode cX0_workAt 7 = .ok (.putfield 28, 3) := by decide +kernel
theorem dX0_workAt_10 : decode cX0_workAt 10 = .ok (.aload_n 0, 1) := by decide +kernel
theorem dX0_workAt_11 : decode cX0_workAt 11 = .ok (.iload_n 3, 1) := by decide +kernel
theorem dX0_workAt_12 : decode cX0_workAt 12 = .ok (.putfield 31, 3) := by decide +kernel
theorem dX0_workAt_15 : decode cX0_workAt 15 = .ok (.aload_n 0, 1) := by decide +kernel
theorem dX0_workAt_16 : decode cX0_workAt 16 = .ok (.iconst 1, 1) := by decide +kernel
theorem dX0_workAt_17 : decode cX0_workAt 17 = .ok (.iload_n 2, 1) := by decide +kernel
theorem dX0_workAt_18 : decode cX0_workAt 18 = .ok (.ishl, 1) := by decide +kernel
theorem dX0_workAt_19 : decode cX0_workAt 19 = .ok (.putfield 34, 3) := by decide +kernel
theorem dX0_workAt_22 : decode cX0_workAt 22 = .ok (.return_, 1) := by decide +kernel
theorem dX0_rest_0 : decode cX0_rest 0 = .ok (.aload_n 0, 1) := by decide +kernel
theorem dX0_rest_1 : decode cX0_rest 1 = .ok (.iconst 0, 1) := by decide +kernel
theorem dX0_rest_2 : decode cX0_rest 2 = .ok (.putfield 18, 3) := by decide +kernel
theorem dX0_rest_5 : decode cX0_rest 5 = .ok (.aload_n 0, 1) := by decide +kernel
theorem dX0_rest_6 : decode cX0_rest 6 = .ok (.iconst (-1), 1) := by decide +kernel
theorem dX0_rest_7 : decode cX0_rest 7 = .ok (.putfield 21, 3) := by decide +kernel
theorem dX0_rest_10 : decode cX0_rest 10 = .ok (.aload_n 0, 1) := by decide +kernel
theorem dX0_rest_11 : decode cX0_rest 11 = .ok (.iconst 0, 1) := by decide +kernel
theorem dX0_rest_12 : decode cX0_rest 12 = .ok (.putfield 28, 3) := by decide +kernel
theorem dX0_rest_15 : decode cX0_rest 15 = .ok (.aload_n 0, 1) := by decide +kernel
theorem dX0_rest_16 : decode cX0_rest 16 = .ok (.iconst 0, 1) := by decide +kernel
theorem dX0_rest_17 : decode cX0_rest 17 = .ok (.putfield 31, 3) := by decide +kernel
theorem dX0_rest_20 : decode cX0_rest 20 = .ok (.aload_n 0, 1) := by decide +kernel
theorem dX0_rest_21 : decode cX0_rest 21 = .ok (.iconst 0, 1) := by decide +kernel
theorem dX0_rest_22 : decode cX0_rest 22 = .ok (.putfield 34, 3) := by decide +kernel
theorem dX0_rest_25 : decode cX0_rest 25 = .ok (.return_, 1) := by decide +kernel
theorem dX1_init_0 : decode cX1_init 0 = .ok (.aload_n 0, 1) := by decide +kernel
theorem dX1_init_1 : decode cX1_init 1 = .ok (.invokespecial 3, 3) := by decide +kernel
theorem dX1_init_4 : decode cX1_init 4 = .ok (.aload_n 0, 1) := by decide +kernel
theorem dX1_init_5 : decode cX1_init 5 = .ok (.new 9, 3) := by decide +kernel
theorem dX1_init_8 : decode cX1_init 8 = .ok (.dup, 1) := by decide +kernel
theorem dX1_init_9 : decode cX1_init 9 = .ok (.invokespecial 11, 3) := by decide +kernel
theorem dX1_init_12 : decode cX1_init 12 = .ok (.putfield 12, 3) := by decide +kernel
theorem dX1_init_15 : decode cX1_init 15 = .ok (.aload_n 0, 1) := by decide +kernel
theorem dX1_init_16 : decode cX1_init 16 = .ok (.new 18, 3) := by decide +kernel
theorem dX1_init_19 : decode cX1_init 19 = .ok (.dup, 1) := by decide +kernel
theorem dX1_init_20 : decode cX1_init 20 = .ok (.invokespecial 20, 3) := by decide +kernel
theorem dX1_init_23 : decode cX1_init 23 = .ok (.putfield 21, 3) := by decide +kernel
theorem dX1_init_26 : decode cX1_init 26 = .ok (.aload_n 0, 1) := by decide +kernel
theorem dX1_init_27 : decode cX1_init 27 = .ok (.new 25, 3) := by decide +kernel
theorem dX1_init_30 : decode cX1_init 30 = .ok (.dup, 1) := by decide +kernel
theorem dX1_init_31 : decode cX1_init 31 = .ok (.iconst (-1), 1) := by decide +kernel
theorem dX1_init_32 : decode cX1_init 32 = .ok (.invokespecial 27, 3) := by decide +kernel
theorem dX1_init_35 : decode cX1_init 35 = .ok (.putfield 30, 3) := by decide +kernel
theorem dX1_init_38 : decode cX1_init 38 = .ok (.aload_n 0, 1) := by decide +kernel
theorem dX1_init_39 : decode cX1_init 39 = .ok (.new 34, 3) := by decide +kernel
theorem dX1_init_42 : decode cX1_init 42 = .ok (.dup, 1) := by decide +kernel
theorem dX1_init_43 : decode cX1_init 43 = .ok (.invokespecial 36, 3) := by decide +kernel
theorem dX1_init_46 : decode cX1_init 46 = .ok (.putfield 37, 3) := by decide +kernel
theorem dX1_init_49 : decode cX1_init 49 = .ok (.aload_n 0, 1) := by decide +kernel
theorem dX1_init_50 : decode cX1_init 50 = .ok (.new 41, 3) := by decide +kernel
theorem dX1_init_53 : decode cX1_init 53 = .ok (.dup, 1) := by decide +kernel
theorem dX1_init_54 : decode cX1_init 54 = .ok (.invokespecial 43, 3) := by decide +kernel
theorem dX1_init_57 : decode cX1_init 57 = .ok (.putfield 44, 3) := by decide +kernel
theorem dX1_init_60 : decode cX1_init 60 = .ok (.aload_n 0, 1) := by decide +kernel
theorem dX1_init_61 : decode cX1_init 61 = .ok (.iconst 3, 1) := by decide +kernel
theorem dX1_init_62 : decode cX1_init 62 = .ok (.anewarray 25, 3) := by decide +kernel
theorem dX1_init_65 : decode cX1_init 65 = .ok (.putfield 48, 3) := by decide +kernel
theorem dX1_init_68 : decode cX1_init 68 = .ok (.iconst 0, 1) := by decide +kernel
theorem dX1_init_69 : decode cX1_init 69 = .ok (.istore_n 1, 1) := by decide +kernel
theorem dX1_init_70 : decode cX1_init 70 = .ok (.iload_n 1, 1) := by decide +kernel
theorem dX1_init_71 : decode cX1_init 71 = .ok (.aload_n 0, 1) := by decide +kernel
theorem dX1_init_72 : decode cX1_init 72 = .ok (.getfield 48, 3) := by decide +kernel
theorem dX1_init_75 : decode cX1_init 75 = .ok (.arraylength, 1) := by decide +kernel
theorem dX1_init_76 : decode cX1_init 76 = .ok (.if_icmp .ge 23, 3) := by decide +kernel
theorem dX1_init_79 : decode cX1_init 79 = .ok (.aload_n 0, 1) := by decide +kernel
theorem dX1_init_80 : decode cX1_init 80 = .ok (.getfield 48, 3) := by decide +kernel
theorem dX1_init_83 : decode cX1_init 83 = .ok (.iload_n 1, 1) := by decide +kernel
theorem dX1_init_84 : decode cX1_init 84 = .ok (.new 25, 3) := by decide +kernel
theorem dX1_init_87 : decode cX1_init 87 = .ok (.dup, 1) := by decide +kernel
theorem dX1_init_88 : decode cX1_init 88 = .ok (.iload_n 1, 1) := by decide +kernel
theorem dX1_init_89 : decode cX1_init 89 = .ok (.invokespecial 27, 3) := by decide +kernel
theorem dX1_init_92 : decode cX1_init 92 = .ok (.aastore, 1) := by decide +kernel
theorem dX1_init_93 : decode cX1_init 93 = .ok (.iinc 1 1, 3) := by decide +kernel
theorem dX1_init_96 : decode cX1_init 96 = .ok (.goto (-26), 3) := by decide +kernel
theorem dX1_init_99 : decode cX1_init 99 = .ok (.aload_n 0, 1) := by decide +kernel
theorem dX1_init_100 : decode cX1_init 100 = .ok (.iconst 3, 1) := by decide +kernel
theorem dX1_init_101 : decode cX1_init 101 = .ok (.anewarray 34, 3) := by decide +kernel
theorem dX1_init_104 : decode cX1_init 104 = .ok (.putfield 52, 3) := by decide +kernel
theorem dX1_init_107 : decode cX1_init 107 = .ok (.iconst 0, 1) := by decide +kernel
theorem dX1_init_108 : decode cX1_init 108 = .ok (.istore_n 1, 1) := by decide +kernel
theorem dX1_init_109 : decode cX1_init 109 = .ok (.iload_n 1, 1) := by decide +kernel
theorem dX1_init_110 : decode cX1_init 110 = .ok (.aload_n 0, 1) := by decide +kernel
theorem dX1_init_111 : decode cX1_init 111 = .ok (.getfield 52, 3) := by decide +kernel
theorem dX1_init_114 : decode cX1_init 114 = .ok (.arraylength, 1) := by decide +kernel
theorem dX1_init_115 : decode cX1_init 115 = .ok (.if_icmp .ge 22, 3) := by decide +kernel
theorem dX1_init_118 : decode cX1_init 118 = .ok (.aload_n 0, 1) := by decide +kernel
theorem dX1_init_119 : decode cX1_init 119 = .ok (.getfield 52, 3) := by decide +kernel
theorem dX1_init_122 : decode cX1_init 122 = .ok (.iload_n 1, 1) := by decide +kernel
theorem dX1_init_123 : decode cX1_init 123 = .ok (.new 34, 3) := by decide +kernel
theorem dX1_init_126 : decode cX1_init 126 = .ok (.dup, 1) := by decide +kernel
theorem dX1_init_127 : decode cX1_init 127 = .ok (.invokespecial 36, 3) := by decide +kernel
theorem dX1_init_130 : decode cX1_init 130 = .ok (.aastore, 1) := by decide +kernel
theorem dX1_init_131 : decode cX1_init 131 = .ok (.iinc 1 1, 3) := by decide +kernel
theorem dX1_init_134 : decode cX1_init 134 = .ok (.goto (-25), 3) := by decide +kernel
theorem dX1_init_137 : decode cX1_init 137 = .ok (.aload_n 0, 1) := by decide +kernel
theorem dX1_init_138 : decode cX1_init 138 = .ok (.bipush 30, 2) := by decide +kernel
theorem dX1_init_140 : decode cX1_init 140 = .ok (.anewarray 41, 3) := by decide +kernel
theorem dX1_init_143 : decode cX1_init 143 = .ok (.putfield 56, 3) := by decide +kernel
theorem dX1_init_146 : decode cX1_init 146 = .ok (.iconst 0, 1) := by decide +kernel
theorem dX1_init_147 : decode cX1_init 147 = .ok (.istore_n 1, 1) := by decide +kernel
theorem dX1_init_148 : decode cX1_init 148 = .ok (.iload_n 1, 1) := by decide +kernel
theorem dX1_init_149 : decode cX1_init 149 = .ok (.aload_n 0, 1) := by decide +kernel
theorem dX1_init_150 : decode cX1_init 150 = .ok (.getfield 56, 3) := by decide +kernel
theorem dX1_init_153 : decode cX1_init 153 = .ok (.arraylength, 1) := by decide +kernel
theorem dX1_init_154 : decode cX1_init 154 = .ok (.if_icmp .ge 22, 3) := by decide +kernel
theorem dX1_init_157 : decode cX1_init 157 = .ok (.aload_n 0, 1) := by decide +kernel
theorem dX1_init_158 : decode cX1_init 158 = .ok (.getfield 56, 3) := by decide +kernel
theorem dX1_init_161 : decode cX1_init 161 = .ok (.iload_n 1, 1) := by decide +kernel
theorem dX1_init_162 : decode cX1_init 162 = .ok (.new 41, 3) := by decide +kernel
theorem dX1_init_165 : decode cX1_init 165 = .ok (.dup, 1) := by decide +kernel
theorem dX1_init_166 : decode cX1_init 166 = .ok (.invokespecial 43, 3) := by decide +kernel
theorem dX1_init_169 : decode cX1_init 169 = .ok (.aastore, 1) := by decide +kernel
theorem dX1_init_170 : decode cX1_init 170 = .ok (.iinc 1 1, 3) := by decide +kernel
theorem dX1_init_173 : decode cX1_init 173 = .ok (.goto (-25), 3) := by decide +kernel
theorem dX1_init_176 : decode cX1_init 176 = .ok (.return_, 1) := by decide +kernel
theorem dX1_copyFrom_0 : decode cX1_copyFrom 0 = .ok (.aload_n 0, 1) := by decide +kernel
theorem dX1_copyFrom_1 : decode cX1_copyFrom 1 = .ok (.aload_n 1, 1) := by decide +kernel
theorem dX1_copyFrom_2 : decode cX1_copyFrom 2 = .ok (.getfield 60, 3) := by decide +kernel
theorem dX1_copyFrom_5 : decode cX1_copyFrom 5 = .ok (.putfield 60, 3) := by decide +kernel
theorem dX1_copyFrom_8 : decode cX1_copyFrom 8 = .ok (.aload_n 0, 1) := by decide +kernel
theorem dX1_copyFrom_9 : decode cX1_copyFrom 9 = .ok (.aload_n 1, 1) := by decide +kernel
theorem dX1_copyFrom_10 : decode cX1_copyFrom 10 = .ok (.getfield 64, 3) := by decide +kernel
theorem dX1_copyFrom_13 : decode cX1_copyFrom 13 = .ok (.putfield 64, 3) := by decide +kernel
theorem dX1_copyFrom_16 : decode cX1_copyFrom 16 = .ok (.aload_n 0, 1) := by decide +kernel
theorem dX1_copyFrom_17 : decode cX1_copyFrom 17 = .ok (.aload_n 1, 1) := by decide +kernel
theorem dX1_copyFrom_18 : decode cX1_copyFrom 18 = .ok (.getfield 67, 3) := by decide +kernel
theorem dX1_copyFrom_21 : decode cX1_copyFrom 21 = .ok (.putfield 67, 3) := by decide +kernel
theorem dX1_copyFrom_24 : decode cX1_copyFrom 24 = .ok (.aload_n 0, 1) := by decide +kernel
theorem dX1_copyFrom_25 : decode cX1_copyFrom 25 = .ok (.aload_n 1, 1) := by decide +kernel
theorem dX1_copyFrom_26 : decode cX1_copyFrom 26 = .ok (.getfield 70, 3) := by decide +kernel
theorem dX1_copyFrom_29 : decode cX1_copyFrom 29 = .ok (.putfield 70, 3) := by decide +kernel
theorem dX1_copyFrom_32 : decode cX1_copyFrom 32 = .ok (.aload_n 0, 1) := by decide +kernel
theorem dX1_copyFrom_33 : decode cX1_copyFrom 33 = .ok (.aload_n 1, 1) := by decide +kernel
theorem dX1_copyFrom_34 : decode cX1_copyFrom 34 = .ok (.getfield 73, 3) := by decide +kernel
theorem dX1_copyFrom_37 : decode cX1_copyFrom 37 = .ok (.putfield 73, 3) := by decide +kernel
theorem dX1_copyFrom_40 : decode cX1_copyFrom 40 = .ok (.aload_n 0, 1) := by decide +kernel
theorem dX1_copyFrom_41 : decode cX1_copyFrom 41 = .ok (.aload_n 1, 1) := by decide +kernel
theorem dX1_copyFrom_42 : decode cX1_copyFrom 42 = .ok (.getfield 76, 3) := by decide +kernel
theorem dX1_copyFrom_45 : decode cX1_copyFrom 45 = .ok (.putfield 76, 3) := by decide +kernel
theorem dX1_copyFrom_48 : decode cX1_copyFrom 48 = .ok (.aload_n 0, 1) := by decide +kernel
theorem dX1_copyFrom_49 : decode cX1_copyFrom 49 = .ok (.aload_n 1, 1) := by decide +kernel
theorem dX1_copyFrom_50 : decode cX1_copyFrom 50 = .ok (.getfield 79, 3) := by decide +kernel
theorem dX1_copyFrom_53 : decode cX1_copyFrom 53 = .ok (.putfield 79, 3) := by decide +kernel
theorem dX1_copyFrom_56 : decode cX1_copyFrom 56 = .ok (.aload_n 0, 1) := by decide +kernel
theorem dX1_copyFrom_57 : decode cX1_copyFrom 57 = .ok (.getfield 12, 3) := by decide +kernel
theorem dX1_copyFrom_60 : decode cX1_copyFrom 60 = .ok (.aload_n 1, 1) := by decide +kernel
theorem dX1_copyFrom_61 : decode cX1_copyFrom 61 = .ok (.getfield 12, 3) := by decide +kernel
theorem dX1_copyFrom_64 : decode cX1_copyFrom 64 = .ok (.invokevirtual 82, 3) := by decide +kernel
theorem dX1_copyFrom_67 : decode cX1_copyFrom 67 = .ok (.aload_n 0, 1) := by decide +kernel
theorem dX1_copyFrom_68 : decode cX1_copyFrom 68 = .ok (.getfield 21, 3) := by decide +kernel
theorem dX1_copyFrom_71 : decode cX1_copyFrom 71 = .ok (.aload_n 1, 1) := by decide +kernel
theorem dX1_copyFrom_72 : decode cX1_copyFrom 72 = .ok (.getfield 21, 3) := by decide +kernel
theorem dX1_copyFrom_75 : decode cX1_copyFrom 75 = .ok (.invokevirtual 86, 3) := by decide +kernel
theorem dX1_copyFrom_78 : decode cX1_copyFrom 78 = .ok (.iconst 0, 1) := by decide +kernel
theorem dX1_copyFrom_79 : decode cX1_copyFrom 79 = .ok (.istore_n 2, 1) := by decide +kernel
theorem dX1_copyFrom_80 : decode cX1_copyFrom 80 = .ok (.iload_n 2, 1) := by decide +kernel
theorem dX1_copyFrom_81 : decode cX1_copyFrom 81 = .ok (.iconst 3, 1) := by decide +kernel
theorem dX1_copyFrom_82 : decode cX1_copyFrom 82 = .ok (.if_icmp .ge 22, 3) := by decide +kernel
theorem dX1_copyFrom_85 : decode cX1_copyFrom 85 = .ok (.aload_n 0, 1) := by decide +kernel
theorem dX1_copyFrom_86 : decode cX1_copyFrom 86 = .ok (.iload_n 2, 1) := by decide +kernel
theorem dX1_copyFrom_87 : decode cX1_copyFrom 87 = .ok (.invokevirtual 89, 3) := by decide +kernel
theorem dX1_copyFrom_90 : decode cX1_copyFrom 90 = .ok (.aload_n 1, 1) := by decide +kernel
theorem dX1_copyFrom_91 : decode cX1_copyFrom 91 = .ok (.iload_n 2, 1) := by decide +kernel
theorem dX1_copyFrom_92 : decode cX1_copyFrom 92 = .ok (.invokevirtual 89, 3) := by decide +kernel
theorem dX1_copyFrom_95 : decode cX1_copyFrom 95 = .ok (.invokevirtual 93, 3) := by decide +kernel
theorem dX1_copyFrom_98 : decode cX1_copyFrom 98 = .ok (.iinc 2 1, 3) := by decide +kernel
theorem dX1_copyFrom_101 : decode cX1_copyFrom 101 = .ok (.goto (-21), 3) := by decide +kernel
theorem dX1_copyFrom_104 : decode cX1_copyFrom 104 = .ok (.iconst 0, 1) := by decide +kernel
theorem dX1_copyFrom_105 : decode cX1_copyFrom 105 = .ok (.istore_n 2, 1) := by decide +kernel
theorem dX1_copyFrom_106 : decode cX1_copyFrom 106 = .ok (.iload_n 2, 1) := by decide +kernel
theorem dX1_copyFrom_107 : decode cX1_copyFrom 107 = .ok (.iconst 3, 1) := by decide +kernel
theorem dX1_copyFrom_108 : decode cX1_copyFrom 108 = .ok (.if_icmp .ge 22, 3) := by decide +kernel
theorem dX1_copyFrom_111 : decode cX1_copyFrom 111 = .ok (.aload_n 0, 1) := by decide +kernel
theorem dX1_copyFrom_112 : decode cX1_copyFrom 112 = .ok (.iload_n 2, 1) := by decide +kernel
theorem dX1_copyFrom_113 : decode cX1_copyFrom 113 = .ok (.invokevirtual 96, 3) := by decide +kernel
theorem dX1_copyFrom_116 : decode cX1_copyFrom 116 = .ok (.aload_n 1, 1) := by decide +kernel
theorem dX1_copyFrom_117 : decode cX1_copyFrom 117 = .ok (.iload_n 2, 1) := by decide +kernel
theorem dX1_copyFrom_118 : decode cX1_copyFrom 118 = .ok (.invokevirtual 96, 3) := by decide +kernel
theorem dX1_copyFrom_121 : decode cX1_copyFrom 121 = .ok (.invokevirtual 100, 3) := by decide +kernel
theorem dX1_copyFrom_124 : decode cX1_copyFrom 124 = .ok (.iinc 2 1, 3) := by decide +kernel
theorem dX1_copyFrom_127 : decode cX1_copyFrom 127 = .ok (.goto (-21), 3) := by decide +kernel
theorem dX1_copyFrom_130 : decode cX1_copyFrom 130 = .ok (.iconst 0, 1) := by decide +kernel
theorem dX1_copyFrom_131 : decode cX1_copyFrom 131 = .ok (.istore_n 2, 1) := by decide +kernel
theorem dX1_copyFrom_132 : decode cX1_copyFrom 132 = .ok (.iload_n 2, 1) := by decide +kernel
theorem dX1_copyFrom_133 : decode cX1_copyFrom 133 = .ok (.aload_n 0, 1) := by decide +kernel
theorem dX1_copyFrom_134 : decode cX1_copyFrom 134 = .ok (.getfield 64, 3) := by decide +kernel
theorem dX1_copyFrom_137 : decode cX1_copyFrom 137 = .ok (.if_icmp .ge 22, 3) := by decide +kernel
theorem dX1_copyFrom_140 : decode cX1_copyFrom 140 = .ok (.aload_n 0, 1) := by decide +kernel
theorem dX1_copyFrom_141 : decode cX1_copyFrom 141 = .ok (.iload_n 2, 1) := by decide +kernel
theorem dX1_copyFrom_142 : decode cX1_copyFrom 142 = .ok (.invokevirtual 103, 3) := by decide +kernel
theorem dX1_copyFrom_145 : decode cX1_copyFrom 145 = .ok (.aload_n 1, 1) := by decide +kernel
theorem dX1_copyFrom_146 : decode cX1_copyFrom 146 = .ok (.iload_n 2, 1) := by decide +kernel
theorem dX1_copyFrom_147 : decode cX1_copyFrom 147 = .ok (.invokevirtual 103, 3) := by decide +kernel
theorem dX1_copyFrom_150 : decode cX1_copyFrom 150 = .ok (.invokevirtual 107, 3) := by decide +kernel
theorem dX1_copyFrom_153 : decode cX1_copyFrom 153 = .ok (.iinc 2 1, 3) := by decide +kernel
theorem dX1_copyFrom_156 : decode cX1_copyFrom 156 = .ok (.goto (-24), 3) := by decide +kernel
theorem dX1_copyFrom_159 : decode cX1_copyFrom 159 = .ok (.return_, 1) := by decide +kernel
theorem dX1_armAt_0 : decode cX1_armAt 0 = .ok (.iload_n 1, 1) := by decide +kernel
theorem dX1_armAt_1 : decode cX1_armAt 1 = .ok (.ifCond .lt 30, 3) := by decide +kernel
theorem dX1_armAt_4 : decode cX1_armAt 4 = .ok (.iload_n 1, 1) := by decide +kernel
theorem dX1_armAt_5 : decode cX1_armAt 5 = .ok (.aload_n 0, 1) := by decide +kernel
theorem dX1_armAt_6 : decode cX1_armAt 6 = .ok (.getfield 48, 3) := by decide +kernel
theorem dX1_armAt_9 : decode cX1_armAt 9 = .ok (.arraylength, 1) := by decide +kernel
theorem dX1_armAt_10 : decode cX1_armAt 10 = .ok (.if_icmp .ge 21, 3) := by decide +kernel
theorem dX1_armAt_13 : decode cX1_armAt 13 = .ok (.aload_n 0, 1) := by decide +kernel
theorem dX1_armAt_14 : decode cX1_armAt 14 = .ok (.getfield 48, 3) := by decide +kernel
theorem dX1_armAt_17 : decode cX1_armAt 17 = .ok (.iload_n 1, 1) := by decide +kernel
theorem dX1_armAt_18 : decode cX1_armAt 18 = .ok (.aaload, 1) := by decide +kernel
theorem dX1_armAt_19 : decode cX1_armAt 19 = .ok (.ifnull 12, 3) := by decide +kernel
theorem dX1_armAt_22 : decode cX1_armAt 22 = .ok (.aload_n 0, 1) := by decide +kernel
theorem dX1_armAt_23 : decode cX1_armAt 23 = .ok (.getfield 48, 3) := by decide +kernel
theorem dX1_armAt_26 : decode cX1_armAt 26 = .ok (.iload_n 1, 1) := by decide +kernel
theorem dX1_armAt_27 : decode cX1_armAt 27 = .ok (.aaload, 1) := by decide +kernel
theorem dX1_armAt_28 : decode cX1_armAt 28 = .ok (.goto 7, 3) := by decide +kernel
theorem dX1_armAt_31 : decode cX1_armAt 31 = .ok (.aload_n 0, 1) := by decide +kernel
theorem dX1_armAt_32 : decode cX1_armAt 32 = .ok (.getfield 30, 3) := by decide +kernel
theorem dX1_armAt_35 : decode cX1_armAt 35 = .ok (.areturn, 1) := by decide +kernel
theorem dX1_storeAt_0 : decode cX1_storeAt 0 = .ok (.iload_n 1, 1) := by decide +kernel
theorem dX1_storeAt_1 : decode cX1_storeAt 1 = .ok (.ifCond .lt 30, 3) := by decide +kernel
theorem dX1_storeAt_4 : decode cX1_storeAt 4 = .ok (.iload_n 1, 1) := by decide +kernel
theorem dX1_storeAt_5 : decode cX1_storeAt 5 = .ok (.aload_n 0, 1) := by decide +kernel
theorem dX1_storeAt_6 : decode cX1_storeAt 6 = .ok (.getfield 52, 3) := by decide +kernel
theorem dX1_storeAt_9 : decode cX1_storeAt 9 = .ok (.arraylength, 1) := by decide +kernel
theorem dX1_storeAt_10 : decode cX1_storeAt 10 = .ok (.if_icmp .ge 21, 3) := by decide +kernel
theorem dX1_storeAt_13 : decode cX1_storeAt 13 = .ok (.aload_n 0, 1) := by decide +kernel
theorem dX1_storeAt_14 : decode cX1_storeAt 14 = .ok (.getfield 52, 3) := by decide +kernel
theorem dX1_storeAt_17 : decode cX1_storeAt 17 = .ok (.iload_n 1, 1) := by decide +kernel
theorem dX1_storeAt_18 : decode cX1_storeAt 18 = .ok (.aaload, 1) := by decide +kernel
theorem dX1_storeAt_19 : decode cX1_storeAt 19 = .ok (.ifnull 12, 3) := by decide +kernel
theorem dX1_storeAt_22 : decode cX1_storeAt 22 = .ok (.aload_n 0, 1) := by decide +kernel
theorem dX1_storeAt_23 : decode cX1_storeAt 23 = .ok (.getfield 52, 3) := by decide +kernel
theorem dX1_storeAt_26 : decode cX1_storeAt 26 = .ok (.iload_n 1, 1) := by decide +kernel
theorem dX1_storeAt_27 : decode cX1_storeAt 27 = .ok (.aaload, 1) := by decide +kernel
theorem dX1_storeAt_28 : decode cX1_storeAt 28 = .ok (.goto 7, 3) := by decide +kernel
theorem dX1_storeAt_31 : decode cX1_storeAt 31 = .ok (.aload_n 0, 1) := by decide +kernel
theorem dX1_storeAt_32 : decode cX1_storeAt 32 = .ok (.getfield 37, 3) := by decide +kernel
theorem dX1_storeAt_35 : decode cX1_storeAt 35 = .ok (.areturn, 1) := by decide +kernel
theorem dX1_jobAt_0 : decode cX1_jobAt 0 = .ok (.iload_n 1, 1) := by decide +kernel
theorem dX1_jobAt_1 : decode cX1_jobAt 1 = .ok (.ifCond .lt 30, 3) := by decide +kernel
theorem dX1_jobAt_4 : decode cX1_jobAt 4 = .ok (.iload_n 1, 1) := by decide +kernel
theorem dX1_jobAt_5 : decode cX1_jobAt 5 = .ok (.aload_n 0, 1) := by decide +kernel
theorem dX1_jobAt_6 : decode cX1_jobAt 6 = .ok (.getfield 56, 3) := by decide +kernel
theorem dX1_jobAt_9 : decode cX1_jobAt 9 = .ok (.arraylength, 1) := by decide +kernel
theorem dX1_jobAt_10 : decode cX1_jobAt 10 = .ok (.if_icmp .ge 21, 3) := by decide +kernel
theorem dX1_jobAt_13 : decode cX1_jobAt 13 = .ok (.aload_n 0, 1) := by decide +kernel
theorem dX1_jobAt_14 : decode cX1_jobAt 14 = .ok (.getfield 56, 3) := by decide +kernel
theorem dX1_jobAt_17 : decode cX1_jobAt 17 = .ok (.iload_n 1, 1) := by decide +kernel
theorem dX1_jobAt_18 : decode cX1_jobAt 18 = .ok (.aaload, 1) := by decide +kernel
theorem dX1_jobAt_19 : decode cX1_jobAt 19 = .ok (.ifnull 12, 3) := by decide +kernel
theorem dX1_jobAt_22 : decode cX1_jobAt 22 = .ok (.aload_n 0, 1) := by decide +kernel
theorem dX1_jobAt_23 : decode cX1_jobAt 23 = .ok (.getfield 56, 3) := by decide +kernel
theorem dX1_jobAt_26 : decode cX1_jobAt 26 = .ok (.iload_n 1, 1) := by decide +kernel
theorem dX1_jobAt_27 : decode cX1_jobAt 27 = .ok (.aaload, 1) := by decide +kernel
theorem dX1_jobAt_28 : decode cX1_jobAt 28 = .ok (.goto 7, 3) := by decide +kernel
theorem dX1_jobAt_31 : decode cX1_jobAt 31 = .ok (.aload_n 0, 1) := by decide +kernel
theorem dX1_jobAt_32 : decode cX1_jobAt 32 = .ok (.getfield 44, 3) := by decide +kernel
theorem dX1_jobAt_35 : decode cX1_jobAt 35 = .ok (.areturn, 1) := by decide +kernel
theorem dX1_interlockFault_0 : decode cX1_interlockFault 0 = .ok (.iload_n 1, 1) := by decide +kernel
theorem dX1_interlockFault_1 : decode cX1_interlockFault 1 = .ok (.iconst 0, 1) := by decide +kernel
theorem dX1_interlockFault_2 : decode cX1_interlockFault 2 = .ok (.bipush 7, 2) := by decide +kernel
theorem dX1_interlockFault_4 : decode cX1_interlockFault 4 = .ok (.invokestatic 110, 3) := by decide +kernel
theorem dX1_interlockFault_7 : decode cX1_interlockFault 7 = .ok (.ifCond .eq 13, 3) := by decide +kernel
theorem dX1_interlockFault_10 : decode cX1_interlockFault 10 = .ok (.iload_n 2, 1) := by decide +kernel
theorem dX1_interlockFault_11 : decode cX1_interlockFault 11 = .ok (.iconst 0, 1) := by decide +kernel
theorem dX1_interlockFault_12 : decode cX1_interlockFault 12 = .ok (.bipush 7, 2) := by decide +kernel
theorem dX1_interlockFault_14 : decode cX1_interlockFault 14 = .ok (.invokestatic 110, 3) := by decide +kernel
theorem dX1_interlockFault_17 : decode cX1_interlockFault 17 = .ok (.ifCond .ne 5, 3) := by decide +kernel
theorem dX1_interlockFault_20 : decode cX1_interlockFault 20 = .ok (.iconst 1, 1) := by decide +kernel
theorem dX1_interlockFault_21 : decode cX1_interlockFault 21 = .ok (.ireturn, 1) := by decide +kernel
theorem dX1_interlockFault_22 : decode cX1_interlockFault 22 = .ok (.iload_n 1, 1) := by decide +kernel
theorem dX1_interlockFault_23 : decode cX1_interlockFault 23 = .ok (.iload_n 2, 1) := by decide +kernel
theorem dX1_interlockFault_24 : decode cX1_interlockFault 24 = .ok (.if_icmp .ne 5, 3) := by decide +kernel
theorem dX1_interlockFault_27 : decode cX1_interlockFault 27 = .ok (.iconst 2, 1) := by decide +kernel
theorem dX1_interlockFault_28 : decode cX1_interlockFault 28 = .ok (.ireturn, 1) := by decide +kernel
theorem dX1_interlockFault_29 : decode cX1_interlockFault 29 = .ok (.iload_n 3, 1) := by decide +kernel
theorem dX1_interlockFault_30 : decode cX1_interlockFault 30 = .ok (.ifCond .eq 15, 3) := by decide +kernel
theorem dX1_interlockFault_33 : decode cX1_interlockFault 33 = .ok (.aload_n 0, 1) := by decide +kernel
theorem dX1_interlockFault_34 : decode cX1_interlockFault 34 = .ok (.getfield 12, 3) := by decide +kernel
theorem dX1_interlockFault_37 : decode cX1_interlockFault 37 = .ok (.iload_n 1, 1) := by decide +kernel
theorem dX1_interlockFault_38 : decode cX1_interlockFault 38 = .ok (.iload_n 2, 1) := by decide +kernel
theorem dX1_interlockFault_39 : decode cX1_interlockFault 39 = .ok (.invokevirtual 114, 3) := by decide +kernel
theorem dX1_interlockFault_42 : decode cX1_interlockFault 42 = .ok (.ifCond .eq 5, 3) := by decide +kernel
theorem dX1_interlockFault_45 : decode cX1_interlockFault 45 = .ok (.iconst 0, 1) := by decide +kernel
theorem dX1_interlockFault_46 : decode cX1_interlockFault 46 = .ok (.ireturn, 1) := by decide +kernel
theorem dX1_interlockFault_47 : decode cX1_interlockFault 47 = .ok (.aload_n 0, 1) := by decide +kernel
theorem dX1_interlockFault_48 : decode cX1_interlockFault 48 = .ok (.iload_n 1, 1) := by decide +kernel
theorem dX1_interlockFault_49 : decode cX1_interlockFault 49 = .ok (.invokevirtual 118, 3) := by decide +kernel
theorem dX1_interlockFault_52 : decode cX1_interlockFault 52 = .ok (.istore 4, 2) := by decide +kernel
theorem dX1_interlockFault_54 : decode cX1_interlockFault 54 = .ok (.aload_n 0, 1) := by decide +kernel
theorem dX1_interlockFault_55 : decode cX1_interlockFault 55 = .ok (.iload_n 2, 1) := by decide +kernel
theorem dX1_interlockFault_56 : decode cX1_interlockFault 56 = .ok (.invokevirtual 118, 3) := by decide +kernel
theorem dX1_interlockFault_59 : decode cX1_interlockFault 59 = .ok (.istore 5, 2) := by decide +kernel
theorem dX1_interlockFault_61 : decode cX1_interlockFault 61 = .ok (.iload 4, 2) := by decide +kernel
theorem dX1_interlockFault_63 : decode cX1_interlockFault 63 = .ok (.iconst (-1), 1) := by decide +kernel
theorem dX1_interlockFault_64 : decode cX1_interlockFault 64 = .ok (.if_icmp .eq 20, 3) := by decide +kernel
theorem dX1_interlockFault_67 : decode cX1_interlockFault 67 = .ok (.iload 5, 2) := by decide +kernel
theorem dX1_interlockFault_69 : decode cX1_interlockFault 69 = .ok (.iconst (-1), 1) := by decide +kernel
theorem dX1_interlockFault_70 : decode cX1_interlockFault 70 = .ok (.if_icmp .eq 14, 3) := by decide +kernel
theorem dX1_interlockFault_73 : decode cX1_interlockFault 73 = .ok (.iload 4, 2) := by decide +kernel
theorem dX1_interlockFault_75 : decode cX1_interlockFault 75 = .ok (.iload 5, 2) := by decide +kernel
theorem dX1_interlockFault_77 : decode cX1_interlockFault 77 = .ok (.if_icmp .eq 7, 3) := by decide +kernel
theorem dX1_interlockFault_80 : decode cX1_interlockFault 80 = .ok (.iconst 1, 1) := by decide +kernel
theorem dX1_interlockFault_81 : decode cX1_interlockFault 81 = .ok (.goto 4, 3) := by decide +kernel
theorem dX1_interlockFault_84 : decode cX1_interlockFault 84 = .ok (.iconst 0, 1) := by decide +kernel
theorem dX1_interlockFault_85 : decode cX1_interlockFault 85 = .ok (.istore 6, 2) := by decide +kernel
theorem dX1_interlockFault_87 : decode cX1_interlockFault 87 = .ok (.iload 6, 2) := by decide +kernel
theorem dX1_interlockFault_89 : decode cX1_interlockFault 89 = .ok (.ifCond .eq 7, 3) := by decide +kernel
theorem dX1_interlockFault_92 : decode cX1_interlockFault 92 = .ok (.iconst 4, 1) := by decide +kernel
theorem dX1_interlockFault_93 : decode cX1_interlockFault 93 = .ok (.goto 4, 3) := by decide +kernel
theorem dX1_interlockFault_96 : decode cX1_interlockFault 96 = .ok (.iconst 0, 1) := by decide +kernel
theorem dX1_interlockFault_97 : decode cX1_interlockFault 97 = .ok (.ireturn, 1) := by decide +kernel
theorem dX1_giveFault_0 : decode cX1_giveFault 0 = .ok (.iload_n 1, 1) := by decide +kernel
theorem dX1_giveFault_1 : decode cX1_giveFault 1 = .ok (.iconst 0, 1) := by decide +kernel
theorem dX1_giveFault_2 : decode cX1_giveFault 2 = .ok (.iconst 2, 1) := by decide +kernel
theorem dX1_giveFault_3 : decode cX1_giveFault 3 = .ok (.invokestatic 110, 3) := by decide +kernel
theorem dX1_giveFault_6 : decode cX1_giveFault 6 = .ok (.ifCond .eq 23, 3) := by decide +kernel
theorem dX1_giveFault_9 : decode cX1_giveFault 9 = .ok (.iload 5, 2) := by decide +kernel
theorem dX1_giveFault_11 : decode cX1_giveFault 11 = .ok (.iconst (-1), 1) := by decide +kernel
theorem dX1_giveFault_12 : decode cX1_giveFault 12 = .ok (.iconst 2, 1) := by decide +kernel
theorem dX1_giveFault_13 : decode cX1_giveFault 13 = .ok (.invokestatic 110, 3) := by decide +kernel
theorem dX1_giveFault_16 : decode cX1_giveFault 16 = .ok (.ifCond .eq 13, 3) := by decide +kernel
theorem dX1_giveFault_19 : decode cX1_giveFault 19 = .ok (.iload 6, 2) := by decide +kernel
theorem dX1_giveFault_21 : decode cX1_giveFault 21 = .ok (.iconst (-1), 1) := by decide +kernel
theorem dX1_giveFault_22 : decode cX1_giveFault 22 = .ok (.iconst 2, 1) := by decide +kernel
theorem dX1_giveFault_23 : decode cX1_giveFault 23 = .ok (.invokestatic 110, 3) := by decide +kernel
theorem dX1_giveFault_26 : decode cX1_giveFault 26 = .ok (.ifCond .ne 5, 3) := by decide +kernel
theorem dX1_giveFault_29 : decode cX1_giveFault 29 = .ok (.iconst 1, 1) := by decide +kernel
theorem dX1_giveFault_30 : decode cX1_giveFault 30 = .ok (.ireturn, 1) := by decide +kernel
theorem dX1_giveFault_31 : decode cX1_giveFault 31 = .ok (.iload_n 2, 1) := by decide +kernel
theorem dX1_giveFault_32 : decode cX1_giveFault 32 = .ok (.invokestatic 122, 3) := by decide +kernel
theorem dX1_giveFault_35 : decode cX1_giveFault 35 = .ok (.ifCond .eq 24, 3) := by decide +kernel
theorem dX1_giveFault_38 : decode cX1_giveFault 38 = .ok (.iload_n 3, 1) := by decide +kernel
theorem dX1_giveFault_39 : decode cX1_giveFault 39 = .ok (.iconst 1, 1) := by decide +kernel
theorem dX1_giveFault_40 : decode cX1_giveFault 40 = .ok (.bipush 9, 2) := by decide +kernel
theorem dX1_giveFault_42 : decode cX1_giveFault 42 = .ok (.invokestatic 110, 3) := by decide +kernel
theorem dX1_giveFault_45 : decode cX1_giveFault 45 = .ok (.ifCond .eq 14, 3) := by decide +kernel
theorem dX1_giveFault_48 : decode cX1_giveFault 48 = .ok (.iload 4, 2) := by decide +kernel
theorem dX1_giveFault_50 : decode cX1_giveFault 50 = .ok (.iconst 0, 1) := by decide +kernel
theorem dX1_giveFault_51 : decode cX1_giveFault 51 = .ok (.bipush 9, 2) := by decide +kernel
theorem dX1_giveFault_53 : decode cX1_giveFault 53 = .ok (.invokestatic 110, 3) := by decide +kernel
theorem dX1_giveFault_56 : decode cX1_giveFault 56 = .ok (.ifCond .ne 5, 3) := by decide +kernel
theorem dX1_giveFault_59 : decode cX1_giveFault 59 = .ok (.iconst 2, 1) := by decide +kernel
theorem dX1_giveFault_60 : decode cX1_giveFault 60 = .ok (.ireturn, 1) := by decide +kernel
theorem dX1_giveFault_61 : decode cX1_giveFault 61 = .ok (.aload_n 0, 1) := by decide +kernel
theorem dX1_giveFault_62 : decode cX1_giveFault 62 = .ok (.iload_n 1, 1) := by decide +kernel
theorem dX1_giveFault_63 : decode cX1_giveFault 63 = .ok (.invokevirtual 89, 3) := by decide +kernel
theorem dX1_giveFault_66 : decode cX1_giveFault 66 = .ok (.getfield 126, 3) := by decide +kernel
theorem dX1_giveFault_69 : decode cX1_giveFault 69 = .ok (.istore 7, 2) := by decide +kernel
theorem dX1_giveFault_71 : decode cX1_giveFault 71 = .ok (.iload_n 2, 1) := by decide +kernel
theorem dX1_giveFault_72 : decode cX1_giveFault 72 = .ok (.istore 8, 2) := by decide +kernel
theorem dX1_giveFault_74 : decode cX1_giveFault 74 = .ok (.iconst 0, 1) := by decide +kernel
theorem dX1_giveFault_75 : decode cX1_giveFault 75 = .ok (.istore 9, 2) := by decide +kernel
theorem dX1_giveFault_77 : decode cX1_giveFault 77 = .ok (.iload 9, 2) := by decide +kernel
theorem dX1_giveFault_79 : decode cX1_giveFault 79 = .ok (.iconst 5, 1) := by decide +kernel
theorem dX1_giveFault_80 : decode cX1_giveFault 80 = .ok (.if_icmp .ge 38, 3) := by decide +kernel
theorem dX1_giveFault_83 : decode cX1_giveFault 83 = .ok (.iload 8, 2) := by decide +kernel
theorem dX1_giveFault_85 : decode cX1_giveFault 85 = .ok (.ifCond .le 33, 3) := by decide +kernel
theorem dX1_giveFault_88 : decode cX1_giveFault 88 = .ok (.iload 7, 2) := by decide +kernel
theorem dX1_giveFault_90 : decode cX1_giveFault 90 = .ok (.iconst 1, 1) := by decide +kernel
theorem dX1_giveFault_91 : decode cX1_giveFault 91 = .ok (.iload 8, 2) := by decide +kernel
theorem dX1_giveFault_93 : decode cX1_giveFault 93 = .ok (.bipush 10, 2) := by decide +kernel
theorem dX1_giveFault_95 : decode cX1_giveFault 95 = .ok (.irem, 1) := by decide +kernel
theorem dX1_giveFault_96 : decode cX1_giveFault 96 = .ok (.iconst 1, 1) := by decide +kernel
theorem dX1_giveFault_97 : decode cX1_giveFault 97 = .ok (.isub, 1) := by decide +kernel
theorem dX1_giveFault_98 : decode cX1_giveFault 98 = .ok (.ishl, 1) := by decide +kernel
theorem dX1_giveFault_99 : decode cX1_giveFault 99 = .ok (.iand, 1) := by decide +kernel
theorem dX1_giveFault_100 : decode cX1_giveFault 100 = .ok (.ifCond .ne 5, 3) := by decide +kernel
theorem dX1_giveFault_103 : decode cX1_giveFault 103 = .ok (.iconst 3, 1) := by decide +kernel
theorem dX1_giveFault_104 : decode cX1_giveFault 104 = .ok (.ireturn, 1) := by decide +kernel
theorem dX1_giveFault_105 : decode cX1_giveFault 105 = .ok (.iload 8, 2) := by decide +kernel
theorem dX1_giveFault_107 : decode cX1_giveFault 107 = .ok (.bipush 10, 2) := by decide +kernel
theorem dX1_giveFault_109 : decode cX1_giveFault 109 = .ok (.idiv, 1) := by decide +kernel
theorem dX1_giveFault_110 : decode cX1_giveFault 110 = .ok (.istore 8, 2) := by decide +kernel
theorem dX1_giveFault_112 : decode cX1_giveFault 112 = .ok (.iinc 9 1, 3) := by decide +kernel
theorem dX1_giveFault_115 : decode cX1_giveFault 115 = .ok (.goto (-38), 3) := by decide +kernel
theorem dX1_giveFault_118 : decode cX1_giveFault 118 = .ok (.aload_n 0, 1) := by decide +kernel
theorem dX1_giveFault_119 : decode cX1_giveFault 119 = .ok (.getfield 64, 3) := by decide +kernel
theorem dX1_giveFault_122 : decode cX1_giveFault 122 = .ok (.bipush 30, 2) := by decide +kernel
theorem dX1_giveFault_124 : decode cX1_giveFault 124 = .ok (.if_icmp .ge 7, 3) := by decide +kernel
theorem dX1_giveFault_127 : decode cX1_giveFault 127 = .ok (.iconst 0, 1) := by decide +kernel
theorem dX1_giveFault_128 : decode cX1_giveFault 128 = .ok (.goto 4, 3) := by decide +kernel
theorem dX1_giveFault_131 : decode cX1_giveFault 131 = .ok (.iconst 4, 1) := by decide +kernel
theorem dX1_giveFault_132 : decode cX1_giveFault 132 = .ok (.ireturn, 1) := by decide +kernel
theorem dX1_addJob_0 : decode cX1_addJob 0 = .ok (.aload_n 0, 1) := by decide +kernel
theorem dX1_addJob_1 : decode cX1_addJob 1 = .ok (.getfield 64, 3) := by decide +kernel
theorem dX1_addJob_4 : decode cX1_addJob 4 = .ok (.istore 7, 2) := by decide +kernel
theorem dX1_addJob_6 : decode cX1_addJob 6 = .ok (.aload_n 0, 1) := by decide +kernel
theorem dX1_addJob_7 : decode cX1_addJob 7 = .ok (.iload 7, 2) := by decide +kernel
theorem dX1_addJob_9 : decode cX1_addJob 9 = .ok (.invokevirtual 103, 3) := by decide +kernel
theorem dX1_addJob_12 : decode cX1_addJob 12 = .ok (.astore 8, 2) := by decide +kernel
theorem dX1_addJob_14 : decode cX1_addJob 14 = .ok (.aload 8, 2) := by decide +kernel
theorem dX1_addJob_16 : decode cX1_addJob 16 = .ok (.iload_n 1, 1) := by decide +kernel
theorem dX1_addJob_17 : decode cX1_addJob 17 = .ok (.putfield 129, 3) := by decide +kernel
theorem dX1_addJob_20 : decode cX1_addJob 20 = .ok (.aload 8, 2) := by decide +kernel
theorem dX1_addJob_22 : decode cX1_addJob 22 = .ok (.iload_n 2, 1) := by decide +kernel
theorem dX1_addJob_23 : decode cX1_addJob 23 = .ok (.putfield 132, 3) := by decide +kernel
theorem dX1_addJob_26 : decode cX1_addJob 26 = .ok (.aload 8, 2) := by decide +kernel
theorem dX1_addJob_28 : decode cX1_addJob 28 = .ok (.iload_n 2, 1) := by decide +kernel
theorem dX1_addJob_29 : decode cX1_addJob 29 = .ok (.invokestatic 135, 3) := by decide +kernel
theorem dX1_addJob_32 : decode cX1_addJob 32 = .ok (.putfield 138, 3) := by decide +kernel
theorem dX1_addJob_35 : decode cX1_addJob 35 = .ok (.aload 8, 2) := by decide +kernel
theorem dX1_addJob_37 : decode cX1_addJob 37 = .ok (.iload_n 3, 1) := by decide +kernel
theorem dX1_addJob_38 : decode cX1_addJob 38 = .ok (.putfield 141, 3) := by decide +kernel
theorem dX1_addJob_41 : decode cX1_addJob 41 = .ok (.aload 8, 2) := by decide +kernel
theorem dX1_addJob_43 : decode cX1_addJob 43 = .ok (.iload 4, 2) := by decide +kernel
theorem dX1_addJob_45 : decode cX1_addJob 45 = .ok (.putfield 144, 3) := by decide +kernel
theorem dX1_addJob_48 : decode cX1_addJob 48 = .ok (.aload 8, 2) := by decide +kernel
theorem dX1_addJob_50 : decode cX1_addJob 50 = .ok (.iload 5, 2) := by decide +kernel
theorem dX1_addJob_52 : decode cX1_addJob 52 = .ok (.putfield 147, 3) := by decide +kernel
theorem dX1_addJob_55 : decode cX1_addJob 55 = .ok (.aload 8, 2) := by decide +kernel
theorem dX1_addJob_57 : decode cX1_addJob 57 = .ok (.iload 6, 2) := by decide +kernel
theorem dX1_addJob_59 : decode cX1_addJob 59 = .ok (.putfield 150, 3) := by decide +kernel
theorem dX1_addJob_62 : decode cX1_addJob 62 = .ok (.aload 8, 2) := by decide +kernel
theorem dX1_addJob_64 : decode cX1_addJob 64 = .ok (.iconst 0, 1) := by decide +kernel
theorem dX1_addJob_65 : decode cX1_addJob 65 = .ok (.putfield 153, 3) := by decide +kernel
theorem dX1_addJob_68 : decode cX1_addJob 68 = .ok (.aload 8, 2) := by decide +kernel
theorem dX1_addJob_70 : decode cX1_addJob 70 = .ok (.iconst (-1), 1) := by decide +kernel
theorem dX1_addJob_71 : decode cX1_addJob 71 = .ok (.putfield 156, 3) := by decide +kernel
theorem dX1_addJob_74 : decode cX1_addJob 74 = .ok (.aload 8, 2) := by decide +kernel
theorem dX1_addJob_76 : decode cX1_addJob 76 = .ok (.iconst (-1), 1) := by decide +kernel
theorem dX1_addJob_77 : decode cX1_addJob 77 = .ok (.putfield 159, 3) := by decide +kernel
theorem dX1_addJob_80 : decode cX1_addJob 80 = .ok (.aload_n 0, 1) := by decide +kernel
theorem dX1_addJob_81 : decode cX1_addJob 81 = .ok (.dup, 1) := by decide +kernel
theorem dX1_addJob_82 : decode cX1_addJob 82 = .ok (.getfield 64, 3) := by decide +kernel
theorem dX1_addJob_85 : decode cX1_addJob 85 = .ok (.iconst 1, 1) := by decide +kernel
theorem dX1_addJob_86 : decode cX1_addJob 86 = .ok (.iadd, 1) := by decide +kernel
theorem dX1_addJob_87 : decode cX1_addJob 87 = .ok (.putfield 64, 3) := by decide +kernel
theorem dX1_addJob_90 : decode cX1_addJob 90 = .ok (.aload_n 0, 1) := by decide +kernel
theorem dX1_addJob_91 : decode cX1_addJob 91 = .ok (.iload_n 1, 1) := by decide +kernel
theorem dX1_addJob_92 : decode cX1_addJob 92 = .ok (.invokevirtual 89, 3) := by decide +kernel
theorem dX1_addJob_95 : decode cX1_addJob 95 = .ok (.iload 7, 2) := by decide +kernel
theorem dX1_addJob_97 : decode cX1_addJob 97 = .ok (.invokevirtual 160, 3) := by decide +kernel
theorem dX1_addJob_100 : decode cX1_addJob 100 = .ok (.iload 7, 2) := by decide +kernel
theorem dX1_addJob_102 : decode cX1_addJob 102 = .ok (.ireturn, 1) := by decide +kernel
theorem dX1_takeBackLast_0 : decode cX1_takeBackLast 0 = .ok (.aload_n 0, 1) := by decide +kernel
theorem dX1_takeBackLast_1 : decode cX1_takeBackLast 1 = .ok (.iload_n 1, 1) := by decide +kernel
theorem dX1_takeBackLast_2 : decode cX1_takeBackLast 2 = .ok (.invokevirtual 89, 3) := by decide +kernel
theorem dX1_takeBackLast_5 : decode cX1_takeBackLast 5 = .ok (.invokevirtual 163, 3) := by decide +kernel
theorem dX1_takeBackLast_8 : decode cX1_takeBackLast 8 = .ok (.istore_n 2, 1) := by decide +kernel
theorem dX1_takeBackLast_9 : decode cX1_takeBackLast 9 = .ok (.aload_n 0, 1) := by decide +kernel
theorem dX1_takeBackLast_10 : decode cX1_takeBackLast 10 = .ok (.iload_n 2, 1) := by decide +kernel
theorem dX1_takeBackLast_11 : decode cX1_takeBackLast 11 = .ok (.invokevirtual 103, 3) := by decide +kernel
theorem dX1_takeBackLast_14 : decode cX1_takeBackLast 14 = .ok (.iconst 3, 1) := by decide +kernel
theorem dX1_takeBackLast_15 : decode cX1_takeBackLast 15 = .ok (.putfield 153, 3) := by decide +kernel
theorem dX1_takeBackLast_18 : decode cX1_takeBackLast 18 = .ok (.aload_n 0, 1) := by decide +kernel
theorem dX1_takeBackLast_19 : decode cX1_takeBackLast 19 = .ok (.dup, 1) := by decide +kernel
theorem dX1_takeBackLast_20 : decode cX1_takeBackLast 20 = .ok (.getfield 70, 3) := by decide +kernel
theorem dX1_takeBackLast_23 : decode cX1_takeBackLast 23 = .ok (.iconst 1, 1) := by decide +kernel
theorem dX1_takeBackLast_24 : decode cX1_takeBackLast 24 = .ok (.iadd, 1) := by decide +kernel
theorem dX1_takeBackLast_25 : decode cX1_takeBackLast 25 = .ok (.putfield 70, 3) := by decide +kernel
theorem dX1_takeBackLast_28 : decode cX1_takeBackLast 28 = .ok (.iload_n 2, 1) := by decide +kernel
theorem dX1_takeBackLast_29 : decode cX1_takeBackLast 29 = .ok (.ireturn, 1) := by decide +kernel
theorem dX1_makePart_0 : decode cX1_makePart 0 = .ok (.aload_n 0, 1) := by decide +kernel
theorem dX1_makePart_1 : decode cX1_makePart 1 = .ok (.getfield 73, 3) := by decide +kernel
theorem dX1_makePart_4 : decode cX1_makePart 4 = .ok (.istore_n 1, 1) := by decide +kernel
theorem dX1_makePart_5 : decode cX1_makePart 5 = .ok (.aload_n 0, 1) := by decide +kernel
theorem dX1_makePart_6 : decode cX1_makePart 6 = .ok (.dup, 1) := by decide +kernel
theorem dX1_makePart_7 : decode cX1_makePart 7 = .ok (.getfield 73, 3) := by decide +kernel
theorem dX1_makePart_10 : decode cX1_makePart 10 = .ok (.iconst 1, 1) := by decide +kernel
theorem dX1_makePart_11 : decode cX1_makePart 11 = .ok (.iadd, 1) := by decide +kernel
theorem dX1_makePart_12 : decode cX1_makePart 12 = .ok (.putfield 73, 3) := by decide +kernel
theorem dX1_makePart_15 : decode cX1_makePart 15 = .ok (.iload_n 1, 1) := by decide +kernel
theorem dX1_makePart_16 : decode cX1_makePart 16 = .ok (.ireturn, 1) := by decide +kernel
theorem dX1_startJob_0 : decode cX1_startJob 0 = .ok (.aload_n 1, 1) := by decide +kernel
theorem dX1_startJob_1 : decode cX1_startJob 1 = .ok (.invokevirtual 167, 3) := by decide +kernel
theorem dX1_startJob_4 : decode cX1_startJob 4 = .ok (.istore_n 2, 1) := by decide +kernel
theorem dX1_startJob_5 : decode cX1_startJob 5 = .ok (.aload_n 0, 1) := by decide +kernel
theorem dX1_startJob_6 : decode cX1_startJob 6 = .ok (.iload_n 2, 1) := by decide +kernel
theorem dX1_startJob_7 : decode cX1_startJob 7 = .ok (.invokevirtual 103, 3) := by decide +kernel
theorem dX1_startJob_10 : decode cX1_startJob 10 = .ok (.astore_n 3, 1) := by decide +kernel
theorem dX1_startJob_11 : decode cX1_startJob 11 = .ok (.aload_n 3, 1) := by decide +kernel
theorem dX1_startJob_12 : decode cX1_startJob 12 = .ok (.iconst 0, 1) := by decide +kernel
theorem dX1_startJob_13 : decode cX1_startJob 13 = .ok (.invokevirtual 170, 3) := by decide +kernel
theorem dX1_startJob_16 : decode cX1_startJob 16 = .ok (.istore 4, 2) := by decide +kernel
theorem dX1_startJob_18 : decode cX1_startJob 18 = .ok (.aload_n 3, 1) := by decide +kernel
theorem dX1_startJob_19 : decode cX1_startJob 19 = .ok (.iconst 1, 1) := by decide +kernel
theorem dX1_startJob_20 : decode cX1_startJob 20 = .ok (.putfield 153, 3) := by decide +kernel
theorem dX1_startJob_23 : decode cX1_startJob 23 = .ok (.aload_n 3, 1) := by decide +kernel
theorem dX1_startJob_24 : decode cX1_startJob 24 = .ok (.aload_n 0, 1) := by decide +kernel
theorem dX1_startJob_25 : decode cX1_startJob 25 = .ok (.getfield 60, 3) := by decide +kernel
theorem dX1_startJob_28 : decode cX1_startJob 28 = .ok (.putfield 156, 3) := by decide +kernel
theorem dX1_startJob_31 : decode cX1_startJob 31 = .ok (.aload_n 3, 1) := by decide +kernel
theorem dX1_startJob_32 : decode cX1_startJob 32 = .ok (.getfield 147, 3) := by decide +kernel
theorem dX1_startJob_35 : decode cX1_startJob 35 = .ok (.iconst (-1), 1) := by decide +kernel
theorem dX1_startJob_36 : decode cX1_startJob 36 = .ok (.if_icmp .eq 20, 3) := by decide +kernel
theorem dX1_startJob_39 : decode cX1_startJob 39 = .ok (.aload_n 0, 1) := by decide +kernel
theorem dX1_startJob_40 : decode cX1_startJob 40 = .ok (.aload_n 3, 1) := by decide +kernel
theorem dX1_startJob_41 : decode cX1_startJob 41 = .ok (.getfield 147, 3) := by decide +kernel
theorem dX1_startJob_44 : decode cX1_startJob 44 = .ok (.invokevirtual 96, 3) := by decide +kernel
theorem dX1_startJob_47 : decode cX1_startJob 47 = .ok (.dup, 1) := by decide +kernel
theorem dX1_startJob_48 : decode cX1_startJob 48 = .ok (.getfield 173, 3) := by decide +kernel
theorem dX1_startJob_51 : decode cX1_startJob 51 = .ok (.iconst 1, 1) := by decide +kernel
theorem dX1_startJob_52 : decode cX1_startJob 52 = .ok (.iadd, 1) := by decide +kernel
theorem dX1_startJob_53 : decode cX1_startJob 53 = .ok (.putfield 173, 3) := by decide +kernel
theorem dX1_startJob_56 : decode cX1_startJob 56 = .ok (.aload_n 3, 1) := by decide +kernel
theorem dX1_startJob_57 : decode cX1_startJob 57 = .ok (.getfield 150, 3) := by decide +kernel
theorem dX1_startJob_60 : decode cX1_startJob 60 = .ok (.iconst (-1), 1) := by decide +kernel
theorem dX1_startJob_61 : decode cX1_startJob 61 = .ok (.if_icmp .eq 20, 3) := by decide +kernel
theorem dX1_startJob_64 : decode cX1_startJob 64 = .ok (.aload_n 0, 1) := by decide +kernel
theorem dX1_startJob_65 : decode cX1_startJob 65 = .ok (.aload_n 3, 1) := by decide +kernel
theorem dX1_startJob_66 : decode cX1_startJob 66 = .ok (.getfield 150, 3) := by decide +kernel
theorem dX1_startJob_69 : decode cX1_startJob 69 = .ok (.invokevirtual 96, 3) := by decide +kernel
theorem dX1_startJob_72 : decode cX1_startJob 72 = .ok (.dup, 1) := by decide +kernel
theorem dX1_startJob_73 : decode cX1_startJob 73 = .ok (.getfield 176, 3) := by decide +kernel
theorem dX1_startJob_76 : decode cX1_startJob 76 = .ok (.iconst 1, 1) := by decide +kernel
theorem dX1_startJob_77 : decode cX1_startJob 77 = .ok (.iadd, 1) := by decide +kernel
theorem dX1_startJob_78 : decode cX1_startJob 78 = .ok (.putfield 176, 3) := by decide +kernel
theorem dX1_startJob_81 : decode cX1_startJob 81 = .ok (.aload_n 1, 1) := by decide +kernel
theorem dX1_startJob_82 : decode cX1_startJob 82 = .ok (.iload_n 2, 1) := by decide +kernel
theorem dX1_startJob_83 : decode cX1_startJob 83 = .ok (.putfield 179, 3) := by decide +kernel
theorem dX1_startJob_86 : decode cX1_startJob 86 = .ok (.aload_n 1, 1) := by decide +kernel
theorem dX1_startJob_87 : decode cX1_startJob 87 = .ok (.iconst 0, 1) := by decide +kernel
theorem dX1_startJob_88 : decode cX1_startJob 88 = .ok (.iload 4, 2) := by decide +kernel
theorem dX1_startJob_90 : decode cX1_startJob 90 = .ok (.aload_n 3, 1) := by decide +kernel
theorem dX1_startJob_91 : decode cX1_startJob 91 = .ok (.getfield 141, 3) := by decide +kernel
theorem dX1_startJob_94 : decode cX1_startJob 94 = .ok (.invokevirtual 182, 3) := by decide +kernel
theorem dX1_startJob_97 : decode cX1_startJob 97 = .ok (.aload_n 0, 1) := by decide +kernel
theorem dX1_startJob_98 : decode cX1_startJob 98 = .ok (.getfield 21, 3) := by decide +kernel
theorem dX1_startJob_101 : decode cX1_startJob 101 = .ok (.aload_n 0, 1) := by decide +kernel
theorem dX1_startJob_102 : decode cX1_startJob 102 = .ok (.getfield 60, 3) := by decide +kernel
theorem dX1_startJob_105 : decode cX1_startJob 105 = .ok (.aload_n 1, 1) := by decide +kernel
theorem dX1_startJob_106 : decode cX1_startJob 106 = .ok (.getfield 186, 3) := by decide +kernel
theorem dX1_startJob_109 : decode cX1_startJob 109 = .ok (.iconst 0, 1) := by decide +kernel
theorem dX1_startJob_110 : decode cX1_startJob 110 = .ok (.iload 4, 2) := by decide +kernel
theorem dX1_startJob_112 : decode cX1_startJob 112 = .ok (.invokevirtual 189, 3) := by decide +kernel
theorem dX1_startJob_115 : decode cX1_startJob 115 = .ok (.return_, 1) := by decide +kernel
theorem dX1_startMove_0 : decode cX1_startMove 0 = .ok (.aload_n 0, 1) := by decide +kernel
theorem dX1_startMove_1 : decode cX1_startMove 1 = .ok (.aload_n 1, 1) := by decide +kernel
theorem dX1_startMove_2 : decode cX1_startMove 2 = .ok (.getfield 179, 3) := by decide +kernel
theorem dX1_startMove_5 : decode cX1_startMove 5 = .ok (.invokevirtual 103, 3) := by decide +kernel
theorem dX1_startMove_8 : decode cX1_startMove 8 = .ok (.astore_n 2, 1) := by decide +kernel
theorem dX1_startMove_9 : decode cX1_startMove 9 = .ok (.aload_n 2, 1) := by decide +kernel
theorem dX1_startMove_10 : decode cX1_startMove 10 = .ok (.aload_n 1, 1) := by decide +kernel
theorem dX1_startMove_11 : decode cX1_startMove 11 = .ok (.getfield 193, 3) := by decide +kernel
theorem dX1_startMove_14 : decode cX1_startMove 14 = .ok (.iconst 1, 1) := by decide +kernel
theorem dX1_startMove_15 : decode cX1_startMove 15 = .ok (.iadd, 1) := by decide +kernel
theorem dX1_startMove_16 : decode cX1_startMove 16 = .ok (.invokevirtual 170, 3) := by decide +kernel
theorem dX1_startMove_19 : decode cX1_startMove 19 = .ok (.istore_n 3, 1) := by decide +kernel
theorem dX1_startMove_20 : decode cX1_startMove 20 = .ok (.iconst 1, 1) := by decide +kernel
theorem dX1_startMove_21 : decode cX1_startMove 21 = .ok (.iload_n 3, 1) := by decide +kernel
theorem dX1_startMove_22 : decode cX1_startMove 22 = .ok (.iconst 1, 1) := by decide +kernel
theorem dX1_startMove_23 : decode cX1_startMove 23 = .ok (.iadd, 1) := by decide +kernel
theorem dX1_startMove_24 : decode cX1_startMove 24 = .ok (.ishl, 1) := by decide +kernel
theorem dX1_startMove_25 : decode cX1_startMove 25 = .ok (.iconst 1, 1) := by decide +kernel
theorem dX1_startMove_26 : decode cX1_startMove 26 = .ok (.iload_n 3, 1) := by decide +kernel
theorem dX1_startMove_27 : decode cX1_startMove 27 = .ok (.ishl, 1) := by decide +kernel
theorem dX1_startMove_28 : decode cX1_startMove 28 = .ok (.iconst 1, 1) := by decide +kernel
theorem dX1_startMove_29 : decode cX1_startMove 29 = .ok (.ishr, 1) := by decide +kernel
theorem dX1_startMove_30 : decode cX1_startMove 30 = .ok (.ior, 1) := by decide +kernel
theorem dX1_startMove_31 : decode cX1_startMove 31 = .ok (.istore 4, 2) := by decide +kernel
theorem dX1_startMove_33 : decode cX1_startMove 33 = .ok (.aload_n 0, 1) := by decide +kernel
theorem dX1_startMove_34 : decode cX1_startMove 34 = .ok (.aload_n 1, 1) := by decide +kernel
theorem dX1_startMove_35 : decode cX1_startMove 35 = .ok (.invokevirtual 196, 3) := by decide +kernel
theorem dX1_startMove_38 : decode cX1_startMove 38 = .ok (.iload 4, 2) := by decide +kernel
theorem dX1_startMove_40 : decode cX1_startMove 40 = .ok (.iand, 1) := by decide +kernel
theorem dX1_startMove_41 : decode cX1_startMove 41 = .ok (.ifCond .eq 7, 3) := by decide +kernel
theorem dX1_startMove_44 : decode cX1_startMove 44 = .ok (.iconst 1, 1) := by decide +kernel
theorem dX1_startMove_45 : decode cX1_startMove 45 = .ok (.goto 4, 3) := by decide +kernel
theorem dX1_startMove_48 : decode cX1_startMove 48 = .ok (.iconst 0, 1) := by decide +kernel
theorem dX1_startMove_49 : decode cX1_startMove 49 = .ok (.istore 5, 2) := by decide +kernel
theorem dX1_startMove_51 : decode cX1_startMove 51 = .ok (.aload_n 1, 1) := by decide +kernel
theorem dX1_startMove_52 : decode cX1_startMove 52 = .ok (.iconst 2, 1) := by decide +kernel
theorem dX1_startMove_53 : decode cX1_startMove 53 = .ok (.putfield 200, 3) := by decide +kernel
theorem dX1_startMove_56 : decode cX1_startMove 56 = .ok (.aload_n 1, 1) := by decide +kernel
theorem dX1_startMove_57 : decode cX1_startMove 57 = .ok (.iconst 1, 1) := by decide +kernel
theorem dX1_startMove_58 : decode cX1_startMove 58 = .ok (.aload_n 2, 1) := by decide +kernel
theorem dX1_startMove_59 : decode cX1_startMove 59 = .ok (.getfield 144, 3) := by decide +kernel
theorem dX1_startMove_62 : decode cX1_startMove 62 = .ok (.iconst 4, 1) := by decide +kernel
theorem dX1_startMove_63 : decode cX1_startMove 63 = .ok (.idiv, 1) := by decide +kernel
theorem dX1_startMove_64 : decode cX1_startMove 64 = .ok (.iadd, 1) := by decide +kernel
theorem dX1_startMove_65 : decode cX1_startMove 65 = .ok (.iload 5, 2) := by decide +kernel
theorem dX1_startMove_67 : decode cX1_startMove 67 = .ok (.iadd, 1) := by decide +kernel
theorem dX1_startMove_68 : decode cX1_startMove 68 = .ok (.putfield 201, 3) := by decide +kernel
theorem dX1_startMove_71 : decode cX1_startMove 71 = .ok (.aload_n 1, 1) := by decide +kernel
theorem dX1_startMove_72 : decode cX1_startMove 72 = .ok (.dup, 1) := by decide +kernel
theorem dX1_startMove_73 : decode cX1_startMove 73 = .ok (.getfield 204, 3) := by decide +kernel
theorem dX1_startMove_76 : decode cX1_startMove 76 = .ok (.iconst 1, 1) := by decide +kernel
theorem dX1_startMove_77 : decode cX1_startMove 77 = .ok (.iload_n 3, 1) := by decide +kernel
theorem dX1_startMove_78 : decode cX1_startMove 78 = .ok (.ishl, 1) := by decide +kernel
theorem dX1_startMove_79 : decode cX1_startMove 79 = .ok (.ior, 1) := by decide +kernel
theorem dX1_startMove_80 : decode cX1_startMove 80 = .ok (.putfield 204, 3) := by decide +kernel
theorem dX1_startMove_83 : decode cX1_startMove 83 = .ok (.aload_n 0, 1) := by decide +kernel
theorem dX1_startMove_84 : decode cX1_startMove 84 = .ok (.getfield 21, 3) := by decide +kernel
theorem dX1_startMove_87 : decode cX1_startMove 87 = .ok (.aload_n 0, 1) := by decide +kernel
theorem dX1_startMove_88 : decode cX1_startMove 88 = .ok (.getfield 60, 3) := by decide +kernel
theorem dX1_startMove_91 : decode cX1_startMove 91 = .ok (.aload_n 1, 1) := by decide +kernel
theorem dX1_startMove_92 : decode cX1_startMove 92 = .ok (.getfield 186, 3) := by decide +kernel
theorem dX1_startMove_95 : decode cX1_startMove 95 = .ok (.iconst 1, 1) := by decide +kernel
theorem dX1_startMove_96 : decode cX1_startMove 96 = .ok (.iload_n 3, 1) := by decide +kernel
theorem dX1_startMove_97 : decode cX1_startMove 97 = .ok (.invokevirtual 189, 3) := by decide +kernel
theorem dX1_startMove_100 : decode cX1_startMove 100 = .ok (.return_, 1) := by decide +kernel
theorem dX1_endMove_0 : decode cX1_endMove 0 = .ok (.aload_n 0, 1) := by decide +kernel
theorem dX1_endMove_1 : decode cX1_endMove 1 = .ok (.aload_n 1, 1) := by decide +kernel
theorem dX1_endMove_2 : decode cX1_endMove 2 = .ok (.getfield 179, 3) := by decide +kernel
theorem dX1_endMove_5 : decode cX1_endMove 5 = .ok (.invokevirtual 103, 3) := by decide +kernel
theorem dX1_endMove_8 : decode cX1_endMove 8 = .ok (.astore_n 2, 1) := by decide +kernel
theorem dX1_endMove_9 : decode cX1_endMove 9 = .ok (.aload_n 2, 1) := by decide +kernel
theorem dX1_endMove_10 : decode cX1_endMove 10 = .ok (.aload_n 1, 1) := by decide +kernel
theorem dX1_endMove_11 : decode cX1_endMove 11 = .ok (.getfield 193, 3) := by decide +kernel
theorem dX1_endMove_14 : decode cX1_endMove 14 = .ok (.invokevirtual 170, 3) := by decide +kernel
theorem dX1_endMove_17 : decode cX1_endMove 17 = .ok (.istore_n 3, 1) := by decide +kernel
theorem dX1_endMove_18 : decode cX1_endMove 18 = .ok (.aload_n 1, 1) := by decide +kernel
theorem dX1_endMove_19 : decode cX1_endMove 19 = .ok (.aload_n 1, 1) := by decide +kernel
theorem dX1_endMove_20 : decode cX1_endMove 20 = .ok (.getfield 193, 3) := by decide +kernel
theorem dX1_endMove_23 : decode cX1_endMove 23 = .ok (.iconst 1, 1) := by decide +kernel
theorem dX1_endMove_24 : decode cX1_endMove 24 = .ok (.iadd, 1) := by decide +kernel
theorem dX1_endMove_25 : decode cX1_endMove 25 = .ok (.aload_n 2, 1) := by decide +kernel
theorem dX1_endMove_26 : decode cX1_endMove 26 = .ok (.aload_n 1, 1) := by decide +kernel
theorem dX1_endMove_27 : decode cX1_endMove 27 = .ok (.getfield 193, 3) := by decide +kernel
theorem dX1_endMove_30 : decode cX1_endMove 30 = .ok (.iconst 1, 1) := by decide +kernel
theorem dX1_endMove_31 : decode cX1_endMove 31 = .ok (.iadd, 1) := by decide +kernel
theorem dX1_endMove_32 : decode cX1_endMove 32 = .ok (.invokevirtual 170, 3) := by decide +kernel
theorem dX1_endMove_35 : decode cX1_endMove 35 = .ok (.aload_n 2, 1) := by decide +kernel
theorem dX1_endMove_36 : decode cX1_endMove 36 = .ok (.getfield 141, 3) := by decide +kernel
theorem dX1_endMove_39 : decode cX1_endMove 39 = .ok (.invokevirtual 182, 3) := by decide +kernel
theorem dX1_endMove_42 : decode cX1_endMove 42 = .ok (.aload_n 0, 1) := by decide +kernel
theorem dX1_endMove_43 : decode cX1_endMove 43 = .ok (.getfield 21, 3) := by decide +kernel
theorem dX1_endMove_46 : decode cX1_endMove 46 = .ok (.aload_n 0, 1) := by decide +kernel
theorem dX1_endMove_47 : decode cX1_endMove 47 = .ok (.getfield 60, 3) := by decide +kernel
theorem dX1_endMove_50 : decode cX1_endMove 50 = .ok (.aload_n 1, 1) := by decide +kernel
theorem dX1_endMove_51 : decode cX1_endMove 51 = .ok (.getfield 186, 3) := by decide +kernel
theorem dX1_endMove_54 : decode cX1_endMove 54 = .ok (.iconst 2, 1) := by decide +kernel
theorem dX1_endMove_55 : decode cX1_endMove 55 = .ok (.iload_n 3, 1) := by decide +kernel
theorem dX1_endMove_56 : decode cX1_endMove 56 = .ok (.invokevirtual 189, 3) := by decide +kernel
theorem dX1_endMove_59 : decode cX1_endMove 59 = .ok (.return_, 1) := by decide +kernel
theorem dX1_endJob_0 : decode cX1_endJob 0 = .ok (.aload_n 0, 1) := by decide +kernel
theorem dX1_endJob_1 : decode cX1_endJob 1 = .ok (.aload_n 1, 1) := by decide +kernel
theorem dX1_endJob_2 : decode cX1_endJob 2 = .ok (.getfield 179, 3) := by decide +kernel
theorem dX1_endJob_5 : decode cX1_endJob 5 = .ok (.invokevirtual 103, 3) := by decide +kernel
theorem dX1_endJob_8 : decode cX1_endJob 8 = .ok (.astore_n 2, 1) := by decide +kernel
theorem dX1_endJob_9 : decode cX1_endJob 9 = .ok (.aload_n 0, 1) := by decide +kernel
theorem dX1_endJob_10 : decode cX1_endJob 10 = .ok (.getfield 21, 3) := by decide +kernel
theorem dX1_endJob_13 : decode cX1_endJob 13 = .ok (.aload_n 0, 1) := by decide +kernel
theorem dX1_endJob_14 : decode cX1_endJob 14 = .ok (.getfield 60, 3) := by decide +kernel
theorem dX1_endJob_17 : decode cX1_endJob 17 = .ok (.aload_n 1, 1) := by decide +kernel
theorem dX1_endJob_18 : decode cX1_endJob 18 = .ok (.getfield 186, 3) := by decide +kernel
theorem dX1_endJob_21 : decode cX1_endJob 21 = .ok (.iconst 3, 1) := by decide +kernel
theorem dX1_endJob_22 : decode cX1_endJob 22 = .ok (.aload_n 2, 1) := by decide +kernel
theorem dX1_endJob_23 : decode cX1_endJob 23 = .ok (.aload_n 1, 1) := by decide +kernel
theorem dX1_endJob_24 : decode cX1_endJob 24 = .ok (.getfield 193, 3) := by decide +kernel
theorem dX1_endJob_27 : decode cX1_endJob 27 = .ok (.invokevirtual 170, 3) := by decide +kernel
theorem dX1_endJob_30 : decode cX1_endJob 30 = .ok (.invokevirtual 189, 3) := by decide +kernel
theorem dX1_endJob_33 : decode cX1_endJob 33 = .ok (.aload_n 0, 1) := by decide +kernel
theorem dX1_endJob_34 : decode cX1_endJob 34 = .ok (.aload_n 2, 1) := by decide +kernel
theorem dX1_endJob_35 : decode cX1_endJob 35 = .ok (.invokevirtual 207, 3) := by decide +kernel
theorem dX1_endJob_38 : decode cX1_endJob 38 = .ok (.aload_n 2, 1) := by decide +kernel
theorem dX1_endJob_39 : decode cX1_endJob 39 = .ok (.iconst 2, 1) := by decide +kernel
theorem dX1_endJob_40 : decode cX1_endJob 40 = .ok (.putfield 153, 3) := by decide +kernel
theorem dX1_endJob_43 : decode cX1_endJob 43 = .ok (.aload_n 2, 1) := by decide +kernel
theorem dX1_endJob_44 : decode cX1_endJob 44 = .ok (.aload_n 0, 1) := by decide +kernel
theorem dX1_endJob_45 : decode cX1_endJob 45 = .ok (.getfield 60, 3) := by decide +kernel
theorem dX1_endJob_48 : decode cX1_endJob 48 = .ok (.putfield 159, 3) := by decide +kernel
theorem dX1_endJob_51 : decode cX1_endJob 51 = .ok (.aload_n 0, 1) := by decide +kernel
theorem dX1_endJob_52 : decode cX1_endJob 52 = .ok (.dup, 1) := by decide +kernel
theorem dX1_endJob_53 : decode cX1_endJob 53 = .ok (.getfield 67, 3) := by decide +kernel
theorem dX1_endJob_56 : decode cX1_endJob 56 = .ok (.iconst 1, 1) := by decide +kernel
theorem dX1_endJob_57 : decode cX1_endJob 57 = .ok (.iadd, 1) := by decide +kernel
theorem dX1_endJob_58 : decode cX1_endJob 58 = .ok (.putfield 67, 3) := by decide +kernel
theorem dX1_endJob_61 : decode cX1_endJob 61 = .ok (.aload_n 0, 1) := by decide +kernel
theorem dX1_endJob_62 : decode cX1_endJob 62 = .ok (.dup, 1) := by decide +kernel
theorem dX1_endJob_63 : decode cX1_endJob 63 = .ok (.getfield 79, 3) := by decide +kernel
theorem dX1_endJob_66 : decode cX1_endJob 66 = .ok (.aload_n 2, 1) := by decide +kernel
theorem dX1_endJob_67 : decode cX1_endJob 67 = .ok (.getfield 159, 3) := by decide +kernel
theorem dX1_endJob_70 : decode cX1_endJob 70 = .ok (.aload_n 2, 1) := by decide +kernel
theorem dX1_endJob_71 : decode cX1_endJob 71 = .ok (.getfield 156, 3) := by decide +kernel
theorem dX1_endJob_74 : decode cX1_endJob 74 = .ok (.isub, 1) := by decide +kernel
theorem dX1_endJob_75 : decode cX1_endJob 75 = .ok (.iadd, 1) := by decide +kernel
theorem dX1_endJob_76 : decode cX1_endJob 76 = .ok (.putfield 79, 3) := by decide +kernel
theorem dX1_endJob_79 : decode cX1_endJob 79 = .ok (.aload_n 1, 1) := by decide +kernel
theorem dX1_endJob_80 : decode cX1_endJob 80 = .ok (.invokevirtual 210, 3) := by decide +kernel
theorem dX1_endJob_83 : decode cX1_endJob 83 = .ok (.return_, 1) := by decide +kernel
theorem dX1_moveParts_0 : decode cX1_moveParts 0 = .ok (.iconst (-1), 1) := by decide +kernel
theorem dX1_moveParts_1 : decode cX1_moveParts 1 = .ok (.istore_n 2, 1) := by decide +kernel
theorem dX1_moveParts_2 : decode cX1_moveParts 2 = .ok (.aload_n 1, 1) := by decide +kernel
theorem dX1_moveParts_3 : decode cX1_moveParts 3 = .ok (.getfield 147, 3) := by decide +kernel
theorem dX1_moveParts_6 : decode cX1_moveParts 6 = .ok (.iconst (-1), 1) := by decide +kernel
theorem dX1_moveParts_7 : decode cX1_moveParts 7 = .ok (.if_icmp .eq 27, 3) := by decide +kernel
theorem dX1_moveParts_10 : decode cX1_moveParts 10 = .ok (.aload_n 0, 1) := by decide +kernel
theorem dX1_moveParts_11 : decode cX1_moveParts 11 = .ok (.aload_n 1, 1) := by decide +kernel
theorem dX1_moveParts_12 : decode cX1_moveParts 12 = .ok (.getfield 147, 3) := by decide +kernel
theorem dX1_moveParts_15 : decode cX1_moveParts 15 = .ok (.invokevirtual 96, 3) := by decide +kernel
theorem dX1_moveParts_18 : decode cX1_moveParts 18 = .ok (.astore_n 3, 1) := by decide +kernel
theorem dX1_moveParts_19 : decode cX1_moveParts 19 = .ok (.aload_n 3, 1) := by decide +kernel
theorem dX1_moveParts_20 : decode cX1_moveParts 20 = .ok (.invokevirtual 213, 3) := by decide +kernel
theorem dX1_moveParts_23 : decode cX1_moveParts 23 = .ok (.istore_n 2, 1) := by decide +kernel
theorem dX1_moveParts_24 : decode cX1_moveParts 24 = .ok (.aload_n 3, 1) := by decide +kernel
theorem dX1_moveParts_25 : decode cX1_moveParts 25 = .ok (.dup, 1) := by decide +kernel
theorem dX1_moveParts_26 : decode cX1_moveParts 26 = .ok (.getfield 173, 3) := by decide +kernel
theorem dX1_moveParts_29 : decode cX1_moveParts 29 = .ok (.iconst 1, 1) := by decide +kernel
theorem dX1_moveParts_30 : decode cX1_moveParts 30 = .ok (.isub, 1) := by decide +kernel
theorem dX1_moveParts_31 : decode cX1_moveParts 31 = .ok (.putfield 173, 3) := by decide +kernel
theorem dX1_moveParts_34 : decode cX1_moveParts 34 = .ok (.aload_n 1, 1) := by decide +kernel
theorem dX1_moveParts_35 : decode cX1_moveParts 35 = .ok (.getfield 150, 3) := by decide +kernel
theorem dX1_moveParts_38 : decode cX1_moveParts 38 = .ok (.iconst (-1), 1) := by decide +kernel
theorem dX1_moveParts_39 : decode cX1_moveParts 39 = .ok (.if_icmp .eq 45, 3) := by decide +kernel
theorem dX1_moveParts_42 : decode cX1_moveParts 42 = .ok (.aload_n 0, 1) := by decide +kernel
theorem dX1_moveParts_43 : decode cX1_moveParts 43 = .ok (.aload_n 1, 1) := by decide +kernel
theorem dX1_moveParts_44 : decode cX1_moveParts 44 = .ok (.getfield 150, 3) := by decide +kernel
theorem dX1_moveParts_47 : decode cX1_moveParts 47 = .ok (.invokevirtual 96, 3) := by decide +kernel
theorem dX1_moveParts_50 : decode cX1_moveParts 50 = .ok (.astore_n 3, 1) := by decide +kernel
theorem dX1_moveParts_51 : decode cX1_moveParts 51 = .ok (.aload_n 3, 1) := by decide +kernel
theorem dX1_moveParts_52 : decode cX1_moveParts 52 = .ok (.dup, 1) := by decide +kernel
theorem dX1_moveParts_53 : decode cX1_moveParts 53 = .ok (.getfield 176, 3) := by decide +kernel
theorem dX1_moveParts_56 : decode cX1_moveParts 56 = .ok (.iconst 1, 1) := by decide +kernel
theorem dX1_moveParts_57 : decode cX1_moveParts 57 = .ok (.isub, 1) := by decide +kernel
theorem dX1_moveParts_58 : decode cX1_moveParts 58 = .ok (.putfield 176, 3) := by decide +kernel
theorem dX1_moveParts_61 : decode cX1_moveParts 61 = .ok (.aload_n 3, 1) := by decide +kernel
theorem dX1_moveParts_62 : decode cX1_moveParts 62 = .ok (.aload_n 1, 1) := by decide +kernel
theorem dX1_moveParts_63 : decode cX1_moveParts 63 = .ok (.getfield 147, 3) := by decide +kernel
theorem dX1_moveParts_66 : decode cX1_moveParts 66 = .ok (.iconst (-1), 1) := by decide +kernel
theorem dX1_moveParts_67 : decode cX1_moveParts 67 = .ok (.if_icmp .eq 7, 3) := by decide +kernel
theorem dX1_moveParts_70 : decode cX1_moveParts 70 = .ok (.iload_n 2, 1) := by decide +kernel
theorem dX1_moveParts_71 : decode cX1_moveParts 71 = .ok (.goto 7, 3) := by decide +kernel
theorem dX1_moveParts_74 : decode cX1_moveParts 74 = .ok (.aload_n 0, 1) := by decide +kernel
theorem dX1_moveParts_75 : decode cX1_moveParts 75 = .ok (.invokevirtual 216, 3) := by decide +kernel
theorem dX1_moveParts_78 : decode cX1_moveParts 78 = .ok (.invokevirtual 219, 3) := by decide +kernel
theorem dX1_moveParts_81 : decode cX1_moveParts 81 = .ok (.goto 21, 3) := by decide +kernel
theorem dX1_moveParts_84 : decode cX1_moveParts 84 = .ok (.aload_n 1, 1) := by decide +kernel
theorem dX1_moveParts_85 : decode cX1_moveParts 85 = .ok (.getfield 147, 3) := by decide +kernel
theorem dX1_moveParts_88 : decode cX1_moveParts 88 = .ok (.iconst (-1), 1) := by decide +kernel
theorem dX1_moveParts_89 : decode cX1_moveParts 89 = .ok (.if_icmp .eq 13, 3) := by decide +kernel
theorem dX1_moveParts_92 : decode cX1_moveParts 92 = .ok (.aload_n 0, 1) := by decide +kernel
theorem dX1_moveParts_93 : decode cX1_moveParts 93 = .ok (.dup, 1) := by decide +kernel
theorem dX1_moveParts_94 : decode cX1_moveParts 94 = .ok (.getfield 76, 3) := by decide +kernel
theorem dX1_moveParts_97 : decode cX1_moveParts 97 = .ok (.iconst 1, 1) := by decide +kernel
theorem dX1_moveParts_98 : decode cX1_moveParts 98 = .ok (.iadd, 1) := by decide +kernel
theorem dX1_moveParts_99 : decode cX1_moveParts 99 = .ok (.putfield 76, 3) := by decide +kernel
theorem dX1_moveParts_102 : decode cX1_moveParts 102 = .ok (.return_, 1) := by decide +kernel
theorem dX1_countTick_0 : decode cX1_countTick 0 = .ok (.iconst 0, 1) := by decide +kernel
theorem dX1_countTick_1 : decode cX1_countTick 1 = .ok (.istore_n 1, 1) := by decide +kernel
theorem dX1_countTick_2 : decode cX1_countTick 2 = .ok (.iconst 0, 1) := by decide +kernel
theorem dX1_countTick_3 : decode cX1_countTick 3 = .ok (.istore_n 2, 1) := by decide +kernel
theorem dX1_countTick_4 : decode cX1_countTick 4 = .ok (.iload_n 2, 1) := by decide +kernel
theorem dX1_countTick_5 : decode cX1_countTick 5 = .ok (.iconst 3, 1) := by decide +kernel
theorem dX1_countTick_6 : decode cX1_countTick 6 = .ok (.if_icmp .ge 39, 3) := by decide +kernel
theorem dX1_countTick_9 : decode cX1_countTick 9 = .ok (.aload_n 0, 1) := by decide +kernel
theorem dX1_countTick_10 : decode cX1_countTick 10 = .ok (.iload_n 2, 1) := by decide +kernel
theorem dX1_countTick_11 : decode cX1_countTick 11 = .ok (.invokevirtual 89, 3) := by decide +kernel
theorem dX1_countTick_14 : decode cX1_countTick 14 = .ok (.astore_n 3, 1) := by decide +kernel
theorem dX1_countTick_15 : decode cX1_countTick 15 = .ok (.iload_n 1, 1) := by decide +kernel
theorem dX1_countTick_16 : decode cX1_countTick 16 = .ok (.aload_n 3, 1) := by decide +kernel
theorem dX1_countTick_17 : decode cX1_countTick 17 = .ok (.getfield 204, 3) := by decide +kernel
theorem dX1_countTick_20 : decode cX1_countTick 20 = .ok (.ior, 1) := by decide +kernel
theorem dX1_countTick_21 : decode cX1_countTick 21 = .ok (.istore_n 1, 1) := by decide +kernel
theorem dX1_countTick_22 : decode cX1_countTick 22 = .ok (.aload_n 3, 1) := by decide +kernel
theorem dX1_countTick_23 : decode cX1_countTick 23 = .ok (.getfield 200, 3) := by decide +kernel
theorem dX1_countTick_26 : decode cX1_countTick 26 = .ok (.ifCond .eq 13, 3) := by decide +kernel
theorem dX1_countTick_29 : decode cX1_countTick 29 = .ok (.aload_n 3, 1) := by decide +kernel
theorem dX1_countTick_30 : decode cX1_countTick 30 = .ok (.dup, 1) := by decide +kernel
theorem dX1_countTick_31 : decode cX1_countTick 31 = .ok (.getfield 222, 3) := by decide +kernel
theorem dX1_countTick_34 : decode cX1_countTick 34 = .ok (.iconst 1, 1) := by decide +kernel
theorem dX1_countTick_35 : decode cX1_countTick 35 = .ok (.iadd, 1) := by decide +kernel
theorem dX1_countTick_36 : decode cX1_countTick 36 = .ok (.putfield 222, 3) := by decide +kernel
theorem dX1_countTick_39 : decode cX1_countTick 39 = .ok (.iinc 2 1, 3) := by decide +kernel
theorem dX1_countTick_42 : decode cX1_countTick 42 = .ok (.goto (-38), 3) := by decide +kernel
theorem dX1_countTick_45 : decode cX1_countTick 45 = .ok (.aload_n 0, 1) := by decide +kernel
theorem dX1_countTick_46 : decode cX1_countTick 46 = .ok (.getfield 12, 3) := by decide +kernel
theorem dX1_countTick_49 : decode cX1_countTick 49 = .ok (.iload_n 1, 1) := by decide +kernel
theorem dX1_countTick_50 : decode cX1_countTick 50 = .ok (.invokevirtual 225, 3) := by decide +kernel
theorem dX1_countTick_53 : decode cX1_countTick 53 = .ok (.return_, 1) := by decide +kernel
theorem dX1_armsBefore_0 : decode cX1_armsBefore 0 = .ok (.aload_n 0, 1) := by decide +kernel
theorem dX1_armsBefore_1 : decode cX1_armsBefore 1 = .ok (.iload_n 1, 1) := by decide +kernel
theorem dX1_armsBefore_2 : decode cX1_armsBefore 2 = .ok (.invokevirtual 89, 3) := by decide +kernel
theorem dX1_armsBefore_5 : decode cX1_armsBefore 5 = .ok (.getfield 228, 3) := by decide +kernel
theorem dX1_armsBefore_8 : decode cX1_armsBefore 8 = .ok (.istore_n 2, 1) := by decide +kernel
theorem dX1_armsBefore_9 : decode cX1_armsBefore 9 = .ok (.iconst 0, 1) := by decide +kernel
theorem dX1_armsBefore_10 : decode cX1_armsBefore 10 = .ok (.istore_n 3, 1) := by decide +kernel
theorem dX1_armsBefore_11 : decode cX1_armsBefore 11 = .ok (.iconst 0, 1) := by decide +kernel
theorem dX1_armsBefore_12 : decode cX1_armsBefore 12 = .ok (.istore 4, 2) := by decide +kernel
theorem dX1_armsBefore_14 : decode cX1_armsBefore 14 = .ok (.iload 4, 2) := by decide +kernel
theorem dX1_armsBefore_16 : decode cX1_armsBefore 16 = .ok (.iconst 3, 1) := by decide +kernel
theorem dX1_armsBefore_17 : decode cX1_armsBefore 17 = .ok (.if_icmp .ge 41, 3) := by decide +kernel
theorem dX1_armsBefore_20 : decode cX1_armsBefore 20 = .ok (.aload_n 0, 1) := by decide +kernel
theorem dX1_armsBefore_21 : decode cX1_armsBefore 21 = .ok (.iload 4, 2) := by decide +kernel
theorem dX1_armsBefore_23 : decode cX1_armsBefore 23 = .ok (.invokevirtual 89, 3) := by decide +kernel
theorem dX1_armsBefore_26 : decode cX1_armsBefore 26 = .ok (.getfield 228, 3) := by decide +kernel
theorem dX1_armsBefore_29 : decode cX1_armsBefore 29 = .ok (.istore 5, 2) := by decide +kernel
theorem dX1_armsBefore_31 : decode cX1_armsBefore 31 = .ok (.iload 5, 2) := by decide +kernel
theorem dX1_armsBefore_33 : decode cX1_armsBefore 33 = .ok (.iload_n 2, 1) := by decide +kernel
theorem dX1_armsBefore_34 : decode cX1_armsBefore 34 = .ok (.if_icmp .gt 15, 3) := by decide +kernel
theorem dX1_armsBefore_37 : decode cX1_armsBefore 37 = .ok (.iload 5, 2) := by decide +kernel
theorem dX1_armsBefore_39 : decode cX1_armsBefore 39 = .ok (.iload_n 2, 1) := by decide +kernel
theorem dX1_armsBefore_40 : decode cX1_armsBefore 40 = .ok (.if_icmp .ne 12, 3) := by decide +kernel
theorem dX1_armsBefore_43 : decode cX1_armsBefore 43 = .ok (.iload 4, 2) := by decide +kernel
theorem dX1_armsBefore_45 : decode cX1_armsBefore 45 = .ok (.iload_n 1, 1) := by decide +kernel
theorem dX1_armsBefore_46 : decode cX1_armsBefore 46 = .ok (.if_icmp .ge 6, 3) := by decide +kernel
theorem dX1_armsBefore_49 : decode cX1_armsBefore 49 = .ok (.iinc 3 1, 3) := by decide +kernel
theorem dX1_armsBefore_52 : decode cX1_armsBefore 52 = .ok (.iinc 4 1, 3) := by decide +kernel
theorem dX1_armsBefore_55 : decode cX1_armsBefore 55 = .ok (.goto (-41), 3) := by decide +kernel
theorem dX1_armsBefore_58 : decode cX1_armsBefore 58 = .ok (.iload_n 3, 1) := by decide +kernel
theorem dX1_armsBefore_59 : decode cX1_armsBefore 59 = .ok (.ireturn, 1) := by decide +kernel
theorem dX1_hasRequest_0 : decode cX1_hasRequest 0 = .ok (.aload_n 0, 1) := by decide +kernel
theorem dX1_hasRequest_1 : decode cX1_hasRequest 1 = .ok (.aload_n 1, 1) := by decide +kernel
theorem dX1_hasRequest_2 : decode cX1_hasRequest 2 = .ok (.invokevirtual 231, 3) := by decide +kernel
theorem dX1_hasRequest_5 : decode cX1_hasRequest 5 = .ok (.invokevirtual 103, 3) := by decide +kernel
theorem dX1_hasRequest_8 : decode cX1_hasRequest 8 = .ok (.aload_n 1, 1) := by decide +kernel
theorem dX1_hasRequest_9 : decode cX1_hasRequest 9 = .ok (.invokevirtual 234, 3) := by decide +kernel
theorem dX1_hasRequest_12 : decode cX1_hasRequest 12 = .ok (.invokevirtual 237, 3) := by decide +kernel
theorem dX1_hasRequest_15 : decode cX1_hasRequest 15 = .ok (.ireturn, 1) := by decide +kernel
theorem dX1_isAllIdle_0 : decode cX1_isAllIdle 0 = .ok (.iconst 0, 1) := by decide +kernel
theorem dX1_isAllIdle_1 : decode cX1_isAllIdle 1 = .ok (.istore_n 1, 1) := by decide +kernel
theorem dX1_isAllIdle_2 : decode cX1_isAllIdle 2 = .ok (.iload_n 1, 1) := by decide +kernel
theorem dX1_isAllIdle_3 : decode cX1_isAllIdle 3 = .ok (.iconst 3, 1) := by decide +kernel
theorem dX1_isAllIdle_4 : decode cX1_isAllIdle 4 = .ok (.if_icmp .ge 31, 3) := by decide +kernel
theorem dX1_isAllIdle_7 : decode cX1_isAllIdle 7 = .ok (.aload_n 0, 1) := by decide +kernel
theorem dX1_isAllIdle_8 : decode cX1_isAllIdle 8 = .ok (.iload_n 1, 1) := by decide +kernel
theorem dX1_isAllIdle_9 : decode cX1_isAllIdle 9 = .ok (.invokevirtual 89, 3) := by decide +kernel
theorem dX1_isAllIdle_12 : decode cX1_isAllIdle 12 = .ok (.astore_n 2, 1) := by decide +kernel
theorem dX1_isAllIdle_13 : decode cX1_isAllIdle 13 = .ok (.aload_n 2, 1) := by decide +kernel
theorem dX1_isAllIdle_14 : decode cX1_isAllIdle 14 = .ok (.getfield 200, 3) := by decide +kernel
theorem dX1_isAllIdle_17 : decode cX1_isAllIdle 17 = .ok (.ifCond .ne 10, 3) := by decide +kernel
theorem dX1_isAllIdle_20 : decode cX1_isAllIdle 20 = .ok (.aload_n 2, 1) := by decide +kernel
theorem dX1_isAllIdle_21 : decode cX1_isAllIdle 21 = .ok (.getfield 240, 3) := by decide +kernel
theorem dX1_isAllIdle_24 : decode cX1_isAllIdle 24 = .ok (.ifCond .le 5, 3) := by decide +kernel
theorem dX1_isAllIdle_27 : decode cX1_isAllIdle 27 = .ok (.iconst 0, 1) := by decide +kernel
theorem dX1_isAllIdle_28 : decode cX1_isAllIdle 28 = .ok (.ireturn, 1) := by decide +kernel
theorem dX1_isAllIdle_29 : decode cX1_isAllIdle 29 = .ok (.iinc 1 1, 3) := by decide +kernel
theorem dX1_isAllIdle_32 : decode cX1_isAllIdle 32 = .ok (.goto (-30), 3) := by decide +kernel
theorem dX1_isAllIdle_35 : decode cX1_isAllIdle 35 = .ok (.iconst 1, 1) := by decide +kernel
theorem dX1_isAllIdle_36 : decode cX1_isAllIdle 36 = .ok (.ireturn, 1) := by decide +kernel
theorem dX1_heldByOthers_0 : decode cX1_heldByOthers 0 = .ok (.iconst 0, 1) := by decide +kernel
theorem dX1_heldByOthers_1 : decode cX1_heldByOthers 1 = .ok (.istore_n 2, 1) := by decide +kernel
theorem dX1_heldByOthers_2 : decode cX1_heldByOthers 2 = .ok (.iconst 0, 1) := by decide +kernel
theorem dX1_heldByOthers_3 : decode cX1_heldByOthers 3 = .ok (.istore_n 3, 1) := by decide +kernel
theorem dX1_heldByOthers_4 : decode cX1_heldByOthers 4 = .ok (.iload_n 3, 1) := by decide +kernel
theorem dX1_heldByOthers_5 : decode cX1_heldByOthers 5 = .ok (.iconst 3, 1) := by decide +kernel
theorem dX1_heldByOthers_6 : decode cX1_heldByOthers 6 = .ok (.if_icmp .ge 28, 3) := by decide +kernel
theorem dX1_heldByOthers_9 : decode cX1_heldByOthers 9 = .ok (.iload_n 3, 1) := by decide +kernel
theorem dX1_heldByOthers_10 : decode cX1_heldByOthers 10 = .ok (.aload_n 1, 1) := by decide +kernel
theorem dX1_heldByOthers_11 : decode cX1_heldByOthers 11 = .ok (.getfield 186, 3) := by decide +kernel
theorem dX1_heldByOthers_14 : decode cX1_heldByOthers 14 = .ok (.if_icmp .eq 14, 3) := by decide +kernel
theorem dX1_heldByOthers_17 : decode cX1_heldByOthers 17 = .ok (.iload_n 2, 1) := by decide +kernel
theorem dX1_heldByOthers_18 : decode cX1_heldByOthers 18 = .ok (.aload_n 0, 1) := by decide +kernel
theorem dX1_heldByOthers_19 : decode cX1_heldByOthers 19 = .ok (.iload_n 3, 1) := by decide +kernel
theorem dX1_heldByOthers_20 : decode cX1_heldByOthers 20 = .ok (.invokevirtual 89, 3) := by decide +kernel
theorem dX1_heldByOthers_23 : decode cX1_heldByOthers 23 = .ok (.getfield 204, 3) := by decide +kernel
theorem dX1_heldByOthers_26 : decode cX1_heldByOthers 26 = .ok (.ior, 1) := by decide +kernel
theorem dX1_heldByOthers_27 : decode cX1_heldByOthers 27 = .ok (.istore_n 2, 1) := by decide +kernel
theorem dX1_heldByOthers_28 : decode cX1_heldByOthers 28 = .ok (.iinc 3 1, 3) := by decide +kernel
theorem dX1_heldByOthers_31 : decode cX1_heldByOthers 31 = .ok (.goto (-27), 3) := by decide +kernel
theorem dX1_heldByOthers_34 : decode cX1_heldByOthers 34 = .ok (.iload_n 2, 1) := by decide +kernel
theorem dX1_heldByOthers_35 : decode cX1_heldByOthers 35 = .ok (.ireturn, 1) := by decide +kernel
theorem dX1_holderOf_0 : decode cX1_holderOf 0 = .ok (.iconst 0, 1) := by decide +kernel
theorem dX1_holderOf_1 : decode cX1_holderOf 1 = .ok (.istore_n 2, 1) := by decide +kernel
theorem dX1_holderOf_2 : decode cX1_holderOf 2 = .ok (.iload_n 2, 1) := by decide +kernel
theorem dX1_holderOf_3 : decode cX1_holderOf 3 = .ok (.iconst 3, 1) := by decide +kernel
theorem dX1_holderOf_4 : decode cX1_holderOf 4 = .ok (.if_icmp .ge 26, 3) := by decide +kernel
theorem dX1_holderOf_7 : decode cX1_holderOf 7 = .ok (.aload_n 0, 1) := by decide +kernel
theorem dX1_holderOf_8 : decode cX1_holderOf 8 = .ok (.iload_n 2, 1) := by decide +kernel
theorem dX1_holderOf_9 : decode cX1_holderOf 9 = .ok (.invokevirtual 89, 3) := by decide +kernel
theorem dX1_holderOf_12 : decode cX1_holderOf 12 = .ok (.getfield 204, 3) := by decide +kernel
theorem dX1_holderOf_15 : decode cX1_holderOf 15 = .ok (.iconst 1, 1) := by decide +kernel
theorem dX1_holderOf_16 : decode cX1_holderOf 16 = .ok (.iload_n 1, 1) := by decide +kernel
theorem dX1_holderOf_17 : decode cX1_holderOf 17 = .ok (.ishl, 1) := by decide +kernel
theorem dX1_holderOf_18 : decode cX1_holderOf 18 = .ok (.iand, 1) := by decide +kernel
theorem dX1_holderOf_19 : decode cX1_holderOf 19 = .ok (.ifCond .eq 5, 3) := by decide +kernel
theorem dX1_holderOf_22 : decode cX1_holderOf 22 = .ok (.iload_n 2, 1) := by decide +kernel
theorem dX1_holderOf_23 : decode cX1_holderOf 23 = .ok (.ireturn, 1) := by decide +kernel
theorem dX1_holderOf_24 : decode cX1_holderOf 24 = .ok (.iinc 2 1, 3) := by decide +kernel
theorem dX1_holderOf_27 : decode cX1_holderOf 27 = .ok (.goto (-25), 3) := by decide +kernel
theorem dX1_holderOf_30 : decode cX1_holderOf 30 = .ok (.iconst (-1), 1) := by decide +kernel
theorem dX1_holderOf_31 : decode cX1_holderOf 31 = .ok (.ireturn, 1) := by decide +kernel
theorem dX1_holdersOfAny_0 : decode cX1_holdersOfAny 0 = .ok (.iconst 0, 1) := by decide +kernel
theorem dX1_holdersOfAny_1 : decode cX1_holdersOfAny 1 = .ok (.istore_n 2, 1) := by decide +kernel
theorem dX1_holdersOfAny_2 : decode cX1_holdersOfAny 2 = .ok (.iconst 0, 1) := by decide +kernel
theorem dX1_holdersOfAny_3 : decode cX1_holdersOfAny 3 = .ok (.istore_n 3, 1) := by decide +kernel
theorem dX1_holdersOfAny_4 : decode cX1_holdersOfAny 4 = .ok (.iload_n 3, 1) := by decide +kernel
theorem dX1_holdersOfAny_5 : decode cX1_holdersOfAny 5 = .ok (.iconst 3, 1) := by decide +kernel
theorem dX1_holdersOfAny_6 : decode cX1_holdersOfAny 6 = .ok (.if_icmp .ge 28, 3) := by decide +kernel
theorem dX1_holdersOfAny_9 : decode cX1_holdersOfAny 9 = .ok (.aload_n 0, 1) := by decide +kernel
theorem dX1_holdersOfAny_10 : decode cX1_holdersOfAny 10 = .ok (.iload_n 3, 1) := by decide +kernel
theorem dX1_holdersOfAny_11 : decode cX1_holdersOfAny 11 = .ok (.invokevirtual 89, 3) := by decide +kernel
theorem dX1_holdersOfAny_14 : decode cX1_holdersOfAny 14 = .ok (.getfield 204, 3) := by decide +kernel
theorem dX1_holdersOfAny_17 : decode cX1_holdersOfAny 17 = .ok (.iload_n 1, 1) := by decide +kernel
theorem dX1_holdersOfAny_18 : decode cX1_holdersOfAny 18 = .ok (.iand, 1) := by decide +kernel
theorem dX1_holdersOfAny_19 : decode cX1_holdersOfAny 19 = .ok (.ifCond .eq 9, 3) := by decide +kernel
theorem dX1_holdersOfAny_22 : decode cX1_holdersOfAny 22 = .ok (.iload_n 2, 1) := by decide +kernel
theorem dX1_holdersOfAny_23 : decode cX1_holdersOfAny 23 = .ok (.iconst 1, 1) := by decide +kernel
theorem dX1_holdersOfAny_24 : decode cX1_holdersOfAny 24 = .ok (.iload_n 3, 1) := by decide +kernel
theorem dX1_holdersOfAny_25 : decode cX1_holdersOfAny 25 = .ok (.ishl, 1) := by decide +kernel
theorem dX1_holdersOfAny_26 : decode cX1_holdersOfAny 26 = .ok (.ior, 1) := by decide +kernel
theorem dX1_holdersOfAny_27 : decode cX1_holdersOfAny 27 = .ok (.istore_n 2, 1) := by decide +kernel
theorem dX1_holdersOfAny_28 : decode cX1_holdersOfAny 28 = .ok (.iinc 3 1, 3) := by decide +kernel
theorem dX1_holdersOfAny_31 : decode cX1_holdersOfAny 31 = .ok (.goto (-27), 3) := by decide +kernel
theorem dX1_holdersOfAny_34 : decode cX1_holdersOfAny 34 = .ok (.iload_n 2, 1) := by decide +kernel
theorem dX1_holdersOfAny_35 : decode cX1_holdersOfAny 35 = .ok (.ireturn, 1) := by decide +kernel
theorem dX1_armsThatReach_0 : decode cX1_armsThatReach 0 = .ok (.iconst 0, 1) := by decide +kernel
theorem dX1_armsThatReach_1 : decode cX1_armsThatReach 1 = .ok (.istore_n 2, 1) := by decide +kernel
theorem dX1_armsThatReach_2 : decode cX1_armsThatReach 2 = .ok (.iconst 0, 1) := by decide +kernel
theorem dX1_armsThatReach_3 : decode cX1_armsThatReach 3 = .ok (.istore_n 3, 1) := by decide +kernel
theorem dX1_armsThatReach_4 : decode cX1_armsThatReach 4 = .ok (.iload_n 3, 1) := by decide +kernel
theorem dX1_armsThatReach_5 : decode cX1_armsThatReach 5 = .ok (.iconst 3, 1) := by decide +kernel
theorem dX1_armsThatReach_6 : decode cX1_armsThatReach 6 = .ok (.if_icmp .ge 30, 3) := by decide +kernel
theorem dX1_armsThatReach_9 : decode cX1_armsThatReach 9 = .ok (.aload_n 0, 1) := by decide +kernel
theorem dX1_armsThatReach_10 : decode cX1_armsThatReach 10 = .ok (.iload_n 3, 1) := by decide +kernel
theorem dX1_armsThatReach_11 : decode cX1_armsThatReach 11 = .ok (.invokevirtual 89, 3) := by decide +kernel
theorem dX1_armsThatReach_14 : decode cX1_armsThatReach 14 = .ok (.getfield 126, 3) := by decide +kernel
theorem dX1_armsThatReach_17 : decode cX1_armsThatReach 17 = .ok (.iconst 1, 1) := by decide +kernel
theorem dX1_armsThatReach_18 : decode cX1_armsThatReach 18 = .ok (.iload_n 1, 1) := by decide +kernel
theorem dX1_armsThatReach_19 : decode cX1_armsThatReach 19 = .ok (.ishl, 1) := by decide +kernel
theorem dX1_armsThatReach_20 : decode cX1_armsThatReach 20 = .ok (.iand, 1) := by decide +kernel
theorem dX1_armsThatReach_21 : decode cX1_armsThatReach 21 = .ok (.ifCond .eq 9, 3) := by decide +kernel
theorem dX1_armsThatReach_24 : decode cX1_armsThatReach 24 = .ok (.iload_n 2, 1) := by decide +kernel
theorem dX1_armsThatReach_25 : decode cX1_armsThatReach 25 = .ok (.iconst 1, 1) := by decide +kernel
theorem dX1_armsThatReach_26 : decode cX1_armsThatReach 26 = .ok (.iload_n 3, 1) := by decide +kernel
theorem dX1_armsThatReach_27 : decode cX1_armsThatReach 27 = .ok (.ishl, 1) := by decide +kernel
theorem dX1_armsThatReach_28 : decode cX1_armsThatReach 28 = .ok (.ior, 1) := by decide +kernel
theorem dX1_armsThatReach_29 : decode cX1_armsThatReach 29 = .ok (.istore_n 2, 1) := by decide +kernel
theorem dX1_armsThatReach_30 : decode cX1_armsThatReach 30 = .ok (.iinc 3 1, 3) := by decide +kernel
theorem dX1_armsThatReach_33 : decode cX1_armsThatReach 33 = .ok (.goto (-29), 3) := by decide +kernel
theorem dX1_armsThatReach_36 : decode cX1_armsThatReach 36 = .ok (.iload_n 2, 1) := by decide +kernel
theorem dX1_armsThatReach_37 : decode cX1_armsThatReach 37 = .ok (.ireturn, 1) := by decide +kernel
theorem dX1_aboutZone_0 : decode cX1_aboutZone 0 = .ok (.iload_n 2, 1) := by decide +kernel
theorem dX1_aboutZone_1 : decode cX1_aboutZone 1 = .ok (.tableswitch 65 0 3 #[31, 37, 46, 52], 31) := by decide +kernel
theorem dX1_aboutZone_32 : decode cX1_aboutZone 32 = .ok (.aload_n 0, 1) := by decide +kernel
theorem dX1_aboutZone_33 : decode cX1_aboutZone 33 = .ok (.iload_n 1, 1) := by decide +kernel
theorem dX1_aboutZone_34 : decode cX1_aboutZone 34 = .ok (.invokevirtual 118, 3) := by decide +kernel
theorem dX1_aboutZone_37 : decode cX1_aboutZone 37 = .ok (.ireturn, 1) := by decide +kernel
theorem dX1_aboutZone_38 : decode cX1_aboutZone 38 = .ok (.aload_n 0, 1) := by decide +kernel
theorem dX1_aboutZone_39 : decode cX1_aboutZone 39 = .ok (.getfield 12, 3) := by decide +kernel
theorem dX1_aboutZone_42 : decode cX1_aboutZone 42 = .ok (.iload_n 1, 1) := by decide +kernel
theorem dX1_aboutZone_43 : decode cX1_aboutZone 43 = .ok (.invokevirtual 243, 3) := by decide +kernel
theorem dX1_aboutZone_46 : decode cX1_aboutZone 46 = .ok (.ireturn, 1) := by decide +kernel
theorem dX1_aboutZone_47 : decode cX1_aboutZone 47 = .ok (.aload_n 0, 1) := by decide +kernel
theorem dX1_aboutZone_48 : decode cX1_aboutZone 48 = .ok (.iload_n 1, 1) := by decide +kernel
theorem dX1_aboutZone_49 : decode cX1_aboutZone 49 = .ok (.invokevirtual 246, 3) := by decide +kernel
theorem dX1_aboutZone_52 : decode cX1_aboutZone 52 = .ok (.ireturn, 1) := by decide +kernel
theorem dX1_aboutZone_53 : decode cX1_aboutZone 53 = .ok (.aload_n 0, 1) := by decide +kernel
theorem dX1_aboutZone_54 : decode cX1_aboutZone 54 = .ok (.aload_n 0, 1) := by decide +kernel
theorem dX1_aboutZone_55 : decode cX1_aboutZone 55 = .ok (.getfield 12, 3) := by decide +kernel
theorem dX1_aboutZone_58 : decode cX1_aboutZone 58 = .ok (.iload_n 1, 1) := by decide +kernel
theorem dX1_aboutZone_59 : decode cX1_aboutZone 59 = .ok (.invokevirtual 243, 3) := by decide +kernel
theorem dX1_aboutZone_62 : decode cX1_aboutZone 62 = .ok (.invokevirtual 249, 3) := by decide +kernel
theorem dX1_aboutZone_65 : decode cX1_aboutZone 65 = .ok (.ireturn, 1) := by decide +kernel
theorem dX1_aboutZone_66 : decode cX1_aboutZone 66 = .ok (.aload_n 0, 1) := by decide +kernel
theorem dX1_aboutZone_67 : decode cX1_aboutZone 67 = .ok (.getfield 12, 3) := by decide +kernel
theorem dX1_aboutZone_70 : decode cX1_aboutZone 70 = .ok (.iload_n 1, 1) := by decide +kernel
theorem dX1_aboutZone_71 : decode cX1_aboutZone 71 = .ok (.invokevirtual 252, 3) := by decide +kernel
theorem dX1_aboutZone_74 : decode cX1_aboutZone 74 = .ok (.ireturn, 1) := by decide +kernel
theorem dX1_aboutArm_0 : decode cX1_aboutArm 0 = .ok (.iload_n 2, 1) := by decide +kernel
theorem dX1_aboutArm_1 : decode cX1_aboutArm 1 = .ok (.tableswitch 107 0 8 #[51, 56, 61, 66, 71, 87, 92, 97, 102], 51) := by decide +kernel
theorem dX1_aboutArm_52 : decode cX1_aboutArm 52 = .ok (.aload_n 1, 1) := by decide +kernel
theorem dX1_aboutArm_53 : decode cX1_aboutArm 53 = .ok (.getfield 126, 3) := by decide +kernel
theorem dX1_aboutArm_56 : decode cX1_aboutArm 56 = .ok (.ireturn, 1) := by decide +kernel
theorem dX1_aboutArm_57 : decode cX1_aboutArm 57 = .ok (.aload_n 1, 1) := by decide +kernel
theorem dX1_aboutArm_58 : decode cX1_aboutArm 58 = .ok (.getfield 200, 3) := by decide +kernel
theorem dX1_aboutArm_61 : decode cX1_aboutArm 61 = .ok (.ireturn, 1) := by decide +kernel
theorem dX1_aboutArm_62 : decode cX1_aboutArm 62 = .ok (.aload_n 1, 1) := by decide +kernel
theorem dX1_aboutArm_63 : decode cX1_aboutArm 63 = .ok (.getfield 179, 3) := by decide +kernel
theorem dX1_aboutArm_66 : decode cX1_aboutArm 66 = .ok (.ireturn, 1) := by decide +kernel
theorem dX1_aboutArm_67 : decode cX1_aboutArm 67 = .ok (.aload_n 1, 1) := by decide +kernel
theorem dX1_aboutArm_68 : decode cX1_aboutArm 68 = .ok (.getfield 240, 3) := by decide +kernel
theorem dX1_aboutArm_71 : decode cX1_aboutArm 71 = .ok (.ireturn, 1) := by decide +kernel
theorem dX1_aboutArm_72 : decode cX1_aboutArm 72 = .ok (.aload_n 0, 1) := by decide +kernel
theorem dX1_aboutArm_73 : decode cX1_aboutArm 73 = .ok (.aload_n 1, 1) := by decide +kernel
theorem dX1_aboutArm_74 : decode cX1_aboutArm 74 = .ok (.getfield 179, 3) := by decide +kernel
theorem dX1_aboutArm_77 : decode cX1_aboutArm 77 = .ok (.invokevirtual 103, 3) := by decide +kernel
theorem dX1_aboutArm_80 : decode cX1_aboutArm 80 = .ok (.aload_n 1, 1) := by decide +kernel
theorem dX1_aboutArm_81 : decode cX1_aboutArm 81 = .ok (.getfield 193, 3) := by decide +kernel
theorem dX1_aboutArm_84 : decode cX1_aboutArm 84 = .ok (.invokevirtual 170, 3) := by decide +kernel
theorem dX1_aboutArm_87 : decode cX1_aboutArm 87 = .ok (.ireturn, 1) := by decide +kernel
theorem dX1_aboutArm_88 : decode cX1_aboutArm 88 = .ok (.aload_n 1, 1) := by decide +kernel
theorem dX1_aboutArm_89 : decode cX1_aboutArm 89 = .ok (.getfield 201, 3) := by decide +kernel
theorem dX1_aboutArm_92 : decode cX1_aboutArm 92 = .ok (.ireturn, 1) := by decide +kernel
theorem dX1_aboutArm_93 : decode cX1_aboutArm 93 = .ok (.aload_n 1, 1) := by decide +kernel
theorem dX1_aboutArm_94 : decode cX1_aboutArm 94 = .ok (.getfield 228, 3) := by decide +kernel
theorem dX1_aboutArm_97 : decode cX1_aboutArm 97 = .ok (.ireturn, 1) := by decide +kernel
theorem dX1_aboutArm_98 : decode cX1_aboutArm 98 = .ok (.aload_n 1, 1) := by decide +kernel
theorem dX1_aboutArm_99 : decode cX1_aboutArm 99 = .ok (.getfield 204, 3) := by decide +kernel
theorem dX1_aboutArm_102 : decode cX1_aboutArm 102 = .ok (.ireturn, 1) := by decide +kernel
theorem dX1_aboutArm_103 : decode cX1_aboutArm 103 = .ok (.aload_n 1, 1) := by decide +kernel
theorem dX1_aboutArm_104 : decode cX1_aboutArm 104 = .ok (.getfield 255, 3) := by decide +kernel
theorem dX1_aboutArm_107 : decode cX1_aboutArm 107 = .ok (.ireturn, 1) := by decide +kernel
theorem dX1_aboutArm_108 : decode cX1_aboutArm 108 = .ok (.aload_n 1, 1) := by decide +kernel
theorem dX1_aboutArm_109 : decode cX1_aboutArm 109 = .ok (.getfield 222, 3) := by decide +kernel
theorem dX1_aboutArm_112 : decode cX1_aboutArm 112 = .ok (.ireturn, 1) := by decide +kernel
theorem dX1_accountOf_0 : decode cX1_accountOf 0 = .ok (.iload_n 1, 1) := by decide +kernel
theorem dX1_accountOf_1 : decode cX1_accountOf 1 = .ok (.tableswitch 99 0 8 #[51, 56, 61, 66, 71, 76, 81, 86, 94], 51) := by decide +kernel
theorem dX1_accountOf_52 : decode cX1_accountOf 52 = .ok (.aload_n 0, 1) := by decide +kernel
theorem dX1_accountOf_53 : decode cX1_accountOf 53 = .ok (.getfield 60, 3) := by decide +kernel
theorem dX1_accountOf_56 : decode cX1_accountOf 56 = .ok (.ireturn, 1) := by decide +kernel
theorem dX1_accountOf_57 : decode cX1_accountOf 57 = .ok (.aload_n 0, 1) := by decide +kernel
theorem dX1_accountOf_58 : decode cX1_accountOf 58 = .ok (.getfield 64, 3) := by decide +kernel
theorem dX1_accountOf_61 : decode cX1_accountOf 61 = .ok (.ireturn, 1) := by decide +kernel
theorem dX1_accountOf_62 : decode cX1_accountOf 62 = .ok (.aload_n 0, 1) := by decide +kernel
theorem dX1_accountOf_63 : decode cX1_accountOf 63 = .ok (.getfield 67, 3) := by decide +kernel
theorem dX1_accountOf_66 : decode cX1_accountOf 66 = .ok (.ireturn, 1) := by decide +kernel
theorem dX1_accountOf_67 : decode cX1_accountOf 67 = .ok (.aload_n 0, 1) := by decide +kernel
theorem dX1_accountOf_68 : decode cX1_accountOf 68 = .ok (.getfield 70, 3) := by decide +kernel
theorem dX1_accountOf_71 : decode cX1_accountOf 71 = .ok (.ireturn, 1) := by decide +kernel
theorem dX1_accountOf_72 : decode cX1_accountOf 72 = .ok (.aload_n 0, 1) := by decide +kernel
theorem dX1_accountOf_73 : decode cX1_accountOf 73 = .ok (.getfield 73, 3) := by decide +kernel
theorem dX1_accountOf_76 : decode cX1_accountOf 76 = .ok (.ireturn, 1) := by decide +kernel
theorem dX1_accountOf_77 : decode cX1_accountOf 77 = .ok (.aload_n 0, 1) := by decide +kernel
theorem dX1_accountOf_78 : decode cX1_accountOf 78 = .ok (.invokevirtual 258, 3) := by decide +kernel
theorem dX1_accountOf_81 : decode cX1_accountOf 81 = .ok (.ireturn, 1) := by decide +kernel
theorem dX1_accountOf_82 : decode cX1_accountOf 82 = .ok (.aload_n 0, 1) := by decide +kernel
theorem dX1_accountOf_83 : decode cX1_accountOf 83 = .ok (.getfield 76, 3) := by decide +kernel
theorem dX1_accountOf_86 : decode cX1_accountOf 86 = .ok (.ireturn, 1) := by decide +kernel
theorem dX1_accountOf_87 : decode cX1_accountOf 87 = .ok (.aload_n 0, 1) := by decide +kernel
theorem dX1_accountOf_88 : decode cX1_accountOf 88 = .ok (.getfield 21, 3) := by decide +kernel
theorem dX1_accountOf_91 : decode cX1_accountOf 91 = .ok (.invokevirtual 261, 3) := by decide +kernel
theorem dX1_accountOf_94 : decode cX1_accountOf 94 = .ok (.ireturn, 1) := by decide +kernel
theorem dX1_accountOf_95 : decode cX1_accountOf 95 = .ok (.aload_n 0, 1) := by decide +kernel
theorem dX1_accountOf_96 : decode cX1_accountOf 96 = .ok (.invokevirtual 264, 3) := by decide +kernel
theorem dX1_accountOf_99 : decode cX1_accountOf 99 = .ok (.ireturn, 1) := by decide +kernel
theorem dX1_accountOf_100 : decode cX1_accountOf 100 = .ok (.aload_n 0, 1) := by decide +kernel
theorem dX1_accountOf_101 : decode cX1_accountOf 101 = .ok (.getfield 12, 3) := by decide +kernel
theorem dX1_accountOf_104 : decode cX1_accountOf 104 = .ok (.getfield 267, 3) := by decide +kernel
theorem dX1_accountOf_107 : decode cX1_accountOf 107 = .ok (.ireturn, 1) := by decide +kernel
theorem dX1_partsInStores_0 : decode cX1_partsInStores 0 = .ok (.iconst 0, 1) := by decide +kernel
theorem dX1_partsInStores_1 : decode cX1_partsInStores 1 = .ok (.istore_n 1, 1) := by decide +kernel
theorem dX1_partsInStores_2 : decode cX1_partsInStores 2 = .ok (.iconst 0, 1) := by decide +kernel
theorem dX1_partsInStores_3 : decode cX1_partsInStores 3 = .ok (.istore_n 2, 1) := by decide +kernel
theorem dX1_partsInStores_4 : decode cX1_partsInStores 4 = .ok (.iload_n 2, 1) := by decide +kernel
theorem dX1_partsInStores_5 : decode cX1_partsInStores 5 = .ok (.iconst 3, 1) := by decide +kernel
theorem dX1_partsInStores_6 : decode cX1_partsInStores 6 = .ok (.if_icmp .ge 20, 3) := by decide +kernel
theorem dX1_partsInStores_9 : decode cX1_partsInStores 9 = .ok (.iload_n 1, 1) := by decide +kernel
theorem dX1_partsInStores_10 : decode cX1_partsInStores 10 = .ok (.aload_n 0, 1) := by decide +kernel
theorem dX1_partsInStores_11 : decode cX1_partsInStores 11 = .ok (.iload_n 2, 1) := by decide +kernel
theorem dX1_partsInStores_12 : decode cX1_partsInStores 12 = .ok (.invokevirtual 96, 3) := by decide +kernel
theorem dX1_partsInStores_15 : decode cX1_partsInStores 15 = .ok (.getfield 270, 3) := by decide +kernel
theorem dX1_partsInStores_18 : decode cX1_partsInStores 18 = .ok (.iadd, 1) := by decide +kernel
theorem dX1_partsInStores_19 : decode cX1_partsInStores 19 = .ok (.istore_n 1, 1) := by decide +kernel
theorem dX1_partsInStores_20 : decode cX1_partsInStores 20 = .ok (.iinc 2 1, 3) := by decide +kernel
theorem dX1_partsInStores_23 : decode cX1_partsInStores 23 = .ok (.goto (-19), 3) := by decide +kernel
theorem dX1_partsInStores_26 : decode cX1_partsInStores 26 = .ok (.iload_n 1, 1) := by decide +kernel
theorem dX1_partsInStores_27 : decode cX1_partsInStores 27 = .ok (.ireturn, 1) := by decide +kernel
theorem dX1_refusals_0 : decode cX1_refusals 0 = .ok (.iconst 0, 1) := by decide +kernel
theorem dX1_refusals_1 : decode cX1_refusals 1 = .ok (.istore_n 1, 1) := by decide +kernel
theorem dX1_refusals_2 : decode cX1_refusals 2 = .ok (.iconst 0, 1) := by decide +kernel
theorem dX1_refusals_3 : decode cX1_refusals 3 = .ok (.istore_n 2, 1) := by decide +kernel
theorem dX1_refusals_4 : decode cX1_refusals 4 = .ok (.iload_n 2, 1) := by decide +kernel
theorem dX1_refusals_5 : decode cX1_refusals 5 = .ok (.iconst 3, 1) := by decide +kernel
theorem dX1_refusals_6 : decode cX1_refusals 6 = .ok (.if_icmp .ge 20, 3) := by decide +kernel
theorem dX1_refusals_9 : decode cX1_refusals 9 = .ok (.iload_n 1, 1) := by decide +kernel
theorem dX1_refusals_10 : decode cX1_refusals 10 = .ok (.aload_n 0, 1) := by decide +kernel
theorem dX1_refusals_11 : decode cX1_refusals 11 = .ok (.iload_n 2, 1) := by decide +kernel
theorem dX1_refusals_12 : decode cX1_refusals 12 = .ok (.invokevirtual 89, 3) := by decide +kernel
theorem dX1_refusals_15 : decode cX1_refusals 15 = .ok (.getfield 255, 3) := by decide +kernel
theorem dX1_refusals_18 : decode cX1_refusals 18 = .ok (.iadd, 1) := by decide +kernel
theorem dX1_refusals_19 : decode cX1_refusals 19 = .ok (.istore_n 1, 1) := by decide +kernel
theorem dX1_refusals_20 : decode cX1_refusals 20 = .ok (.iinc 2 1, 3) := by decide +kernel
theorem dX1_refusals_23 : decode cX1_refusals 23 = .ok (.goto (-19), 3) := by decide +kernel
theorem dX1_refusals_26 : decode cX1_refusals 26 = .ok (.iload_n 1, 1) := by decide +kernel
theorem dX1_refusals_27 : decode cX1_refusals 27 = .ok (.ireturn, 1) := by decide +kernel
theorem dX2_init_0 : decode cX2_init 0 = .ok (.aload_n 0, 1) := by decide +kernel
theorem dX2_init_1 : decode cX2_init 1 = .ok (.invokespecial 3, 3) := by decide +kernel
theorem dX2_init_4 : decode cX2_init 4 = .ok (.return_, 1) := by decide +kernel
theorem dX2_addZone_0 : decode cX2_addZone 0 = .ok (.aload_n 0, 1) := by decide +kernel
theorem dX2_addZone_1 : decode cX2_addZone 1 = .ok (.aload_n 0, 1) := by decide +kernel
theorem dX2_addZone_2 : decode cX2_addZone 2 = .ok (.getfield 9, 3) := by decide +kernel
theorem dX2_addZone_5 : decode cX2_addZone 5 = .ok (.ifCond .lt 9, 3) := by decide +kernel
theorem dX2_addZone_8 : decode cX2_addZone 8 = .ok (.iload_n 1, 1) := by decide +kernel
theorem dX2_addZone_9 : decode cX2_addZone 9 = .ok (.bipush 8, 2) := by decide +kernel
theorem dX2_addZone_11 : decode cX2_addZone 11 = .ok (.if_icmp .lt 7, 3) := by decide +kernel
theorem dX2_addZone_14 : decode cX2_addZone 14 = .ok (.iconst (-1), 1) := by decide +kernel
theorem dX2_addZone_15 : decode cX2_addZone 15 = .ok (.goto 14, 3) := by decide +kernel
theorem dX2_addZone_18 : decode cX2_addZone 18 = .ok (.aload_n 0, 1) := by decide +kernel
theorem dX2_addZone_19 : decode cX2_addZone 19 = .ok (.getfield 9, 3) := by decide +kernel
theorem dX2_addZone_22 : decode cX2_addZone 22 = .ok (.bipush 10, 2) := by decide +kernel
theorem dX2_addZone_24 : decode cX2_addZone 24 = .ok (.imul, 1) := by decide +kernel
theorem dX2_addZone_25 : decode cX2_addZone 25 = .ok (.iload_n 1, 1) := by decide +kernel
