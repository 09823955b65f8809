theorem dX9_init_1 : decode cX9_init 1 = .ok (.invokespecial 3, 3) := by decide +kernel
theorem dX9_init_4 : decode cX9_init 4 = .ok (.aload_n 0, 1) := by decide +kernel
theorem dX9_init_5 : decode cX9_init 5 = .ok (.iconst 2, 1) := by decide +kernel
theorem dX9_init_6 : decode cX9_init 6 = .ok (.putfield 9, 3) := by decide +kernel
theorem dX9_init_9 : decode cX9_init 9 = .ok (.aload_n 0, 1) := by decide +kernel
theorem dX9_init_10 : decode cX9_init 10 = .ok (.iconst 4, 1) := by decide +kernel
theorem dX9_init_11 : decode cX9_init 11 = .ok (.newarray .int, 2) := by decide +kernel
theorem dX9_init_13 : decode cX9_init 13 = .ok (.putfield 15, 3) := by decide +kernel
theorem dX9_init_16 : decode cX9_init 16 = .ok (.return_, 1) := by decide +kernel
theorem dX9_copyFrom_0 : decode cX9_copyFrom 0 = .ok (.aload_n 0, 1) := by decide +kernel
theorem dX9_copyFrom_1 : decode cX9_copyFrom 1 = .ok (.aload_n 1, 1) := by decide +kernel
theorem dX9_copyFrom_2 : decode cX9_copyFrom 2 = .ok (.getfield 9, 3) := by decide +kernel
theorem dX9_copyFrom_5 : decode cX9_copyFrom 5 = .ok (.putfield 9, 3) := by decide +kernel
theorem dX9_copyFrom_8 : decode cX9_copyFrom 8 = .ok (.aload_n 0, 1) := by decide +kernel
theorem dX9_copyFrom_9 : decode cX9_copyFrom 9 = .ok (.aload_n 1, 1) := by decide +kernel
theorem dX9_copyFrom_10 : decode cX9_copyFrom 10 = .ok (.getfield 19, 3) := by decide +kernel
theorem dX9_copyFrom_13 : decode cX9_copyFrom 13 = .ok (.putfield 19, 3) := by decide +kernel
theorem dX9_copyFrom_16 : decode cX9_copyFrom 16 = .ok (.aload_n 0, 1) := by decide +kernel
theorem dX9_copyFrom_17 : decode cX9_copyFrom 17 = .ok (.aload_n 1, 1) := by decide +kernel
theorem dX9_copyFrom_18 : decode cX9_copyFrom 18 = .ok (.getfield 22, 3) := by decide +kernel
theorem dX9_copyFrom_21 : decode cX9_copyFrom 21 = .ok (.putfield 22, 3) := by decide +kernel
theorem dX9_copyFrom_24 : decode cX9_copyFrom 24 = .ok (.aload_n 0, 1) := by decide +kernel
theorem dX9_copyFrom_25 : decode cX9_copyFrom 25 = .ok (.aload_n 1, 1) := by decide +kernel
theorem dX9_copyFrom_26 : decode cX9_copyFrom 26 = .ok (.getfield 25, 3) := by decide +kernel
theorem dX9_copyFrom_29 : decode cX9_copyFrom 29 = .ok (.putfield 25, 3) := by decide +kernel
theorem dX9_copyFrom_32 : decode cX9_copyFrom 32 = .ok (.aload_n 0, 1) := by decide +kernel
theorem dX9_copyFrom_33 : decode cX9_copyFrom 33 = .ok (.aload_n 1, 1) := by decide +kernel
theorem dX9_copyFrom_34 : decode cX9_copyFrom 34 = .ok (.getfield 28, 3) := by decide +kernel
theorem dX9_copyFrom_37 : decode cX9_copyFrom 37 = .ok (.putfield 28, 3) := by decide +kernel
theorem dX9_copyFrom_40 : decode cX9_copyFrom 40 = .ok (.aload_n 0, 1) := by decide +kernel
theorem dX9_copyFrom_41 : decode cX9_copyFrom 41 = .ok (.aload_n 1, 1) := by decide +kernel
theorem dX9_copyFrom_42 : decode cX9_copyFrom 42 = .ok (.getfield 31, 3) := by decide +kernel
theorem dX9_copyFrom_45 : decode cX9_copyFrom 45 = .ok (.putfield 31, 3) := by decide +kernel
theorem dX9_copyFrom_48 : decode cX9_copyFrom 48 = .ok (.aload_n 1, 1) := by decide +kernel
theorem dX9_copyFrom_49 : decode cX9_copyFrom 49 = .ok (.getfield 15, 3) := by decide +kernel
theorem dX9_copyFrom_52 : decode cX9_copyFrom 52 = .ok (.aload_n 0, 1) := by decide +kernel
theorem dX9_copyFrom_53 : decode cX9_copyFrom 53 = .ok (.getfield 15, 3) := by decide +kernel
theorem dX9_copyFrom_56 : decode cX9_copyFrom 56 = .ok (.invokestatic 34, 3) := by decide +kernel
theorem dX9_copyFrom_59 : decode cX9_copyFrom 59 = .ok (.return_, 1) := by decide +kernel
theorem dX9_takenPlaces_0 : decode cX9_takenPlaces 0 = .ok (.aload_n 0, 1) := by decide +kernel
theorem dX9_takenPlaces_1 : decode cX9_takenPlaces 1 = .ok (.getfield 19, 3) := by decide +kernel
theorem dX9_takenPlaces_4 : decode cX9_takenPlaces 4 = .ok (.aload_n 0, 1) := by decide +kernel
theorem dX9_takenPlaces_5 : decode cX9_takenPlaces 5 = .ok (.getfield 22, 3) := by decide +kernel
theorem dX9_takenPlaces_8 : decode cX9_takenPlaces 8 = .ok (.iadd, 1) := by decide +kernel
theorem dX9_takenPlaces_9 : decode cX9_takenPlaces 9 = .ok (.ireturn, 1) := by decide +kernel
theorem dX9_hasRoom_0 : decode cX9_hasRoom 0 = .ok (.aload_n 0, 1) := by decide +kernel
theorem dX9_hasRoom_1 : decode cX9_hasRoom 1 = .ok (.getfield 19, 3) := by decide +kernel
theorem dX9_hasRoom_4 : decode cX9_hasRoom 4 = .ok (.aload_n 0, 1) := by decide +kernel
theorem dX9_hasRoom_5 : decode cX9_hasRoom 5 = .ok (.getfield 22, 3) := by decide +kernel
theorem dX9_hasRoom_8 : decode cX9_hasRoom 8 = .ok (.iadd, 1) := by decide +kernel
theorem dX9_hasRoom_9 : decode cX9_hasRoom 9 = .ok (.aload_n 0, 1) := by decide +kernel
theorem dX9_hasRoom_10 : decode cX9_hasRoom 10 = .ok (.getfield 9, 3) := by decide +kernel
theorem dX9_hasRoom_13 : decode cX9_hasRoom 13 = .ok (.if_icmp .ge 7, 3) := by decide +kernel
theorem dX9_hasRoom_16 : decode cX9_hasRoom 16 = .ok (.iconst 1, 1) := by decide +kernel
theorem dX9_hasRoom_17 : decode cX9_hasRoom 17 = .ok (.goto 4, 3) := by decide +kernel
theorem dX9_hasRoom_20 : decode cX9_hasRoom 20 = .ok (.iconst 0, 1) := by decide +kernel
theorem dX9_hasRoom_21 : decode cX9_hasRoom 21 = .ok (.ireturn, 1) := by decide +kernel
theorem dX9_hasPartToGive_0 : decode cX9_hasPartToGive 0 = .ok (.aload_n 0, 1) := by decide +kernel
theorem dX9_hasPartToGive_1 : decode cX9_hasPartToGive 1 = .ok (.getfield 19, 3) := by decide +kernel
theorem dX9_hasPartToGive_4 : decode cX9_hasPartToGive 4 = .ok (.aload_n 0, 1) := by decide +kernel
theorem dX9_hasPartToGive_5 : decode cX9_hasPartToGive 5 = .ok (.getfield 25, 3) := by decide +kernel
theorem dX9_hasPartToGive_8 : decode cX9_hasPartToGive 8 = .ok (.if_icmp .le 7, 3) := by decide +kernel
theorem dX9_hasPartToGive_11 : decode cX9_hasPartToGive 11 = .ok (.iconst 1, 1) := by decide +kernel
theorem dX9_hasPartToGive_12 : decode cX9_hasPartToGive 12 = .ok (.goto 4, 3) := by decide +kernel
theorem dX9_hasPartToGive_15 : decode cX9_hasPartToGive 15 = .ok (.iconst 0, 1) := by decide +kernel
theorem dX9_hasPartToGive_16 : decode cX9_hasPartToGive 16 = .ok (.ireturn, 1) := by decide +kernel
theorem dX9_partAt_0 : decode cX9_partAt 0 = .ok (.iload_n 1, 1) := by decide +kernel
theorem dX9_partAt_1 : decode cX9_partAt 1 = .ok (.ifCond .lt 29, 3) := by decide +kernel
theorem dX9_partAt_4 : decode cX9_partAt 4 = .ok (.iload_n 1, 1) := by decide +kernel
theorem dX9_partAt_5 : decode cX9_partAt 5 = .ok (.aload_n 0, 1) := by decide +kernel
theorem dX9_partAt_6 : decode cX9_partAt 6 = .ok (.getfield 19, 3) := by decide +kernel
theorem dX9_partAt_9 : decode cX9_partAt 9 = .ok (.if_icmp .ge 21, 3) := by decide +kernel
theorem dX9_partAt_12 : decode cX9_partAt 12 = .ok (.iload_n 1, 1) := by decide +kernel
theorem dX9_partAt_13 : decode cX9_partAt 13 = .ok (.aload_n 0, 1) := by decide +kernel
theorem dX9_partAt_14 : decode cX9_partAt 14 = .ok (.getfield 15, 3) := by decide +kernel
theorem dX9_partAt_17 : decode cX9_partAt 17 = .ok (.arraylength, 1) := by decide +kernel
theorem dX9_partAt_18 : decode cX9_partAt 18 = .ok (.if_icmp .ge 12, 3) := by decide +kernel
theorem dX9_partAt_21 : decode cX9_partAt 21 = .ok (.aload_n 0, 1) := by decide +kernel
theorem dX9_partAt_22 : decode cX9_partAt 22 = .ok (.getfield 15, 3) := by decide +kernel
theorem dX9_partAt_25 : decode cX9_partAt 25 = .ok (.iload_n 1, 1) := by decide +kernel
theorem dX9_partAt_26 : decode cX9_partAt 26 = .ok (.iaload, 1) := by decide +kernel
theorem dX9_partAt_27 : decode cX9_partAt 27 = .ok (.goto 4, 3) := by decide +kernel
theorem dX9_partAt_30 : decode cX9_partAt 30 = .ok (.iconst (-1), 1) := by decide +kernel
theorem dX9_partAt_31 : decode cX9_partAt 31 = .ok (.ireturn, 1) := by decide +kernel
theorem dX9_putLast_0 : decode cX9_putLast 0 = .ok (.aload_n 0, 1) := by decide +kernel
theorem dX9_putLast_1 : decode cX9_putLast 1 = .ok (.getfield 19, 3) := by decide +kernel
theorem dX9_putLast_4 : decode cX9_putLast 4 = .ok (.ifCond .lt 45, 3) := by decide +kernel
theorem dX9_putLast_7 : decode cX9_putLast 7 = .ok (.aload_n 0, 1) := by decide +kernel
theorem dX9_putLast_8 : decode cX9_putLast 8 = .ok (.getfield 19, 3) := by decide +kernel
theorem dX9_putLast_11 : decode cX9_putLast 11 = .ok (.aload_n 0, 1) := by decide +kernel
theorem dX9_putLast_12 : decode cX9_putLast 12 = .ok (.getfield 15, 3) := by decide +kernel
theorem dX9_putLast_15 : decode cX9_putLast 15 = .ok (.arraylength, 1) := by decide +kernel
theorem dX9_putLast_16 : decode cX9_putLast 16 = .ok (.if_icmp .ge 33, 3) := by decide +kernel
theorem dX9_putLast_19 : decode cX9_putLast 19 = .ok (.aload_n 0, 1) := by decide +kernel
theorem dX9_putLast_20 : decode cX9_putLast 20 = .ok (.getfield 15, 3) := by decide +kernel
theorem dX9_putLast_23 : decode cX9_putLast 23 = .ok (.aload_n 0, 1) := by decide +kernel
theorem dX9_putLast_24 : decode cX9_putLast 24 = .ok (.getfield 19, 3) := by decide +kernel
theorem dX9_putLast_27 : decode cX9_putLast 27 = .ok (.iload_n 1, 1) := by decide +kernel
theorem dX9_putLast_28 : decode cX9_putLast 28 = .ok (.iastore, 1) := by decide +kernel
theorem dX9_putLast_29 : decode cX9_putLast 29 = .ok (.aload_n 0, 1) := by decide +kernel
theorem dX9_putLast_30 : decode cX9_putLast 30 = .ok (.dup, 1) := by decide +kernel
theorem dX9_putLast_31 : decode cX9_putLast 31 = .ok (.getfield 19, 3) := by decide +kernel
theorem dX9_putLast_34 : decode cX9_putLast 34 = .ok (.iconst 1, 1) := by decide +kernel
theorem dX9_putLast_35 : decode cX9_putLast 35 = .ok (.iadd, 1) := by decide +kernel
theorem dX9_putLast_36 : decode cX9_putLast 36 = .ok (.putfield 19, 3) := by decide +kernel
theorem dX9_putLast_39 : decode cX9_putLast 39 = .ok (.aload_n 0, 1) := by decide +kernel
theorem dX9_putLast_40 : decode cX9_putLast 40 = .ok (.dup, 1) := by decide +kernel
theorem dX9_putLast_41 : decode cX9_putLast 41 = .ok (.getfield 28, 3) := by decide +kernel
theorem dX9_putLast_44 : decode cX9_putLast 44 = .ok (.iconst 1, 1) := by decide +kernel
theorem dX9_putLast_45 : decode cX9_putLast 45 = .ok (.iadd, 1) := by decide +kernel
theorem dX9_putLast_46 : decode cX9_putLast 46 = .ok (.putfield 28, 3) := by decide +kernel
theorem dX9_putLast_49 : decode cX9_putLast 49 = .ok (.return_, 1) := by decide +kernel
theorem dX9_takeFirst_0 : decode cX9_takeFirst 0 = .ok (.iconst (-1), 1) := by decide +kernel
theorem dX9_takeFirst_1 : decode cX9_takeFirst 1 = .ok (.istore_n 1, 1) := by decide +kernel
theorem dX9_takeFirst_2 : decode cX9_takeFirst 2 = .ok (.aload_n 0, 1) := by decide +kernel
theorem dX9_takeFirst_3 : decode cX9_takeFirst 3 = .ok (.getfield 19, 3) := by decide +kernel
theorem dX9_takeFirst_6 : decode cX9_takeFirst 6 = .ok (.ifCond .le 77, 3) := by decide +kernel
theorem dX9_takeFirst_9 : decode cX9_takeFirst 9 = .ok (.aload_n 0, 1) := by decide +kernel
theorem dX9_takeFirst_10 : decode cX9_takeFirst 10 = .ok (.getfield 15, 3) := by decide +kernel
theorem dX9_takeFirst_13 : decode cX9_takeFirst 13 = .ok (.arraylength, 1) := by decide +kernel
theorem dX9_takeFirst_14 : decode cX9_takeFirst 14 = .ok (.ifCond .le 69, 3) := by decide +kernel
theorem dX9_takeFirst_17 : decode cX9_takeFirst 17 = .ok (.aload_n 0, 1) := by decide +kernel
theorem dX9_takeFirst_18 : decode cX9_takeFirst 18 = .ok (.getfield 15, 3) := by decide +kernel
theorem dX9_takeFirst_21 : decode cX9_takeFirst 21 = .ok (.iconst 0, 1) := by decide +kernel
theorem dX9_takeFirst_22 : decode cX9_takeFirst 22 = .ok (.iaload, 1) := by decide +kernel
theorem dX9_takeFirst_23 : decode cX9_takeFirst 23 = .ok (.istore_n 1, 1) := by decide +kernel
theorem dX9_takeFirst_24 : decode cX9_takeFirst 24 = .ok (.iconst 1, 1) := by decide +kernel
theorem dX9_takeFirst_25 : decode cX9_takeFirst 25 = .ok (.istore_n 2, 1) := by decide +kernel
theorem dX9_takeFirst_26 : decode cX9_takeFirst 26 = .ok (.iload_n 2, 1) := by decide +kernel
theorem dX9_takeFirst_27 : decode cX9_takeFirst 27 = .ok (.aload_n 0, 1) := by decide +kernel
theorem dX9_takeFirst_28 : decode cX9_takeFirst 28 = .ok (.getfield 19, 3) := by decide +kernel
theorem dX9_takeFirst_31 : decode cX9_takeFirst 31 = .ok (.if_icmp .ge 32, 3) := by decide +kernel
theorem dX9_takeFirst_34 : decode cX9_takeFirst 34 = .ok (.iload_n 2, 1) := by decide +kernel
theorem dX9_takeFirst_35 : decode cX9_takeFirst 35 = .ok (.aload_n 0, 1) := by decide +kernel
theorem dX9_takeFirst_36 : decode cX9_takeFirst 36 = .ok (.getfield 15, 3) := by decide +kernel
theorem dX9_takeFirst_39 : decode cX9_takeFirst 39 = .ok (.arraylength, 1) := by decide +kernel
theorem dX9_takeFirst_40 : decode cX9_takeFirst 40 = .ok (.if_icmp .ge 23, 3) := by decide +kernel
theorem dX9_takeFirst_43 : decode cX9_takeFirst 43 = .ok (.aload_n 0, 1) := by decide +kernel
theorem dX9_takeFirst_44 : decode cX9_takeFirst 44 = .ok (.getfield 15, 3) := by decide +kernel
theorem dX9_takeFirst_47 : decode cX9_takeFirst 47 = .ok (.iload_n 2, 1) := by decide +kernel
theorem dX9_takeFirst_48 : decode cX9_takeFirst 48 = .ok (.iconst 1, 1) := by decide +kernel
theorem dX9_takeFirst_49 : decode cX9_takeFirst 49 = .ok (.isub, 1) := by decide +kernel
theorem dX9_takeFirst_50 : decode cX9_takeFirst 50 = .ok (.aload_n 0, 1) := by decide +kernel
theorem dX9_takeFirst_51 : decode cX9_takeFirst 51 = .ok (.getfield 15, 3) := by decide +kernel
theorem dX9_takeFirst_54 : decode cX9_takeFirst 54 = .ok (.iload_n 2, 1) := by decide +kernel
theorem dX9_takeFirst_55 : decode cX9_takeFirst 55 = .ok (.iaload, 1) := by decide +kernel
theorem dX9_takeFirst_56 : decode cX9_takeFirst 56 = .ok (.iastore, 1) := by decide +kernel
theorem dX9_takeFirst_57 : decode cX9_takeFirst 57 = .ok (.iinc 2 1, 3) := by decide +kernel
theorem dX9_takeFirst_60 : decode cX9_takeFirst 60 = .ok (.goto (-34), 3) := by decide +kernel
theorem dX9_takeFirst_63 : decode cX9_takeFirst 63 = .ok (.aload_n 0, 1) := by decide +kernel
theorem dX9_takeFirst_64 : decode cX9_takeFirst 64 = .ok (.dup, 1) := by decide +kernel
theorem dX9_takeFirst_65 : decode cX9_takeFirst 65 = .ok (.getfield 19, 3) := by decide +kernel
theorem dX9_takeFirst_68 : decode cX9_takeFirst 68 = .ok (.iconst 1, 1) := by decide +kernel
theorem dX9_takeFirst_69 : decode cX9_takeFirst 69 = .ok (.isub, 1) := by decide +kernel
theorem dX9_takeFirst_70 : decode cX9_takeFirst 70 = .ok (.putfield 19, 3) := by decide +kernel
theorem dX9_takeFirst_73 : decode cX9_takeFirst 73 = .ok (.aload_n 0, 1) := by decide +kernel
theorem dX9_takeFirst_74 : decode cX9_takeFirst 74 = .ok (.dup, 1) := by decide +kernel
theorem dX9_takeFirst_75 : decode cX9_takeFirst 75 = .ok (.getfield 31, 3) := by decide +kernel
theorem dX9_takeFirst_78 : decode cX9_takeFirst 78 = .ok (.iconst 1, 1) := by decide +kernel
theorem dX9_takeFirst_79 : decode cX9_takeFirst 79 = .ok (.iadd, 1) := by decide +kernel
theorem dX9_takeFirst_80 : decode cX9_takeFirst 80 = .ok (.putfield 31, 3) := by decide +kernel
theorem dX9_takeFirst_83 : decode cX9_takeFirst 83 = .ok (.iload_n 1, 1) := by decide +kernel
theorem dX9_takeFirst_84 : decode cX9_takeFirst 84 = .ok (.ireturn, 1) := by decide +kernel
theorem dX9_about_0 : decode cX9_about 0 = .ok (.iload_n 1, 1) := by decide +kernel
theorem dX9_about_1 : decode cX9_about 1 = .ok (.tableswitch 60 0 4 #[35, 40, 45, 50, 55], 35) := by decide +kernel
theorem dX9_about_36 : decode cX9_about 36 = .ok (.aload_n 0, 1) := by decide +kernel
theorem dX9_about_37 : decode cX9_about 37 = .ok (.getfield 9, 3) := by decide +kernel
theorem dX9_about_40 : decode cX9_about 40 = .ok (.ireturn, 1) := by decide +kernel
theorem dX9_about_41 : decode cX9_about 41 = .ok (.aload_n 0, 1) := by decide +kernel
theorem dX9_about_42 : decode cX9_about 42 = .ok (.getfield 19, 3) := by decide +kernel
theorem dX9_about_45 : decode cX9_about 45 = .ok (.ireturn, 1) := by decide +kernel
theorem dX9_about_46 : decode cX9_about 46 = .ok (.aload_n 0, 1) := by decide +kernel
theorem dX9_about_47 : decode cX9_about 47 = .ok (.getfield 22, 3) := by decide +kernel
theorem dX9_about_50 : decode cX9_about 50 = .ok (.ireturn, 1) := by decide +kernel
theorem dX9_about_51 : decode cX9_about 51 = .ok (.aload_n 0, 1) := by decide +kernel
theorem dX9_about_52 : decode cX9_about 52 = .ok (.getfield 25, 3) := by decide +kernel
theorem dX9_about_55 : decode cX9_about 55 = .ok (.ireturn, 1) := by decide +kernel
theorem dX9_about_56 : decode cX9_about 56 = .ok (.aload_n 0, 1) := by decide +kernel
theorem dX9_about_57 : decode cX9_about 57 = .ok (.getfield 28, 3) := by decide +kernel
theorem dX9_about_60 : decode cX9_about 60 = .ok (.ireturn, 1) := by decide +kernel
theorem dX9_about_61 : decode cX9_about 61 = .ok (.aload_n 0, 1) := by decide +kernel
theorem dX9_about_62 : decode cX9_about 62 = .ok (.getfield 31, 3) := by decide +kernel
theorem dX9_about_65 : decode cX9_about 65 = .ok (.ireturn, 1) := by decide +kernel
theorem dX10_init_0 : decode cX10_init 0 = .ok (.aload_n 0, 1) := by decide +kernel
theorem dX10_init_1 : decode cX10_init 1 = .ok (.invokespecial 3, 3) := by decide +kernel
theorem dX10_init_4 : decode cX10_init 4 = .ok (.aload_n 0, 1) := by decide +kernel
theorem dX10_init_5 : decode cX10_init 5 = .ok (.bipush 8, 2) := by decide +kernel
theorem dX10_init_7 : decode cX10_init 7 = .ok (.newarray .int, 2) := by decide +kernel
theorem dX10_init_9 : decode cX10_init 9 = .ok (.putfield 9, 3) := by decide +kernel
theorem dX10_init_12 : decode cX10_init 12 = .ok (.aload_n 0, 1) := by decide +kernel
theorem dX10_init_13 : decode cX10_init 13 = .ok (.bipush 8, 2) := by decide +kernel
theorem dX10_init_15 : decode cX10_init 15 = .ok (.newarray .int, 2) := by decide +kernel
theorem dX10_init_17 : decode cX10_init 17 = .ok (.putfield 15, 3) := by decide +kernel
theorem dX10_init_20 : decode cX10_init 20 = .ok (.iconst 0, 1) := by decide +kernel
theorem dX10_init_21 : decode cX10_init 21 = .ok (.istore_n 1, 1) := by decide +kernel
theorem dX10_init_22 : decode cX10_init 22 = .ok (.iload_n 1, 1) := by decide +kernel
theorem dX10_init_23 : decode cX10_init 23 = .ok (.aload_n 0, 1) := by decide +kernel
theorem dX10_init_24 : decode cX10_init 24 = .ok (.getfield 9, 3) := by decide +kernel
theorem dX10_init_27 : decode cX10_init 27 = .ok (.arraylength, 1) := by decide +kernel
theorem dX10_init_28 : decode cX10_init 28 = .ok (.if_icmp .ge 18, 3) := by decide +kernel
theorem dX10_init_31 : decode cX10_init 31 = .ok (.aload_n 0, 1) := by decide +kernel
theorem dX10_init_32 : decode cX10_init 32 = .ok (.getfield 9, 3) := by decide +kernel
theorem dX10_init_35 : decode cX10_init 35 = .ok (.iload_n 1, 1) := by decide +kernel
theorem dX10_init_36 : decode cX10_init 36 = .ok (.iconst 1, 1) := by decide +kernel
theorem dX10_init_37 : decode cX10_init 37 = .ok (.iload_n 1, 1) := by decide +kernel
theorem dX10_init_38 : decode cX10_init 38 = .ok (.ishl, 1) := by decide +kernel
theorem dX10_init_39 : decode cX10_init 39 = .ok (.iastore, 1) := by decide +kernel
theorem dX10_init_40 : decode cX10_init 40 = .ok (.iinc 1 1, 3) := by decide +kernel
theorem dX10_init_43 : decode cX10_init 43 = .ok (.goto (-21), 3) := by decide +kernel
theorem dX10_init_46 : decode cX10_init 46 = .ok (.return_, 1) := by decide +kernel
theorem dX10_copyFrom_0 : decode cX10_copyFrom 0 = .ok (.aload_n 0, 1) := by decide +kernel
theorem dX10_copyFrom_1 : decode cX10_copyFrom 1 = .ok (.aload_n 1, 1) := by decide +kernel
theorem dX10_copyFrom_2 : decode cX10_copyFrom 2 = .ok (.getfield 18, 3) := by decide +kernel
theorem dX10_copyFrom_5 : decode cX10_copyFrom 5 = .ok (.putfield 18, 3) := by decide +kernel
theorem dX10_copyFrom_8 : decode cX10_copyFrom 8 = .ok (.aload_n 1, 1) := by decide +kernel
theorem dX10_copyFrom_9 : decode cX10_copyFrom 9 = .ok (.getfield 9, 3) := by decide +kernel
theorem dX10_copyFrom_12 : decode cX10_copyFrom 12 = .ok (.aload_n 0, 1) := by decide +kernel
theorem dX10_copyFrom_13 : decode cX10_copyFrom 13 = .ok (.getfield 9, 3) := by decide +kernel
theorem dX10_copyFrom_16 : decode cX10_copyFrom 16 = .ok (.invokestatic 22, 3) := by decide +kernel
theorem dX10_copyFrom_19 : decode cX10_copyFrom 19 = .ok (.aload_n 1, 1) := by decide +kernel
theorem dX10_copyFrom_20 : decode cX10_copyFrom 20 = .ok (.getfield 15, 3) := by decide +kernel
theorem dX10_copyFrom_23 : decode cX10_copyFrom 23 = .ok (.aload_n 0, 1) := by decide +kernel
theorem dX10_copyFrom_24 : decode cX10_copyFrom 24 = .ok (.getfield 15, 3) := by decide +kernel
theorem dX10_copyFrom_27 : decode cX10_copyFrom 27 = .ok (.invokestatic 22, 3) := by decide +kernel
theorem dX10_copyFrom_30 : decode cX10_copyFrom 30 = .ok (.return_, 1) := by decide +kernel
theorem dX10_conflictsOf_0 : decode cX10_conflictsOf 0 = .ok (.iload_n 1, 1) := by decide +kernel
theorem dX10_conflictsOf_1 : decode cX10_conflictsOf 1 = .ok (.ifCond .lt 21, 3) := by decide +kernel
theorem dX10_conflictsOf_4 : decode cX10_conflictsOf 4 = .ok (.iload_n 1, 1) := by decide +kernel
theorem dX10_conflictsOf_5 : decode cX10_conflictsOf 5 = .ok (.aload_n 0, 1) := by decide +kernel
theorem dX10_conflictsOf_6 : decode cX10_conflictsOf 6 = .ok (.getfield 9, 3) := by decide +kernel
theorem dX10_conflictsOf_9 : decode cX10_conflictsOf 9 = .ok (.arraylength, 1) := by decide +kernel
theorem dX10_conflictsOf_10 : decode cX10_conflictsOf 10 = .ok (.if_icmp .ge 12, 3) := by decide +kernel
theorem dX10_conflictsOf_13 : decode cX10_conflictsOf 13 = .ok (.aload_n 0, 1) := by decide +kernel
theorem dX10_conflictsOf_14 : decode cX10_conflictsOf 14 = .ok (.getfield 9, 3) := by decide +kernel
theorem dX10_conflictsOf_17 : decode cX10_conflictsOf 17 = .ok (.iload_n 1, 1) := by decide +kernel
theorem dX10_conflictsOf_18 : decode cX10_conflictsOf 18 = .ok (.iaload, 1) := by decide +kernel
theorem dX10_conflictsOf_19 : decode cX10_conflictsOf 19 = .ok (.goto 4, 3) := by decide +kernel
theorem dX10_conflictsOf_22 : decode cX10_conflictsOf 22 = .ok (.iconst 0, 1) := by decide +kernel
theorem dX10_conflictsOf_23 : decode cX10_conflictsOf 23 = .ok (.ireturn, 1) := by decide +kernel
theorem dX10_conflictsOfSet_0 : decode cX10_conflictsOfSet 0 = .ok (.iconst 0, 1) := by decide +kernel
theorem dX10_conflictsOfSet_1 : decode cX10_conflictsOfSet 1 = .ok (.istore_n 2, 1) := by decide +kernel
theorem dX10_conflictsOfSet_2 : decode cX10_conflictsOfSet 2 = .ok (.iconst 0, 1) := by decide +kernel
theorem dX10_conflictsOfSet_3 : decode cX10_conflictsOfSet 3 = .ok (.istore_n 3, 1) := by decide +kernel
theorem dX10_conflictsOfSet_4 : decode cX10_conflictsOfSet 4 = .ok (.iload_n 3, 1) := by decide +kernel
theorem dX10_conflictsOfSet_5 : decode cX10_conflictsOfSet 5 = .ok (.aload_n 0, 1) := by decide +kernel
theorem dX10_conflictsOfSet_6 : decode cX10_conflictsOfSet 6 = .ok (.getfield 9, 3) := by decide +kernel
theorem dX10_conflictsOfSet_9 : decode cX10_conflictsOfSet 9 = .ok (.arraylength, 1) := by decide +kernel
theorem dX10_conflictsOfSet_10 : decode cX10_conflictsOfSet 10 = .ok (.if_icmp .ge 26, 3) := by decide +kernel
theorem dX10_conflictsOfSet_13 : decode cX10_conflictsOfSet 13 = .ok (.iload_n 1, 1) := by decide +kernel
theorem dX10_conflictsOfSet_14 : decode cX10_conflictsOfSet 14 = .ok (.iconst 1, 1) := by decide +kernel
theorem dX10_conflictsOfSet_15 : decode cX10_conflictsOfSet 15 = .ok (.iload_n 3, 1) := by decide +kernel
theorem dX10_conflictsOfSet_16 : decode cX10_conflictsOfSet 16 = .ok (.ishl, 1) := by decide +kernel
theorem dX10_conflictsOfSet_17 : decode cX10_conflictsOfSet 17 = .ok (.iand, 1) := by decide +kernel
theorem dX10_conflictsOfSet_18 : decode cX10_conflictsOfSet 18 = .ok (.ifCond .eq 12, 3) := by decide +kernel
theorem dX10_conflictsOfSet_21 : decode cX10_conflictsOfSet 21 = .ok (.iload_n 2, 1) := by decide +kernel
theorem dX10_conflictsOfSet_22 : decode cX10_conflictsOfSet 22 = .ok (.aload_n 0, 1) := by decide +kernel
theorem dX10_conflictsOfSet_23 : decode cX10_conflictsOfSet 23 = .ok (.getfield 9, 3) := by decide +kernel
theorem dX10_conflictsOfSet_26 : decode cX10_conflictsOfSet 26 = .ok (.iload_n 3, 1) := by decide +kernel
theorem dX10_conflictsOfSet_27 : decode cX10_conflictsOfSet 27 = .ok (.iaload, 1) := by decide +kernel
theorem dX10_conflictsOfSet_28 : decode cX10_conflictsOfSet 28 = .ok (.ior, 1) := by decide +kernel
theorem dX10_conflictsOfSet_29 : decode cX10_conflictsOfSet 29 = .ok (.istore_n 2, 1) := by decide +kernel
theorem dX10_conflictsOfSet_30 : decode cX10_conflictsOfSet 30 = .ok (.iinc 3 1, 3) := by decide +kernel
theorem dX10_conflictsOfSet_33 : decode cX10_conflictsOfSet 33 = .ok (.goto (-29), 3) := by decide +kernel
theorem dX10_conflictsOfSet_36 : decode cX10_conflictsOfSet 36 = .ok (.iload_n 2, 1) := by decide +kernel
theorem dX10_conflictsOfSet_37 : decode cX10_conflictsOfSet 37 = .ok (.ireturn, 1) := by decide +kernel
theorem dX10_hasInterlock_0 : decode cX10_hasInterlock 0 = .ok (.iload_n 1, 1) := by decide +kernel
theorem dX10_hasInterlock_1 : decode cX10_hasInterlock 1 = .ok (.iload_n 2, 1) := by decide +kernel
theorem dX10_hasInterlock_2 : decode cX10_hasInterlock 2 = .ok (.if_icmp .eq 29, 3) := by decide +kernel
theorem dX10_hasInterlock_5 : decode cX10_hasInterlock 5 = .ok (.iload_n 2, 1) := by decide +kernel
theorem dX10_hasInterlock_6 : decode cX10_hasInterlock 6 = .ok (.iconst 0, 1) := by decide +kernel
theorem dX10_hasInterlock_7 : decode cX10_hasInterlock 7 = .ok (.bipush 7, 2) := by decide +kernel
theorem dX10_hasInterlock_9 : decode cX10_hasInterlock 9 = .ok (.invokestatic 26, 3) := by decide +kernel
theorem dX10_hasInterlock_12 : decode cX10_hasInterlock 12 = .ok (.ifCond .eq 19, 3) := by decide +kernel
theorem dX10_hasInterlock_15 : decode cX10_hasInterlock 15 = .ok (.aload_n 0, 1) := by decide +kernel
theorem dX10_hasInterlock_16 : decode cX10_hasInterlock 16 = .ok (.iload_n 1, 1) := by decide +kernel
theorem dX10_hasInterlock_17 : decode cX10_hasInterlock 17 = .ok (.invokevirtual 30, 3) := by decide +kernel
theorem dX10_hasInterlock_20 : decode cX10_hasInterlock 20 = .ok (.iconst 1, 1) := by decide +kernel
theorem dX10_hasInterlock_21 : decode cX10_hasInterlock 21 = .ok (.iload_n 2, 1) := by decide +kernel
theorem dX10_hasInterlock_22 : decode cX10_hasInterlock 22 = .ok (.ishl, 1) := by decide +kernel
theorem dX10_hasInterlock_23 : decode cX10_hasInterlock 23 = .ok (.iand, 1) := by decide +kernel
theorem dX10_hasInterlock_24 : decode cX10_hasInterlock 24 = .ok (.ifCond .eq 7, 3) := by decide +kernel
theorem dX10_hasInterlock_27 : decode cX10_hasInterlock 27 = .ok (.iconst 1, 1) := by decide +kernel
theorem dX10_hasInterlock_28 : decode cX10_hasInterlock 28 = .ok (.goto 4, 3) := by decide +kernel
theorem dX10_hasInterlock_31 : decode cX10_hasInterlock 31 = .ok (.iconst 0, 1) := by decide +kernel
theorem dX10_hasInterlock_32 : decode cX10_hasInterlock 32 = .ok (.ireturn, 1) := by decide +kernel
theorem dX10_putInterlock_0 : decode cX10_putInterlock 0 = .ok (.aload_n 0, 1) := by decide +kernel
theorem dX10_putInterlock_1 : decode cX10_putInterlock 1 = .ok (.iload_n 1, 1) := by decide +kernel
theorem dX10_putInterlock_2 : decode cX10_putInterlock 2 = .ok (.iload_n 2, 1) := by decide +kernel
theorem dX10_putInterlock_3 : decode cX10_putInterlock 3 = .ok (.invokevirtual 34, 3) := by decide +kernel
theorem dX10_putInterlock_6 : decode cX10_putInterlock 6 = .ok (.istore 4, 2) := by decide +kernel
theorem dX10_putInterlock_8 : decode cX10_putInterlock 8 = .ok (.iload 4, 2) := by decide +kernel
theorem dX10_putInterlock_10 : decode cX10_putInterlock 10 = .ok (.iload_n 3, 1) := by decide +kernel
theorem dX10_putInterlock_11 : decode cX10_putInterlock 11 = .ok (.if_icmp .eq 33, 3) := by decide +kernel
theorem dX10_putInterlock_14 : decode cX10_putInterlock 14 = .ok (.aload_n 0, 1) := by decide +kernel
theorem dX10_putInterlock_15 : decode cX10_putInterlock 15 = .ok (.iload_n 1, 1) := by decide +kernel
theorem dX10_putInterlock_16 : decode cX10_putInterlock 16 = .ok (.iload_n 2, 1) := by decide +kernel
theorem dX10_putInterlock_17 : decode cX10_putInterlock 17 = .ok (.invokevirtual 38, 3) := by decide +kernel
theorem dX10_putInterlock_20 : decode cX10_putInterlock 20 = .ok (.aload_n 0, 1) := by decide +kernel
theorem dX10_putInterlock_21 : decode cX10_putInterlock 21 = .ok (.iload_n 2, 1) := by decide +kernel
theorem dX10_putInterlock_22 : decode cX10_putInterlock 22 = .ok (.iload_n 1, 1) := by decide +kernel
theorem dX10_putInterlock_23 : decode cX10_putInterlock 23 = .ok (.invokevirtual 38, 3) := by decide +kernel
theorem dX10_putInterlock_26 : decode cX10_putInterlock 26 = .ok (.aload_n 0, 1) := by decide +kernel
theorem dX10_putInterlock_27 : decode cX10_putInterlock 27 = .ok (.dup, 1) := by decide +kernel
theorem dX10_putInterlock_28 : decode cX10_putInterlock 28 = .ok (.getfield 18, 3) := by decide +kernel
theorem dX10_putInterlock_31 : decode cX10_putInterlock 31 = .ok (.iload_n 3, 1) := by decide +kernel
theorem dX10_putInterlock_32 : decode cX10_putInterlock 32 = .ok (.ifCond .eq 7, 3) := by decide +kernel
theorem dX10_putInterlock_35 : decode cX10_putInterlock 35 = .ok (.iconst 1, 1) := by decide +kernel
theorem dX10_putInterlock_36 : decode cX10_putInterlock 36 = .ok (.goto 4, 3) := by decide +kernel
theorem dX10_putInterlock_39 : decode cX10_putInterlock 39 = .ok (.iconst (-1), 1) := by decide +kernel
theorem dX10_putInterlock_40 : decode cX10_putInterlock 40 = .ok (.iadd, 1) := by decide +kernel
theorem dX10_putInterlock_41 : decode cX10_putInterlock 41 = .ok (.putfield 18, 3) := by decide +kernel
theorem dX10_putInterlock_44 : decode cX10_putInterlock 44 = .ok (.iload 4, 2) := by decide +kernel
theorem dX10_putInterlock_46 : decode cX10_putInterlock 46 = .ok (.ireturn, 1) := by decide +kernel
theorem dX10_turn_0 : decode cX10_turn 0 = .ok (.iload_n 1, 1) := by decide +kernel
theorem dX10_turn_1 : decode cX10_turn 1 = .ok (.ifCond .lt 24, 3) := by decide +kernel
theorem dX10_turn_4 : decode cX10_turn 4 = .ok (.iload_n 1, 1) := by decide +kernel
theorem dX10_turn_5 : decode cX10_turn 5 = .ok (.aload_n 0, 1) := by decide +kernel
theorem dX10_turn_6 : decode cX10_turn 6 = .ok (.getfield 9, 3) := by decide +kernel
theorem dX10_turn_9 : decode cX10_turn 9 = .ok (.arraylength, 1) := by decide +kernel
theorem dX10_turn_10 : decode cX10_turn 10 = .ok (.if_icmp .ge 15, 3) := by decide +kernel
theorem dX10_turn_13 : decode cX10_turn 13 = .ok (.aload_n 0, 1) := by decide +kernel
theorem dX10_turn_14 : decode cX10_turn 14 = .ok (.getfield 9, 3) := by decide +kernel
theorem dX10_turn_17 : decode cX10_turn 17 = .ok (.iload_n 1, 1) := by decide +kernel
theorem dX10_turn_18 : decode cX10_turn 18 = .ok (.dup2, 1) := by decide +kernel
theorem dX10_turn_19 : decode cX10_turn 19 = .ok (.iaload, 1) := by decide +kernel
theorem dX10_turn_20 : decode cX10_turn 20 = .ok (.iconst 1, 1) := by decide +kernel
theorem dX10_turn_21 : decode cX10_turn 21 = .ok (.iload_n 2, 1) := by decide +kernel
theorem dX10_turn_22 : decode cX10_turn 22 = .ok (.ishl, 1) := by decide +kernel
theorem dX10_turn_23 : decode cX10_turn 23 = .ok (.ixor, 1) := by decide +kernel
theorem dX10_turn_24 : decode cX10_turn 24 = .ok (.iastore, 1) := by decide +kernel
theorem dX10_turn_25 : decode cX10_turn 25 = .ok (.return_, 1) := by decide +kernel
theorem dX10_ticksHeld_0 : decode cX10_ticksHeld 0 = .ok (.iload_n 1, 1) := by decide +kernel
theorem dX10_ticksHeld_1 : decode cX10_ticksHeld 1 = .ok (.ifCond .lt 21, 3) := by decide +kernel
theorem dX10_ticksHeld_4 : decode cX10_ticksHeld 4 = .ok (.iload_n 1, 1) := by decide +kernel
theorem dX10_ticksHeld_5 : decode cX10_ticksHeld 5 = .ok (.aload_n 0, 1) := by decide +kernel
theorem dX10_ticksHeld_6 : decode cX10_ticksHeld 6 = .ok (.getfield 15, 3) := by decide +kernel
theorem dX10_ticksHeld_9 : decode cX10_ticksHeld 9 = .ok (.arraylength, 1) := by decide +kernel
theorem dX10_ticksHeld_10 : decode cX10_ticksHeld 10 = .ok (.if_icmp .ge 12, 3) := by decide +kernel
theorem dX10_ticksHeld_13 : decode cX10_ticksHeld 13 = .ok (.aload_n 0, 1) := by decide +kernel
theorem dX10_ticksHeld_14 : decode cX10_ticksHeld 14 = .ok (.getfield 15, 3) := by decide +kernel
theorem dX10_ticksHeld_17 : decode cX10_ticksHeld 17 = .ok (.iload_n 1, 1) := by decide +kernel
theorem dX10_ticksHeld_18 : decode cX10_ticksHeld 18 = .ok (.iaload, 1) := by decide +kernel
theorem dX10_ticksHeld_19 : decode cX10_ticksHeld 19 = .ok (.goto 4, 3) := by decide +kernel
theorem dX10_ticksHeld_22 : decode cX10_ticksHeld 22 = .ok (.iconst 0, 1) := by decide +kernel
theorem dX10_ticksHeld_23 : decode cX10_ticksHeld 23 = .ok (.ireturn, 1) := by decide +kernel
theorem dX10_countTick_0 : decode cX10_countTick 0 = .ok (.iconst 0, 1) := by decide +kernel
theorem dX10_countTick_1 : decode cX10_countTick 1 = .ok (.istore_n 2, 1) := by decide +kernel
theorem dX10_countTick_2 : decode cX10_countTick 2 = .ok (.iload_n 2, 1) := by decide +kernel
theorem dX10_countTick_3 : decode cX10_countTick 3 = .ok (.aload_n 0, 1) := by decide +kernel
theorem dX10_countTick_4 : decode cX10_countTick 4 = .ok (.getfield 15, 3) := by decide +kernel
theorem dX10_countTick_7 : decode cX10_countTick 7 = .ok (.arraylength, 1) := by decide +kernel
theorem dX10_countTick_8 : decode cX10_countTick 8 = .ok (.if_icmp .ge 27, 3) := by decide +kernel
theorem dX10_countTick_11 : decode cX10_countTick 11 = .ok (.iload_n 1, 1) := by decide +kernel
theorem dX10_countTick_12 : decode cX10_countTick 12 = .ok (.iconst 1, 1) := by decide +kernel
theorem dX10_countTick_13 : decode cX10_countTick 13 = .ok (.iload_n 2, 1) := by decide +kernel
theorem dX10_countTick_14 : decode cX10_countTick 14 = .ok (.ishl, 1) := by decide +kernel
theorem dX10_countTick_15 : decode cX10_countTick 15 = .ok (.iand, 1) := by decide +kernel
theorem dX10_countTick_16 : decode cX10_countTick 16 = .ok (.ifCond .eq 13, 3) := by decide +kernel
theorem dX10_countTick_19 : decode cX10_countTick 19 = .ok (.aload_n 0, 1) := by decide +kernel
theorem dX10_countTick_20 : decode cX10_countTick 20 = .ok (.getfield 15, 3) := by decide +kernel
theorem dX10_countTick_23 : decode cX10_countTick 23 = .ok (.iload_n 2, 1) := by decide +kernel
theorem dX10_countTick_24 : decode cX10_countTick 24 = .ok (.dup2, 1) := by decide +kernel
theorem dX10_countTick_25 : decode cX10_countTick 25 = .ok (.iaload, 1) := by decide +kernel
theorem dX10_countTick_26 : decode cX10_countTick 26 = .ok (.iconst 1, 1) := by decide +kernel
theorem dX10_countTick_27 : decode cX10_countTick 27 = .ok (.iadd, 1) := by decide +kernel
theorem dX10_countTick_28 : decode cX10_countTick 28 = .ok (.iastore, 1) := by decide +kernel
theorem dX10_countTick_29 : decode cX10_countTick 29 = .ok (.iinc 2 1, 3) := by decide +kernel
theorem dX10_countTick_32 : decode cX10_countTick 32 = .ok (.goto (-30), 3) := by decide +kernel
theorem dX10_countTick_35 : decode cX10_countTick 35 = .ok (.return_, 1) := by decide +kernel
theorem dX11_init_0 : decode cX11_init 0 = .ok (.aload_n 0, 1) := by decide +kernel
theorem dX11_init_1 : decode cX11_init 1 = .ok (.invokespecial 1, 3) := by decide +kernel
theorem dX11_init_4 : decode cX11_init 4 = .ok (.aload_n 0, 1) := by decide +kernel
theorem dX11_init_5 : decode cX11_init 5 = .ok (.new 7, 3) := by decide +kernel
theorem dX11_init_8 : decode cX11_init 8 = .ok (.dup, 1) := by decide +kernel
theorem dX11_init_9 : decode cX11_init 9 = .ok (.invokespecial 9, 3) := by decide +kernel
theorem dX11_init_12 : decode cX11_init 12 = .ok (.putfield 10, 3) := by decide +kernel
theorem dX11_init_15 : decode cX11_init 15 = .ok (.aload_n 0, 1) := by decide +kernel
theorem dX11_init_16 : decode cX11_init 16 = .ok (.new 7, 3) := by decide +kernel
theorem dX11_init_19 : decode cX11_init 19 = .ok (.dup, 1) := by decide +kernel
theorem dX11_init_20 : decode cX11_init 20 = .ok (.invokespecial 9, 3) := by decide +kernel
theorem dX11_init_23 : decode cX11_init 23 = .ok (.putfield 16, 3) := by decide +kernel
theorem dX11_init_26 : decode cX11_init 26 = .ok (.aload_n 0, 1) := by decide +kernel
theorem dX11_init_27 : decode cX11_init 27 = .ok (.new 7, 3) := by decide +kernel
theorem dX11_init_30 : decode cX11_init 30 = .ok (.dup, 1) := by decide +kernel
theorem dX11_init_31 : decode cX11_init 31 = .ok (.invokespecial 9, 3) := by decide +kernel
theorem dX11_init_34 : decode cX11_init 34 = .ok (.putfield 19, 3) := by decide +kernel
theorem dX11_init_37 : decode cX11_init 37 = .ok (.aload_n 0, 1) := by decide +kernel
theorem dX11_init_38 : decode cX11_init 38 = .ok (.iconst 0, 1) := by decide +kernel
theorem dX11_init_39 : decode cX11_init 39 = .ok (.putfield 22, 3) := by decide +kernel
theorem dX11_init_42 : decode cX11_init 42 = .ok (.aload_n 0, 1) := by decide +kernel
theorem dX11_init_43 : decode cX11_init 43 = .ok (.new 26, 3) := by decide +kernel
theorem dX11_init_46 : decode cX11_init 46 = .ok (.dup, 1) := by decide +kernel
theorem dX11_init_47 : decode cX11_init 47 = .ok (.invokespecial 28, 3) := by decide +kernel
theorem dX11_init_50 : decode cX11_init 50 = .ok (.putfield 29, 3) := by decide +kernel
theorem dX11_init_53 : decode cX11_init 53 = .ok (.aload_n 0, 1) := by decide +kernel
theorem dX11_init_54 : decode cX11_init 54 = .ok (.new 33, 3) := by decide +kernel
theorem dX11_init_57 : decode cX11_init 57 = .ok (.dup, 1) := by decide +kernel
theorem dX11_init_58 : decode cX11_init 58 = .ok (.invokespecial 35, 3) := by decide +kernel
theorem dX11_init_61 : decode cX11_init 61 = .ok (.putfield 36, 3) := by decide +kernel
theorem dX11_init_64 : decode cX11_init 64 = .ok (.aload_n 0, 1) := by decide +kernel
theorem dX11_init_65 : decode cX11_init 65 = .ok (.new 40, 3) := by decide +kernel
theorem dX11_init_68 : decode cX11_init 68 = .ok (.dup, 1) := by decide +kernel
theorem dX11_init_69 : decode cX11_init 69 = .ok (.invokespecial 42, 3) := by decide +kernel
theorem dX11_init_72 : decode cX11_init 72 = .ok (.putfield 43, 3) := by decide +kernel
theorem dX11_init_75 : decode cX11_init 75 = .ok (.return_, 1) := by decide +kernel
theorem dX11_setInterlock_0 : decode cX11_setInterlock 0 = .ok (.aload_n 0, 1) := by decide +kernel
theorem dX11_setInterlock_1 : decode cX11_setInterlock 1 = .ok (.getfield 10, 3) := by decide +kernel
theorem dX11_setInterlock_4 : decode cX11_setInterlock 4 = .ok (.iload_n 1, 1) := by decide +kernel
theorem dX11_setInterlock_5 : decode cX11_setInterlock 5 = .ok (.iload_n 2, 1) := by decide +kernel
theorem dX11_setInterlock_6 : decode cX11_setInterlock 6 = .ok (.iload_n 3, 1) := by decide +kernel
theorem dX11_setInterlock_7 : decode cX11_setInterlock 7 = .ok (.invokevirtual 47, 3) := by decide +kernel
theorem dX11_setInterlock_10 : decode cX11_setInterlock 10 = .ok (.invokestatic 51, 3) := by decide +kernel
theorem dX11_setInterlock_13 : decode cX11_setInterlock 13 = .ok (.aload_n 0, 1) := by decide +kernel
theorem dX11_setInterlock_14 : decode cX11_setInterlock 14 = .ok (.getfield 29, 3) := by decide +kernel
theorem dX11_setInterlock_17 : decode cX11_setInterlock 17 = .ok (.aload_n 0, 1) := by decide +kernel
theorem dX11_setInterlock_18 : decode cX11_setInterlock 18 = .ok (.getfield 10, 3) := by decide +kernel
theorem dX11_setInterlock_21 : decode cX11_setInterlock 21 = .ok (.invokevirtual 55, 3) := by decide +kernel
theorem dX11_setInterlock_24 : decode cX11_setInterlock 24 = .ok (.aload_n 0, 1) := by decide +kernel
theorem dX11_setInterlock_25 : decode cX11_setInterlock 25 = .ok (.getfield 10, 3) := by decide +kernel
theorem dX11_setInterlock_28 : decode cX11_setInterlock 28 = .ok (.getfield 59, 3) := by decide +kernel
theorem dX11_setInterlock_31 : decode cX11_setInterlock 31 = .ok (.iload_n 1, 1) := by decide +kernel
theorem dX11_setInterlock_32 : decode cX11_setInterlock 32 = .ok (.iload_n 2, 1) := by decide +kernel
theorem dX11_setInterlock_33 : decode cX11_setInterlock 33 = .ok (.iload_n 3, 1) := by decide +kernel
theorem dX11_setInterlock_34 : decode cX11_setInterlock 34 = .ok (.invokevirtual 63, 3) := by decide +kernel
theorem dX11_setInterlock_37 : decode cX11_setInterlock 37 = .ok (.ireturn, 1) := by decide +kernel
theorem dX11_setReach_0 : decode cX11_setReach 0 = .ok (.iload_n 1, 1) := by decide +kernel
theorem dX11_setReach_1 : decode cX11_setReach 1 = .ok (.invokestatic 69, 3) := by decide +kernel
theorem dX11_setReach_4 : decode cX11_setReach 4 = .ok (.iload_n 2, 1) := by decide +kernel
theorem dX11_setReach_5 : decode cX11_setReach 5 = .ok (.sipush 255, 3) := by decide +kernel
theorem dX11_setReach_8 : decode cX11_setReach 8 = .ok (.invokestatic 72, 3) := by decide +kernel
theorem dX11_setReach_11 : decode cX11_setReach 11 = .ok (.aload_n 0, 1) := by decide +kernel
theorem dX11_setReach_12 : decode cX11_setReach 12 = .ok (.getfield 29, 3) := by decide +kernel
theorem dX11_setReach_15 : decode cX11_setReach 15 = .ok (.aload_n 0, 1) := by decide +kernel
theorem dX11_setReach_16 : decode cX11_setReach 16 = .ok (.getfield 10, 3) := by decide +kernel
theorem dX11_setReach_19 : decode cX11_setReach 19 = .ok (.invokevirtual 55, 3) := by decide +kernel
theorem dX11_setReach_22 : decode cX11_setReach 22 = .ok (.aload_n 0, 1) := by decide +kernel
theorem dX11_setReach_23 : decode cX11_setReach 23 = .ok (.getfield 10, 3) := by decide +kernel
theorem dX11_setReach_26 : decode cX11_setReach 26 = .ok (.iload_n 1, 1) := by decide +kernel
theorem dX11_setReach_27 : decode cX11_setReach 27 = .ok (.invokevirtual 76, 3) := by decide +kernel
theorem dX11_setReach_30 : decode cX11_setReach 30 = .ok (.astore_n 3, 1) := by decide +kernel
theorem dX11_setReach_31 : decode cX11_setReach 31 = .ok (.aload_n 3, 1) := by decide +kernel
theorem dX11_setReach_32 : decode cX11_setReach 32 = .ok (.getfield 80, 3) := by decide +kernel
theorem dX11_setReach_35 : decode cX11_setReach 35 = .ok (.istore 4, 2) := by decide +kernel
theorem dX11_setReach_37 : decode cX11_setReach 37 = .ok (.aload_n 3, 1) := by decide +kernel
theorem dX11_setReach_38 : decode cX11_setReach 38 = .ok (.iload_n 2, 1) := by decide +kernel
theorem dX11_setReach_39 : decode cX11_setReach 39 = .ok (.putfield 80, 3) := by decide +kernel
theorem dX11_setReach_42 : decode cX11_setReach 42 = .ok (.iload 4, 2) := by decide +kernel
theorem dX11_setReach_44 : decode cX11_setReach 44 = .ok (.ireturn, 1) := by decide +kernel
theorem dX11_setCapacity_0 : decode cX11_setCapacity 0 = .ok (.iload_n 1, 1) := by decide +kernel
theorem dX11_setCapacity_1 : decode cX11_setCapacity 1 = .ok (.invokestatic 86, 3) := by decide +kernel
theorem dX11_setCapacity_4 : decode cX11_setCapacity 4 = .ok (.iload_n 2, 1) := by decide +kernel
theorem dX11_setCapacity_5 : decode cX11_setCapacity 5 = .ok (.iconst 1, 1) := by decide +kernel
theorem dX11_setCapacity_6 : decode cX11_setCapacity 6 = .ok (.iconst 4, 1) := by decide +kernel
theorem dX11_setCapacity_7 : decode cX11_setCapacity 7 = .ok (.invokestatic 89, 3) := by decide +kernel
theorem dX11_setCapacity_10 : decode cX11_setCapacity 10 = .ok (.ifCond .ne 13, 3) := by decide +kernel
theorem dX11_setCapacity_13 : decode cX11_setCapacity 13 = .ok (.new 93, 3) := by decide +kernel
theorem dX11_setCapacity_16 : decode cX11_setCapacity 16 = .ok (.dup, 1) := by decide +kernel
theorem dX11_setCapacity_17 : decode cX11_setCapacity 17 = .ok (.ldc 95, 2) := by decide +kernel
theorem dX11_setCapacity_19 : decode cX11_setCapacity 19 = .ok (.invokespecial 97, 3) := by decide +kernel
theorem dX11_setCapacity_22 : decode cX11_setCapacity 22 = .ok (.athrow, 1) := by decide +kernel
theorem dX11_setCapacity_23 : decode cX11_setCapacity 23 = .ok (.aload_n 0, 1) := by decide +kernel
theorem dX11_setCapacity_24 : decode cX11_setCapacity 24 = .ok (.getfield 10, 3) := by decide +kernel
theorem dX11_setCapacity_27 : decode cX11_setCapacity 27 = .ok (.iload_n 1, 1) := by decide +kernel
theorem dX11_setCapacity_28 : decode cX11_setCapacity 28 = .ok (.invokevirtual 100, 3) := by decide +kernel
theorem dX11_setCapacity_31 : decode cX11_setCapacity 31 = .ok (.astore_n 3, 1) := by decide +kernel
theorem dX11_setCapacity_32 : decode cX11_setCapacity 32 = .ok (.aload_n 3, 1) := by decide +kernel
theorem dX11_setCapacity_33 : decode cX11_setCapacity 33 = .ok (.invokevirtual 104, 3) := by decide +kernel
theorem dX11_setCapacity_36 : decode cX11_setCapacity 36 = .ok (.iload_n 2, 1) := by decide +kernel
theorem dX11_setCapacity_37 : decode cX11_setCapacity 37 = .ok (.if_icmp .le 13, 3) := by decide +kernel
theorem dX11_setCapacity_40 : decode cX11_setCapacity 40 = .ok (.new 110, 3) := by decide +kernel
theorem dX11_setCapacity_43 : decode cX11_setCapacity 43 = .ok (.dup, 1) := by decide +kernel
theorem dX11_setCapacity_44 : decode cX11_setCapacity 44 = .ok (.ldc 112, 2) := by decide +kernel
theorem dX11_setCapacity_46 : decode cX11_setCapacity 46 = .ok (.invokespecial 114, 3) := by decide +kernel
theorem dX11_setCapacity_49 : decode cX11_setCapacity 49 = .ok (.athrow, 1) := by decide +kernel
theorem dX11_setCapacity_50 : decode cX11_setCapacity 50 = .ok (.aload_n 0, 1) := by decide +kernel
theorem dX11_setCapacity_51 : decode cX11_setCapacity 51 = .ok (.getfield 29, 3) := by decide +kernel
theorem dX11_setCapacity_54 : decode cX11_setCapacity 54 = .ok (.aload_n 0, 1) := by decide +kernel
theorem dX11_setCapacity_55 : decode cX11_setCapacity 55 = .ok (.getfield 10, 3) := by decide +kernel
theorem dX11_setCapacity_58 : decode cX11_setCapacity 58 = .ok (.invokevirtual 55, 3) := by decide +kernel
theorem dX11_setCapacity_61 : decode cX11_setCapacity 61 = .ok (.aload_n 3, 1) := by decide +kernel
theorem dX11_setCapacity_62 : decode cX11_setCapacity 62 = .ok (.getfield 115, 3) := by decide +kernel
theorem dX11_setCapacity_65 : decode cX11_setCapacity 65 = .ok (.istore 4, 2) := by decide +kernel
theorem dX11_setCapacity_67 : decode cX11_setCapacity 67 = .ok (.aload_n 3, 1) := by decide +kernel
theorem dX11_setCapacity_68 : decode cX11_setCapacity 68 = .ok (.iload_n 2, 1) := by decide +kernel
theorem dX11_setCapacity_69 : decode cX11_setCapacity 69 = .ok (.putfield 115, 3) := by decide +kernel
theorem dX11_setCapacity_72 : decode cX11_setCapacity 72 = .ok (.iload 4, 2) := by decide +kernel
theorem dX11_setCapacity_74 : decode cX11_setCapacity 74 = .ok (.ireturn, 1) := by decide +kernel
theorem dX11_supply_0 : decode cX11_supply 0 = .ok (.iload_n 1, 1) := by decide +kernel
theorem dX11_supply_1 : decode cX11_supply 1 = .ok (.invokestatic 86, 3) := by decide +kernel
theorem dX11_supply_4 : decode cX11_supply 4 = .ok (.aload_n 0, 1) := by decide +kernel
theorem dX11_supply_5 : decode cX11_supply 5 = .ok (.getfield 10, 3) := by decide +kernel
theorem dX11_supply_8 : decode cX11_supply 8 = .ok (.iload_n 1, 1) := by decide +kernel
theorem dX11_supply_9 : decode cX11_supply 9 = .ok (.invokevirtual 100, 3) := by decide +kernel
theorem dX11_supply_12 : decode cX11_supply 12 = .ok (.astore_n 2, 1) := by decide +kernel
theorem dX11_supply_13 : decode cX11_supply 13 = .ok (.aload_n 2, 1) := by decide +kernel
theorem dX11_supply_14 : decode cX11_supply 14 = .ok (.invokevirtual 118, 3) := by decide +kernel
theorem dX11_supply_17 : decode cX11_supply 17 = .ok (.ifCond .ne 13, 3) := by decide +kernel
theorem dX11_supply_20 : decode cX11_supply 20 = .ok (.new 110, 3) := by decide +kernel
theorem dX11_supply_23 : decode cX11_supply 23 = .ok (.dup, 1) := by decide +kernel
theorem dX11_supply_24 : decode cX11_supply 24 = .ok (.ldc 122, 2) := by decide +kernel
theorem dX11_supply_26 : decode cX11_supply 26 = .ok (.invokespecial 114, 3) := by decide +kernel
theorem dX11_supply_29 : decode cX11_supply 29 = .ok (.athrow, 1) := by decide +kernel
theorem dX11_supply_30 : decode cX11_supply 30 = .ok (.aload_n 0, 1) := by decide +kernel
theorem dX11_supply_31 : decode cX11_supply 31 = .ok (.getfield 29, 3) := by decide +kernel
theorem dX11_supply_34 : decode cX11_supply 34 = .ok (.aload_n 0, 1) := by decide +kernel
theorem dX11_supply_35 : decode cX11_supply 35 = .ok (.getfield 10, 3) := by decide +kernel
theorem dX11_supply_38 : decode cX11_supply 38 = .ok (.invokevirtual 55, 3) := by decide +kernel
theorem dX11_supply_41 : decode cX11_supply 41 = .ok (.aload_n 0, 1) := by decide +kernel
theorem dX11_supply_42 : decode cX11_supply 42 = .ok (.getfield 10, 3) := by decide +kernel
theorem dX11_supply_45 : decode cX11_supply 45 = .ok (.invokevirtual 124, 3) := by decide +kernel
theorem dX11_supply_48 : decode cX11_supply 48 = .ok (.istore_n 3, 1) := by decide +kernel
theorem dX11_supply_49 : decode cX11_supply 49 = .ok (.aload_n 2, 1) := by decide +kernel
theorem dX11_supply_50 : decode cX11_supply 50 = .ok (.iload_n 3, 1) := by decide +kernel
theorem dX11_supply_51 : decode cX11_supply 51 = .ok (.invokevirtual 127, 3) := by decide +kernel
theorem dX11_supply_54 : decode cX11_supply 54 = .ok (.iload_n 3, 1) := by decide +kernel
theorem dX11_supply_55 : decode cX11_supply 55 = .ok (.ireturn, 1) := by decide +kernel
theorem dX11_zone_0 : decode cX11_zone 0 = .ok (.iload_n 1, 1) := by decide +kernel
theorem dX11_zone_1 : decode cX11_zone 1 = .ok (.iconst 0, 1) := by decide +kernel
theorem dX11_zone_2 : decode cX11_zone 2 = .ok (.bipush 7, 2) := by decide +kernel
theorem dX11_zone_4 : decode cX11_zone 4 = .ok (.invokestatic 89, 3) := by decide +kernel
theorem dX11_zone_7 : decode cX11_zone 7 = .ok (.ifCond .ne 13, 3) := by decide +kernel
theorem dX11_zone_10 : decode cX11_zone 10 = .ok (.new 130, 3) := by decide +kernel
theorem dX11_zone_13 : decode cX11_zone 13 = .ok (.dup, 1) := by decide +kernel
theorem dX11_zone_14 : decode cX11_zone 14 = .ok (.ldc 132, 2) := by decide +kernel
theorem dX11_zone_16 : decode cX11_zone 16 = .ok (.invokespecial 134, 3) := by decide +kernel
theorem dX11_zone_19 : decode cX11_zone 19 = .ok (.athrow, 1) := by decide +kernel
theorem dX11_zone_20 : decode cX11_zone 20 = .ok (.iload_n 2, 1) := by decide +kernel
theorem dX11_zone_21 : decode cX11_zone 21 = .ok (.iconst 4, 1) := by decide +kernel
theorem dX11_zone_22 : decode cX11_zone 22 = .ok (.invokestatic 72, 3) := by decide +kernel
theorem dX11_zone_25 : decode cX11_zone 25 = .ok (.aload_n 0, 1) := by decide +kernel
theorem dX11_zone_26 : decode cX11_zone 26 = .ok (.getfield 10, 3) := by decide +kernel
theorem dX11_zone_29 : decode cX11_zone 29 = .ok (.iload_n 1, 1) := by decide +kernel
theorem dX11_zone_30 : decode cX11_zone 30 = .ok (.iload_n 2, 1) := by decide +kernel
theorem dX11_zone_31 : decode cX11_zone 31 = .ok (.invokevirtual 135, 3) := by decide +kernel
theorem dX11_zone_34 : decode cX11_zone 34 = .ok (.ireturn, 1) := by decide +kernel
theorem dX11_buffer_0 : decode cX11_buffer 0 = .ok (.iload_n 1, 1) := by decide +kernel
theorem dX11_buffer_1 : decode cX11_buffer 1 = .ok (.invokestatic 86, 3) := by decide +kernel
theorem dX11_buffer_4 : decode cX11_buffer 4 = .ok (.iload_n 2, 1) := by decide +kernel
theorem dX11_buffer_5 : decode cX11_buffer 5 = .ok (.iconst 5, 1) := by decide +kernel
theorem dX11_buffer_6 : decode cX11_buffer 6 = .ok (.invokestatic 72, 3) := by decide +kernel
theorem dX11_buffer_9 : decode cX11_buffer 9 = .ok (.aload_n 0, 1) := by decide +kernel
theorem dX11_buffer_10 : decode cX11_buffer 10 = .ok (.getfield 10, 3) := by decide +kernel
theorem dX11_buffer_13 : decode cX11_buffer 13 = .ok (.iload_n 1, 1) := by decide +kernel
theorem dX11_buffer_14 : decode cX11_buffer 14 = .ok (.invokevirtual 100, 3) := by decide +kernel
theorem dX11_buffer_17 : decode cX11_buffer 17 = .ok (.iload_n 2, 1) := by decide +kernel
theorem dX11_buffer_18 : decode cX11_buffer 18 = .ok (.invokevirtual 139, 3) := by decide +kernel
theorem dX11_buffer_21 : decode cX11_buffer 21 = .ok (.ireturn, 1) := by decide +kernel
theorem dX11_part_0 : decode cX11_part 0 = .ok (.iload_n 1, 1) := by decide +kernel
theorem dX11_part_1 : decode cX11_part 1 = .ok (.invokestatic 86, 3) := by decide +kernel
theorem dX11_part_4 : decode cX11_part 4 = .ok (.aload_n 0, 1) := by decide +kernel
theorem dX11_part_5 : decode cX11_part 5 = .ok (.getfield 10, 3) := by decide +kernel
theorem dX11_part_8 : decode cX11_part 8 = .ok (.iload_n 1, 1) := by decide +kernel
theorem dX11_part_9 : decode cX11_part 9 = .ok (.invokevirtual 100, 3) := by decide +kernel
theorem dX11_part_12 : decode cX11_part 12 = .ok (.astore_n 3, 1) := by decide +kernel
theorem dX11_part_13 : decode cX11_part 13 = .ok (.iload_n 2, 1) := by decide +kernel
theorem dX11_part_14 : decode cX11_part 14 = .ok (.iconst 0, 1) := by decide +kernel
theorem dX11_part_15 : decode cX11_part 15 = .ok (.aload_n 3, 1) := by decide +kernel
theorem dX11_part_16 : decode cX11_part 16 = .ok (.getfield 143, 3) := by decide +kernel
theorem dX11_part_19 : decode cX11_part 19 = .ok (.iconst 1, 1) := by decide +kernel
theorem dX11_part_20 : decode cX11_part 20 = .ok (.isub, 1) := by decide +kernel
theorem dX11_part_21 : decode cX11_part 21 = .ok (.invokestatic 89, 3) := by decide +kernel
theorem dX11_part_24 : decode cX11_part 24 = .ok (.ifCond .ne 13, 3) := by decide +kernel
theorem dX11_part_27 : decode cX11_part 27 = .ok (.new 146, 3) := by decide +kernel
theorem dX11_part_30 : decode cX11_part 30 = .ok (.dup, 1) := by decide +kernel
theorem dX11_part_31 : decode cX11_part 31 = .ok (.ldc 148, 2) := by decide +kernel
theorem dX11_part_33 : decode cX11_part 33 = .ok (.invokespecial 150, 3) := by decide +kernel
theorem dX11_part_36 : decode cX11_part 36 = .ok (.athrow, 1) := by decide +kernel
theorem dX11_part_37 : decode cX11_part 37 = .ok (.aload_n 3, 1) := by decide +kernel
theorem dX11_part_38 : decode cX11_part 38 = .ok (.iload_n 2, 1) := by decide +kernel
theorem dX11_part_39 : decode cX11_part 39 = .ok (.invokevirtual 151, 3) := by decide +kernel
theorem dX11_part_42 : decode cX11_part 42 = .ok (.ireturn, 1) := by decide +kernel
theorem dX11_give_0 : decode cX11_give 0 = .ok (.aload_n 0, 1) := by decide +kernel
theorem dX11_give_1 : decode cX11_give 1 = .ok (.getfield 10, 3) := by decide +kernel
theorem dX11_give_4 : decode cX11_give 4 = .ok (.iload_n 1, 1) := by decide +kernel
theorem dX11_give_5 : decode cX11_give 5 = .ok (.iload_n 2, 1) := by decide +kernel
theorem dX11_give_6 : decode cX11_give 6 = .ok (.iload_n 3, 1) := by decide +kernel
theorem dX11_give_7 : decode cX11_give 7 = .ok (.iload 4, 2) := by decide +kernel
theorem dX11_give_9 : decode cX11_give 9 = .ok (.iload 5, 2) := by decide +kernel
theorem dX11_give_11 : decode cX11_give 11 = .ok (.iload 6, 2) := by decide +kernel
theorem dX11_give_13 : decode cX11_give 13 = .ok (.invokevirtual 154, 3) := by decide +kernel
theorem dX11_give_16 : decode cX11_give 16 = .ok (.invokestatic 51, 3) := by decide +kernel
theorem dX11_give_19 : decode cX11_give 19 = .ok (.aload_n 0, 1) := by decide +kernel
theorem dX11_give_20 : decode cX11_give 20 = .ok (.getfield 29, 3) := by decide +kernel
theorem dX11_give_23 : decode cX11_give 23 = .ok (.aload_n 0, 1) := by decide +kernel
theorem dX11_give_24 : decode cX11_give 24 = .ok (.getfield 10, 3) := by decide +kernel
theorem dX11_give_27 : decode cX11_give 27 = .ok (.invokevirtual 55, 3) := by decide +kernel
theorem dX11_give_30 : decode cX11_give 30 = .ok (.aload_n 0, 1) := by decide +kernel
theorem dX11_give_31 : decode cX11_give 31 = .ok (.getfield 10, 3) := by decide +kernel
theorem dX11_give_34 : decode cX11_give 34 = .ok (.iload_n 1, 1) := by decide +kernel
theorem dX11_give_35 : decode cX11_give 35 = .ok (.iload_n 2, 1) := by decide +kernel
theorem dX11_give_36 : decode cX11_give 36 = .ok (.iload_n 3, 1) := by decide +kernel
theorem dX11_give_37 : decode cX11_give 37 = .ok (.iload 4, 2) := by decide +kernel
theorem dX11_give_39 : decode cX11_give 39 = .ok (.iload 5, 2) := by decide +kernel
theorem dX11_give_41 : decode cX11_give 41 = .ok (.iload 6, 2) := by decide +kernel
theorem dX11_give_43 : decode cX11_give 43 = .ok (.invokevirtual 158, 3) := by decide +kernel
theorem dX11_give_46 : decode cX11_give 46 = .ok (.ireturn, 1) := by decide +kernel
theorem dX11_withdraw_0 : decode cX11_withdraw 0 = .ok (.iload_n 1, 1) := by decide +kernel
theorem dX11_withdraw_1 : decode cX11_withdraw 1 = .ok (.invokestatic 69, 3) := by decide +kernel
theorem dX11_withdraw_4 : decode cX11_withdraw 4 = .ok (.aload_n 0, 1) := by decide +kernel
theorem dX11_withdraw_5 : decode cX11_withdraw 5 = .ok (.getfield 10, 3) := by decide +kernel
theorem dX11_withdraw_8 : decode cX11_withdraw 8 = .ok (.iload_n 1, 1) := by decide +kernel
theorem dX11_withdraw_9 : decode cX11_withdraw 9 = .ok (.invokevirtual 76, 3) := by decide +kernel
theorem dX11_withdraw_12 : decode cX11_withdraw 12 = .ok (.getfield 161, 3) := by decide +kernel
theorem dX11_withdraw_15 : decode cX11_withdraw 15 = .ok (.ifCond .ne 13, 3) := by decide +kernel
theorem dX11_withdraw_18 : decode cX11_withdraw 18 = .ok (.new 146, 3) := by decide +kernel
theorem dX11_withdraw_21 : decode cX11_withdraw 21 = .ok (.dup, 1) := by decide +kernel
theorem dX11_withdraw_22 : decode cX11_withdraw 22 = .ok (.ldc 164, 2) := by decide +kernel
theorem dX11_withdraw_24 : decode cX11_withdraw 24 = .ok (.invokespecial 150, 3) := by decide +kernel
theorem dX11_withdraw_27 : decode cX11_withdraw 27 = .ok (.athrow, 1) := by decide +kernel
theorem dX11_withdraw_28 : decode cX11_withdraw 28 = .ok (.aload_n 0, 1) := by decide +kernel
theorem dX11_withdraw_29 : decode cX11_withdraw 29 = .ok (.getfield 29, 3) := by decide +kernel
theorem dX11_withdraw_32 : decode cX11_withdraw 32 = .ok (.aload_n 0, 1) := by decide +kernel
theorem dX11_withdraw_33 : decode cX11_withdraw 33 = .ok (.getfield 10, 3) := by decide +kernel
theorem dX11_withdraw_36 : decode cX11_withdraw 36 = .ok (.invokevirtual 55, 3) := by decide +kernel
theorem dX11_withdraw_39 : decode cX11_withdraw 39 = .ok (.aload_n 0, 1) := by decide +kernel
theorem dX11_withdraw_40 : decode cX11_withdraw 40 = .ok (.getfield 10, 3) := by decide +kernel
theorem dX11_withdraw_43 : decode cX11_withdraw 43 = .ok (.iload_n 1, 1) := by decide +kernel
theorem dX11_withdraw_44 : decode cX11_withdraw 44 = .ok (.invokevirtual 166, 3) := by decide +kernel
theorem dX11_withdraw_47 : decode cX11_withdraw 47 = .ok (.ireturn, 1) := by decide +kernel
theorem dX11_job_0 : decode cX11_job 0 = .ok (.aload_n 0, 1) := by decide +kernel
theorem dX11_job_1 : decode cX11_job 1 = .ok (.iload_n 1, 1) := by decide +kernel
theorem dX11_job_2 : decode cX11_job 2 = .ok (.invokevirtual 169, 3) := by decide +kernel
theorem dX11_job_5 : decode cX11_job 5 = .ok (.iload_n 2, 1) := by decide +kernel
theorem dX11_job_6 : decode cX11_job 6 = .ok (.bipush 8, 2) := by decide +kernel
theorem dX11_job_8 : decode cX11_job 8 = .ok (.invokestatic 72, 3) := by decide +kernel
theorem dX11_job_11 : decode cX11_job 11 = .ok (.aload_n 0, 1) := by decide +kernel
theorem dX11_job_12 : decode cX11_job 12 = .ok (.getfield 10, 3) := by decide +kernel
theorem dX11_job_15 : decode cX11_job 15 = .ok (.iload_n 1, 1) := by decide +kernel
theorem dX11_job_16 : decode cX11_job 16 = .ok (.invokevirtual 172, 3) := by decide +kernel
theorem dX11_job_19 : decode cX11_job 19 = .ok (.iload_n 2, 1) := by decide +kernel
theorem dX11_job_20 : decode cX11_job 20 = .ok (.invokevirtual 176, 3) := by decide +kernel
theorem dX11_job_23 : decode cX11_job 23 = .ok (.ireturn, 1) := by decide +kernel
theorem dX11_arm_0 : decode cX11_arm 0 = .ok (.iload_n 1, 1) := by decide +kernel
theorem dX11_arm_1 : decode cX11_arm 1 = .ok (.invokestatic 69, 3) := by decide +kernel
theorem dX11_arm_4 : decode cX11_arm 4 = .ok (.iload_n 2, 1) := by decide +kernel
theorem dX11_arm_5 : decode cX11_arm 5 = .ok (.bipush 9, 2) := by decide +kernel
theorem dX11_arm_7 : decode cX11_arm 7 = .ok (.invokestatic 72, 3) := by decide +kernel
theorem dX11_arm_10 : decode cX11_arm 10 = .ok (.aload_n 0, 1) := by decide +kernel
theorem dX11_arm_11 : decode cX11_arm 11 = .ok (.getfield 10, 3) := by decide +kernel
theorem dX11_arm_14 : decode cX11_arm 14 = .ok (.aload_n 0, 1) := by decide +kernel
theorem dX11_arm_15 : decode cX11_arm 15 = .ok (.getfield 10, 3) := by decide +kernel
theorem dX11_arm_18 : decode cX11_arm 18 = .ok (.iload_n 1, 1) := by decide +kernel
theorem dX11_arm_19 : decode cX11_arm 19 = .ok (.invokevirtual 76, 3) := by decide +kernel
theorem dX11_arm_22 : decode cX11_arm 22 = .ok (.iload_n 2, 1) := by decide +kernel
theorem dX11_arm_23 : decode cX11_arm 23 = .ok (.invokevirtual 179, 3) := by decide +kernel
theorem dX11_arm_26 : decode cX11_arm 26 = .ok (.ireturn, 1) := by decide +kernel
theorem dX11_waiting_0 : decode cX11_waiting 0 = .ok (.iload_n 1, 1) := by decide +kernel
theorem dX11_waiting_1 : decode cX11_waiting 1 = .ok (.invokestatic 69, 3) := by decide +kernel
theorem dX11_waiting_4 : decode cX11_waiting 4 = .ok (.aload_n 0, 1) := by decide +kernel
theorem dX11_waiting_5 : decode cX11_waiting 5 = .ok (.getfield 10, 3) := by decide +kernel
theorem dX11_waiting_8 : decode cX11_waiting 8 = .ok (.iload_n 1, 1) := by decide +kernel
theorem dX11_waiting_9 : decode cX11_waiting 9 = .ok (.invokevirtual 76, 3) := by decide +kernel
theorem dX11_waiting_12 : decode cX11_waiting 12 = .ok (.astore_n 3, 1) := by decide +kernel
theorem dX11_waiting_13 : decode cX11_waiting 13 = .ok (.iload_n 2, 1) := by decide +kernel
theorem dX11_waiting_14 : decode cX11_waiting 14 = .ok (.iconst 0, 1) := by decide +kernel
theorem dX11_waiting_15 : decode cX11_waiting 15 = .ok (.aload_n 3, 1) := by decide +kernel
theorem dX11_waiting_16 : decode cX11_waiting 16 = .ok (.getfield 161, 3) := by decide +kernel
theorem dX11_waiting_19 : decode cX11_waiting 19 = .ok (.iconst 1, 1) := by decide +kernel
theorem dX11_waiting_20 : decode cX11_waiting 20 = .ok (.isub, 1) := by decide +kernel
theorem dX11_waiting_21 : decode cX11_waiting 21 = .ok (.invokestatic 89, 3) := by decide +kernel
theorem dX11_waiting_24 : decode cX11_waiting 24 = .ok (.ifCond .ne 13, 3) := by decide +kernel
theorem dX11_waiting_27 : decode cX11_waiting 27 = .ok (.new 130, 3) := by decide +kernel
theorem dX11_waiting_30 : decode cX11_waiting 30 = .ok (.dup, 1) := by decide +kernel
theorem dX11_waiting_31 : decode cX11_waiting 31 = .ok (.ldc 183, 2) := by decide +kernel
theorem dX11_waiting_33 : decode cX11_waiting 33 = .ok (.invokespecial 134, 3) := by decide +kernel
theorem dX11_waiting_36 : decode cX11_waiting 36 = .ok (.athrow, 1) := by decide +kernel
theorem dX11_waiting_37 : decode cX11_waiting 37 = .ok (.aload_n 3, 1) := by decide +kernel
theorem dX11_waiting_38 : decode cX11_waiting 38 = .ok (.iload_n 2, 1) := by decide +kernel
theorem dX11_waiting_39 : decode cX11_waiting 39 = .ok (.invokevirtual 185, 3) := by decide +kernel
theorem dX11_waiting_42 : decode cX11_waiting 42 = .ok (.ireturn, 1) := by decide +kernel
theorem dX11_tick_0 : decode cX11_tick 0 = .ok (.iload_n 1, 1) := by decide +kernel
theorem dX11_tick_1 : decode cX11_tick 1 = .ok (.iconst 1, 1) := by decide +kernel
theorem dX11_tick_2 : decode cX11_tick 2 = .ok (.bipush 50, 2) := by decide +kernel
theorem dX11_tick_4 : decode cX11_tick 4 = .ok (.invokestatic 89, 3) := by decide +kernel
theorem dX11_tick_7 : decode cX11_tick 7 = .ok (.ifCond .ne 13, 3) := by decide +kernel
theorem dX11_tick_10 : decode cX11_tick 10 = .ok (.new 93, 3) := by decide +kernel
theorem dX11_tick_13 : decode cX11_tick 13 = .ok (.dup, 1) := by decide +kernel
theorem dX11_tick_14 : decode cX11_tick 14 = .ok (.ldc 188, 2) := by decide +kernel
theorem dX11_tick_16 : decode cX11_tick 16 = .ok (.invokespecial 97, 3) := by decide +kernel
theorem dX11_tick_19 : decode cX11_tick 19 = .ok (.athrow, 1) := by decide +kernel
theorem dX11_tick_20 : decode cX11_tick 20 = .ok (.aload_n 0, 1) := by decide +kernel
theorem dX11_tick_21 : decode cX11_tick 21 = .ok (.getfield 29, 3) := by decide +kernel
theorem dX11_tick_24 : decode cX11_tick 24 = .ok (.aload_n 0, 1) := by decide +kernel
theorem dX11_tick_25 : decode cX11_tick 25 = .ok (.getfield 10, 3) := by decide +kernel
theorem dX11_tick_28 : decode cX11_tick 28 = .ok (.invokevirtual 55, 3) := by decide +kernel
theorem dX11_tick_31 : decode cX11_tick 31 = .ok (.aload_n 0, 1) := by decide +kernel
theorem dX11_tick_32 : decode cX11_tick 32 = .ok (.getfield 10, 3) := by decide +kernel
theorem dX11_tick_35 : decode cX11_tick 35 = .ok (.getfield 190, 3) := by decide +kernel
theorem dX11_tick_38 : decode cX11_tick 38 = .ok (.istore_n 2, 1) := by decide +kernel
theorem dX11_tick_39 : decode cX11_tick 39 = .ok (.iconst 0, 1) := by decide +kernel
theorem dX11_tick_40 : decode cX11_tick 40 = .ok (.istore_n 3, 1) := by decide +kernel
theorem dX11_tick_41 : decode cX11_tick 41 = .ok (.iload_n 3, 1) := by decide +kernel
theorem dX11_tick_42 : decode cX11_tick 42 = .ok (.iload_n 1, 1) := by decide +kernel
theorem dX11_tick_43 : decode cX11_tick 43 = .ok (.if_icmp .ge 20, 3) := by decide +kernel
theorem dX11_tick_46 : decode cX11_tick 46 = .ok (.aload_n 0, 1) := by decide +kernel
theorem dX11_tick_47 : decode cX11_tick 47 = .ok (.getfield 36, 3) := by decide +kernel
theorem dX11_tick_50 : decode cX11_tick 50 = .ok (.aload_n 0, 1) := by decide +kernel
theorem dX11_tick_51 : decode cX11_tick 51 = .ok (.getfield 10, 3) := by decide +kernel
theorem dX11_tick_54 : decode cX11_tick 54 = .ok (.invokevirtual 193, 3) := by decide +kernel
theorem dX11_tick_57 : decode cX11_tick 57 = .ok (.iinc 3 1, 3) := by decide +kernel
theorem dX11_tick_60 : decode cX11_tick 60 = .ok (.goto (-19), 3) := by decide +kernel
theorem dX11_tick_63 : decode cX11_tick 63 = .ok (.aload_n 0, 1) := by decide +kernel
theorem dX11_tick_64 : decode cX11_tick 64 = .ok (.getfield 10, 3) := by decide +kernel
theorem dX11_tick_67 : decode cX11_tick 67 = .ok (.getfield 190, 3) := by decide +kernel
theorem dX11_tick_70 : decode cX11_tick 70 = .ok (.iload_n 2, 1) := by decide +kernel
theorem dX11_tick_71 : decode cX11_tick 71 = .ok (.isub, 1) := by decide +kernel
theorem dX11_tick_72 : decode cX11_tick 72 = .ok (.ireturn, 1) := by decide +kernel
theorem dX11_reason_0 : decode cX11_reason 0 = .ok (.iload_n 1, 1) := by decide +kernel
theorem dX11_reason_1 : decode cX11_reason 1 = .ok (.invokestatic 69, 3) := by decide +kernel
theorem dX11_reason_4 : decode cX11_reason 4 = .ok (.aload_n 0, 1) := by decide +kernel
theorem dX11_reason_5 : decode cX11_reason 5 = .ok (.getfield 10, 3) := by decide +kernel
theorem dX11_reason_8 : decode cX11_reason 8 = .ok (.iload_n 1, 1) := by decide +kernel
theorem dX11_reason_9 : decode cX11_reason 9 = .ok (.invokevirtual 76, 3) := by decide +kernel
theorem dX11_reason_12 : decode cX11_reason 12 = .ok (.astore_n 3, 1) := by decide +kernel
theorem dX11_reason_13 : decode cX11_reason 13 = .ok (.aload_n 3, 1) := by decide +kernel
theorem dX11_reason_14 : decode cX11_reason 14 = .ok (.getfield 196, 3) := by decide +kernel
theorem dX11_reason_17 : decode cX11_reason 17 = .ok (.ifCond .ne 13, 3) := by decide +kernel
theorem dX11_reason_20 : decode cX11_reason 20 = .ok (.new 146, 3) := by decide +kernel
theorem dX11_reason_23 : decode cX11_reason 23 = .ok (.dup, 1) := by decide +kernel
theorem dX11_reason_24 : decode cX11_reason 24 = .ok (.ldc 199, 2) := by decide +kernel
theorem dX11_reason_26 : decode cX11_reason 26 = .ok (.invokespecial 150, 3) := by decide +kernel
theorem dX11_reason_29 : decode cX11_reason 29 = .ok (.athrow, 1) := by decide +kernel
theorem dX11_reason_30 : decode cX11_reason 30 = .ok (.iload_n 2, 1) := by decide +kernel
theorem dX11_reason_31 : decode cX11_reason 31 = .ok (.ifCond .eq 10, 3) := by decide +kernel
theorem dX11_reason_34 : decode cX11_reason 34 = .ok (.aload_n 3, 1) := by decide +kernel
theorem dX11_reason_35 : decode cX11_reason 35 = .ok (.getfield 201, 3) := by decide +kernel
theorem dX11_reason_38 : decode cX11_reason 38 = .ok (.goto 7, 3) := by decide +kernel
theorem dX11_reason_41 : decode cX11_reason 41 = .ok (.aload_n 3, 1) := by decide +kernel
theorem dX11_reason_42 : decode cX11_reason 42 = .ok (.getfield 204, 3) := by decide +kernel
theorem dX11_reason_45 : decode cX11_reason 45 = .ok (.ireturn, 1) := by decide +kernel
theorem dX11_wouldBe_0 : decode cX11_wouldBe 0 = .ok (.iload_n 1, 1) := by decide +kernel
theorem dX11_wouldBe_1 : decode cX11_wouldBe 1 = .ok (.invokestatic 69, 3) := by decide +kernel
theorem dX11_wouldBe_4 : decode cX11_wouldBe 4 = .ok (.aload_n 0, 1) := by decide +kernel
theorem dX11_wouldBe_5 : decode cX11_wouldBe 5 = .ok (.getfield 10, 3) := by decide +kernel
theorem dX11_wouldBe_8 : decode cX11_wouldBe 8 = .ok (.iload_n 1, 1) := by decide +kernel
theorem dX11_wouldBe_9 : decode cX11_wouldBe 9 = .ok (.invokevirtual 76, 3) := by decide +kernel
theorem dX11_wouldBe_12 : decode cX11_wouldBe 12 = .ok (.astore_n 2, 1) := by decide +kernel
theorem dX11_wouldBe_13 : decode cX11_wouldBe 13 = .ok (.aload_n 0, 1) := by decide +kernel
theorem dX11_wouldBe_14 : decode cX11_wouldBe 14 = .ok (.getfield 10, 3) := by decide +kernel
theorem dX11_wouldBe_17 : decode cX11_wouldBe 17 = .ok (.aload_n 2, 1) := by decide +kernel
theorem dX11_wouldBe_18 : decode cX11_wouldBe 18 = .ok (.invokevirtual 207, 3) := by decide +kernel
theorem dX11_wouldBe_21 : decode cX11_wouldBe 21 = .ok (.ifCond .ne 13, 3) := by decide +kernel
theorem dX11_wouldBe_24 : decode cX11_wouldBe 24 = .ok (.new 146, 3) := by decide +kernel
theorem dX11_wouldBe_27 : decode cX11_wouldBe 27 = .ok (.dup, 1) := by decide +kernel
theorem dX11_wouldBe_28 : decode cX11_wouldBe 28 = .ok (.ldc 211, 2) := by decide +kernel
theorem dX11_wouldBe_30 : decode cX11_wouldBe 30 = .ok (.invokespecial 150, 3) := by decide +kernel
theorem dX11_wouldBe_33 : decode cX11_wouldBe 33 = .ok (.athrow, 1) := by decide +kernel
theorem dX11_wouldBe_34 : decode cX11_wouldBe 34 = .ok (.aload_n 0, 1) := by decide +kernel
theorem dX11_wouldBe_35 : decode cX11_wouldBe 35 = .ok (.getfield 36, 3) := by decide +kernel
theorem dX11_wouldBe_38 : decode cX11_wouldBe 38 = .ok (.getfield 213, 3) := by decide +kernel
theorem dX11_wouldBe_41 : decode cX11_wouldBe 41 = .ok (.aload_n 0, 1) := by decide +kernel
theorem dX11_wouldBe_42 : decode cX11_wouldBe 42 = .ok (.getfield 10, 3) := by decide +kernel
theorem dX11_wouldBe_45 : decode cX11_wouldBe 45 = .ok (.aload_n 2, 1) := by decide +kernel
theorem dX11_wouldBe_46 : decode cX11_wouldBe 46 = .ok (.invokevirtual 217, 3) := by decide +kernel
theorem dX11_wouldBe_49 : decode cX11_wouldBe 49 = .ok (.ireturn, 1) := by decide +kernel
theorem dX11_endsAfter_0 : decode cX11_endsAfter 0 = .ok (.aload_n 0, 1) := by decide +kernel
theorem dX11_endsAfter_1 : decode cX11_endsAfter 1 = .ok (.iload_n 1, 1) := by decide +kernel
theorem dX11_endsAfter_2 : decode cX11_endsAfter 2 = .ok (.invokevirtual 169, 3) := by decide +kernel
theorem dX11_endsAfter_5 : decode cX11_endsAfter 5 = .ok (.aload_n 0, 1) := by decide +kernel
theorem dX11_endsAfter_6 : decode cX11_endsAfter 6 = .ok (.getfield 10, 3) := by decide +kernel
theorem dX11_endsAfter_9 : decode cX11_endsAfter 9 = .ok (.iload_n 1, 1) := by decide +kernel
theorem dX11_endsAfter_10 : decode cX11_endsAfter 10 = .ok (.invokevirtual 172, 3) := by decide +kernel
theorem dX11_endsAfter_13 : decode cX11_endsAfter 13 = .ok (.getfield 223, 3) := by decide +kernel
theorem dX11_endsAfter_16 : decode cX11_endsAfter 16 = .ok (.istore_n 2, 1) := by decide +kernel
theorem dX11_endsAfter_17 : decode cX11_endsAfter 17 = .ok (.iload_n 2, 1) := by decide +kernel
theorem dX11_endsAfter_18 : decode cX11_endsAfter 18 = .ok (.iconst 2, 1) := by decide +kernel
theorem dX11_endsAfter_19 : decode cX11_endsAfter 19 = .ok (.if_icmp .ne 5, 3) := by decide +kernel
theorem dX11_endsAfter_22 : decode cX11_endsAfter 22 = .ok (.iconst 0, 1) := by decide +kernel
theorem dX11_endsAfter_23 : decode cX11_endsAfter 23 = .ok (.ireturn, 1) := by decide +kernel
theorem dX11_endsAfter_24 : decode cX11_endsAfter 24 = .ok (.iload_n 2, 1) := by decide +kernel
theorem dX11_endsAfter_25 : decode cX11_endsAfter 25 = .ok (.iconst 3, 1) := by decide +kernel
theorem dX11_endsAfter_26 : decode cX11_endsAfter 26 = .ok (.if_icmp .ne 13, 3) := by decide +kernel
theorem dX11_endsAfter_29 : decode cX11_endsAfter 29 = .ok (.new 146, 3) := by decide +kernel
theorem dX11_endsAfter_32 : decode cX11_endsAfter 32 = .ok (.dup, 1) := by decide +kernel
theorem dX11_endsAfter_33 : decode cX11_endsAfter 33 = .ok (.ldc 226, 2) := by decide +kernel
theorem dX11_endsAfter_35 : decode cX11_endsAfter 35 = .ok (.invokespecial 150, 3) := by decide +kernel
theorem dX11_endsAfter_38 : decode cX11_endsAfter 38 = .ok (.athrow, 1) := by decide +kernel
theorem dX11_endsAfter_39 : decode cX11_endsAfter 39 = .ok (.aload_n 0, 1) := by decide +kernel
theorem dX11_endsAfter_40 : decode cX11_endsAfter 40 = .ok (.getfield 16, 3) := by decide +kernel
theorem dX11_endsAfter_43 : decode cX11_endsAfter 43 = .ok (.aload_n 0, 1) := by decide +kernel
theorem dX11_endsAfter_44 : decode cX11_endsAfter 44 = .ok (.getfield 10, 3) := by decide +kernel
theorem dX11_endsAfter_47 : decode cX11_endsAfter 47 = .ok (.invokevirtual 228, 3) := by decide +kernel
theorem dX11_endsAfter_50 : decode cX11_endsAfter 50 = .ok (.iconst 1, 1) := by decide +kernel
theorem dX11_endsAfter_51 : decode cX11_endsAfter 51 = .ok (.istore_n 3, 1) := by decide +kernel
theorem dX11_endsAfter_52 : decode cX11_endsAfter 52 = .ok (.iload_n 3, 1) := by decide +kernel
theorem dX11_endsAfter_53 : decode cX11_endsAfter 53 = .ok (.sipush 200, 3) := by decide +kernel
theorem dX11_endsAfter_56 : decode cX11_endsAfter 56 = .ok (.if_icmp .gt 37, 3) := by decide +kernel
theorem dX11_endsAfter_59 : decode cX11_endsAfter 59 = .ok (.aload_n 0, 1) := by decide +kernel
theorem dX11_endsAfter_60 : decode cX11_endsAfter 60 = .ok (.getfield 36, 3) := by decide +kernel
theorem dX11_endsAfter_63 : decode cX11_endsAfter 63 = .ok (.aload_n 0, 1) := by decide +kernel
theorem dX11_endsAfter_64 : decode cX11_endsAfter 64 = .ok (.getfield 16, 3) := by decide +kernel
theorem dX11_endsAfter_67 : decode cX11_endsAfter 67 = .ok (.invokevirtual 193, 3) := by decide +kernel
theorem dX11_endsAfter_70 : decode cX11_endsAfter 70 = .ok (.aload_n 0, 1) := by decide +kernel
theorem dX11_endsAfter_71 : decode cX11_endsAfter 71 = .ok (.getfield 16, 3) := by decide +kernel
theorem dX11_endsAfter_74 : decode cX11_endsAfter 74 = .ok (.iload_n 1, 1) := by decide +kernel
theorem dX11_endsAfter_75 : decode cX11_endsAfter 75 = .ok (.invokevirtual 172, 3) := by decide +kernel
theorem dX11_endsAfter_78 : decode cX11_endsAfter 78 = .ok (.getfield 223, 3) := by decide +kernel
theorem dX11_endsAfter_81 : decode cX11_endsAfter 81 = .ok (.iconst 2, 1) := by decide +kernel
theorem dX11_endsAfter_82 : decode cX11_endsAfter 82 = .ok (.if_icmp .ne 5, 3) := by decide +kernel
theorem dX11_endsAfter_85 : decode cX11_endsAfter 85 = .ok (.iload_n 3, 1) := by decide +kernel
theorem dX11_endsAfter_86 : decode cX11_endsAfter 86 = .ok (.ireturn, 1) := by decide +kernel
theorem dX11_endsAfter_87 : decode cX11_endsAfter 87 = .ok (.iinc 3 1, 3) := by decide +kernel
theorem dX11_endsAfter_90 : decode cX11_endsAfter 90 = .ok (.goto (-38), 3) := by decide +kernel
theorem dX11_endsAfter_93 : decode cX11_endsAfter 93 = .ok (.new 146, 3) := by decide +kernel
theorem dX11_endsAfter_96 : decode cX11_endsAfter 96 = .ok (.dup, 1) := by decide +kernel
theorem dX11_endsAfter_97 : decode cX11_endsAfter 97 = .ok (.ldc 231, 2) := by decide +kernel
theorem dX11_endsAfter_99 : decode cX11_endsAfter 99 = .ok (.invokespecial 150, 3) := by decide +kernel
theorem dX11_endsAfter_102 : decode cX11_endsAfter 102 = .ok (.athrow, 1) := by decide +kernel
theorem dX11_idleAfter_0 : decode cX11_idleAfter 0 = .ok (.aload_n 0, 1) := by decide +kernel
theorem dX11_idleAfter_1 : decode cX11_idleAfter 1 = .ok (.getfield 16, 3) := by decide +kernel
theorem dX11_idleAfter_4 : decode cX11_idleAfter 4 = .ok (.aload_n 0, 1) := by decide +kernel
theorem dX11_idleAfter_5 : decode cX11_idleAfter 5 = .ok (.getfield 10, 3) := by decide +kernel
theorem dX11_idleAfter_8 : decode cX11_idleAfter 8 = .ok (.invokevirtual 228, 3) := by decide +kernel
theorem dX11_idleAfter_11 : decode cX11_idleAfter 11 = .ok (.iconst 0, 1) := by decide +kernel
theorem dX11_idleAfter_12 : decode cX11_idleAfter 12 = .ok (.istore_n 1, 1) := by decide +kernel
theorem dX11_idleAfter_13 : decode cX11_idleAfter 13 = .ok (.iload_n 1, 1) := by decide +kernel
theorem dX11_idleAfter_14 : decode cX11_idleAfter 14 = .ok (.sipush 200, 3) := by decide +kernel
theorem dX11_idleAfter_17 : decode cX11_idleAfter 17 = .ok (.if_icmp .gt 32, 3) := by decide +kernel
theorem dX11_idleAfter_20 : decode cX11_idleAfter 20 = .ok (.aload_n 0, 1) := by decide +kernel
theorem dX11_idleAfter_21 : decode cX11_idleAfter 21 = .ok (.getfield 16, 3) := by decide +kernel
theorem dX11_idleAfter_24 : decode cX11_idleAfter 24 = .ok (.invokevirtual 233, 3) := by decide +kernel
theorem dX11_idleAfter_27 : decode cX11_idleAfter 27 = .ok (.ifCond .eq 5, 3) := by decide +kernel
theorem dX11_idleAfter_30 : decode cX11_idleAfter 30 = .ok (.iload_n 1, 1) := by decide +kernel
theorem dX11_idleAfter_31 : decode cX11_idleAfter 31 = .ok (.ireturn, 1) := by decide +kernel
theorem dX11_idleAfter_32 : decode cX11_idleAfter 32 = .ok (.aload_n 0, 1) := by decide +kernel
theorem dX11_idleAfter_33 : decode cX11_idleAfter 33 = .ok (.getfield 36, 3) := by decide +kernel
theorem dX11_idleAfter_36 : decode cX11_idleAfter 36 = .ok (.aload_n 0, 1) := by decide +kernel
theorem dX11_idleAfter_37 : decode cX11_idleAfter 37 = .ok (.getfield 16, 3) := by decide +kernel
theorem dX11_idleAfter_40 : decode cX11_idleAfter 40 = .ok (.invokevirtual 193, 3) := by decide +kernel
theorem dX11_idleAfter_43 : decode cX11_idleAfter 43 = .ok (.iinc 1 1, 3) := by decide +kernel
theorem dX11_idleAfter_46 : decode cX11_idleAfter 46 = .ok (.goto (-33), 3) := by decide +kernel
theorem dX11_idleAfter_49 : decode cX11_idleAfter 49 = .ok (.new 146, 3) := by decide +kernel
theorem dX11_idleAfter_52 : decode cX11_idleAfter 52 = .ok (.dup, 1) := by decide +kernel
theorem dX11_idleAfter_53 : decode cX11_idleAfter 53 = .ok (.ldc 236, 2) := by decide +kernel
theorem dX11_idleAfter_55 : decode cX11_idleAfter 55 = .ok (.invokespecial 150, 3) := by decide +kernel
theorem dX11_idleAfter_58 : decode cX11_idleAfter 58 = .ok (.athrow, 1) := by decide +kernel
theorem dX11_isSafe_0 : decode cX11_isSafe 0 = .ok (.aload_n 0, 1) := by decide +kernel
theorem dX11_isSafe_1 : decode cX11_isSafe 1 = .ok (.getfield 36, 3) := by decide +kernel
theorem dX11_isSafe_4 : decode cX11_isSafe 4 = .ok (.getfield 213, 3) := by decide +kernel
theorem dX11_isSafe_7 : decode cX11_isSafe 7 = .ok (.aload_n 0, 1) := by decide +kernel
theorem dX11_isSafe_8 : decode cX11_isSafe 8 = .ok (.getfield 10, 3) := by decide +kernel
theorem dX11_isSafe_11 : decode cX11_isSafe 11 = .ok (.invokevirtual 238, 3) := by decide +kernel
theorem dX11_isSafe_14 : decode cX11_isSafe 14 = .ok (.ireturn, 1) := by decide +kernel
theorem dX11_entry_0 : decode cX11_entry 0 = .ok (.iload_n 1, 1) := by decide +kernel
theorem dX11_entry_1 : decode cX11_entry 1 = .ok (.iconst 0, 1) := by decide +kernel
theorem dX11_entry_2 : decode cX11_entry 2 = .ok (.aload_n 0, 1) := by decide +kernel
theorem dX11_entry_3 : decode cX11_entry 3 = .ok (.getfield 10, 3) := by decide +kernel
theorem dX11_entry_6 : decode cX11_entry 6 = .ok (.getfield 242, 3) := by decide +kernel
theorem dX11_entry_9 : decode cX11_entry 9 = .ok (.invokevirtual 246, 3) := by decide +kernel
theorem dX11_entry_12 : decode cX11_entry 12 = .ok (.iconst 1, 1) := by decide +kernel
theorem dX11_entry_13 : decode cX11_entry 13 = .ok (.isub, 1) := by decide +kernel
theorem dX11_entry_14 : decode cX11_entry 14 = .ok (.invokestatic 89, 3) := by decide +kernel
theorem dX11_entry_17 : decode cX11_entry 17 = .ok (.ifCond .ne 13, 3) := by decide +kernel
theorem dX11_entry_20 : decode cX11_entry 20 = .ok (.new 130, 3) := by decide +kernel
theorem dX11_entry_23 : decode cX11_entry 23 = .ok (.dup, 1) := by decide +kernel
theorem dX11_entry_24 : decode cX11_entry 24 = .ok (.ldc 251, 2) := by decide +kernel
theorem dX11_entry_26 : decode cX11_entry 26 = .ok (.invokespecial 134, 3) := by decide +kernel
theorem dX11_entry_29 : decode cX11_entry 29 = .ok (.athrow, 1) := by decide +kernel
theorem dX11_entry_30 : decode cX11_entry 30 = .ok (.iload_n 2, 1) := by decide +kernel
theorem dX11_entry_31 : decode cX11_entry 31 = .ok (.iconst 3, 1) := by decide +kernel
theorem dX11_entry_32 : decode cX11_entry 32 = .ok (.invokestatic 72, 3) := by decide +kernel
theorem dX11_entry_35 : decode cX11_entry 35 = .ok (.aload_n 0, 1) := by decide +kernel
theorem dX11_entry_36 : decode cX11_entry 36 = .ok (.getfield 10, 3) := by decide +kernel
theorem dX11_entry_39 : decode cX11_entry 39 = .ok (.getfield 242, 3) := by decide +kernel
theorem dX11_entry_42 : decode cX11_entry 42 = .ok (.iload_n 1, 1) := by decide +kernel
theorem dX11_entry_43 : decode cX11_entry 43 = .ok (.iload_n 2, 1) := by decide +kernel
theorem dX11_entry_44 : decode cX11_entry 44 = .ok (.invokevirtual 253, 3) := by decide +kernel
theorem dX11_entry_47 : decode cX11_entry 47 = .ok (.ireturn, 1) := by decide +kernel
theorem dX11_account_0 : decode cX11_account 0 = .ok (.iload_n 1, 1) := by decide +kernel
theorem dX11_account_1 : decode cX11_account 1 = .ok (.bipush 9, 2) := by decide +kernel
theorem dX11_account_3 : decode cX11_account 3 = .ok (.invokestatic 72, 3) := by decide +kernel
theorem dX11_account_6 : decode cX11_account 6 = .ok (.aload_n 0, 1) := by decide +kernel
theorem dX11_account_7 : decode cX11_account 7 = .ok (.getfield 10, 3) := by decide +kernel
theorem dX11_account_10 : decode cX11_account 10 = .ok (.iload_n 1, 1) := by decide +kernel
theorem dX11_account_11 : decode cX11_account 11 = .ok (.invokevirtual 256, 3) := by decide +kernel
theorem dX11_account_14 : decode cX11_account 14 = .ok (.ireturn, 1) := by decide +kernel
theorem dX11_use_0 : decode cX11_use 0 = .ok (.iload_n 1, 1) := by decide +kernel
theorem dX11_use_1 : decode cX11_use 1 = .ok (.invokestatic 69, 3) := by decide +kernel
theorem dX11_use_4 : decode cX11_use 4 = .ok (.aload_n 0, 1) := by decide +kernel
theorem dX11_use_5 : decode cX11_use 5 = .ok (.getfield 10, 3) := by decide +kernel
theorem dX11_use_8 : decode cX11_use 8 = .ok (.getfield 259, 3) := by decide +kernel
theorem dX11_use_11 : decode cX11_use 11 = .ok (.ifCond .ne 14, 3) := by decide +kernel
theorem dX11_use_14 : decode cX11_use 14 = .ok (.new 262, 3) := by decide +kernel
theorem dX11_use_17 : decode cX11_use 17 = .ok (.dup, 1) := by decide +kernel
theorem dX11_use_18 : decode cX11_use 18 = .ok (.ldc_w 264, 3) := by decide +kernel
theorem dX11_use_21 : decode cX11_use 21 = .ok (.invokespecial 266, 3) := by decide +kernel
theorem dX11_use_24 : decode cX11_use 24 = .ok (.athrow, 1) := by decide +kernel
theorem dX11_use_25 : decode cX11_use 25 = .ok (.aload_n 0, 1) := by decide +kernel
theorem dX11_use_26 : decode cX11_use 26 = .ok (.getfield 10, 3) := by decide +kernel
theorem dX11_use_29 : decode cX11_use 29 = .ok (.iload_n 1, 1) := by decide +kernel
theorem dX11_use_30 : decode cX11_use 30 = .ok (.invokevirtual 76, 3) := by decide +kernel
theorem dX11_use_33 : decode cX11_use 33 = .ok (.getfield 267, 3) := by decide +kernel
theorem dX11_use_36 : decode cX11_use 36 = .ok (.i2f, 1) := by decide +kernel
theorem dX11_use_37 : decode cX11_use 37 = .ok (.aload_n 0, 1) := by decide +kernel
theorem dX11_use_38 : decode cX11_use 38 = .ok (.getfield 10, 3) := by decide +kernel
theorem dX11_use_41 : decode cX11_use 41 = .ok (.getfield 259, 3) := by decide +kernel
theorem dX11_use_44 : decode cX11_use 44 = .ok (.i2f, 1) := by decide +kernel
theorem dX11_use_45 : decode cX11_use 45 = .ok (.fdiv, 1) := by decide +kernel
theorem dX11_use_46 : decode cX11_use 46 = .ok (.freturn, 1) := by decide +kernel
theorem dX11_meanDuration_0 : decode cX11_meanDuration 0 = .ok (.aload_n 0, 1) := by decide +kernel
theorem dX11_meanDuration_1 : decode cX11_meanDuration 1 = .ok (.getfield 10, 3) := by decide +kernel
theorem dX11_meanDuration_4 : decode cX11_meanDuration 4 = .ok (.getfield 190, 3) := by decide +kernel
theorem dX11_meanDuration_7 : decode cX11_meanDuration 7 = .ok (.ifCond .ne 14, 3) := by decide +kernel
theorem dX11_meanDuration_10 : decode cX11_meanDuration 10 = .ok (.new 262, 3) := by decide +kernel
theorem dX11_meanDuration_13 : decode cX11_meanDuration 13 = .ok (.dup, 1) := by decide +kernel
theorem dX11_meanDuration_14 : decode cX11_meanDuration 14 = .ok (.ldc_w 270, 3) := by decide +kernel
theorem dX11_meanDuration_17 : decode cX11_meanDuration 17 = .ok (.invokespecial 266, 3) := by decide +kernel
theorem dX11_meanDuration_20 : decode cX11_meanDuration 20 = .ok (.athrow, 1) := by decide +kernel
theorem dX11_meanDuration_21 : decode cX11_meanDuration 21 = .ok (.aload_n 0, 1) := by decide +kernel
theorem dX11_meanDuration_22 : decode cX11_meanDuration 22 = .ok (.getfield 10, 3) := by decide +kernel
theorem dX11_meanDuration_25 : decode cX11_meanDuration 25 = .ok (.getfield 272, 3) := by decide +kernel
theorem dX11_meanDuration_28 : decode cX11_meanDuration 28 = .ok (.i2d, 1) := by decide +kernel
theorem dX11_meanDuration_29 : decode cX11_meanDuration 29 = .ok (.aload_n 0, 1) := by decide +kernel
theorem dX11_meanDuration_30 : decode cX11_meanDuration 30 = .ok (.getfield 10, 3) := by decide +kernel
theorem dX11_meanDuration_33 : decode cX11_meanDuration 33 = .ok (.getfield 190, 3) := by decide +kernel
theorem dX11_meanDuration_36 : decode cX11_meanDuration 36 = .ok (.i2d, 1) := by decide +kernel
theorem dX11_meanDuration_37 : decode cX11_meanDuration 37 = .ok (.ddiv, 1) := by decide +kernel
theorem dX11_meanDuration_38 : decode cX11_meanDuration 38 = .ok (.dreturn, 1) := by decide +kernel
theorem dX11_feed_0 : decode cX11_feed 0 = .ok (.aload_n 0, 1) := by decide +kernel
theorem dX11_feed_1 : decode cX11_feed 1 = .ok (.getfield 43, 3) := by decide +kernel
theorem dX11_feed_4 : decode cX11_feed 4 = .ok (.invokevirtual 275, 3) := by decide +kernel
theorem dX11_feed_7 : decode cX11_feed 7 = .ok (.ifCond .eq 14, 3) := by decide +kernel
theorem dX11_feed_10 : decode cX11_feed 10 = .ok (.new 110, 3) := by decide +kernel
theorem dX11_feed_13 : decode cX11_feed 13 = .ok (.dup, 1) := by decide +kernel
theorem dX11_feed_14 : decode cX11_feed 14 = .ok (.ldc_w 278, 3) := by decide +kernel
theorem dX11_feed_17 : decode cX11_feed 17 = .ok (.invokespecial 114, 3) := by decide +kernel
theorem dX11_feed_20 : decode cX11_feed 20 = .ok (.athrow, 1) := by decide +kernel
theorem dX11_feed_21 : decode cX11_feed 21 = .ok (.aload_n 0, 1) := by decide +kernel
theorem dX11_feed_22 : decode cX11_feed 22 = .ok (.getfield 43, 3) := by decide +kernel
theorem dX11_feed_25 : decode cX11_feed 25 = .ok (.iload_n 1, 1) := by decide +kernel
theorem dX11_feed_26 : decode cX11_feed 26 = .ok (.invokevirtual 280, 3) := by decide +kernel
theorem dX11_feed_29 : decode cX11_feed 29 = .ok (.ireturn, 1) := by decide +kernel
theorem dX11_perform_0 : decode cX11_perform 0 = .ok (.aload_n 0, 1) := by decide +kernel
theorem dX11_perform_1 : decode cX11_perform 1 = .ok (.getfield 43, 3) := by decide +kernel
theorem dX11_perform_4 : decode cX11_perform 4 = .ok (.invokevirtual 284, 3) := by decide +kernel
theorem dX11_perform_7 : decode cX11_perform 7 = .ok (.istore_n 1, 1) := by decide +kernel
theorem dX11_perform_8 : decode cX11_perform 8 = .ok (.iload_n 1, 1) := by decide +kernel
theorem dX11_perform_9 : decode cX11_perform 9 = .ok (.iconst (-1), 1) := by decide +kernel
theorem dX11_perform_10 : decode cX11_perform 10 = .ok (.if_icmp .eq 8, 3) := by decide +kernel
theorem dX11_perform_13 : decode cX11_perform 13 = .ok (.bipush (-100), 2) := by decide +kernel
theorem dX11_perform_15 : decode cX11_perform 15 = .ok (.iload_n 1, 1) := by decide +kernel
theorem dX11_perform_16 : decode cX11_perform 16 = .ok (.isub, 1) := by decide +kernel
theorem dX11_perform_17 : decode cX11_perform 17 = .ok (.ireturn, 1) := by decide +kernel
theorem dX11_perform_18 : decode cX11_perform 18 = .ok (.aload_n 0, 1) := by decide +kernel
theorem dX11_perform_19 : decode cX11_perform 19 = .ok (.getfield 16, 3) := by decide +kernel
theorem dX11_perform_22 : decode cX11_perform 22 = .ok (.aload_n 0, 1) := by decide +kernel
theorem dX11_perform_23 : decode cX11_perform 23 = .ok (.getfield 10, 3) := by decide +kernel
theorem dX11_perform_26 : decode cX11_perform 26 = .ok (.invokevirtual 228, 3) := by decide +kernel
theorem dX11_perform_29 : decode cX11_perform 29 = .ok (.iconst 0, 1) := by decide +kernel
theorem dX11_perform_30 : decode cX11_perform 30 = .ok (.istore_n 2, 1) := by decide +kernel
theorem dX11_perform_31 : decode cX11_perform 31 = .ok (.iload_n 2, 1) := by decide +kernel
theorem dX11_perform_32 : decode cX11_perform 32 = .ok (.aload_n 0, 1) := by decide +kernel
theorem dX11_perform_33 : decode cX11_perform 33 = .ok (.getfield 43, 3) := by decide +kernel
theorem dX11_perform_36 : decode cX11_perform 36 = .ok (.getfield 287, 3) := by decide +kernel
theorem dX11_perform_39 : decode cX11_perform 39 = .ok (.if_icmp .ge 35, 3) := by decide +kernel
theorem dX11_perform_42 : decode cX11_perform 42 = .ok (.aload_n 0, 1) := by decide +kernel
theorem dX11_perform_43 : decode cX11_perform 43 = .ok (.aload_n 0, 1) := by decide +kernel
theorem dX11_perform_44 : decode cX11_perform 44 = .ok (.getfield 43, 3) := by decide +kernel
theorem dX11_perform_47 : decode cX11_perform 47 = .ok (.iload_n 2, 1) := by decide +kernel
theorem dX11_perform_48 : decode cX11_perform 48 = .ok (.invokevirtual 288, 3) := by decide +kernel
theorem dX11_perform_51 : decode cX11_perform 51 = .ok (.invokevirtual 292, 3) := by decide +kernel
theorem dX11_perform_54 : decode cX11_perform 54 = .ok (.ifCond .ne 14, 3) := by decide +kernel
theorem dX11_perform_57 : decode cX11_perform 57 = .ok (.new 296, 3) := by decide +kernel
theorem dX11_perform_60 : decode cX11_perform 60 = .ok (.dup, 1) := by decide +kernel
theorem dX11_perform_61 : decode cX11_perform 61 = .ok (.ldc_w 298, 3) := by decide +kernel
theorem dX11_perform_64 : decode cX11_perform 64 = .ok (.invokespecial 300, 3) := by decide +kernel
theorem dX11_perform_67 : decode cX11_perform 67 = .ok (.athrow, 1) := by decide +kernel
theorem dX11_perform_68 : decode cX11_perform 68 = .ok (.iinc 2 1, 3) := by decide +kernel
theorem dX11_perform_71 : decode cX11_perform 71 = .ok (.goto (-40), 3) := by decide +kernel
theorem dX11_perform_74 : decode cX11_perform 74 = .ok (.aload_n 0, 1) := by decide +kernel
theorem dX11_perform_75 : decode cX11_perform 75 = .ok (.getfield 29, 3) := by decide +kernel
theorem dX11_perform_78 : decode cX11_perform 78 = .ok (.aload_n 0, 1) := by decide +kernel
theorem dX11_perform_79 : decode cX11_perform 79 = .ok (.getfield 10, 3) := by decide +kernel
theorem dX11_perform_82 : decode cX11_perform 82 = .ok (.invokevirtual 55, 3) := by decide +kernel
theorem dX11_perform_85 : decode cX11_perform 85 = .ok (.aload_n 0, 1) := by decide +kernel
theorem dX11_perform_86 : decode cX11_perform 86 = .ok (.getfield 10, 3) := by decide +kernel
theorem dX11_perform_89 : decode cX11_perform 89 = .ok (.aload_n 0, 1) := by decide +kernel
theorem dX11_perform_90 : decode cX11_perform 90 = .ok (.getfield 16, 3) := by decide +kernel
theorem dX11_perform_93 : decode cX11_perform 93 = .ok (.invokevirtual 228, 3) := by decide +kernel
theorem dX11_perform_96 : decode cX11_perform 96 = .ok (.aload_n 0, 1) := by decide +kernel
theorem dX11_perform_97 : decode cX11_perform 97 = .ok (.getfield 43, 3) := by decide +kernel
theorem dX11_perform_100 : decode cX11_perform 100 = .ok (.getfield 287, 3) := by decide +kernel
theorem dX11_perform_103 : decode cX11_perform 103 = .ok (.ireturn, 1) := by decide +kernel
theorem dX11_undo_0 : decode cX11_undo 0 = .ok (.aload_n 0, 1) := by decide +kernel
theorem dX11_undo_1 : decode cX11_undo 1 = .ok (.getfield 29, 3) := by decide +kernel
theorem dX11_undo_4 : decode cX11_undo 4 = .ok (.getfield 301, 3) := by decide +kernel
theorem dX11_undo_7 : decode cX11_undo 7 = .ok (.ifCond .ne 14, 3) := by decide +kernel
theorem dX11_undo_10 : decode cX11_undo 10 = .ok (.new 110, 3) := by decide +kernel
theorem dX11_undo_13 : decode cX11_undo 13 = .ok (.dup, 1) := by decide +kernel
theorem dX11_undo_14 : decode cX11_undo 14 = .ok (.ldc_w 302, 3) := by decide +kernel
theorem dX11_undo_17 : decode cX11_undo 17 = .ok (.invokespecial 114, 3) := by decide +kernel
theorem dX11_undo_20 : decode cX11_undo 20 = .ok (.athrow, 1) := by decide +kernel
theorem dX11_undo_21 : decode cX11_undo 21 = .ok (.aload_n 0, 1) := by decide +kernel
theorem dX11_undo_22 : decode cX11_undo 22 = .ok (.getfield 29, 3) := by decide +kernel
theorem dX11_undo_25 : decode cX11_undo 25 = .ok (.aload_n 0, 1) := by decide +kernel
theorem dX11_undo_26 : decode cX11_undo 26 = .ok (.getfield 10, 3) := by decide +kernel
theorem dX11_undo_29 : decode cX11_undo 29 = .ok (.invokevirtual 304, 3) := by decide +kernel
theorem dX11_undo_32 : decode cX11_undo 32 = .ok (.ireturn, 1) := by decide +kernel
theorem dX11_save_0 : decode cX11_save 0 = .ok (.aload_n 0, 1) := by decide +kernel
theorem dX11_save_1 : decode cX11_save 1 = .ok (.getfield 19, 3) := by decide +kernel
theorem dX11_save_4 : decode cX11_save 4 = .ok (.aload_n 0, 1) := by decide +kernel
theorem dX11_save_5 : decode cX11_save 5 = .ok (.getfield 10, 3) := by decide +kernel
theorem dX11_save_8 : decode cX11_save 8 = .ok (.invokevirtual 228, 3) := by decide +kernel
theorem dX11_save_11 : decode cX11_save 11 = .ok (.aload_n 0, 1) := by decide +kernel
theorem dX11_save_12 : decode cX11_save 12 = .ok (.iconst 1, 1) := by decide +kernel
theorem dX11_save_13 : decode cX11_save 13 = .ok (.putfield 22, 3) := by decide +kernel
theorem dX11_save_16 : decode cX11_save 16 = .ok (.aload_n 0, 1) := by decide +kernel
theorem dX11_save_17 : decode cX11_save 17 = .ok (.getfield 10, 3) := by decide +kernel
theorem dX11_save_20 : decode cX11_save 20 = .ok (.getfield 259, 3) := by decide +kernel
theorem dX11_save_23 : decode cX11_save 23 = .ok (.ireturn, 1) := by decide +kernel
theorem dX11_restore_0 : decode cX11_restore 0 = .ok (.aload_n 0, 1) := by decide +kernel
theorem dX11_restore_1 : decode cX11_restore 1 = .ok (.getfield 22, 3) := by decide +kernel
theorem dX11_restore_4 : decode cX11_restore 4 = .ok (.ifCond .ne 14, 3) := by decide +kernel
theorem dX11_restore_7 : decode cX11_restore 7 = .ok (.new 110, 3) := by decide +kernel
theorem dX11_restore_10 : decode cX11_restore 10 = .ok (.dup, 1) := by decide +kernel
theorem dX11_restore_11 : decode cX11_restore 11 = .ok (.ldc_w 308, 3) := by decide +kernel
theorem dX11_restore_14 : decode cX11_restore 14 = .ok (.invokespecial 114, 3) := by decide +kernel
theorem dX11_restore_17 : decode cX11_restore 17 = .ok (.athrow, 1) := by decide +kernel
theorem dX11_restore_18 : decode cX11_restore 18 = .ok (.aload_n 0, 1) := by decide +kernel
theorem dX11_restore_19 : decode cX11_restore 19 = .ok (.getfield 10, 3) := by decide +kernel
theorem dX11_restore_22 : decode cX11_restore 22 = .ok (.aload_n 0, 1) := by decide +kernel
theorem dX11_restore_23 : decode cX11_restore 23 = .ok (.getfield 19, 3) := by decide +kernel
theorem dX11_restore_26 : decode cX11_restore 26 = .ok (.invokevirtual 228, 3) := by decide +kernel
theorem dX11_restore_29 : decode cX11_restore 29 = .ok (.aload_n 0, 1) := by decide +kernel
theorem dX11_restore_30 : decode cX11_restore 30 = .ok (.getfield 29, 3) := by decide +kernel
theorem dX11_restore_33 : decode cX11_restore 33 = .ok (.invokevirtual 310, 3) := by decide +kernel
theorem dX11_restore_36 : decode cX11_restore 36 = .ok (.aload_n 0, 1) := by decide +kernel
theorem dX11_restore_37 : decode cX11_restore 37 = .ok (.getfield 10, 3) := by decide +kernel
theorem dX11_restore_40 : decode cX11_restore 40 = .ok (.getfield 259, 3) := by decide +kernel
theorem dX11_restore_43 : decode cX11_restore 43 = .ok (.ireturn, 1) := by decide +kernel
theorem dX11_carryOut_0 : decode cX11_carryOut 0 = .ok (.aload_n 1, 1) := by decide +kernel
theorem dX11_carryOut_1 : decode cX11_carryOut 1 = .ok (.getfield 313, 3) := by decide +kernel
theorem dX11_carryOut_4 : decode cX11_carryOut 4 = .ok (.lookupswitch 142 #[(0, 28), (1, 98)], 28) := by decide +kernel
theorem dX11_carryOut_32 : decode cX11_carryOut 32 = .ok (.aload_n 0, 1) := by decide +kernel
theorem dX11_carryOut_33 : decode cX11_carryOut 33 = .ok (.getfield 16, 3) := by decide +kernel
theorem dX11_carryOut_36 : decode cX11_carryOut 36 = .ok (.aload_n 1, 1) := by decide +kernel
theorem dX11_carryOut_37 : decode cX11_carryOut 37 = .ok (.getfield 318, 3) := by decide +kernel
theorem dX11_carryOut_40 : decode cX11_carryOut 40 = .ok (.aload_n 1, 1) := by decide +kernel
theorem dX11_carryOut_41 : decode cX11_carryOut 41 = .ok (.getfield 321, 3) := by decide +kernel
theorem dX11_carryOut_44 : decode cX11_carryOut 44 = .ok (.aload_n 1, 1) := by decide +kernel
theorem dX11_carryOut_45 : decode cX11_carryOut 45 = .ok (.getfield 324, 3) := by decide +kernel
theorem dX11_carryOut_48 : decode cX11_carryOut 48 = .ok (.aload_n 1, 1) := by decide +kernel
theorem dX11_carryOut_49 : decode cX11_carryOut 49 = .ok (.getfield 327, 3) := by decide +kernel
theorem dX11_carryOut_52 : decode cX11_carryOut 52 = .ok (.aload_n 1, 1) := by decide +kernel
theorem dX11_carryOut_53 : decode cX11_carryOut 53 = .ok (.getfield 330, 3) := by decide +kernel
theorem dX11_carryOut_56 : decode cX11_carryOut 56 = .ok (.aload_n 1, 1) := by decide +kernel
theorem dX11_carryOut_57 : decode cX11_carryOut 57 = .ok (.getfield 333, 3) := by decide +kernel
theorem dX11_carryOut_60 : decode cX11_carryOut 60 = .ok (.invokevirtual 154, 3) := by decide +kernel
theorem dX11_carryOut_63 : decode cX11_carryOut 63 = .ok (.ifCond .eq 5, 3) := by decide +kernel
theorem dX11_carryOut_66 : decode cX11_carryOut 66 = .ok (.iconst 0, 1) := by decide +kernel
theorem dX11_carryOut_67 : decode cX11_carryOut 67 = .ok (.ireturn, 1) := by decide +kernel
theorem dX11_carryOut_68 : decode cX11_carryOut 68 = .ok (.aload_n 0, 1) := by decide +kernel
theorem dX11_carryOut_69 : decode cX11_carryOut 69 = .ok (.getfield 16, 3) := by decide +kernel
theorem dX11_carryOut_72 : decode cX11_carryOut 72 = .ok (.aload_n 1, 1) := by decide +kernel
theorem dX11_carryOut_73 : decode cX11_carryOut 73 = .ok (.getfield 318, 3) := by decide +kernel
theorem dX11_carryOut_76 : decode cX11_carryOut 76 = .ok (.aload_n 1, 1) := by decide +kernel
theorem dX11_carryOut_77 : decode cX11_carryOut 77 = .ok (.getfield 321, 3) := by decide +kernel
theorem dX11_carryOut_80 : decode cX11_carryOut 80 = .ok (.aload_n 1, 1) := by decide +kernel
theorem dX11_carryOut_81 : decode cX11_carryOut 81 = .ok (.getfield 324, 3) := by decide +kernel
theorem dX11_carryOut_84 : decode cX11_carryOut 84 = .ok (.aload_n 1, 1) := by decide +kernel
theorem dX11_carryOut_85 : decode cX11_carryOut 85 = .ok (.getfield 327, 3) := by decide +kernel
theorem dX11_carryOut_88 : decode cX11_carryOut 88 = .ok (.aload_n 1, 1) := by decide +kernel
theorem dX11_carryOut_89 : decode cX11_carryOut 89 = .ok (.getfield 330, 3) := by decide +kernel
theorem dX11_carryOut_92 : decode cX11_carryOut 92 = .ok (.aload_n 1, 1) := by decide +kernel
theorem dX11_carryOut_93 : decode cX11_carryOut 93 = .ok (.getfield 333, 3) := by decide +kernel
theorem dX11_carryOut_96 : decode cX11_carryOut 96 = .ok (.invokevirtual 158, 3) := by decide +kernel
theorem dX11_carryOut_99 : decode cX11_carryOut 99 = .ok (.pop, 1) := by decide +kernel
theorem dX11_carryOut_100 : decode cX11_carryOut 100 = .ok (.iconst 1, 1) := by decide +kernel
theorem dX11_carryOut_101 : decode cX11_carryOut 101 = .ok (.ireturn, 1) := by decide +kernel
theorem dX11_carryOut_102 : decode cX11_carryOut 102 = .ok (.aload_n 1, 1) := by decide +kernel
theorem dX11_carryOut_103 : decode cX11_carryOut 103 = .ok (.getfield 336, 3) := by decide +kernel
theorem dX11_carryOut_106 : decode cX11_carryOut 106 = .ok (.iconst 1, 1) := by decide +kernel
theorem dX11_carryOut_107 : decode cX11_carryOut 107 = .ok (.bipush 50, 2) := by decide +kernel
theorem dX11_carryOut_109 : decode cX11_carryOut 109 = .ok (.invokestatic 89, 3) := by decide +kernel
theorem dX11_carryOut_112 : decode cX11_carryOut 112 = .ok (.ifCond .ne 5, 3) := by decide +kernel
theorem dX11_carryOut_115 : decode cX11_carryOut 115 = .ok (.iconst 0, 1) := by decide +kernel
theorem dX11_carryOut_116 : decode cX11_carryOut 116 = .ok (.ireturn, 1) := by decide +kernel
theorem dX11_carryOut_117 : decode cX11_carryOut 117 = .ok (.iconst 0, 1) := by decide +kernel
theorem dX11_carryOut_118 : decode cX11_carryOut 118 = .ok (.istore_n 2, 1) := by decide +kernel
theorem dX11_carryOut_119 : decode cX11_carryOut 119 = .ok (.iload_n 2, 1) := by decide +kernel
theorem dX11_carryOut_120 : decode cX11_carryOut 120 = .ok (.aload_n 1, 1) := by decide +kernel
theorem dX11_carryOut_121 : decode cX11_carryOut 121 = .ok (.getfield 336, 3) := by decide +kernel
theorem dX11_carryOut_124 : decode cX11_carryOut 124 = .ok (.if_icmp .ge 20, 3) := by decide +kernel
theorem dX11_carryOut_127 : decode cX11_carryOut 127 = .ok (.aload_n 0, 1) := by decide +kernel
theorem dX11_carryOut_128 : decode cX11_carryOut 128 = .ok (.getfield 36, 3) := by decide +kernel
theorem dX11_carryOut_131 : decode cX11_carryOut 131 = .ok (.aload_n 0, 1) := by decide +kernel
theorem dX11_carryOut_132 : decode cX11_carryOut 132 = .ok (.getfield 16, 3) := by decide +kernel
theorem dX11_carryOut_135 : decode cX11_carryOut 135 = .ok (.invokevirtual 193, 3) := by decide +kernel
theorem dX11_carryOut_138 : decode cX11_carryOut 138 = .ok (.iinc 2 1, 3) := by decide +kernel
theorem dX11_carryOut_141 : decode cX11_carryOut 141 = .ok (.goto (-22), 3) := by decide +kernel
theorem dX11_carryOut_144 : decode cX11_carryOut 144 = .ok (.iconst 1, 1) := by decide +kernel
theorem dX11_carryOut_145 : decode cX11_carryOut 145 = .ok (.ireturn, 1) := by decide +kernel
theorem dX11_carryOut_146 : decode cX11_carryOut 146 = .ok (.aload_n 0, 1) := by decide +kernel
theorem dX11_carryOut_147 : decode cX11_carryOut 147 = .ok (.getfield 16, 3) := by decide +kernel
theorem dX11_carryOut_150 : decode cX11_carryOut 150 = .ok (.getfield 59, 3) := by decide +kernel
theorem dX11_carryOut_153 : decode cX11_carryOut 153 = .ok (.aload_n 1, 1) := by decide +kernel
theorem dX11_carryOut_154 : decode cX11_carryOut 154 = .ok (.getfield 339, 3) := by decide +kernel
theorem dX11_carryOut_157 : decode cX11_carryOut 157 = .ok (.aload_n 1, 1) := by decide +kernel
theorem dX11_carryOut_158 : decode cX11_carryOut 158 = .ok (.getfield 342, 3) := by decide +kernel
theorem dX11_carryOut_161 : decode cX11_carryOut 161 = .ok (.invokevirtual 345, 3) := by decide +kernel
theorem dX11_carryOut_164 : decode cX11_carryOut 164 = .ok (.ifCond .ne 7, 3) := by decide +kernel
theorem dX11_carryOut_167 : decode cX11_carryOut 167 = .ok (.iconst 1, 1) := by decide +kernel
theorem dX11_carryOut_168 : decode cX11_carryOut 168 = .ok (.goto 4, 3) := by decide +kernel
theorem dX11_carryOut_171 : decode cX11_carryOut 171 = .ok (.iconst 0, 1) := by decide +kernel
theorem dX11_carryOut_172 : decode cX11_carryOut 172 = .ok (.istore_n 2, 1) := by decide +kernel
theorem dX11_carryOut_173 : decode cX11_carryOut 173 = .ok (.aload_n 0, 1) := by decide +kernel
theorem dX11_carryOut_174 : decode cX11_carryOut 174 = .ok (.getfield 16, 3) := by decide +kernel
theorem dX11_carryOut_177 : decode cX11_carryOut 177 = .ok (.aload_n 1, 1) := by decide +kernel
theorem dX11_carryOut_178 : decode cX11_carryOut 178 = .ok (.getfield 339, 3) := by decide +kernel
theorem dX11_carryOut_181 : decode cX11_carryOut 181 = .ok (.aload_n 1, 1) := by decide +kernel
theorem dX11_carryOut_182 : decode cX11_carryOut 182 = .ok (.getfield 342, 3) := by decide +kernel
theorem dX11_carryOut_185 : decode cX11_carryOut 185 = .ok (.iload_n 2, 1) := by decide +kernel
theorem dX11_carryOut_186 : decode cX11_carryOut 186 = .ok (.invokevirtual 47, 3) := by decide +kernel
theorem dX11_carryOut_189 : decode cX11_carryOut 189 = .ok (.ifCond .eq 5, 3) := by decide +kernel
theorem dX11_carryOut_192 : decode cX11_carryOut 192 = .ok (.iconst 0, 1) := by decide +kernel
theorem dX11_carryOut_193 : decode cX11_carryOut 193 = .ok (.ireturn, 1) := by decide +kernel
theorem dX11_carryOut_194 : decode cX11_carryOut 194 = .ok (.aload_n 0, 1) := by decide +kernel
theorem dX11_carryOut_195 : decode cX11_carryOut 195 = .ok (.getfield 16, 3) := by decide +kernel
theorem dX11_carryOut_198 : decode cX11_carryOut 198 = .ok (.getfield 59, 3) := by decide +kernel
theorem dX11_carryOut_201 : decode cX11_carryOut 201 = .ok (.aload_n 1, 1) := by decide +kernel
theorem dX11_carryOut_202 : decode cX11_carryOut 202 = .ok (.getfield 339, 3) := by decide +kernel
theorem dX11_carryOut_205 : decode cX11_carryOut 205 = .ok (.aload_n 1, 1) := by decide +kernel
theorem dX11_carryOut_206 : decode cX11_carryOut 206 = .ok (.getfield 342, 3) := by decide +kernel
theorem dX11_carryOut_209 : decode cX11_carryOut 209 = .ok (.iload_n 2, 1) := by decide +kernel
theorem dX11_carryOut_210 : decode cX11_carryOut 210 = .ok (.invokevirtual 63, 3) := by decide +kernel
theorem dX11_carryOut_213 : decode cX11_carryOut 213 = .ok (.pop, 1) := by decide +kernel
theorem dX11_carryOut_214 : decode cX11_carryOut 214 = .ok (.iconst 1, 1) := by decide +kernel
theorem dX11_carryOut_215 : decode cX11_carryOut 215 = .ok (.ireturn, 1) := by decide +kernel
theorem dX11_needJob_0 : decode cX11_needJob 0 = .ok (.iload_n 1, 1) := by decide +kernel
theorem dX11_needJob_1 : decode cX11_needJob 1 = .ok (.iconst 0, 1) := by decide +kernel
theorem dX11_needJob_2 : decode cX11_needJob 2 = .ok (.aload_n 0, 1) := by decide +kernel
theorem dX11_needJob_3 : decode cX11_needJob 3 = .ok (.getfield 10, 3) := by decide +kernel
theorem dX11_needJob_6 : decode cX11_needJob 6 = .ok (.getfield 349, 3) := by decide +kernel
theorem dX11_needJob_9 : decode cX11_needJob 9 = .ok (.iconst 1, 1) := by decide +kernel
theorem dX11_needJob_10 : decode cX11_needJob 10 = .ok (.isub, 1) := by decide +kernel
theorem dX11_needJob_11 : decode cX11_needJob 11 = .ok (.invokestatic 89, 3) := by decide +kernel
theorem dX11_needJob_14 : decode cX11_needJob 14 = .ok (.ifCond .ne 14, 3) := by decide +kernel
theorem dX11_needJob_17 : decode cX11_needJob 17 = .ok (.new 130, 3) := by decide +kernel
theorem dX11_needJob_20 : decode cX11_needJob 20 = .ok (.dup, 1) := by decide +kernel
theorem dX11_needJob_21 : decode cX11_needJob 21 = .ok (.ldc_w 352, 3) := by decide +kernel
theorem dX11_needJob_24 : decode cX11_needJob 24 = .ok (.invokespecial 134, 3) := by decide +kernel
theorem dX11_needJob_27 : decode cX11_needJob 27 = .ok (.athrow, 1) := by decide +kernel
theorem dX11_needJob_28 : decode cX11_needJob 28 = .ok (.return_, 1) := by decide +kernel
theorem dX11_needArm_0 : decode cX11_needArm 0 = .ok (.iload_n 0, 1) := by decide +kernel
theorem dX11_needArm_1 : decode cX11_needArm 1 = .ok (.iconst 0, 1) := by decide +kernel
theorem dX11_needArm_2 : decode cX11_needArm 2 = .ok (.iconst 2, 1) := by decide +kernel
theorem dX11_needArm_3 : decode cX11_needArm 3 = .ok (.invokestatic 89, 3) := by decide +kernel
theorem dX11_needArm_6 : decode cX11_needArm 6 = .ok (.ifCond .ne 14, 3) := by decide +kernel
theorem dX11_needArm_9 : decode cX11_needArm 9 = .ok (.new 130, 3) := by decide +kernel
theorem dX11_needArm_12 : decode cX11_needArm 12 = .ok (.dup, 1) := by decide +kernel
theorem dX11_needArm_13 : decode cX11_needArm 13 = .ok (.ldc_w 354, 3) := by decide +kernel
theorem dX11_needArm_16 : decode cX11_needArm 16 = .ok (.invokespecial 134, 3) := by decide +kernel
theorem dX11_needArm_19 : decode cX11_needArm 19 = .ok (.athrow, 1) := by decide +kernel
theorem dX11_needArm_20 : decode cX11_needArm 20 = .ok (.return_, 1) := by decide +kernel
theorem dX11_needBuffer_0 : decode cX11_needBuffer 0 = .ok (.iload_n 0, 1) := by decide +kernel
theorem dX11_needBuffer_1 : decode cX11_needBuffer 1 = .ok (.iconst 0, 1) := by decide +kernel
theorem dX11_needBuffer_2 : decode cX11_needBuffer 2 = .ok (.iconst 2, 1) := by decide +kernel
theorem dX11_needBuffer_3 : decode cX11_needBuffer 3 = .ok (.invokestatic 89, 3) := by decide +kernel
theorem dX11_needBuffer_6 : decode cX11_needBuffer 6 = .ok (.ifCond .ne 14, 3) := by decide +kernel
theorem dX11_needBuffer_9 : decode cX11_needBuffer 9 = .ok (.new 130, 3) := by decide +kernel
theorem dX11_needBuffer_12 : decode cX11_needBuffer 12 = .ok (.dup, 1) := by decide +kernel
theorem dX11_needBuffer_13 : decode cX11_needBuffer 13 = .ok (.ldc_w 356, 3) := by decide +kernel
theorem dX11_needBuffer_16 : decode cX11_needBuffer 16 = .ok (.invokespecial 134, 3) := by decide +kernel
theorem dX11_needBuffer_19 : decode cX11_needBuffer 19 = .ok (.athrow, 1) := by decide +kernel
theorem dX11_needBuffer_20 : decode cX11_needBuffer 20 = .ok (.return_, 1) := by decide +kernel
theorem dX11_need_0 : decode cX11_need 0 = .ok (.iload_n 0, 1) := by decide +kernel
theorem dX11_need_1 : decode cX11_need 1 = .ok (.iconst 0, 1) := by decide +kernel
theorem dX11_need_2 : decode cX11_need 2 = .ok (.iload_n 1, 1) := by decide +kernel
theorem dX11_need_3 : decode cX11_need 3 = .ok (.invokestatic 89, 3) := by decide +kernel
theorem dX11_need_6 : decode cX11_need 6 = .ok (.ifCond .ne 14, 3) := by decide +kernel
theorem dX11_need_9 : decode cX11_need 9 = .ok (.new 93, 3) := by decide +kernel
theorem dX11_need_12 : decode cX11_need 12 = .ok (.dup, 1) := by decide +kernel
theorem dX11_need_13 : decode cX11_need 13 = .ok (.ldc_w 358, 3) := by decide +kernel
theorem dX11_need_16 : decode cX11_need 16 = .ok (.invokespecial 97, 3) := by decide +kernel
theorem dX11_need_19 : decode cX11_need 19 = .ok (.athrow, 1) := by decide +kernel
theorem dX11_need_20 : decode cX11_need 20 = .ok (.return_, 1) := by decide +kernel
theorem dX11_throwFor_0 : decode cX11_throwFor 0 = .ok (.iload_n 0, 1) := by decide +kernel
theorem dX11_throwFor_1 : decode cX11_throwFor 1 = .ok (.tableswitch 65 0 3 #[31, 32, 43, 54], 31) := by decide +kernel
theorem dX11_throwFor_32 : decode cX11_throwFor 32 = .ok (.return_, 1) := by decide +kernel
theorem dX11_throwFor_33 : decode cX11_throwFor 33 = .ok (.new 130, 3) := by decide +kernel
theorem dX11_throwFor_36 : decode cX11_throwFor 36 = .ok (.dup, 1) := by decide +kernel
theorem dX11_throwFor_37 : decode cX11_throwFor 37 = .ok (.ldc_w 360, 3) := by decide +kernel
theorem dX11_throwFor_40 : decode cX11_throwFor 40 = .ok (.invokespecial 134, 3) := by decide +kernel
theorem dX11_throwFor_43 : decode cX11_throwFor 43 = .ok (.athrow, 1) := by decide +kernel
theorem dX11_throwFor_44 : decode cX11_throwFor 44 = .ok (.new 93, 3) := by decide +kernel
theorem dX11_throwFor_47 : decode cX11_throwFor 47 = .ok (.dup, 1) := by decide +kernel
theorem dX11_throwFor_48 : decode cX11_throwFor 48 = .ok (.ldc_w 358, 3) := by decide +kernel
theorem dX11_throwFor_51 : decode cX11_throwFor 51 = .ok (.invokespecial 97, 3) := by decide +kernel
theorem dX11_throwFor_54 : decode cX11_throwFor 54 = .ok (.athrow, 1) := by decide +kernel
theorem dX11_throwFor_55 : decode cX11_throwFor 55 = .ok (.new 296, 3) := by decide +kernel
theorem dX11_throwFor_58 : decode cX11_throwFor 58 = .ok (.dup, 1) := by decide +kernel
theorem dX11_throwFor_59 : decode cX11_throwFor 59 = .ok (.ldc_w 362, 3) := by decide +kernel
theorem dX11_throwFor_62 : decode cX11_throwFor 62 = .ok (.invokespecial 300, 3) := by decide +kernel
theorem dX11_throwFor_65 : decode cX11_throwFor 65 = .ok (.athrow, 1) := by decide +kernel
theorem dX11_throwFor_66 : decode cX11_throwFor 66 = .ok (.new 110, 3) := by decide +kernel
theorem dX11_throwFor_69 : decode cX11_throwFor 69 = .ok (.dup, 1) := by decide +kernel
theorem dX11_throwFor_70 : decode cX11_throwFor 70 = .ok (.ldc_w 364, 3) := by decide +kernel
theorem dX11_throwFor_73 : decode cX11_throwFor 73 = .ok (.invokespecial 114, 3) := by decide +kernel
theorem dX11_throwFor_76 : decode cX11_throwFor 76 = .ok (.athrow, 1) := by decide +kernel
theorem dX11_isWithin_0 : decode cX11_isWithin 0 = .ok (.iload_n 0, 1) := by decide +kernel
theorem dX11_isWithin_1 : decode cX11_isWithin 1 = .ok (.iload_n 1, 1) := by decide +kernel
theorem dX11_isWithin_2 : decode cX11_isWithin 2 = .ok (.if_icmp .lt 12, 3) := by decide +kernel
theorem dX11_isWithin_5 : decode cX11_isWithin 5 = .ok (.iload_n 0, 1) := by decide +kernel
theorem dX11_isWithin_6 : decode cX11_isWithin 6 = .ok (.iload_n 2, 1) := by decide +kernel
theorem dX11_isWithin_7 : decode cX11_isWithin 7 = .ok (.if_icmp .gt 7, 3) := by decide +kernel
theorem dX11_isWithin_10 : decode cX11_isWithin 10 = .ok (.iconst 1, 1) := by decide +kernel
theorem dX11_isWithin_11 : decode cX11_isWithin 11 = .ok (.goto 4, 3) := by decide +kernel
theorem dX11_isWithin_14 : decode cX11_isWithin 14 = .ok (.iconst 0, 1) := by decide +kernel
theorem dX11_isWithin_15 : decode cX11_isWithin 15 = .ok (.ireturn, 1) := by decide +kernel
theorem dX11_copyNumbers_0 : decode cX11_copyNumbers 0 = .ok (.iconst 0, 1) := by decide +kernel
theorem dX11_copyNumbers_1 : decode cX11_copyNumbers 1 = .ok (.istore_n 2, 1) := by decide +kernel
theorem dX11_copyNumbers_2 : decode cX11_copyNumbers 2 = .ok (.iload_n 2, 1) := by decide +kernel
theorem dX11_copyNumbers_3 : decode cX11_copyNumbers 3 = .ok (.aload_n 0, 1) := by decide +kernel
theorem dX11_copyNumbers_4 : decode cX11_copyNumbers 4 = .ok (.arraylength, 1) := by decide +kernel
theorem dX11_copyNumbers_5 : decode cX11_copyNumbers 5 = .ok (.if_icmp .ge 21, 3) := by decide +kernel
theorem dX11_copyNumbers_8 : decode cX11_copyNumbers 8 = .ok (.iload_n 2, 1) := by decide +kernel
theorem dX11_copyNumbers_9 : decode cX11_copyNumbers 9 = .ok (.aload_n 1, 1) := by decide +kernel
theorem dX11_copyNumbers_10 : decode cX11_copyNumbers 10 = .ok (.arraylength, 1) := by decide +kernel
theorem dX11_copyNumbers_11 : decode cX11_copyNumbers 11 = .ok (.if_icmp .ge 15, 3) := by decide +kernel
theorem dX11_copyNumbers_14 : decode cX11_copyNumbers 14 = .ok (.aload_n 1, 1) := by decide +kernel
theorem dX11_copyNumbers_15 : decode cX11_copyNumbers 15 = .ok (.iload_n 2, 1) := by decide +kernel
theorem dX11_copyNumbers_16 : decode cX11_copyNumbers 16 = .ok (.aload_n 0, 1) := by decide +kernel
theorem dX11_copyNumbers_17 : decode cX11_copyNumbers 17 = .ok (.iload_n 2, 1) := by decide +kernel
theorem dX11_copyNumbers_18 : decode cX11_copyNumbers 18 = .ok (.iaload, 1) := by decide +kernel
theorem dX11_copyNumbers_19 : decode cX11_copyNumbers 19 = .ok (.iastore, 1) := by decide +kernel
theorem dX11_copyNumbers_20 : decode cX11_copyNumbers 20 = .ok (.iinc 2 1, 3) := by decide +kernel
theorem dX11_copyNumbers_23 : decode cX11_copyNumbers 23 = .ok (.goto (-21), 3) := by decide +kernel
theorem dX11_copyNumbers_26 : decode cX11_copyNumbers 26 = .ok (.return_, 1) := by decide +kernel
theorem dX12_init_0 : decode cX12_init 0 = .ok (.aload_n 0, 1) := by decide +kernel
theorem dX12_init_1 : decode cX12_init 1 = .ok (.invokespecial 1, 3) := by decide +kernel
theorem dX12_init_4 : decode cX12_init 4 = .ok (.aload_n 0, 1) := by decide +kernel
theorem dX12_init_5 : decode cX12_init 5 = .ok (.bipush 8, 2) := by decide +kernel
theorem dX12_init_7 : decode cX12_init 7 = .ok (.newarray .int, 2) := by decide +kernel
theorem dX12_init_9 : decode cX12_init 9 = .ok (.putfield 7, 3) := by decide +kernel
theorem dX12_init_12 : decode cX12_init 12 = .ok (.aload_n 0, 1) := by decide +kernel
theorem dX12_init_13 : decode cX12_init 13 = .ok (.bipush 8, 2) := by decide +kernel
theorem dX12_init_15 : decode cX12_init 15 = .ok (.newarray .int, 2) := by decide +kernel
theorem dX12_init_17 : decode cX12_init 17 = .ok (.putfield 13, 3) := by decide +kernel
theorem dX12_init_20 : decode cX12_init 20 = .ok (.aload_n 0, 1) := by decide +kernel
theorem dX12_init_21 : decode cX12_init 21 = .ok (.iconst 3, 1) := by decide +kernel
theorem dX12_init_22 : decode cX12_init 22 = .ok (.newarray .int, 2) := by decide +kernel
theorem dX12_init_24 : decode cX12_init 24 = .ok (.putfield 16, 3) := by decide +kernel
theorem dX12_init_27 : decode cX12_init 27 = .ok (.aload_n 0, 1) := by decide +kernel
theorem dX12_init_28 : decode cX12_init 28 = .ok (.iconst 3, 1) := by decide +kernel
theorem dX12_init_29 : decode cX12_init 29 = .ok (.newarray .int, 2) := by decide +kernel
theorem dX12_init_31 : decode cX12_init 31 = .ok (.putfield 19, 3) := by decide +kernel
theorem dX12_init_34 : decode cX12_init 34 = .ok (.aload_n 0, 1) := by decide +kernel
theorem dX12_init_35 : decode cX12_init 35 = .ok (.bipush 12, 2) := by decide +kernel
theorem dX12_init_37 : decode cX12_init 37 = .ok (.newarray .int, 2) := by decide +kernel
theorem dX12_init_39 : decode cX12_init 39 = .ok (.putfield 22, 3) := by decide +kernel
theorem dX12_init_42 : decode cX12_init 42 = .ok (.aload_n 0, 1) := by decide +kernel
theorem dX12_init_43 : decode cX12_init 43 = .ok (.iconst 3, 1) := by decide +kernel
theorem dX12_init_44 : decode cX12_init 44 = .ok (.newarray .int, 2) := by decide +kernel
theorem dX12_init_46 : decode cX12_init 46 = .ok (.putfield 25, 3) := by decide +kernel
theorem dX12_init_49 : decode cX12_init 49 = .ok (.aload_n 0, 1) := by decide +kernel
theorem dX12_init_50 : decode cX12_init 50 = .ok (.iconst 3, 1) := by decide +kernel
theorem dX12_init_51 : decode cX12_init 51 = .ok (.newarray .int, 2) := by decide +kernel
theorem dX12_init_53 : decode cX12_init 53 = .ok (.putfield 28, 3) := by decide +kernel
theorem dX12_init_56 : decode cX12_init 56 = .ok (.aload_n 0, 1) := by decide +kernel
theorem dX12_init_57 : decode cX12_init 57 = .ok (.iconst 3, 1) := by decide +kernel
theorem dX12_init_58 : decode cX12_init 58 = .ok (.newarray .int, 2) := by decide +kernel
theorem dX12_init_60 : decode cX12_init 60 = .ok (.putfield 31, 3) := by decide +kernel
theorem dX12_init_63 : decode cX12_init 63 = .ok (.aload_n 0, 1) := by decide +kernel
theorem dX12_init_64 : decode cX12_init 64 = .ok (.iconst 3, 1) := by decide +kernel
theorem dX12_init_65 : decode cX12_init 65 = .ok (.newarray .int, 2) := by decide +kernel
theorem dX12_init_67 : decode cX12_init 67 = .ok (.putfield 34, 3) := by decide +kernel
theorem dX12_init_70 : decode cX12_init 70 = .ok (.aload_n 0, 1) := by decide +kernel
theorem dX12_init_71 : decode cX12_init 71 = .ok (.iconst 3, 1) := by decide +kernel
theorem dX12_init_72 : decode cX12_init 72 = .ok (.newarray .int, 2) := by decide +kernel
theorem dX12_init_74 : decode cX12_init 74 = .ok (.putfield 37, 3) := by decide +kernel
theorem dX12_init_77 : decode cX12_init 77 = .ok (.aload_n 0, 1) := by decide +kernel
theorem dX12_init_78 : decode cX12_init 78 = .ok (.iconst 3, 1) := by decide +kernel
theorem dX12_init_79 : decode cX12_init 79 = .ok (.newarray .int, 2) := by decide +kernel
theorem dX12_init_81 : decode cX12_init 81 = .ok (.putfield 40, 3) := by decide +kernel
theorem dX12_init_84 : decode cX12_init 84 = .ok (.aload_n 0, 1) := by decide +kernel
theorem dX12_init_85 : decode cX12_init 85 = .ok (.bipush 90, 2) := by decide +kernel
theorem dX12_init_87 : decode cX12_init 87 = .ok (.newarray .int, 2) := by decide +kernel
theorem dX12_init_89 : decode cX12_init 89 = .ok (.putfield 43, 3) := by decide +kernel
theorem dX12_init_92 : decode cX12_init 92 = .ok (.aload_n 0, 1) := by decide +kernel
theorem dX12_init_93 : decode cX12_init 93 = .ok (.iconst 3, 1) := by decide +kernel
theorem dX12_init_94 : decode cX12_init 94 = .ok (.newarray .int, 2) := by decide +kernel
theorem dX12_init_96 : decode cX12_init 96 = .ok (.putfield 46, 3) := by decide +kernel
theorem dX12_init_99 : decode cX12_init 99 = .ok (.aload_n 0, 1) := by decide +kernel
theorem dX12_init_100 : decode cX12_init 100 = .ok (.iconst 3, 1) := by decide +kernel
theorem dX12_init_101 : decode cX12_init 101 = .ok (.newarray .int, 2) := by decide +kernel
theorem dX12_init_103 : decode cX12_init 103 = .ok (.putfield 49, 3) := by decide +kernel
theorem dX12_init_106 : decode cX12_init 106 = .ok (.aload_n 0, 1) := by decide +kernel
theorem dX12_init_107 : decode cX12_init 107 = .ok (.iconst 3, 1) := by decide +kernel
theorem dX12_init_108 : decode cX12_init 108 = .ok (.newarray .int, 2) := by decide +kernel
theorem dX12_init_110 : decode cX12_init 110 = .ok (.putfield 52, 3) := by decide +kernel
theorem dX12_init_113 : decode cX12_init 113 = .ok (.aload_n 0, 1) := by decide +kernel
theorem dX12_init_114 : decode cX12_init 114 = .ok (.iconst 3, 1) := by decide +kernel
theorem dX12_init_115 : decode cX12_init 115 = .ok (.newarray .int, 2) := by decide +kernel
theorem dX12_init_117 : decode cX12_init 117 = .ok (.putfield 55, 3) := by decide +kernel
theorem dX12_init_120 : decode cX12_init 120 = .ok (.aload_n 0, 1) := by decide +kernel
theorem dX12_init_121 : decode cX12_init 121 = .ok (.iconst 3, 1) := by decide +kernel
theorem dX12_init_122 : decode cX12_init 122 = .ok (.newarray .int, 2) := by decide +kernel
theorem dX12_init_124 : decode cX12_init 124 = .ok (.putfield 58, 3) := by decide +kernel
theorem dX12_init_127 : decode cX12_init 127 = .ok (.aload_n 0, 1) := by decide +kernel
theorem dX12_init_128 : decode cX12_init 128 = .ok (.iconst 3, 1) := by decide +kernel
