theorem dX0_init_0 : decode cX0_init 0 = .ok (.aload_n 0, 1) := by decide +kernel
theorem dX0_init_1 : decode cX0_init 1 = .ok (.invokespecial 3, 3) := by decide +kernel
theorem dX0_init_4 : decode cX0_init 4 = .ok (.aload_n 0, 1) := by decide +kernel
theorem dX0_init_5 : decode cX0_init 5 = .ok (.iconst 1, 1) := by decide +kernel
theorem dX0_init_6 : decode cX0_init 6 = .ok (.putfield 9, 3) := by decide +kernel
theorem dX0_init_9 : decode cX0_init 9 = .ok (.aload_n 0, 1) := by decide +kernel
theorem dX0_init_10 : decode cX0_init 10 = .ok (.bipush 6, 2) := by decide +kernel
theorem dX0_init_12 : decode cX0_init 12 = .ok (.anewarray 15, 3) := by decide +kernel
theorem dX0_init_15 : decode cX0_init 15 = .ok (.putfield 17, 3) := by decide +kernel
theorem dX0_init_18 : decode cX0_init 18 = .ok (.aload_n 0, 1) := by decide +kernel
theorem dX0_init_19 : decode cX0_init 19 = .ok (.new 21, 3) := by decide +kernel
theorem dX0_init_22 : decode cX0_init 22 = .ok (.dup, 1) := by decide +kernel
theorem dX0_init_23 : decode cX0_init 23 = .ok (.bipush 50, 2) := by decide +kernel
theorem dX0_init_25 : decode cX0_init 25 = .ok (.invokespecial 23, 3) := by decide +kernel
theorem dX0_init_28 : decode cX0_init 28 = .ok (.putfield 26, 3) := by decide +kernel
theorem dX0_init_31 : decode cX0_init 31 = .ok (.aload_n 0, 1) := by decide +kernel
theorem dX0_init_32 : decode cX0_init 32 = .ok (.new 21, 3) := by decide +kernel
theorem dX0_init_35 : decode cX0_init 35 = .ok (.dup, 1) := by decide +kernel
theorem dX0_init_36 : decode cX0_init 36 = .ok (.bipush 20, 2) := by decide +kernel
theorem dX0_init_38 : decode cX0_init 38 = .ok (.invokespecial 23, 3) := by decide +kernel
theorem dX0_init_41 : decode cX0_init 41 = .ok (.putfield 30, 3) := by decide +kernel
theorem dX0_init_44 : decode cX0_init 44 = .ok (.aload_n 0, 1) := by decide +kernel
theorem dX0_init_45 : decode cX0_init 45 = .ok (.new 33, 3) := by decide +kernel
theorem dX0_init_48 : decode cX0_init 48 = .ok (.dup, 1) := by decide +kernel
theorem dX0_init_49 : decode cX0_init 49 = .ok (.iconst 0, 1) := by decide +kernel
theorem dX0_init_50 : decode cX0_init 50 = .ok (.invokespecial 35, 3) := by decide +kernel
theorem dX0_init_53 : decode cX0_init 53 = .ok (.putfield 36, 3) := by decide +kernel
theorem dX0_init_56 : decode cX0_init 56 = .ok (.aload_n 0, 1) := by decide +kernel
theorem dX0_init_57 : decode cX0_init 57 = .ok (.new 33, 3) := by decide +kernel
theorem dX0_init_60 : decode cX0_init 60 = .ok (.dup, 1) := by decide +kernel
theorem dX0_init_61 : decode cX0_init 61 = .ok (.iconst 1, 1) := by decide +kernel
theorem dX0_init_62 : decode cX0_init 62 = .ok (.invokespecial 35, 3) := by decide +kernel
theorem dX0_init_65 : decode cX0_init 65 = .ok (.putfield 40, 3) := by decide +kernel
theorem dX0_init_68 : decode cX0_init 68 = .ok (.iconst 0, 1) := by decide +kernel
theorem dX0_init_69 : decode cX0_init 69 = .ok (.istore_n 1, 1) := by decide +kernel
theorem dX0_init_70 : decode cX0_init 70 = .ok (.iload_n 1, 1) := by decide +kernel
theorem dX0_init_71 : decode cX0_init 71 = .ok (.aload_n 0, 1) := by decide +kernel
theorem dX0_init_72 : decode cX0_init 72 = .ok (.getfield 17, 3) := by decide +kernel
theorem dX0_init_75 : decode cX0_init 75 = .ok (.arraylength, 1) := by decide +kernel
theorem dX0_init_76 : decode cX0_init 76 = .ok (.if_icmp .ge 22, 3) := by decide +kernel
theorem dX0_init_79 : decode cX0_init 79 = .ok (.aload_n 0, 1) := by decide +kernel
theorem dX0_init_80 : decode cX0_init 80 = .ok (.getfield 17, 3) := by decide +kernel
theorem dX0_init_83 : decode cX0_init 83 = .ok (.iload_n 1, 1) := by decide +kernel
theorem dX0_init_84 : decode cX0_init 84 = .ok (.new 15, 3) := by decide +kernel
theorem dX0_init_87 : decode cX0_init 87 = .ok (.dup, 1) := by decide +kernel
theorem dX0_init_88 : decode cX0_init 88 = .ok (.invokespecial 43, 3) := by decide +kernel
theorem dX0_init_91 : decode cX0_init 91 = .ok (.aastore, 1) := by decide +kernel
theorem dX0_init_92 : decode cX0_init 92 = .ok (.iinc 1 1, 3) := by decide +kernel
theorem dX0_init_95 : decode cX0_init 95 = .ok (.goto (-25), 3) := by decide +kernel
theorem dX0_init_98 : decode cX0_init 98 = .ok (.return_, 1) := by decide +kernel
theorem dX0_copyFrom_0 : decode cX0_copyFrom 0 = .ok (.aload_n 0, 1) := by decide +kernel
theorem dX0_copyFrom_1 : decode cX0_copyFrom 1 = .ok (.aload_n 1, 1) := by decide +kernel
theorem dX0_copyFrom_2 : decode cX0_copyFrom 2 = .ok (.getfield 44, 3) := by decide +kernel
theorem dX0_copyFrom_5 : decode cX0_copyFrom 5 = .ok (.putfield 44, 3) := by decide +kernel
theorem dX0_copyFrom_8 : decode cX0_copyFrom 8 = .ok (.aload_n 0, 1) := by decide +kernel
theorem dX0_copyFrom_9 : decode cX0_copyFrom 9 = .ok (.aload_n 1, 1) := by decide +kernel
theorem dX0_copyFrom_10 : decode cX0_copyFrom 10 = .ok (.getfield 47, 3) := by decide +kernel
theorem dX0_copyFrom_13 : decode cX0_copyFrom 13 = .ok (.putfield 47, 3) := by decide +kernel
theorem dX0_copyFrom_16 : decode cX0_copyFrom 16 = .ok (.aload_n 0, 1) := by decide +kernel
theorem dX0_copyFrom_17 : decode cX0_copyFrom 17 = .ok (.aload_n 1, 1) := by decide +kernel
theorem dX0_copyFrom_18 : decode cX0_copyFrom 18 = .ok (.getfield 9, 3) := by decide +kernel
theorem dX0_copyFrom_21 : decode cX0_copyFrom 21 = .ok (.putfield 9, 3) := by decide +kernel
theorem dX0_copyFrom_24 : decode cX0_copyFrom 24 = .ok (.aload_n 0, 1) := by decide +kernel
theorem dX0_copyFrom_25 : decode cX0_copyFrom 25 = .ok (.aload_n 1, 1) := by decide +kernel
theorem dX0_copyFrom_26 : decode cX0_copyFrom 26 = .ok (.getfield 50, 3) := by decide +kernel
theorem dX0_copyFrom_29 : decode cX0_copyFrom 29 = .ok (.putfield 50, 3) := by decide +kernel
theorem dX0_copyFrom_32 : decode cX0_copyFrom 32 = .ok (.iconst 0, 1) := by decide +kernel
theorem dX0_copyFrom_33 : decode cX0_copyFrom 33 = .ok (.istore_n 2, 1) := by decide +kernel
theorem dX0_copyFrom_34 : decode cX0_copyFrom 34 = .ok (.iload_n 2, 1) := by decide +kernel
theorem dX0_copyFrom_35 : decode cX0_copyFrom 35 = .ok (.aload_n 0, 1) := by decide +kernel
theorem dX0_copyFrom_36 : decode cX0_copyFrom 36 = .ok (.getfield 50, 3) := by decide +kernel
theorem dX0_copyFrom_39 : decode cX0_copyFrom 39 = .ok (.if_icmp .ge 37, 3) := by decide +kernel
theorem dX0_copyFrom_42 : decode cX0_copyFrom 42 = .ok (.aload_n 0, 1) := by decide +kernel
theorem dX0_copyFrom_43 : decode cX0_copyFrom 43 = .ok (.iload_n 2, 1) := by decide +kernel
theorem dX0_copyFrom_44 : decode cX0_copyFrom 44 = .ok (.invokevirtual 53, 3) := by decide +kernel
theorem dX0_copyFrom_47 : decode cX0_copyFrom 47 = .ok (.astore_n 3, 1) := by decide +kernel
theorem dX0_copyFrom_48 : decode cX0_copyFrom 48 = .ok (.aload_n 1, 1) := by decide +kernel
theorem dX0_copyFrom_49 : decode cX0_copyFrom 49 = .ok (.iload_n 2, 1) := by decide +kernel
theorem dX0_copyFrom_50 : decode cX0_copyFrom 50 = .ok (.invokevirtual 53, 3) := by decide +kernel
theorem dX0_copyFrom_53 : decode cX0_copyFrom 53 = .ok (.astore 4, 2) := by decide +kernel
theorem dX0_copyFrom_55 : decode cX0_copyFrom 55 = .ok (.aload_n 3, 1) := by decide +kernel
theorem dX0_copyFrom_56 : decode cX0_copyFrom 56 = .ok (.ifnull 14, 3) := by decide +kernel
theorem dX0_copyFrom_59 : decode cX0_copyFrom 59 = .ok (.aload 4, 2) := by decide +kernel
theorem dX0_copyFrom_61 : decode cX0_copyFrom 61 = .ok (.ifnull 9, 3) := by decide +kernel
theorem dX0_copyFrom_64 : decode cX0_copyFrom 64 = .ok (.aload_n 3, 1) := by decide +kernel
theorem dX0_copyFrom_65 : decode cX0_copyFrom 65 = .ok (.aload 4, 2) := by decide +kernel
theorem dX0_copyFrom_67 : decode cX0_copyFrom 67 = .ok (.invokevirtual 57, 3) := by decide +kernel
theorem dX0_copyFrom_70 : decode cX0_copyFrom 70 = .ok (.iinc 2 1, 3) := by decide +kernel
theorem dX0_copyFrom_73 : decode cX0_copyFrom 73 = .ok (.goto (-39), 3) := by decide +kernel
theorem dX0_copyFrom_76 : decode cX0_copyFrom 76 = .ok (.aload_n 0, 1) := by decide +kernel
theorem dX0_copyFrom_77 : decode cX0_copyFrom 77 = .ok (.getfield 26, 3) := by decide +kernel
theorem dX0_copyFrom_80 : decode cX0_copyFrom 80 = .ok (.aload_n 1, 1) := by decide +kernel
theorem dX0_copyFrom_81 : decode cX0_copyFrom 81 = .ok (.getfield 26, 3) := by decide +kernel
theorem dX0_copyFrom_84 : decode cX0_copyFrom 84 = .ok (.invokevirtual 61, 3) := by decide +kernel
theorem dX0_copyFrom_87 : decode cX0_copyFrom 87 = .ok (.aload_n 0, 1) := by decide +kernel
theorem dX0_copyFrom_88 : decode cX0_copyFrom 88 = .ok (.getfield 30, 3) := by decide +kernel
theorem dX0_copyFrom_91 : decode cX0_copyFrom 91 = .ok (.aload_n 1, 1) := by decide +kernel
theorem dX0_copyFrom_92 : decode cX0_copyFrom 92 = .ok (.getfield 30, 3) := by decide +kernel
theorem dX0_copyFrom_95 : decode cX0_copyFrom 95 = .ok (.invokevirtual 61, 3) := by decide +kernel
theorem dX0_copyFrom_98 : decode cX0_copyFrom 98 = .ok (.aload_n 0, 1) := by decide +kernel
theorem dX0_copyFrom_99 : decode cX0_copyFrom 99 = .ok (.getfield 36, 3) := by decide +kernel
theorem dX0_copyFrom_102 : decode cX0_copyFrom 102 = .ok (.aload_n 1, 1) := by decide +kernel
theorem dX0_copyFrom_103 : decode cX0_copyFrom 103 = .ok (.getfield 36, 3) := by decide +kernel
theorem dX0_copyFrom_106 : decode cX0_copyFrom 106 = .ok (.getfield 64, 3) := by decide +kernel
theorem dX0_copyFrom_109 : decode cX0_copyFrom 109 = .ok (.invokevirtual 67, 3) := by decide +kernel
theorem dX0_copyFrom_112 : decode cX0_copyFrom 112 = .ok (.aload_n 0, 1) := by decide +kernel
theorem dX0_copyFrom_113 : decode cX0_copyFrom 113 = .ok (.getfield 40, 3) := by decide +kernel
theorem dX0_copyFrom_116 : decode cX0_copyFrom 116 = .ok (.aload_n 1, 1) := by decide +kernel
theorem dX0_copyFrom_117 : decode cX0_copyFrom 117 = .ok (.getfield 40, 3) := by decide +kernel
theorem dX0_copyFrom_120 : decode cX0_copyFrom 120 = .ok (.getfield 64, 3) := by decide +kernel
theorem dX0_copyFrom_123 : decode cX0_copyFrom 123 = .ok (.invokevirtual 67, 3) := by decide +kernel
theorem dX0_copyFrom_126 : decode cX0_copyFrom 126 = .ok (.return_, 1) := by decide +kernel
theorem dX0_find_0 : decode cX0_find 0 = .ok (.iload_n 1, 1) := by decide +kernel
theorem dX0_find_1 : decode cX0_find 1 = .ok (.ifCond .lt 20, 3) := by decide +kernel
theorem dX0_find_4 : decode cX0_find 4 = .ok (.iload_n 1, 1) := by decide +kernel
theorem dX0_find_5 : decode cX0_find 5 = .ok (.aload_n 0, 1) := by decide +kernel
theorem dX0_find_6 : decode cX0_find 6 = .ok (.getfield 50, 3) := by decide +kernel
theorem dX0_find_9 : decode cX0_find 9 = .ok (.if_icmp .ge 12, 3) := by decide +kernel
theorem dX0_find_12 : decode cX0_find 12 = .ok (.iload_n 1, 1) := by decide +kernel
theorem dX0_find_13 : decode cX0_find 13 = .ok (.aload_n 0, 1) := by decide +kernel
theorem dX0_find_14 : decode cX0_find 14 = .ok (.getfield 17, 3) := by decide +kernel
theorem dX0_find_17 : decode cX0_find 17 = .ok (.arraylength, 1) := by decide +kernel
theorem dX0_find_18 : decode cX0_find 18 = .ok (.if_icmp .lt 7, 3) := by decide +kernel
theorem dX0_find_21 : decode cX0_find 21 = .ok (.aconst_null, 1) := by decide +kernel
theorem dX0_find_22 : decode cX0_find 22 = .ok (.goto 9, 3) := by decide +kernel
theorem dX0_find_25 : decode cX0_find 25 = .ok (.aload_n 0, 1) := by decide +kernel
theorem dX0_find_26 : decode cX0_find 26 = .ok (.getfield 17, 3) := by decide +kernel
theorem dX0_find_29 : decode cX0_find 29 = .ok (.iload_n 1, 1) := by decide +kernel
theorem dX0_find_30 : decode cX0_find 30 = .ok (.aaload, 1) := by decide +kernel
theorem dX0_find_31 : decode cX0_find 31 = .ok (.areturn, 1) := by decide +kernel
theorem dX0_takeIn_0 : decode cX0_takeIn 0 = .ok (.aload_n 0, 1) := by decide +kernel
theorem dX0_takeIn_1 : decode cX0_takeIn 1 = .ok (.getfield 50, 3) := by decide +kernel
theorem dX0_takeIn_4 : decode cX0_takeIn 4 = .ok (.ifCond .lt 15, 3) := by decide +kernel
theorem dX0_takeIn_7 : decode cX0_takeIn 7 = .ok (.aload_n 0, 1) := by decide +kernel
theorem dX0_takeIn_8 : decode cX0_takeIn 8 = .ok (.getfield 50, 3) := by decide +kernel
theorem dX0_takeIn_11 : decode cX0_takeIn 11 = .ok (.aload_n 0, 1) := by decide +kernel
theorem dX0_takeIn_12 : decode cX0_takeIn 12 = .ok (.getfield 17, 3) := by decide +kernel
theorem dX0_takeIn_15 : decode cX0_takeIn 15 = .ok (.arraylength, 1) := by decide +kernel
theorem dX0_takeIn_16 : decode cX0_takeIn 16 = .ok (.if_icmp .lt 7, 3) := by decide +kernel
theorem dX0_takeIn_19 : decode cX0_takeIn 19 = .ok (.aconst_null, 1) := by decide +kernel
theorem dX0_takeIn_20 : decode cX0_takeIn 20 = .ok (.goto 12, 3) := by decide +kernel
theorem dX0_takeIn_23 : decode cX0_takeIn 23 = .ok (.aload_n 0, 1) := by decide +kernel
theorem dX0_takeIn_24 : decode cX0_takeIn 24 = .ok (.getfield 17, 3) := by decide +kernel
theorem dX0_takeIn_27 : decode cX0_takeIn 27 = .ok (.aload_n 0, 1) := by decide +kernel
theorem dX0_takeIn_28 : decode cX0_takeIn 28 = .ok (.getfield 50, 3) := by decide +kernel
theorem dX0_takeIn_31 : decode cX0_takeIn 31 = .ok (.aaload, 1) := by decide +kernel
theorem dX0_takeIn_32 : decode cX0_takeIn 32 = .ok (.astore_n 3, 1) := by decide +kernel
theorem dX0_takeIn_33 : decode cX0_takeIn 33 = .ok (.aload_n 3, 1) := by decide +kernel
theorem dX0_takeIn_34 : decode cX0_takeIn 34 = .ok (.ifnonnull 5, 3) := by decide +kernel
theorem dX0_takeIn_37 : decode cX0_takeIn 37 = .ok (.iconst (-1), 1) := by decide +kernel
theorem dX0_takeIn_38 : decode cX0_takeIn 38 = .ok (.ireturn, 1) := by decide +kernel
theorem dX0_takeIn_39 : decode cX0_takeIn 39 = .ok (.aload_n 3, 1) := by decide +kernel
theorem dX0_takeIn_40 : decode cX0_takeIn 40 = .ok (.iload_n 1, 1) := by decide +kernel
theorem dX0_takeIn_41 : decode cX0_takeIn 41 = .ok (.putfield 68, 3) := by decide +kernel
theorem dX0_takeIn_44 : decode cX0_takeIn 44 = .ok (.aload_n 3, 1) := by decide +kernel
theorem dX0_takeIn_45 : decode cX0_takeIn 45 = .ok (.iload_n 2, 1) := by decide +kernel
theorem dX0_takeIn_46 : decode cX0_takeIn 46 = .ok (.putfield 71, 3) := by decide +kernel
theorem dX0_takeIn_49 : decode cX0_takeIn 49 = .ok (.aload_n 3, 1) := by decide +kernel
theorem dX0_takeIn_50 : decode cX0_takeIn 50 = .ok (.iconst 0, 1) := by decide +kernel
theorem dX0_takeIn_51 : decode cX0_takeIn 51 = .ok (.putfield 74, 3) := by decide +kernel
theorem dX0_takeIn_54 : decode cX0_takeIn 54 = .ok (.aload_n 3, 1) := by decide +kernel
theorem dX0_takeIn_55 : decode cX0_takeIn 55 = .ok (.iconst 0, 1) := by decide +kernel
theorem dX0_takeIn_56 : decode cX0_takeIn 56 = .ok (.putfield 77, 3) := by decide +kernel
theorem dX0_takeIn_59 : decode cX0_takeIn 59 = .ok (.aload_n 3, 1) := by decide +kernel
theorem dX0_takeIn_60 : decode cX0_takeIn 60 = .ok (.iconst 0, 1) := by decide +kernel
theorem dX0_takeIn_61 : decode cX0_takeIn 61 = .ok (.putfield 80, 3) := by decide +kernel
theorem dX0_takeIn_64 : decode cX0_takeIn 64 = .ok (.aload_n 0, 1) := by decide +kernel
theorem dX0_takeIn_65 : decode cX0_takeIn 65 = .ok (.dup, 1) := by decide +kernel
theorem dX0_takeIn_66 : decode cX0_takeIn 66 = .ok (.getfield 50, 3) := by decide +kernel
theorem dX0_takeIn_69 : decode cX0_takeIn 69 = .ok (.iconst 1, 1) := by decide +kernel
theorem dX0_takeIn_70 : decode cX0_takeIn 70 = .ok (.iadd, 1) := by decide +kernel
theorem dX0_takeIn_71 : decode cX0_takeIn 71 = .ok (.putfield 50, 3) := by decide +kernel
theorem dX0_takeIn_74 : decode cX0_takeIn 74 = .ok (.aload_n 0, 1) := by decide +kernel
theorem dX0_takeIn_75 : decode cX0_takeIn 75 = .ok (.getfield 50, 3) := by decide +kernel
theorem dX0_takeIn_78 : decode cX0_takeIn 78 = .ok (.iconst 1, 1) := by decide +kernel
theorem dX0_takeIn_79 : decode cX0_takeIn 79 = .ok (.isub, 1) := by decide +kernel
theorem dX0_takeIn_80 : decode cX0_takeIn 80 = .ok (.ireturn, 1) := by decide +kernel
theorem dX0_lawOf_0 : decode cX0_lawOf 0 = .ok (.iload_n 1, 1) := by decide +kernel
theorem dX0_lawOf_1 : decode cX0_lawOf 1 = .ok (.ifCond .ne 10, 3) := by decide +kernel
theorem dX0_lawOf_4 : decode cX0_lawOf 4 = .ok (.aload_n 0, 1) := by decide +kernel
theorem dX0_lawOf_5 : decode cX0_lawOf 5 = .ok (.getfield 36, 3) := by decide +kernel
theorem dX0_lawOf_8 : decode cX0_lawOf 8 = .ok (.goto 7, 3) := by decide +kernel
theorem dX0_lawOf_11 : decode cX0_lawOf 11 = .ok (.aload_n 0, 1) := by decide +kernel
theorem dX0_lawOf_12 : decode cX0_lawOf 12 = .ok (.getfield 40, 3) := by decide +kernel
theorem dX0_lawOf_15 : decode cX0_lawOf 15 = .ok (.areturn, 1) := by decide +kernel
theorem dX0_seenIn_0 : decode cX0_seenIn 0 = .ok (.iload_n 1, 1) := by decide +kernel
theorem dX0_seenIn_1 : decode cX0_seenIn 1 = .ok (.bipush 16, 2) := by decide +kernel
theorem dX0_seenIn_3 : decode cX0_seenIn 3 = .ok (.irem, 1) := by decide +kernel
theorem dX0_seenIn_4 : decode cX0_seenIn 4 = .ok (.istore_n 2, 1) := by decide +kernel
theorem dX0_seenIn_5 : decode cX0_seenIn 5 = .ok (.aload_n 0, 1) := by decide +kernel
theorem dX0_seenIn_6 : decode cX0_seenIn 6 = .ok (.getfield 36, 3) := by decide +kernel
theorem dX0_seenIn_9 : decode cX0_seenIn 9 = .ok (.iload_n 1, 1) := by decide +kernel
theorem dX0_seenIn_10 : decode cX0_seenIn 10 = .ok (.iload_n 2, 1) := by decide +kernel
theorem dX0_seenIn_11 : decode cX0_seenIn 11 = .ok (.aload_n 0, 1) := by decide +kernel
theorem dX0_seenIn_12 : decode cX0_seenIn 12 = .ok (.getfield 47, 3) := by decide +kernel
theorem dX0_seenIn_15 : decode cX0_seenIn 15 = .ok (.invokevirtual 84, 3) := by decide +kernel
theorem dX0_seenIn_18 : decode cX0_seenIn 18 = .ok (.ifCond .eq 7, 3) := by decide +kernel
theorem dX0_seenIn_21 : decode cX0_seenIn 21 = .ok (.iconst 0, 1) := by decide +kernel
theorem dX0_seenIn_22 : decode cX0_seenIn 22 = .ok (.goto 7, 3) := by decide +kernel
theorem dX0_seenIn_25 : decode cX0_seenIn 25 = .ok (.iload_n 2, 1) := by decide +kernel
theorem dX0_seenIn_26 : decode cX0_seenIn 26 = .ok (.invokestatic 88, 3) := by decide +kernel
theorem dX0_seenIn_29 : decode cX0_seenIn 29 = .ok (.ireturn, 1) := by decide +kernel
theorem dX0_holdersOf_0 : decode cX0_holdersOf 0 = .ok (.iconst 0, 1) := by decide +kernel
theorem dX0_holdersOf_1 : decode cX0_holdersOf 1 = .ok (.istore_n 2, 1) := by decide +kernel
theorem dX0_holdersOf_2 : decode cX0_holdersOf 2 = .ok (.iconst 0, 1) := by decide +kernel
theorem dX0_holdersOf_3 : decode cX0_holdersOf 3 = .ok (.istore_n 3, 1) := by decide +kernel
theorem dX0_holdersOf_4 : decode cX0_holdersOf 4 = .ok (.iload_n 3, 1) := by decide +kernel
theorem dX0_holdersOf_5 : decode cX0_holdersOf 5 = .ok (.aload_n 0, 1) := by decide +kernel
theorem dX0_holdersOf_6 : decode cX0_holdersOf 6 = .ok (.getfield 50, 3) := by decide +kernel
theorem dX0_holdersOf_9 : decode cX0_holdersOf 9 = .ok (.if_icmp .ge 37, 3) := by decide +kernel
theorem dX0_holdersOf_12 : decode cX0_holdersOf 12 = .ok (.aload_n 0, 1) := by decide +kernel
theorem dX0_holdersOf_13 : decode cX0_holdersOf 13 = .ok (.iload_n 3, 1) := by decide +kernel
theorem dX0_holdersOf_14 : decode cX0_holdersOf 14 = .ok (.invokevirtual 53, 3) := by decide +kernel
theorem dX0_holdersOf_17 : decode cX0_holdersOf 17 = .ok (.astore 4, 2) := by decide +kernel
theorem dX0_holdersOf_19 : decode cX0_holdersOf 19 = .ok (.aload 4, 2) := by decide +kernel
theorem dX0_holdersOf_21 : decode cX0_holdersOf 21 = .ok (.ifnull 19, 3) := by decide +kernel
theorem dX0_holdersOf_24 : decode cX0_holdersOf 24 = .ok (.aload 4, 2) := by decide +kernel
theorem dX0_holdersOf_26 : decode cX0_holdersOf 26 = .ok (.getfield 74, 3) := by decide +kernel
theorem dX0_holdersOf_29 : decode cX0_holdersOf 29 = .ok (.iload_n 1, 1) := by decide +kernel
theorem dX0_holdersOf_30 : decode cX0_holdersOf 30 = .ok (.iand, 1) := by decide +kernel
theorem dX0_holdersOf_31 : decode cX0_holdersOf 31 = .ok (.ifCond .eq 9, 3) := by decide +kernel
theorem dX0_holdersOf_34 : decode cX0_holdersOf 34 = .ok (.iload_n 2, 1) := by decide +kernel
theorem dX0_holdersOf_35 : decode cX0_holdersOf 35 = .ok (.iconst 1, 1) := by decide +kernel
theorem dX0_holdersOf_36 : decode cX0_holdersOf 36 = .ok (.iload_n 3, 1) := by decide +kernel
theorem dX0_holdersOf_37 : decode cX0_holdersOf 37 = .ok (.ishl, 1) := by decide +kernel
theorem dX0_holdersOf_38 : decode cX0_holdersOf 38 = .ok (.ior, 1) := by decide +kernel
theorem dX0_holdersOf_39 : decode cX0_holdersOf 39 = .ok (.istore_n 2, 1) := by decide +kernel
theorem dX0_holdersOf_40 : decode cX0_holdersOf 40 = .ok (.iinc 3 1, 3) := by decide +kernel
theorem dX0_holdersOf_43 : decode cX0_holdersOf 43 = .ok (.goto (-39), 3) := by decide +kernel
theorem dX0_holdersOf_46 : decode cX0_holdersOf 46 = .ok (.iload_n 2, 1) := by decide +kernel
theorem dX0_holdersOf_47 : decode cX0_holdersOf 47 = .ok (.ireturn, 1) := by decide +kernel
theorem dX0_heldByOthers_0 : decode cX0_heldByOthers 0 = .ok (.iconst 0, 1) := by decide +kernel
theorem dX0_heldByOthers_1 : decode cX0_heldByOthers 1 = .ok (.istore_n 2, 1) := by decide +kernel
theorem dX0_heldByOthers_2 : decode cX0_heldByOthers 2 = .ok (.iconst 0, 1) := by decide +kernel
theorem dX0_heldByOthers_3 : decode cX0_heldByOthers 3 = .ok (.istore_n 3, 1) := by decide +kernel
theorem dX0_heldByOthers_4 : decode cX0_heldByOthers 4 = .ok (.iload_n 3, 1) := by decide +kernel
theorem dX0_heldByOthers_5 : decode cX0_heldByOthers 5 = .ok (.aload_n 0, 1) := by decide +kernel
theorem dX0_heldByOthers_6 : decode cX0_heldByOthers 6 = .ok (.getfield 50, 3) := by decide +kernel
theorem dX0_heldByOthers_9 : decode cX0_heldByOthers 9 = .ok (.if_icmp .ge 34, 3) := by decide +kernel
theorem dX0_heldByOthers_12 : decode cX0_heldByOthers 12 = .ok (.aload_n 0, 1) := by decide +kernel
theorem dX0_heldByOthers_13 : decode cX0_heldByOthers 13 = .ok (.iload_n 3, 1) := by decide +kernel
theorem dX0_heldByOthers_14 : decode cX0_heldByOthers 14 = .ok (.invokevirtual 53, 3) := by decide +kernel
theorem dX0_heldByOthers_17 : decode cX0_heldByOthers 17 = .ok (.astore 4, 2) := by decide +kernel
theorem dX0_heldByOthers_19 : decode cX0_heldByOthers 19 = .ok (.aload 4, 2) := by decide +kernel
theorem dX0_heldByOthers_21 : decode cX0_heldByOthers 21 = .ok (.ifnull 16, 3) := by decide +kernel
theorem dX0_heldByOthers_24 : decode cX0_heldByOthers 24 = .ok (.iload_n 3, 1) := by decide +kernel
theorem dX0_heldByOthers_25 : decode cX0_heldByOthers 25 = .ok (.iload_n 1, 1) := by decide +kernel
theorem dX0_heldByOthers_26 : decode cX0_heldByOthers 26 = .ok (.if_icmp .eq 11, 3) := by decide +kernel
theorem dX0_heldByOthers_29 : decode cX0_heldByOthers 29 = .ok (.iload_n 2, 1) := by decide +kernel
theorem dX0_heldByOthers_30 : decode cX0_heldByOthers 30 = .ok (.aload 4, 2) := by decide +kernel
theorem dX0_heldByOthers_32 : decode cX0_heldByOthers 32 = .ok (.getfield 74, 3) := by decide +kernel
theorem dX0_heldByOthers_35 : decode cX0_heldByOthers 35 = .ok (.ior, 1) := by decide +kernel
theorem dX0_heldByOthers_36 : decode cX0_heldByOthers 36 = .ok (.istore_n 2, 1) := by decide +kernel
theorem dX0_heldByOthers_37 : decode cX0_heldByOthers 37 = .ok (.iinc 3 1, 3) := by decide +kernel
theorem dX0_heldByOthers_40 : decode cX0_heldByOthers 40 = .ok (.goto (-36), 3) := by decide +kernel
theorem dX0_heldByOthers_43 : decode cX0_heldByOthers 43 = .ok (.iload_n 2, 1) := by decide +kernel
theorem dX0_heldByOthers_44 : decode cX0_heldByOthers 44 = .ok (.ireturn, 1) := by decide +kernel
theorem dX0_sharersWith_0 : decode cX0_sharersWith 0 = .ok (.aload_n 0, 1) := by decide +kernel
theorem dX0_sharersWith_1 : decode cX0_sharersWith 1 = .ok (.iload_n 1, 1) := by decide +kernel
theorem dX0_sharersWith_2 : decode cX0_sharersWith 2 = .ok (.invokevirtual 53, 3) := by decide +kernel
theorem dX0_sharersWith_5 : decode cX0_sharersWith 5 = .ok (.astore_n 2, 1) := by decide +kernel
theorem dX0_sharersWith_6 : decode cX0_sharersWith 6 = .ok (.aload_n 2, 1) := by decide +kernel
theorem dX0_sharersWith_7 : decode cX0_sharersWith 7 = .ok (.ifnonnull 5, 3) := by decide +kernel
theorem dX0_sharersWith_10 : decode cX0_sharersWith 10 = .ok (.iconst 0, 1) := by decide +kernel
theorem dX0_sharersWith_11 : decode cX0_sharersWith 11 = .ok (.ireturn, 1) := by decide +kernel
theorem dX0_sharersWith_12 : decode cX0_sharersWith 12 = .ok (.aload_n 0, 1) := by decide +kernel
theorem dX0_sharersWith_13 : decode cX0_sharersWith 13 = .ok (.aload_n 2, 1) := by decide +kernel
theorem dX0_sharersWith_14 : decode cX0_sharersWith 14 = .ok (.getfield 74, 3) := by decide +kernel
theorem dX0_sharersWith_17 : decode cX0_sharersWith 17 = .ok (.invokevirtual 92, 3) := by decide +kernel
theorem dX0_sharersWith_20 : decode cX0_sharersWith 20 = .ok (.iconst 1, 1) := by decide +kernel
theorem dX0_sharersWith_21 : decode cX0_sharersWith 21 = .ok (.iload_n 1, 1) := by decide +kernel
theorem dX0_sharersWith_22 : decode cX0_sharersWith 22 = .ok (.ishl, 1) := by decide +kernel
theorem dX0_sharersWith_23 : decode cX0_sharersWith 23 = .ok (.iconst (-1), 1) := by decide +kernel
theorem dX0_sharersWith_24 : decode cX0_sharersWith 24 = .ok (.ixor, 1) := by decide +kernel
theorem dX0_sharersWith_25 : decode cX0_sharersWith 25 = .ok (.iand, 1) := by decide +kernel
theorem dX0_sharersWith_26 : decode cX0_sharersWith 26 = .ok (.invokestatic 95, 3) := by decide +kernel
theorem dX0_sharersWith_29 : decode cX0_sharersWith 29 = .ok (.ireturn, 1) := by decide +kernel
theorem dX0_howManyEvicted_0 : decode cX0_howManyEvicted 0 = .ok (.iconst 0, 1) := by decide +kernel
theorem dX0_howManyEvicted_1 : decode cX0_howManyEvicted 1 = .ok (.istore_n 1, 1) := by decide +kernel
theorem dX0_howManyEvicted_2 : decode cX0_howManyEvicted 2 = .ok (.iconst 0, 1) := by decide +kernel
theorem dX0_howManyEvicted_3 : decode cX0_howManyEvicted 3 = .ok (.istore_n 2, 1) := by decide +kernel
theorem dX0_howManyEvicted_4 : decode cX0_howManyEvicted 4 = .ok (.iload_n 2, 1) := by decide +kernel
theorem dX0_howManyEvicted_5 : decode cX0_howManyEvicted 5 = .ok (.aload_n 0, 1) := by decide +kernel
theorem dX0_howManyEvicted_6 : decode cX0_howManyEvicted 6 = .ok (.getfield 50, 3) := by decide +kernel
theorem dX0_howManyEvicted_9 : decode cX0_howManyEvicted 9 = .ok (.if_icmp .ge 29, 3) := by decide +kernel
theorem dX0_howManyEvicted_12 : decode cX0_howManyEvicted 12 = .ok (.aload_n 0, 1) := by decide +kernel
theorem dX0_howManyEvicted_13 : decode cX0_howManyEvicted 13 = .ok (.iload_n 2, 1) := by decide +kernel
theorem dX0_howManyEvicted_14 : decode cX0_howManyEvicted 14 = .ok (.invokevirtual 53, 3) := by decide +kernel
theorem dX0_howManyEvicted_17 : decode cX0_howManyEvicted 17 = .ok (.astore_n 3, 1) := by decide +kernel
theorem dX0_howManyEvicted_18 : decode cX0_howManyEvicted 18 = .ok (.aload_n 3, 1) := by decide +kernel
theorem dX0_howManyEvicted_19 : decode cX0_howManyEvicted 19 = .ok (.ifnull 13, 3) := by decide +kernel
theorem dX0_howManyEvicted_22 : decode cX0_howManyEvicted 22 = .ok (.aload_n 3, 1) := by decide +kernel
theorem dX0_howManyEvicted_23 : decode cX0_howManyEvicted 23 = .ok (.getfield 80, 3) := by decide +kernel
theorem dX0_howManyEvicted_26 : decode cX0_howManyEvicted 26 = .ok (.ifCond .eq 6, 3) := by decide +kernel
theorem dX0_howManyEvicted_29 : decode cX0_howManyEvicted 29 = .ok (.iinc 1 1, 3) := by decide +kernel
theorem dX0_howManyEvicted_32 : decode cX0_howManyEvicted 32 = .ok (.iinc 2 1, 3) := by decide +kernel
theorem dX0_howManyEvicted_35 : decode cX0_howManyEvicted 35 = .ok (.goto (-31), 3) := by decide +kernel
theorem dX0_howManyEvicted_38 : decode cX0_howManyEvicted 38 = .ok (.iload_n 1, 1) := by decide +kernel
theorem dX0_howManyEvicted_39 : decode cX0_howManyEvicted 39 = .ok (.ireturn, 1) := by decide +kernel
theorem dX0_rentTogether_0 : decode cX0_rentTogether 0 = .ok (.iconst 0, 1) := by decide +kernel
theorem dX0_rentTogether_1 : decode cX0_rentTogether 1 = .ok (.istore_n 2, 1) := by decide +kernel
theorem dX0_rentTogether_2 : decode cX0_rentTogether 2 = .ok (.iconst 0, 1) := by decide +kernel
theorem dX0_rentTogether_3 : decode cX0_rentTogether 3 = .ok (.istore_n 3, 1) := by decide +kernel
theorem dX0_rentTogether_4 : decode cX0_rentTogether 4 = .ok (.iload_n 3, 1) := by decide +kernel
theorem dX0_rentTogether_5 : decode cX0_rentTogether 5 = .ok (.bipush 24, 2) := by decide +kernel
theorem dX0_rentTogether_7 : decode cX0_rentTogether 7 = .ok (.if_icmp .ge 45, 3) := by decide +kernel
theorem dX0_rentTogether_10 : decode cX0_rentTogether 10 = .ok (.iload_n 1, 1) := by decide +kernel
theorem dX0_rentTogether_11 : decode cX0_rentTogether 11 = .ok (.iload_n 3, 1) := by decide +kernel
theorem dX0_rentTogether_12 : decode cX0_rentTogether 12 = .ok (.ishr, 1) := by decide +kernel
theorem dX0_rentTogether_13 : decode cX0_rentTogether 13 = .ok (.iconst 1, 1) := by decide +kernel
theorem dX0_rentTogether_14 : decode cX0_rentTogether 14 = .ok (.iand, 1) := by decide +kernel
theorem dX0_rentTogether_15 : decode cX0_rentTogether 15 = .ok (.ifCond .eq 31, 3) := by decide +kernel
theorem dX0_rentTogether_18 : decode cX0_rentTogether 18 = .ok (.iload_n 2, 1) := by decide +kernel
theorem dX0_rentTogether_19 : decode cX0_rentTogether 19 = .ok (.aload_n 0, 1) := by decide +kernel
theorem dX0_rentTogether_20 : decode cX0_rentTogether 20 = .ok (.getfield 40, 3) := by decide +kernel
theorem dX0_rentTogether_23 : decode cX0_rentTogether 23 = .ok (.iload_n 3, 1) := by decide +kernel
theorem dX0_rentTogether_24 : decode cX0_rentTogether 24 = .ok (.bipush 8, 2) := by decide +kernel
theorem dX0_rentTogether_26 : decode cX0_rentTogether 26 = .ok (.idiv, 1) := by decide +kernel
theorem dX0_rentTogether_27 : decode cX0_rentTogether 27 = .ok (.iload_n 3, 1) := by decide +kernel
theorem dX0_rentTogether_28 : decode cX0_rentTogether 28 = .ok (.bipush 8, 2) := by decide +kernel
theorem dX0_rentTogether_30 : decode cX0_rentTogether 30 = .ok (.irem, 1) := by decide +kernel
theorem dX0_rentTogether_31 : decode cX0_rentTogether 31 = .ok (.aload_n 0, 1) := by decide +kernel
theorem dX0_rentTogether_32 : decode cX0_rentTogether 32 = .ok (.iconst 1, 1) := by decide +kernel
theorem dX0_rentTogether_33 : decode cX0_rentTogether 33 = .ok (.iload_n 3, 1) := by decide +kernel
theorem dX0_rentTogether_34 : decode cX0_rentTogether 34 = .ok (.ishl, 1) := by decide +kernel
theorem dX0_rentTogether_35 : decode cX0_rentTogether 35 = .ok (.invokevirtual 92, 3) := by decide +kernel
theorem dX0_rentTogether_38 : decode cX0_rentTogether 38 = .ok (.invokestatic 95, 3) := by decide +kernel
theorem dX0_rentTogether_41 : decode cX0_rentTogether 41 = .ok (.invokevirtual 84, 3) := by decide +kernel
theorem dX0_rentTogether_44 : decode cX0_rentTogether 44 = .ok (.iadd, 1) := by decide +kernel
theorem dX0_rentTogether_45 : decode cX0_rentTogether 45 = .ok (.istore_n 2, 1) := by decide +kernel
theorem dX0_rentTogether_46 : decode cX0_rentTogether 46 = .ok (.iinc 3 1, 3) := by decide +kernel
theorem dX0_rentTogether_49 : decode cX0_rentTogether 49 = .ok (.goto (-45), 3) := by decide +kernel
theorem dX0_rentTogether_52 : decode cX0_rentTogether 52 = .ok (.iload_n 2, 1) := by decide +kernel
theorem dX0_rentTogether_53 : decode cX0_rentTogether 53 = .ok (.ireturn, 1) := by decide +kernel
theorem dX0_passNights_0 : decode cX0_passNights 0 = .ok (.iconst 0, 1) := by decide +kernel
theorem dX0_passNights_1 : decode cX0_passNights 1 = .ok (.istore_n 2, 1) := by decide +kernel
theorem dX0_passNights_2 : decode cX0_passNights 2 = .ok (.iload_n 2, 1) := by decide +kernel
theorem dX0_passNights_3 : decode cX0_passNights 3 = .ok (.iload_n 1, 1) := by decide +kernel
theorem dX0_passNights_4 : decode cX0_passNights 4 = .ok (.if_icmp .ge 36, 3) := by decide +kernel
theorem dX0_passNights_7 : decode cX0_passNights 7 = .ok (.aload_n 0, 1) := by decide +kernel
theorem dX0_passNights_8 : decode cX0_passNights 8 = .ok (.invokevirtual 100, 3) := by decide +kernel
theorem dX0_passNights_11 : decode cX0_passNights 11 = .ok (.aload_n 0, 1) := by decide +kernel
theorem dX0_passNights_12 : decode cX0_passNights 12 = .ok (.dup, 1) := by decide +kernel
theorem dX0_passNights_13 : decode cX0_passNights 13 = .ok (.getfield 44, 3) := by decide +kernel
theorem dX0_passNights_16 : decode cX0_passNights 16 = .ok (.iconst 1, 1) := by decide +kernel
theorem dX0_passNights_17 : decode cX0_passNights 17 = .ok (.iadd, 1) := by decide +kernel
theorem dX0_passNights_18 : decode cX0_passNights 18 = .ok (.putfield 44, 3) := by decide +kernel
theorem dX0_passNights_21 : decode cX0_passNights 21 = .ok (.aload_n 0, 1) := by decide +kernel
theorem dX0_passNights_22 : decode cX0_passNights 22 = .ok (.getfield 44, 3) := by decide +kernel
theorem dX0_passNights_25 : decode cX0_passNights 25 = .ok (.iconst 4, 1) := by decide +kernel
theorem dX0_passNights_26 : decode cX0_passNights 26 = .ok (.irem, 1) := by decide +kernel
theorem dX0_passNights_27 : decode cX0_passNights 27 = .ok (.ifCond .ne 7, 3) := by decide +kernel
theorem dX0_passNights_30 : decode cX0_passNights 30 = .ok (.aload_n 0, 1) := by decide +kernel
theorem dX0_passNights_31 : decode cX0_passNights 31 = .ok (.invokevirtual 103, 3) := by decide +kernel
theorem dX0_passNights_34 : decode cX0_passNights 34 = .ok (.iinc 2 1, 3) := by decide +kernel
theorem dX0_passNights_37 : decode cX0_passNights 37 = .ok (.goto (-35), 3) := by decide +kernel
theorem dX0_passNights_40 : decode cX0_passNights 40 = .ok (.return_, 1) := by decide +kernel
theorem dX0_earnAll_0 : decode cX0_earnAll 0 = .ok (.aload_n 0, 1) := by decide +kernel
theorem dX0_earnAll_1 : decode cX0_earnAll 1 = .ok (.aload_n 0, 1) := by decide +kernel
theorem dX0_earnAll_2 : decode cX0_earnAll 2 = .ok (.getfield 44, 3) := by decide +kernel
theorem dX0_earnAll_5 : decode cX0_earnAll 5 = .ok (.invokevirtual 106, 3) := by decide +kernel
theorem dX0_earnAll_8 : decode cX0_earnAll 8 = .ok (.istore_n 1, 1) := by decide +kernel
theorem dX0_earnAll_9 : decode cX0_earnAll 9 = .ok (.iconst 0, 1) := by decide +kernel
theorem dX0_earnAll_10 : decode cX0_earnAll 10 = .ok (.istore_n 2, 1) := by decide +kernel
theorem dX0_earnAll_11 : decode cX0_earnAll 11 = .ok (.iload_n 2, 1) := by decide +kernel
theorem dX0_earnAll_12 : decode cX0_earnAll 12 = .ok (.aload_n 0, 1) := by decide +kernel
theorem dX0_earnAll_13 : decode cX0_earnAll 13 = .ok (.getfield 50, 3) := by decide +kernel
theorem dX0_earnAll_16 : decode cX0_earnAll 16 = .ok (.if_icmp .ge 35, 3) := by decide +kernel
theorem dX0_earnAll_19 : decode cX0_earnAll 19 = .ok (.aload_n 0, 1) := by decide +kernel
theorem dX0_earnAll_20 : decode cX0_earnAll 20 = .ok (.iload_n 2, 1) := by decide +kernel
theorem dX0_earnAll_21 : decode cX0_earnAll 21 = .ok (.invokevirtual 53, 3) := by decide +kernel
theorem dX0_earnAll_24 : decode cX0_earnAll 24 = .ok (.astore_n 3, 1) := by decide +kernel
theorem dX0_earnAll_25 : decode cX0_earnAll 25 = .ok (.aload_n 3, 1) := by decide +kernel
theorem dX0_earnAll_26 : decode cX0_earnAll 26 = .ok (.ifnull 19, 3) := by decide +kernel
theorem dX0_earnAll_29 : decode cX0_earnAll 29 = .ok (.aload_n 3, 1) := by decide +kernel
theorem dX0_earnAll_30 : decode cX0_earnAll 30 = .ok (.getfield 80, 3) := by decide +kernel
theorem dX0_earnAll_33 : decode cX0_earnAll 33 = .ok (.ifCond .ne 12, 3) := by decide +kernel
theorem dX0_earnAll_36 : decode cX0_earnAll 36 = .ok (.aload_n 3, 1) := by decide +kernel
theorem dX0_earnAll_37 : decode cX0_earnAll 37 = .ok (.aload_n 0, 1) := by decide +kernel
theorem dX0_earnAll_38 : decode cX0_earnAll 38 = .ok (.getfield 44, 3) := by decide +kernel
theorem dX0_earnAll_41 : decode cX0_earnAll 41 = .ok (.iload_n 1, 1) := by decide +kernel
theorem dX0_earnAll_42 : decode cX0_earnAll 42 = .ok (.invokevirtual 109, 3) := by decide +kernel
theorem dX0_earnAll_45 : decode cX0_earnAll 45 = .ok (.iinc 2 1, 3) := by decide +kernel
theorem dX0_earnAll_48 : decode cX0_earnAll 48 = .ok (.goto (-37), 3) := by decide +kernel
theorem dX0_earnAll_51 : decode cX0_earnAll 51 = .ok (.return_, 1) := by decide +kernel
theorem dX0_payAll_0 : decode cX0_payAll 0 = .ok (.iconst 0, 1) := by decide +kernel
theorem dX0_payAll_1 : decode cX0_payAll 1 = .ok (.istore_n 1, 1) := by decide +kernel
theorem dX0_payAll_2 : decode cX0_payAll 2 = .ok (.iload_n 1, 1) := by decide +kernel
theorem dX0_payAll_3 : decode cX0_payAll 3 = .ok (.aload_n 0, 1) := by decide +kernel
theorem dX0_payAll_4 : decode cX0_payAll 4 = .ok (.getfield 50, 3) := by decide +kernel
theorem dX0_payAll_7 : decode cX0_payAll 7 = .ok (.if_icmp .ge 47, 3) := by decide +kernel
theorem dX0_payAll_10 : decode cX0_payAll 10 = .ok (.aload_n 0, 1) := by decide +kernel
theorem dX0_payAll_11 : decode cX0_payAll 11 = .ok (.iload_n 1, 1) := by decide +kernel
theorem dX0_payAll_12 : decode cX0_payAll 12 = .ok (.invokevirtual 53, 3) := by decide +kernel
theorem dX0_payAll_15 : decode cX0_payAll 15 = .ok (.astore_n 2, 1) := by decide +kernel
theorem dX0_payAll_16 : decode cX0_payAll 16 = .ok (.aload_n 2, 1) := by decide +kernel
theorem dX0_payAll_17 : decode cX0_payAll 17 = .ok (.ifnull 31, 3) := by decide +kernel
theorem dX0_payAll_20 : decode cX0_payAll 20 = .ok (.aload_n 2, 1) := by decide +kernel
theorem dX0_payAll_21 : decode cX0_payAll 21 = .ok (.getfield 80, 3) := by decide +kernel
theorem dX0_payAll_24 : decode cX0_payAll 24 = .ok (.ifCond .ne 24, 3) := by decide +kernel
theorem dX0_payAll_27 : decode cX0_payAll 27 = .ok (.aload_n 2, 1) := by decide +kernel
theorem dX0_payAll_28 : decode cX0_payAll 28 = .ok (.aload_n 2, 1) := by decide +kernel
theorem dX0_payAll_29 : decode cX0_payAll 29 = .ok (.aload_n 0, 1) := by decide +kernel
theorem dX0_payAll_30 : decode cX0_payAll 30 = .ok (.aload_n 2, 1) := by decide +kernel
theorem dX0_payAll_31 : decode cX0_payAll 31 = .ok (.getfield 74, 3) := by decide +kernel
theorem dX0_payAll_34 : decode cX0_payAll 34 = .ok (.invokevirtual 113, 3) := by decide +kernel
theorem dX0_payAll_37 : decode cX0_payAll 37 = .ok (.aload_n 0, 1) := by decide +kernel
theorem dX0_payAll_38 : decode cX0_payAll 38 = .ok (.iload_n 1, 1) := by decide +kernel
theorem dX0_payAll_39 : decode cX0_payAll 39 = .ok (.invokevirtual 116, 3) := by decide +kernel
theorem dX0_payAll_42 : decode cX0_payAll 42 = .ok (.invokevirtual 119, 3) := by decide +kernel
theorem dX0_payAll_45 : decode cX0_payAll 45 = .ok (.invokevirtual 123, 3) := by decide +kernel
theorem dX0_payAll_48 : decode cX0_payAll 48 = .ok (.iinc 1 1, 3) := by decide +kernel
theorem dX0_payAll_51 : decode cX0_payAll 51 = .ok (.goto (-49), 3) := by decide +kernel
theorem dX0_payAll_54 : decode cX0_payAll 54 = .ok (.return_, 1) := by decide +kernel
theorem dX0_draw_0 : decode cX0_draw 0 = .ok (.aload_n 0, 1) := by decide +kernel
theorem dX0_draw_1 : decode cX0_draw 1 = .ok (.aload_n 0, 1) := by decide +kernel
theorem dX0_draw_2 : decode cX0_draw 2 = .ok (.getfield 9, 3) := by decide +kernel
theorem dX0_draw_5 : decode cX0_draw 5 = .ok (.ldc 126, 2) := by decide +kernel
theorem dX0_draw_7 : decode cX0_draw 7 = .ok (.imul, 1) := by decide +kernel
theorem dX0_draw_8 : decode cX0_draw 8 = .ok (.sipush 12345, 3) := by decide +kernel
theorem dX0_draw_11 : decode cX0_draw 11 = .ok (.iadd, 1) := by decide +kernel
theorem dX0_draw_12 : decode cX0_draw 12 = .ok (.putfield 9, 3) := by decide +kernel
theorem dX0_draw_15 : decode cX0_draw 15 = .ok (.aload_n 0, 1) := by decide +kernel
theorem dX0_draw_16 : decode cX0_draw 16 = .ok (.getfield 9, 3) := by decide +kernel
theorem dX0_draw_19 : decode cX0_draw 19 = .ok (.bipush 8, 2) := by decide +kernel
theorem dX0_draw_21 : decode cX0_draw 21 = .ok (.iushr, 1) := by decide +kernel
theorem dX0_draw_22 : decode cX0_draw 22 = .ok (.ireturn, 1) := by decide +kernel
theorem dX0_drawNight_0 : decode cX0_drawNight 0 = .ok (.aload_n 0, 1) := by decide +kernel
theorem dX0_drawNight_1 : decode cX0_drawNight 1 = .ok (.aload_n 0, 1) := by decide +kernel
theorem dX0_drawNight_2 : decode cX0_drawNight 2 = .ok (.invokevirtual 127, 3) := by decide +kernel
theorem dX0_drawNight_5 : decode cX0_drawNight 5 = .ok (.bipush 10, 2) := by decide +kernel
theorem dX0_drawNight_7 : decode cX0_drawNight 7 = .ok (.irem, 1) := by decide +kernel
theorem dX0_drawNight_8 : decode cX0_drawNight 8 = .ok (.putfield 47, 3) := by decide +kernel
theorem dX0_drawNight_11 : decode cX0_drawNight 11 = .ok (.aload_n 0, 1) := by decide +kernel
theorem dX0_drawNight_12 : decode cX0_drawNight 12 = .ok (.getfield 50, 3) := by decide +kernel
theorem dX0_drawNight_15 : decode cX0_drawNight 15 = .ok (.iconst 1, 1) := by decide +kernel
theorem dX0_drawNight_16 : decode cX0_drawNight 16 = .ok (.if_icmp .ge 4, 3) := by decide +kernel
theorem dX0_drawNight_19 : decode cX0_drawNight 19 = .ok (.return_, 1) := by decide +kernel
theorem dX0_drawNight_20 : decode cX0_drawNight 20 = .ok (.aload_n 0, 1) := by decide +kernel
theorem dX0_drawNight_21 : decode cX0_drawNight 21 = .ok (.invokevirtual 127, 3) := by decide +kernel
theorem dX0_drawNight_24 : decode cX0_drawNight 24 = .ok (.aload_n 0, 1) := by decide +kernel
theorem dX0_drawNight_25 : decode cX0_drawNight 25 = .ok (.getfield 50, 3) := by decide +kernel
theorem dX0_drawNight_28 : decode cX0_drawNight 28 = .ok (.irem, 1) := by decide +kernel
theorem dX0_drawNight_29 : decode cX0_drawNight 29 = .ok (.istore_n 1, 1) := by decide +kernel
theorem dX0_drawNight_30 : decode cX0_drawNight 30 = .ok (.aload_n 0, 1) := by decide +kernel
theorem dX0_drawNight_31 : decode cX0_drawNight 31 = .ok (.invokevirtual 127, 3) := by decide +kernel
theorem dX0_drawNight_34 : decode cX0_drawNight 34 = .ok (.bipush 24, 2) := by decide +kernel
theorem dX0_drawNight_36 : decode cX0_drawNight 36 = .ok (.irem, 1) := by decide +kernel
theorem dX0_drawNight_37 : decode cX0_drawNight 37 = .ok (.istore_n 2, 1) := by decide +kernel
theorem dX0_drawNight_38 : decode cX0_drawNight 38 = .ok (.aload_n 0, 1) := by decide +kernel
theorem dX0_drawNight_39 : decode cX0_drawNight 39 = .ok (.iload_n 1, 1) := by decide +kernel
theorem dX0_drawNight_40 : decode cX0_drawNight 40 = .ok (.invokevirtual 53, 3) := by decide +kernel
theorem dX0_drawNight_43 : decode cX0_drawNight 43 = .ok (.astore_n 3, 1) := by decide +kernel
theorem dX0_drawNight_44 : decode cX0_drawNight 44 = .ok (.aload_n 3, 1) := by decide +kernel
theorem dX0_drawNight_45 : decode cX0_drawNight 45 = .ok (.ifnull 22, 3) := by decide +kernel
theorem dX0_drawNight_48 : decode cX0_drawNight 48 = .ok (.aload_n 3, 1) := by decide +kernel
theorem dX0_drawNight_49 : decode cX0_drawNight 49 = .ok (.getfield 80, 3) := by decide +kernel
theorem dX0_drawNight_52 : decode cX0_drawNight 52 = .ok (.ifCond .ne 15, 3) := by decide +kernel
theorem dX0_drawNight_55 : decode cX0_drawNight 55 = .ok (.aload_n 3, 1) := by decide +kernel
theorem dX0_drawNight_56 : decode cX0_drawNight 56 = .ok (.dup, 1) := by decide +kernel
theorem dX0_drawNight_57 : decode cX0_drawNight 57 = .ok (.getfield 74, 3) := by decide +kernel
theorem dX0_drawNight_60 : decode cX0_drawNight 60 = .ok (.iconst 1, 1) := by decide +kernel
theorem dX0_drawNight_61 : decode cX0_drawNight 61 = .ok (.iload_n 2, 1) := by decide +kernel
theorem dX0_drawNight_62 : decode cX0_drawNight 62 = .ok (.ishl, 1) := by decide +kernel
theorem dX0_drawNight_63 : decode cX0_drawNight 63 = .ok (.ior, 1) := by decide +kernel
theorem dX0_drawNight_64 : decode cX0_drawNight 64 = .ok (.putfield 74, 3) := by decide +kernel
theorem dX0_drawNight_67 : decode cX0_drawNight 67 = .ok (.return_, 1) := by decide +kernel
theorem dX0_clashersWith_0 : decode cX0_clashersWith 0 = .ok (.aload_n 0, 1) := by decide +kernel
theorem dX0_clashersWith_1 : decode cX0_clashersWith 1 = .ok (.iload_n 1, 1) := by decide +kernel
theorem dX0_clashersWith_2 : decode cX0_clashersWith 2 = .ok (.invokevirtual 53, 3) := by decide +kernel
theorem dX0_clashersWith_5 : decode cX0_clashersWith 5 = .ok (.astore_n 2, 1) := by decide +kernel
theorem dX0_clashersWith_6 : decode cX0_clashersWith 6 = .ok (.aload_n 2, 1) := by decide +kernel
theorem dX0_clashersWith_7 : decode cX0_clashersWith 7 = .ok (.ifnonnull 5, 3) := by decide +kernel
theorem dX0_clashersWith_10 : decode cX0_clashersWith 10 = .ok (.iconst 0, 1) := by decide +kernel
theorem dX0_clashersWith_11 : decode cX0_clashersWith 11 = .ok (.ireturn, 1) := by decide +kernel
theorem dX0_clashersWith_12 : decode cX0_clashersWith 12 = .ok (.iconst 0, 1) := by decide +kernel
theorem dX0_clashersWith_13 : decode cX0_clashersWith 13 = .ok (.istore_n 3, 1) := by decide +kernel
theorem dX0_clashersWith_14 : decode cX0_clashersWith 14 = .ok (.iconst 0, 1) := by decide +kernel
theorem dX0_clashersWith_15 : decode cX0_clashersWith 15 = .ok (.istore 4, 2) := by decide +kernel
theorem dX0_clashersWith_17 : decode cX0_clashersWith 17 = .ok (.iload 4, 2) := by decide +kernel
theorem dX0_clashersWith_19 : decode cX0_clashersWith 19 = .ok (.aload_n 0, 1) := by decide +kernel
theorem dX0_clashersWith_20 : decode cX0_clashersWith 20 = .ok (.getfield 50, 3) := by decide +kernel
theorem dX0_clashersWith_23 : decode cX0_clashersWith 23 = .ok (.if_icmp .ge 71, 3) := by decide +kernel
theorem dX0_clashersWith_26 : decode cX0_clashersWith 26 = .ok (.aload_n 0, 1) := by decide +kernel
theorem dX0_clashersWith_27 : decode cX0_clashersWith 27 = .ok (.iload 4, 2) := by decide +kernel
theorem dX0_clashersWith_29 : decode cX0_clashersWith 29 = .ok (.invokevirtual 53, 3) := by decide +kernel
theorem dX0_clashersWith_32 : decode cX0_clashersWith 32 = .ok (.astore 5, 2) := by decide +kernel
theorem dX0_clashersWith_34 : decode cX0_clashersWith 34 = .ok (.aload 5, 2) := by decide +kernel
theorem dX0_clashersWith_36 : decode cX0_clashersWith 36 = .ok (.ifnull 52, 3) := by decide +kernel
theorem dX0_clashersWith_39 : decode cX0_clashersWith 39 = .ok (.iload 4, 2) := by decide +kernel
theorem dX0_clashersWith_41 : decode cX0_clashersWith 41 = .ok (.iload_n 1, 1) := by decide +kernel
theorem dX0_clashersWith_42 : decode cX0_clashersWith 42 = .ok (.if_icmp .eq 46, 3) := by decide +kernel
theorem dX0_clashersWith_45 : decode cX0_clashersWith 45 = .ok (.aload_n 2, 1) := by decide +kernel
theorem dX0_clashersWith_46 : decode cX0_clashersWith 46 = .ok (.getfield 74, 3) := by decide +kernel
theorem dX0_clashersWith_49 : decode cX0_clashersWith 49 = .ok (.aload 5, 2) := by decide +kernel
theorem dX0_clashersWith_51 : decode cX0_clashersWith 51 = .ok (.getfield 74, 3) := by decide +kernel
theorem dX0_clashersWith_54 : decode cX0_clashersWith 54 = .ok (.iand, 1) := by decide +kernel
theorem dX0_clashersWith_55 : decode cX0_clashersWith 55 = .ok (.ifCond .eq 33, 3) := by decide +kernel
theorem dX0_clashersWith_58 : decode cX0_clashersWith 58 = .ok (.aload_n 2, 1) := by decide +kernel
theorem dX0_clashersWith_59 : decode cX0_clashersWith 59 = .ok (.getfield 68, 3) := by decide +kernel
theorem dX0_clashersWith_62 : decode cX0_clashersWith 62 = .ok (.iconst 4, 1) := by decide +kernel
theorem dX0_clashersWith_63 : decode cX0_clashersWith 63 = .ok (.invokestatic 131, 3) := by decide +kernel
theorem dX0_clashersWith_66 : decode cX0_clashersWith 66 = .ok (.ifCond .eq 15, 3) := by decide +kernel
theorem dX0_clashersWith_69 : decode cX0_clashersWith 69 = .ok (.aload 5, 2) := by decide +kernel
theorem dX0_clashersWith_71 : decode cX0_clashersWith 71 = .ok (.getfield 68, 3) := by decide +kernel
theorem dX0_clashersWith_74 : decode cX0_clashersWith 74 = .ok (.iconst 4, 1) := by decide +kernel
theorem dX0_clashersWith_75 : decode cX0_clashersWith 75 = .ok (.invokestatic 131, 3) := by decide +kernel
theorem dX0_clashersWith_78 : decode cX0_clashersWith 78 = .ok (.ifCond .ne 10, 3) := by decide +kernel
theorem dX0_clashersWith_81 : decode cX0_clashersWith 81 = .ok (.iload_n 3, 1) := by decide +kernel
theorem dX0_clashersWith_82 : decode cX0_clashersWith 82 = .ok (.iconst 1, 1) := by decide +kernel
theorem dX0_clashersWith_83 : decode cX0_clashersWith 83 = .ok (.iload 4, 2) := by decide +kernel
theorem dX0_clashersWith_85 : decode cX0_clashersWith 85 = .ok (.ishl, 1) := by decide +kernel
theorem dX0_clashersWith_86 : decode cX0_clashersWith 86 = .ok (.ior, 1) := by decide +kernel
theorem dX0_clashersWith_87 : decode cX0_clashersWith 87 = .ok (.istore_n 3, 1) := by decide +kernel
theorem dX0_clashersWith_88 : decode cX0_clashersWith 88 = .ok (.iinc 4 1, 3) := by decide +kernel
theorem dX0_clashersWith_91 : decode cX0_clashersWith 91 = .ok (.goto (-74), 3) := by decide +kernel
theorem dX0_clashersWith_94 : decode cX0_clashersWith 94 = .ok (.iload_n 3, 1) := by decide +kernel
theorem dX0_clashersWith_95 : decode cX0_clashersWith 95 = .ok (.ireturn, 1) := by decide +kernel
theorem dX0_leastToGiveUp_0 : decode cX0_leastToGiveUp 0 = .ok (.iconst 1, 1) := by decide +kernel
theorem dX0_leastToGiveUp_1 : decode cX0_leastToGiveUp 1 = .ok (.aload_n 0, 1) := by decide +kernel
theorem dX0_leastToGiveUp_2 : decode cX0_leastToGiveUp 2 = .ok (.getfield 50, 3) := by decide +kernel
theorem dX0_leastToGiveUp_5 : decode cX0_leastToGiveUp 5 = .ok (.ishl, 1) := by decide +kernel
theorem dX0_leastToGiveUp_6 : decode cX0_leastToGiveUp 6 = .ok (.iconst 1, 1) := by decide +kernel
theorem dX0_leastToGiveUp_7 : decode cX0_leastToGiveUp 7 = .ok (.isub, 1) := by decide +kernel
theorem dX0_leastToGiveUp_8 : decode cX0_leastToGiveUp 8 = .ok (.istore_n 1, 1) := by decide +kernel
theorem dX0_leastToGiveUp_9 : decode cX0_leastToGiveUp 9 = .ok (.iconst 0, 1) := by decide +kernel
theorem dX0_leastToGiveUp_10 : decode cX0_leastToGiveUp 10 = .ok (.istore_n 2, 1) := by decide +kernel
theorem dX0_leastToGiveUp_11 : decode cX0_leastToGiveUp 11 = .ok (.iload_n 2, 1) := by decide +kernel
theorem dX0_leastToGiveUp_12 : decode cX0_leastToGiveUp 12 = .ok (.iconst 1, 1) := by decide +kernel
theorem dX0_leastToGiveUp_13 : decode cX0_leastToGiveUp 13 = .ok (.aload_n 0, 1) := by decide +kernel
theorem dX0_leastToGiveUp_14 : decode cX0_leastToGiveUp 14 = .ok (.getfield 50, 3) := by decide +kernel
theorem dX0_leastToGiveUp_17 : decode cX0_leastToGiveUp 17 = .ok (.ishl, 1) := by decide +kernel
theorem dX0_leastToGiveUp_18 : decode cX0_leastToGiveUp 18 = .ok (.if_icmp .ge 30, 3) := by decide +kernel
theorem dX0_leastToGiveUp_21 : decode cX0_leastToGiveUp 21 = .ok (.iload_n 2, 1) := by decide +kernel
theorem dX0_leastToGiveUp_22 : decode cX0_leastToGiveUp 22 = .ok (.invokestatic 95, 3) := by decide +kernel
theorem dX0_leastToGiveUp_25 : decode cX0_leastToGiveUp 25 = .ok (.iload_n 1, 1) := by decide +kernel
theorem dX0_leastToGiveUp_26 : decode cX0_leastToGiveUp 26 = .ok (.invokestatic 95, 3) := by decide +kernel
theorem dX0_leastToGiveUp_29 : decode cX0_leastToGiveUp 29 = .ok (.if_icmp .ge 13, 3) := by decide +kernel
theorem dX0_leastToGiveUp_32 : decode cX0_leastToGiveUp 32 = .ok (.aload_n 0, 1) := by decide +kernel
theorem dX0_leastToGiveUp_33 : decode cX0_leastToGiveUp 33 = .ok (.iload_n 2, 1) := by decide +kernel
theorem dX0_leastToGiveUp_34 : decode cX0_leastToGiveUp 34 = .ok (.invokevirtual 135, 3) := by decide +kernel
theorem dX0_leastToGiveUp_37 : decode cX0_leastToGiveUp 37 = .ok (.ifCond .eq 5, 3) := by decide +kernel
theorem dX0_leastToGiveUp_40 : decode cX0_leastToGiveUp 40 = .ok (.iload_n 2, 1) := by decide +kernel
theorem dX0_leastToGiveUp_41 : decode cX0_leastToGiveUp 41 = .ok (.istore_n 1, 1) := by decide +kernel
theorem dX0_leastToGiveUp_42 : decode cX0_leastToGiveUp 42 = .ok (.iinc 2 1, 3) := by decide +kernel
theorem dX0_leastToGiveUp_45 : decode cX0_leastToGiveUp 45 = .ok (.goto (-34), 3) := by decide +kernel
theorem dX0_leastToGiveUp_48 : decode cX0_leastToGiveUp 48 = .ok (.iload_n 1, 1) := by decide +kernel
theorem dX0_leastToGiveUp_49 : decode cX0_leastToGiveUp 49 = .ok (.ireturn, 1) := by decide +kernel
theorem dX0_isPeaceWithout_0 : decode cX0_isPeaceWithout 0 = .ok (.iconst 0, 1) := by decide +kernel
theorem dX0_isPeaceWithout_1 : decode cX0_isPeaceWithout 1 = .ok (.istore_n 2, 1) := by decide +kernel
theorem dX0_isPeaceWithout_2 : decode cX0_isPeaceWithout 2 = .ok (.iload_n 2, 1) := by decide +kernel
theorem dX0_isPeaceWithout_3 : decode cX0_isPeaceWithout 3 = .ok (.aload_n 0, 1) := by decide +kernel
theorem dX0_isPeaceWithout_4 : decode cX0_isPeaceWithout 4 = .ok (.getfield 50, 3) := by decide +kernel
theorem dX0_isPeaceWithout_7 : decode cX0_isPeaceWithout 7 = .ok (.if_icmp .ge 31, 3) := by decide +kernel
theorem dX0_isPeaceWithout_10 : decode cX0_isPeaceWithout 10 = .ok (.iload_n 1, 1) := by decide +kernel
theorem dX0_isPeaceWithout_11 : decode cX0_isPeaceWithout 11 = .ok (.iload_n 2, 1) := by decide +kernel
theorem dX0_isPeaceWithout_12 : decode cX0_isPeaceWithout 12 = .ok (.ishr, 1) := by decide +kernel
theorem dX0_isPeaceWithout_13 : decode cX0_isPeaceWithout 13 = .ok (.iconst 1, 1) := by decide +kernel
theorem dX0_isPeaceWithout_14 : decode cX0_isPeaceWithout 14 = .ok (.iand, 1) := by decide +kernel
theorem dX0_isPeaceWithout_15 : decode cX0_isPeaceWithout 15 = .ok (.ifCond .ne 17, 3) := by decide +kernel
theorem dX0_isPeaceWithout_18 : decode cX0_isPeaceWithout 18 = .ok (.aload_n 0, 1) := by decide +kernel
theorem dX0_isPeaceWithout_19 : decode cX0_isPeaceWithout 19 = .ok (.iload_n 2, 1) := by decide +kernel
theorem dX0_isPeaceWithout_20 : decode cX0_isPeaceWithout 20 = .ok (.invokevirtual 139, 3) := by decide +kernel
theorem dX0_isPeaceWithout_23 : decode cX0_isPeaceWithout 23 = .ok (.iload_n 1, 1) := by decide +kernel
theorem dX0_isPeaceWithout_24 : decode cX0_isPeaceWithout 24 = .ok (.iconst (-1), 1) := by decide +kernel
theorem dX0_isPeaceWithout_25 : decode cX0_isPeaceWithout 25 = .ok (.ixor, 1) := by decide +kernel
theorem dX0_isPeaceWithout_26 : decode cX0_isPeaceWithout 26 = .ok (.iand, 1) := by decide +kernel
theorem dX0_isPeaceWithout_27 : decode cX0_isPeaceWithout 27 = .ok (.ifCond .eq 5, 3) := by decide +kernel
theorem dX0_isPeaceWithout_30 : decode cX0_isPeaceWithout 30 = .ok (.iconst 0, 1) := by decide +kernel
theorem dX0_isPeaceWithout_31 : decode cX0_isPeaceWithout 31 = .ok (.ireturn, 1) := by decide +kernel
theorem dX0_isPeaceWithout_32 : decode cX0_isPeaceWithout 32 = .ok (.iinc 2 1, 3) := by decide +kernel
theorem dX0_isPeaceWithout_35 : decode cX0_isPeaceWithout 35 = .ok (.goto (-33), 3) := by decide +kernel
theorem dX0_isPeaceWithout_38 : decode cX0_isPeaceWithout 38 = .ok (.iconst 1, 1) := by decide +kernel
theorem dX0_isPeaceWithout_39 : decode cX0_isPeaceWithout 39 = .ok (.ireturn, 1) := by decide +kernel
theorem dX1_init_0 : decode cX1_init 0 = .ok (.aload_n 0, 1) := by decide +kernel
theorem dX1_init_1 : decode cX1_init 1 = .ok (.invokespecial 3, 3) := by decide +kernel
theorem dX1_init_4 : decode cX1_init 4 = .ok (.aload_n 0, 1) := by decide +kernel
theorem dX1_init_5 : decode cX1_init 5 = .ok (.new 9, 3) := by decide +kernel
theorem dX1_init_8 : decode cX1_init 8 = .ok (.dup, 1) := by decide +kernel
theorem dX1_init_9 : decode cX1_init 9 = .ok (.bipush 50, 2) := by decide +kernel
theorem dX1_init_11 : decode cX1_init 11 = .ok (.invokespecial 11, 3) := by decide +kernel
theorem dX1_init_14 : decode cX1_init 14 = .ok (.putfield 14, 3) := by decide +kernel
theorem dX1_init_17 : decode cX1_init 17 = .ok (.aload_n 0, 1) := by decide +kernel
theorem dX1_init_18 : decode cX1_init 18 = .ok (.bipush 50, 2) := by decide +kernel
theorem dX1_init_20 : decode cX1_init 20 = .ok (.newarray .int, 2) := by decide +kernel
theorem dX1_init_22 : decode cX1_init 22 = .ok (.putfield 20, 3) := by decide +kernel
theorem dX1_init_25 : decode cX1_init 25 = .ok (.aload_n 0, 1) := by decide +kernel
theorem dX1_init_26 : decode cX1_init 26 = .ok (.iload_n 1, 1) := by decide +kernel
theorem dX1_init_27 : decode cX1_init 27 = .ok (.putfield 24, 3) := by decide +kernel
theorem dX1_init_30 : decode cX1_init 30 = .ok (.return_, 1) := by decide +kernel
theorem dX1_copyFrom_0 : decode cX1_copyFrom 0 = .ok (.aload_n 0, 1) := by decide +kernel
theorem dX1_copyFrom_1 : decode cX1_copyFrom 1 = .ok (.getfield 14, 3) := by decide +kernel
theorem dX1_copyFrom_4 : decode cX1_copyFrom 4 = .ok (.aload_n 1, 1) := by decide +kernel
theorem dX1_copyFrom_5 : decode cX1_copyFrom 5 = .ok (.invokevirtual 28, 3) := by decide +kernel
theorem dX1_copyFrom_8 : decode cX1_copyFrom 8 = .ok (.return_, 1) := by decide +kernel
theorem dX1_rule_0 : decode cX1_rule 0 = .ok (.aload_n 0, 1) := by decide +kernel
theorem dX1_rule_1 : decode cX1_rule 1 = .ok (.getfield 24, 3) := by decide +kernel
theorem dX1_rule_4 : decode cX1_rule 4 = .ok (.ifCond .ne 25, 3) := by decide +kernel
theorem dX1_rule_7 : decode cX1_rule 7 = .ok (.aload_n 0, 1) := by decide +kernel
theorem dX1_rule_8 : decode cX1_rule 8 = .ok (.getfield 14, 3) := by decide +kernel
theorem dX1_rule_11 : decode cX1_rule 11 = .ok (.getfield 32, 3) := by decide +kernel
theorem dX1_rule_14 : decode cX1_rule 14 = .ok (.ifCond .ne 7, 3) := by decide +kernel
theorem dX1_rule_17 : decode cX1_rule 17 = .ok (.iconst 0, 1) := by decide +kernel
theorem dX1_rule_18 : decode cX1_rule 18 = .ok (.goto 10, 3) := by decide +kernel
theorem dX1_rule_21 : decode cX1_rule 21 = .ok (.aload_n 0, 1) := by decide +kernel
theorem dX1_rule_22 : decode cX1_rule 22 = .ok (.iload_n 1, 1) := by decide +kernel
theorem dX1_rule_23 : decode cX1_rule 23 = .ok (.iload_n 2, 1) := by decide +kernel
theorem dX1_rule_24 : decode cX1_rule 24 = .ok (.iload_n 3, 1) := by decide +kernel
theorem dX1_rule_25 : decode cX1_rule 25 = .ok (.invokevirtual 35, 3) := by decide +kernel
theorem dX1_rule_28 : decode cX1_rule 28 = .ok (.ireturn, 1) := by decide +kernel
theorem dX1_rule_29 : decode cX1_rule 29 = .ok (.aload_n 0, 1) := by decide +kernel
theorem dX1_rule_30 : decode cX1_rule 30 = .ok (.getfield 14, 3) := by decide +kernel
theorem dX1_rule_33 : decode cX1_rule 33 = .ok (.getfield 32, 3) := by decide +kernel
theorem dX1_rule_36 : decode cX1_rule 36 = .ok (.ifCond .ne 11, 3) := by decide +kernel
theorem dX1_rule_39 : decode cX1_rule 39 = .ok (.iconst 1, 1) := by decide +kernel
theorem dX1_rule_40 : decode cX1_rule 40 = .ok (.iload_n 2, 1) := by decide +kernel
theorem dX1_rule_41 : decode cX1_rule 41 = .ok (.iconst 4, 1) := by decide +kernel
theorem dX1_rule_42 : decode cX1_rule 42 = .ok (.idiv, 1) := by decide +kernel
theorem dX1_rule_43 : decode cX1_rule 43 = .ok (.iadd, 1) := by decide +kernel
theorem dX1_rule_44 : decode cX1_rule 44 = .ok (.goto 10, 3) := by decide +kernel
theorem dX1_rule_47 : decode cX1_rule 47 = .ok (.aload_n 0, 1) := by decide +kernel
theorem dX1_rule_48 : decode cX1_rule 48 = .ok (.iload_n 1, 1) := by decide +kernel
theorem dX1_rule_49 : decode cX1_rule 49 = .ok (.iload_n 2, 1) := by decide +kernel
theorem dX1_rule_50 : decode cX1_rule 50 = .ok (.iload_n 3, 1) := by decide +kernel
theorem dX1_rule_51 : decode cX1_rule 51 = .ok (.invokevirtual 35, 3) := by decide +kernel
theorem dX1_rule_54 : decode cX1_rule 54 = .ok (.istore 4, 2) := by decide +kernel
theorem dX1_rule_56 : decode cX1_rule 56 = .ok (.iconst 0, 1) := by decide +kernel
theorem dX1_rule_57 : decode cX1_rule 57 = .ok (.bipush 99, 2) := by decide +kernel
theorem dX1_rule_59 : decode cX1_rule 59 = .ok (.iload 4, 2) := by decide +kernel
theorem dX1_rule_61 : decode cX1_rule 61 = .ok (.invokestatic 39, 3) := by decide +kernel
theorem dX1_rule_64 : decode cX1_rule 64 = .ok (.invokestatic 45, 3) := by decide +kernel
theorem dX1_rule_67 : decode cX1_rule 67 = .ok (.ireturn, 1) := by decide +kernel
theorem dX1_workOut_0 : decode cX1_workOut 0 = .ok (.iconst 0, 1) := by decide +kernel
theorem dX1_workOut_1 : decode cX1_workOut 1 = .ok (.istore 4, 2) := by decide +kernel
theorem dX1_workOut_3 : decode cX1_workOut 3 = .ok (.iconst 0, 1) := by decide +kernel
theorem dX1_workOut_4 : decode cX1_workOut 4 = .ok (.istore 5, 2) := by decide +kernel
theorem dX1_workOut_6 : decode cX1_workOut 6 = .ok (.iload 5, 2) := by decide +kernel
theorem dX1_workOut_8 : decode cX1_workOut 8 = .ok (.aload_n 0, 1) := by decide +kernel
theorem dX1_workOut_9 : decode cX1_workOut 9 = .ok (.getfield 14, 3) := by decide +kernel
theorem dX1_workOut_12 : decode cX1_workOut 12 = .ok (.getfield 32, 3) := by decide +kernel
theorem dX1_workOut_15 : decode cX1_workOut 15 = .ok (.if_icmp .ge 149, 3) := by decide +kernel
theorem dX1_workOut_18 : decode cX1_workOut 18 = .ok (.aload_n 0, 1) := by decide +kernel
theorem dX1_workOut_19 : decode cX1_workOut 19 = .ok (.getfield 14, 3) := by decide +kernel
theorem dX1_workOut_22 : decode cX1_workOut 22 = .ok (.iload 5, 2) := by decide +kernel
theorem dX1_workOut_24 : decode cX1_workOut 24 = .ok (.invokevirtual 48, 3) := by decide +kernel
theorem dX1_workOut_27 : decode cX1_workOut 27 = .ok (.istore 6, 2) := by decide +kernel
theorem dX1_workOut_29 : decode cX1_workOut 29 = .ok (.iload 6, 2) := by decide +kernel
theorem dX1_workOut_31 : decode cX1_workOut 31 = .ok (.bipush (-3), 2) := by decide +kernel
theorem dX1_workOut_33 : decode cX1_workOut 33 = .ok (.if_icmp .lt 36, 3) := by decide +kernel
theorem dX1_workOut_36 : decode cX1_workOut 36 = .ok (.iload 4, 2) := by decide +kernel
theorem dX1_workOut_38 : decode cX1_workOut 38 = .ok (.aload_n 0, 1) := by decide +kernel
theorem dX1_workOut_39 : decode cX1_workOut 39 = .ok (.getfield 20, 3) := by decide +kernel
theorem dX1_workOut_42 : decode cX1_workOut 42 = .ok (.arraylength, 1) := by decide +kernel
theorem dX1_workOut_43 : decode cX1_workOut 43 = .ok (.if_icmp .lt 5, 3) := by decide +kernel
theorem dX1_workOut_46 : decode cX1_workOut 46 = .ok (.iconst 0, 1) := by decide +kernel
theorem dX1_workOut_47 : decode cX1_workOut 47 = .ok (.ireturn, 1) := by decide +kernel
theorem dX1_workOut_48 : decode cX1_workOut 48 = .ok (.aload_n 0, 1) := by decide +kernel
theorem dX1_workOut_49 : decode cX1_workOut 49 = .ok (.getfield 20, 3) := by decide +kernel
theorem dX1_workOut_52 : decode cX1_workOut 52 = .ok (.iload 4, 2) := by decide +kernel
theorem dX1_workOut_54 : decode cX1_workOut 54 = .ok (.iload 6, 2) := by decide +kernel
theorem dX1_workOut_56 : decode cX1_workOut 56 = .ok (.iload_n 1, 1) := by decide +kernel
theorem dX1_workOut_57 : decode cX1_workOut 57 = .ok (.iload_n 2, 1) := by decide +kernel
theorem dX1_workOut_58 : decode cX1_workOut 58 = .ok (.iload_n 3, 1) := by decide +kernel
theorem dX1_workOut_59 : decode cX1_workOut 59 = .ok (.invokestatic 52, 3) := by decide +kernel
theorem dX1_workOut_62 : decode cX1_workOut 62 = .ok (.iastore, 1) := by decide +kernel
theorem dX1_workOut_63 : decode cX1_workOut 63 = .ok (.iinc 4 1, 3) := by decide +kernel
theorem dX1_workOut_66 : decode cX1_workOut 66 = .ok (.goto 92, 3) := by decide +kernel
theorem dX1_workOut_69 : decode cX1_workOut 69 = .ok (.iload 6, 2) := by decide +kernel
theorem dX1_workOut_71 : decode cX1_workOut 71 = .ok (.bipush (-33), 2) := by decide +kernel
theorem dX1_workOut_73 : decode cX1_workOut 73 = .ok (.if_icmp .ne 43, 3) := by decide +kernel
theorem dX1_workOut_76 : decode cX1_workOut 76 = .ok (.iload 4, 2) := by decide +kernel
theorem dX1_workOut_78 : decode cX1_workOut 78 = .ok (.iconst 1, 1) := by decide +kernel
theorem dX1_workOut_79 : decode cX1_workOut 79 = .ok (.if_icmp .ge 5, 3) := by decide +kernel
theorem dX1_workOut_82 : decode cX1_workOut 82 = .ok (.iconst 0, 1) := by decide +kernel
theorem dX1_workOut_83 : decode cX1_workOut 83 = .ok (.ireturn, 1) := by decide +kernel
theorem dX1_workOut_84 : decode cX1_workOut 84 = .ok (.aload_n 0, 1) := by decide +kernel
theorem dX1_workOut_85 : decode cX1_workOut 85 = .ok (.getfield 20, 3) := by decide +kernel
theorem dX1_workOut_88 : decode cX1_workOut 88 = .ok (.iload 4, 2) := by decide +kernel
theorem dX1_workOut_90 : decode cX1_workOut 90 = .ok (.iconst 1, 1) := by decide +kernel
theorem dX1_workOut_91 : decode cX1_workOut 91 = .ok (.isub, 1) := by decide +kernel
theorem dX1_workOut_92 : decode cX1_workOut 92 = .ok (.aload_n 0, 1) := by decide +kernel
theorem dX1_workOut_93 : decode cX1_workOut 93 = .ok (.getfield 20, 3) := by decide +kernel
theorem dX1_workOut_96 : decode cX1_workOut 96 = .ok (.iload 4, 2) := by decide +kernel
theorem dX1_workOut_98 : decode cX1_workOut 98 = .ok (.iconst 1, 1) := by decide +kernel
theorem dX1_workOut_99 : decode cX1_workOut 99 = .ok (.isub, 1) := by decide +kernel
theorem dX1_workOut_100 : decode cX1_workOut 100 = .ok (.iaload, 1) := by decide +kernel
theorem dX1_workOut_101 : decode cX1_workOut 101 = .ok (.ifCond .ne 7, 3) := by decide +kernel
theorem dX1_workOut_104 : decode cX1_workOut 104 = .ok (.iconst 1, 1) := by decide +kernel
theorem dX1_workOut_105 : decode cX1_workOut 105 = .ok (.goto 4, 3) := by decide +kernel
theorem dX1_workOut_108 : decode cX1_workOut 108 = .ok (.iconst 0, 1) := by decide +kernel
theorem dX1_workOut_109 : decode cX1_workOut 109 = .ok (.invokestatic 56, 3) := by decide +kernel
theorem dX1_workOut_112 : decode cX1_workOut 112 = .ok (.iastore, 1) := by decide +kernel
theorem dX1_workOut_113 : decode cX1_workOut 113 = .ok (.goto 45, 3) := by decide +kernel
theorem dX1_workOut_116 : decode cX1_workOut 116 = .ok (.iload 4, 2) := by decide +kernel
theorem dX1_workOut_118 : decode cX1_workOut 118 = .ok (.iconst 2, 1) := by decide +kernel
theorem dX1_workOut_119 : decode cX1_workOut 119 = .ok (.if_icmp .ge 5, 3) := by decide +kernel
theorem dX1_workOut_122 : decode cX1_workOut 122 = .ok (.iconst 0, 1) := by decide +kernel
theorem dX1_workOut_123 : decode cX1_workOut 123 = .ok (.ireturn, 1) := by decide +kernel
theorem dX1_workOut_124 : decode cX1_workOut 124 = .ok (.iinc 4 (-1), 3) := by decide +kernel
theorem dX1_workOut_127 : decode cX1_workOut 127 = .ok (.aload_n 0, 1) := by decide +kernel
theorem dX1_workOut_128 : decode cX1_workOut 128 = .ok (.getfield 20, 3) := by decide +kernel
theorem dX1_workOut_131 : decode cX1_workOut 131 = .ok (.iload 4, 2) := by decide +kernel
theorem dX1_workOut_133 : decode cX1_workOut 133 = .ok (.iconst 1, 1) := by decide +kernel
theorem dX1_workOut_134 : decode cX1_workOut 134 = .ok (.isub, 1) := by decide +kernel
theorem dX1_workOut_135 : decode cX1_workOut 135 = .ok (.iload 6, 2) := by decide +kernel
theorem dX1_workOut_137 : decode cX1_workOut 137 = .ok (.ineg, 1) := by decide +kernel
theorem dX1_workOut_138 : decode cX1_workOut 138 = .ok (.aload_n 0, 1) := by decide +kernel
theorem dX1_workOut_139 : decode cX1_workOut 139 = .ok (.getfield 20, 3) := by decide +kernel
theorem dX1_workOut_142 : decode cX1_workOut 142 = .ok (.iload 4, 2) := by decide +kernel
theorem dX1_workOut_144 : decode cX1_workOut 144 = .ok (.iconst 1, 1) := by decide +kernel
theorem dX1_workOut_145 : decode cX1_workOut 145 = .ok (.isub, 1) := by decide +kernel
theorem dX1_workOut_146 : decode cX1_workOut 146 = .ok (.iaload, 1) := by decide +kernel
theorem dX1_workOut_147 : decode cX1_workOut 147 = .ok (.aload_n 0, 1) := by decide +kernel
theorem dX1_workOut_148 : decode cX1_workOut 148 = .ok (.getfield 20, 3) := by decide +kernel
theorem dX1_workOut_151 : decode cX1_workOut 151 = .ok (.iload 4, 2) := by decide +kernel
theorem dX1_workOut_153 : decode cX1_workOut 153 = .ok (.iaload, 1) := by decide +kernel
theorem dX1_workOut_154 : decode cX1_workOut 154 = .ok (.invokestatic 60, 3) := by decide +kernel
theorem dX1_workOut_157 : decode cX1_workOut 157 = .ok (.iastore, 1) := by decide +kernel
theorem dX1_workOut_158 : decode cX1_workOut 158 = .ok (.iinc 5 1, 3) := by decide +kernel
theorem dX1_workOut_161 : decode cX1_workOut 161 = .ok (.goto (-155), 3) := by decide +kernel
theorem dX1_workOut_164 : decode cX1_workOut 164 = .ok (.iload 4, 2) := by decide +kernel
theorem dX1_workOut_166 : decode cX1_workOut 166 = .ok (.iconst 1, 1) := by decide +kernel
theorem dX1_workOut_167 : decode cX1_workOut 167 = .ok (.if_icmp .ge 7, 3) := by decide +kernel
theorem dX1_workOut_170 : decode cX1_workOut 170 = .ok (.iconst 0, 1) := by decide +kernel
theorem dX1_workOut_171 : decode cX1_workOut 171 = .ok (.goto 12, 3) := by decide +kernel
theorem dX1_workOut_174 : decode cX1_workOut 174 = .ok (.aload_n 0, 1) := by decide +kernel
theorem dX1_workOut_175 : decode cX1_workOut 175 = .ok (.getfield 20, 3) := by decide +kernel
theorem dX1_workOut_178 : decode cX1_workOut 178 = .ok (.iload 4, 2) := by decide +kernel
theorem dX1_workOut_180 : decode cX1_workOut 180 = .ok (.iconst 1, 1) := by decide +kernel
theorem dX1_workOut_181 : decode cX1_workOut 181 = .ok (.isub, 1) := by decide +kernel
theorem dX1_workOut_182 : decode cX1_workOut 182 = .ok (.iaload, 1) := by decide +kernel
theorem dX1_workOut_183 : decode cX1_workOut 183 = .ok (.ireturn, 1) := by decide +kernel
theorem dX1_valueOf_0 : decode cX1_valueOf 0 = .ok (.iload_n 0, 1) := by decide +kernel
theorem dX1_valueOf_1 : decode cX1_valueOf 1 = .ok (.ifCond .lt 5, 3) := by decide +kernel
theorem dX1_valueOf_4 : decode cX1_valueOf 4 = .ok (.iload_n 0, 1) := by decide +kernel
theorem dX1_valueOf_5 : decode cX1_valueOf 5 = .ok (.ireturn, 1) := by decide +kernel
theorem dX1_valueOf_6 : decode cX1_valueOf 6 = .ok (.iload_n 0, 1) := by decide +kernel
theorem dX1_valueOf_7 : decode cX1_valueOf 7 = .ok (.iconst (-1), 1) := by decide +kernel
theorem dX1_valueOf_8 : decode cX1_valueOf 8 = .ok (.if_icmp .ne 5, 3) := by decide +kernel
theorem dX1_valueOf_11 : decode cX1_valueOf 11 = .ok (.iload_n 1, 1) := by decide +kernel
theorem dX1_valueOf_12 : decode cX1_valueOf 12 = .ok (.ireturn, 1) := by decide +kernel
theorem dX1_valueOf_13 : decode cX1_valueOf 13 = .ok (.iload_n 0, 1) := by decide +kernel
theorem dX1_valueOf_14 : decode cX1_valueOf 14 = .ok (.bipush (-3), 2) := by decide +kernel
theorem dX1_valueOf_16 : decode cX1_valueOf 16 = .ok (.if_icmp .ne 7, 3) := by decide +kernel
theorem dX1_valueOf_19 : decode cX1_valueOf 19 = .ok (.iload_n 3, 1) := by decide +kernel
theorem dX1_valueOf_20 : decode cX1_valueOf 20 = .ok (.goto 4, 3) := by decide +kernel
theorem dX1_valueOf_23 : decode cX1_valueOf 23 = .ok (.iload_n 2, 1) := by decide +kernel
theorem dX1_valueOf_24 : decode cX1_valueOf 24 = .ok (.ireturn, 1) := by decide +kernel
theorem dX1_join_0 : decode cX1_join 0 = .ok (.iload_n 0, 1) := by decide +kernel
theorem dX1_join_1 : decode cX1_join 1 = .ok (.lookupswitch 188 #[(37, 176), (38, 105), (42, 160), (43, 152), (45, 156), (47, 164), (60, 119), (61, 130), (62, 141), (124, 91)], 91) := by decide +kernel
theorem dX1_join_92 : decode cX1_join 92 = .ok (.iload_n 1, 1) := by decide +kernel
theorem dX1_join_93 : decode cX1_join 93 = .ok (.ifCond .ne 7, 3) := by decide +kernel
theorem dX1_join_96 : decode cX1_join 96 = .ok (.iload_n 2, 1) := by decide +kernel
theorem dX1_join_97 : decode cX1_join 97 = .ok (.ifCond .eq 7, 3) := by decide +kernel
theorem dX1_join_100 : decode cX1_join 100 = .ok (.iconst 1, 1) := by decide +kernel
theorem dX1_join_101 : decode cX1_join 101 = .ok (.goto 4, 3) := by decide +kernel
theorem dX1_join_104 : decode cX1_join 104 = .ok (.iconst 0, 1) := by decide +kernel
theorem dX1_join_105 : decode cX1_join 105 = .ok (.ireturn, 1) := by decide +kernel
theorem dX1_join_106 : decode cX1_join 106 = .ok (.iload_n 1, 1) := by decide +kernel
theorem dX1_join_107 : decode cX1_join 107 = .ok (.ifCond .eq 11, 3) := by decide +kernel
theorem dX1_join_110 : decode cX1_join 110 = .ok (.iload_n 2, 1) := by decide +kernel
theorem dX1_join_111 : decode cX1_join 111 = .ok (.ifCond .eq 7, 3) := by decide +kernel
theorem dX1_join_114 : decode cX1_join 114 = .ok (.iconst 1, 1) := by decide +kernel
theorem dX1_join_115 : decode cX1_join 115 = .ok (.goto 4, 3) := by decide +kernel
theorem dX1_join_118 : decode cX1_join 118 = .ok (.iconst 0, 1) := by decide +kernel
theorem dX1_join_119 : decode cX1_join 119 = .ok (.ireturn, 1) := by decide +kernel
theorem dX1_join_120 : decode cX1_join 120 = .ok (.iload_n 1, 1) := by decide +kernel
theorem dX1_join_121 : decode cX1_join 121 = .ok (.iload_n 2, 1) := by decide +kernel
theorem dX1_join_122 : decode cX1_join 122 = .ok (.if_icmp .ge 7, 3) := by decide +kernel
theorem dX1_join_125 : decode cX1_join 125 = .ok (.iconst 1, 1) := by decide +kernel
theorem dX1_join_126 : decode cX1_join 126 = .ok (.goto 4, 3) := by decide +kernel
theorem dX1_join_129 : decode cX1_join 129 = .ok (.iconst 0, 1) := by decide +kernel
theorem dX1_join_130 : decode cX1_join 130 = .ok (.ireturn, 1) := by decide +kernel
theorem dX1_join_131 : decode cX1_join 131 = .ok (.iload_n 1, 1) := by decide +kernel
theorem dX1_join_132 : decode cX1_join 132 = .ok (.iload_n 2, 1) := by decide +kernel
theorem dX1_join_133 : decode cX1_join 133 = .ok (.if_icmp .ne 7, 3) := by decide +kernel
theorem dX1_join_136 : decode cX1_join 136 = .ok (.iconst 1, 1) := by decide +kernel
theorem dX1_join_137 : decode cX1_join 137 = .ok (.goto 4, 3) := by decide +kernel
theorem dX1_join_140 : decode cX1_join 140 = .ok (.iconst 0, 1) := by decide +kernel
theorem dX1_join_141 : decode cX1_join 141 = .ok (.ireturn, 1) := by decide +kernel
theorem dX1_join_142 : decode cX1_join 142 = .ok (.iload_n 1, 1) := by decide +kernel
theorem dX1_join_143 : decode cX1_join 143 = .ok (.iload_n 2, 1) := by decide +kernel
theorem dX1_join_144 : decode cX1_join 144 = .ok (.if_icmp .le 7, 3) := by decide +kernel
theorem dX1_join_147 : decode cX1_join 147 = .ok (.iconst 1, 1) := by decide +kernel
theorem dX1_join_148 : decode cX1_join 148 = .ok (.goto 4, 3) := by decide +kernel
theorem dX1_join_151 : decode cX1_join 151 = .ok (.iconst 0, 1) := by decide +kernel
theorem dX1_join_152 : decode cX1_join 152 = .ok (.ireturn, 1) := by decide +kernel
theorem dX1_join_153 : decode cX1_join 153 = .ok (.iload_n 1, 1) := by decide +kernel
theorem dX1_join_154 : decode cX1_join 154 = .ok (.iload_n 2, 1) := by decide +kernel
theorem dX1_join_155 : decode cX1_join 155 = .ok (.iadd, 1) := by decide +kernel
theorem dX1_join_156 : decode cX1_join 156 = .ok (.ireturn, 1) := by decide +kernel
theorem dX1_join_157 : decode cX1_join 157 = .ok (.iload_n 1, 1) := by decide +kernel
theorem dX1_join_158 : decode cX1_join 158 = .ok (.iload_n 2, 1) := by decide +kernel
theorem dX1_join_159 : decode cX1_join 159 = .ok (.isub, 1) := by decide +kernel
theorem dX1_join_160 : decode cX1_join 160 = .ok (.ireturn, 1) := by decide +kernel
theorem dX1_join_161 : decode cX1_join 161 = .ok (.iload_n 1, 1) := by decide +kernel
theorem dX1_join_162 : decode cX1_join 162 = .ok (.iload_n 2, 1) := by decide +kernel
theorem dX1_join_163 : decode cX1_join 163 = .ok (.imul, 1) := by decide +kernel
theorem dX1_join_164 : decode cX1_join 164 = .ok (.ireturn, 1) := by decide +kernel
theorem dX1_join_165 : decode cX1_join 165 = .ok (.iload_n 2, 1) := by decide +kernel
theorem dX1_join_166 : decode cX1_join 166 = .ok (.ifCond .ne 7, 3) := by decide +kernel
theorem dX1_join_169 : decode cX1_join 169 = .ok (.iconst 0, 1) := by decide +kernel
theorem dX1_join_170 : decode cX1_join 170 = .ok (.goto 6, 3) := by decide +kernel
theorem dX1_join_173 : decode cX1_join 173 = .ok (.iload_n 1, 1) := by decide +kernel
theorem dX1_join_174 : decode cX1_join 174 = .ok (.iload_n 2, 1) := by decide +kernel
theorem dX1_join_175 : decode cX1_join 175 = .ok (.idiv, 1) := by decide +kernel
theorem dX1_join_176 : decode cX1_join 176 = .ok (.ireturn, 1) := by decide +kernel
theorem dX1_join_177 : decode cX1_join 177 = .ok (.iload_n 2, 1) := by decide +kernel
theorem dX1_join_178 : decode cX1_join 178 = .ok (.ifCond .ne 7, 3) := by decide +kernel
theorem dX1_join_181 : decode cX1_join 181 = .ok (.iconst 0, 1) := by decide +kernel
theorem dX1_join_182 : decode cX1_join 182 = .ok (.goto 6, 3) := by decide +kernel
theorem dX1_join_185 : decode cX1_join 185 = .ok (.iload_n 1, 1) := by decide +kernel
theorem dX1_join_186 : decode cX1_join 186 = .ok (.iload_n 2, 1) := by decide +kernel
theorem dX1_join_187 : decode cX1_join 187 = .ok (.irem, 1) := by decide +kernel
theorem dX1_join_188 : decode cX1_join 188 = .ok (.ireturn, 1) := by decide +kernel
theorem dX1_join_189 : decode cX1_join 189 = .ok (.iconst 0, 1) := by decide +kernel
theorem dX1_join_190 : decode cX1_join 190 = .ok (.ireturn, 1) := by decide +kernel
theorem dX1_asInt_0 : decode cX1_asInt 0 = .ok (.iload_n 0, 1) := by decide +kernel
theorem dX1_asInt_1 : decode cX1_asInt 1 = .ok (.ifCond .eq 7, 3) := by decide +kernel
theorem dX1_asInt_4 : decode cX1_asInt 4 = .ok (.iconst 1, 1) := by decide +kernel
theorem dX1_asInt_5 : decode cX1_asInt 5 = .ok (.goto 4, 3) := by decide +kernel
theorem dX1_asInt_8 : decode cX1_asInt 8 = .ok (.iconst 0, 1) := by decide +kernel
theorem dX1_asInt_9 : decode cX1_asInt 9 = .ok (.ireturn, 1) := by decide +kernel
theorem dX2_init_0 : decode cX2_init 0 = .ok (.aload_n 0, 1) := by decide +kernel
theorem dX2_init_1 : decode cX2_init 1 = .ok (.invokespecial 3, 3) := by decide +kernel
theorem dX2_init_4 : decode cX2_init 4 = .ok (.aload_n 0, 1) := by decide +kernel
theorem dX2_init_5 : decode cX2_init 5 = .ok (.new 9, 3) := by decide +kernel
theorem dX2_init_8 : decode cX2_init 8 = .ok (.dup, 1) := by decide +kernel
theorem dX2_init_9 : decode cX2_init 9 = .ok (.bipush 50, 2) := by decide +kernel
theorem dX2_init_11 : decode cX2_init 11 = .ok (.invokespecial 11, 3) := by decide +kernel
theorem dX2_init_14 : decode cX2_init 14 = .ok (.putfield 14, 3) := by decide +kernel
theorem dX2_init_17 : decode cX2_init 17 = .ok (.aload_n 0, 1) := by decide +kernel
theorem dX2_init_18 : decode cX2_init 18 = .ok (.new 9, 3) := by decide +kernel
theorem dX2_init_21 : decode cX2_init 21 = .ok (.dup, 1) := by decide +kernel
theorem dX2_init_22 : decode cX2_init 22 = .ok (.bipush 50, 2) := by decide +kernel
theorem dX2_init_24 : decode cX2_init 24 = .ok (.invokespecial 11, 3) := by decide +kernel
theorem dX2_init_27 : decode cX2_init 27 = .ok (.putfield 20, 3) := by decide +kernel
theorem dX2_init_30 : decode cX2_init 30 = .ok (.return_, 1) := by decide +kernel
theorem dX2_read_0 : decode cX2_read 0 = .ok (.aload_n 0, 1) := by decide +kernel
theorem dX2_read_1 : decode cX2_read 1 = .ok (.getfield 14, 3) := by decide +kernel
theorem dX2_read_4 : decode cX2_read 4 = .ok (.aload_n 1, 1) := by decide +kernel
theorem dX2_read_5 : decode cX2_read 5 = .ok (.invokevirtual 23, 3) := by decide +kernel
theorem dX2_read_8 : decode cX2_read 8 = .ok (.aload_n 0, 1) := by decide +kernel
theorem dX2_read_9 : decode cX2_read 9 = .ok (.getfield 20, 3) := by decide +kernel
theorem dX2_read_12 : decode cX2_read 12 = .ok (.invokevirtual 27, 3) := by decide +kernel
theorem dX2_read_15 : decode cX2_read 15 = .ok (.aload_n 0, 1) := by decide +kernel
theorem dX2_read_16 : decode cX2_read 16 = .ok (.iload_n 2, 1) := by decide +kernel
theorem dX2_read_17 : decode cX2_read 17 = .ok (.putfield 30, 3) := by decide +kernel
theorem dX2_read_20 : decode cX2_read 20 = .ok (.aload_n 0, 1) := by decide +kernel
theorem dX2_read_21 : decode cX2_read 21 = .ok (.iconst 0, 1) := by decide +kernel
theorem dX2_read_22 : decode cX2_read 22 = .ok (.putfield 34, 3) := by decide +kernel
theorem dX2_read_25 : decode cX2_read 25 = .ok (.aload_n 0, 1) := by decide +kernel
theorem dX2_read_26 : decode cX2_read 26 = .ok (.iconst 0, 1) := by decide +kernel
theorem dX2_read_27 : decode cX2_read 27 = .ok (.iconst 0, 1) := by decide +kernel
theorem dX2_read_28 : decode cX2_read 28 = .ok (.invokevirtual 37, 3) := by decide +kernel
theorem dX2_read_31 : decode cX2_read 31 = .ok (.istore_n 3, 1) := by decide +kernel
theorem dX2_read_32 : decode cX2_read 32 = .ok (.iload_n 3, 1) := by decide +kernel
theorem dX2_read_33 : decode cX2_read 33 = .ok (.ifCond .eq 21, 3) := by decide +kernel
theorem dX2_read_36 : decode cX2_read 36 = .ok (.aload_n 0, 1) := by decide +kernel
theorem dX2_read_37 : decode cX2_read 37 = .ok (.getfield 34, 3) := by decide +kernel
theorem dX2_read_40 : decode cX2_read 40 = .ok (.aload_n 0, 1) := by decide +kernel
theorem dX2_read_41 : decode cX2_read 41 = .ok (.getfield 14, 3) := by decide +kernel
theorem dX2_read_44 : decode cX2_read 44 = .ok (.getfield 41, 3) := by decide +kernel
theorem dX2_read_47 : decode cX2_read 47 = .ok (.if_icmp .lt 7, 3) := by decide +kernel
theorem dX2_read_50 : decode cX2_read 50 = .ok (.iconst (-1), 1) := by decide +kernel
theorem dX2_read_51 : decode cX2_read 51 = .ok (.goto 7, 3) := by decide +kernel
theorem dX2_read_54 : decode cX2_read 54 = .ok (.aload_n 0, 1) := by decide +kernel
theorem dX2_read_55 : decode cX2_read 55 = .ok (.getfield 34, 3) := by decide +kernel
theorem dX2_read_58 : decode cX2_read 58 = .ok (.ireturn, 1) := by decide +kernel
theorem dX2_here_0 : decode cX2_here 0 = .ok (.aload_n 0, 1) := by decide +kernel
theorem dX2_here_1 : decode cX2_here 1 = .ok (.getfield 14, 3) := by decide +kernel
theorem dX2_here_4 : decode cX2_here 4 = .ok (.aload_n 0, 1) := by decide +kernel
theorem dX2_here_5 : decode cX2_here 5 = .ok (.getfield 34, 3) := by decide +kernel
theorem dX2_here_8 : decode cX2_here 8 = .ok (.invokevirtual 44, 3) := by decide +kernel
theorem dX2_here_11 : decode cX2_here 11 = .ok (.ifCond .eq 17, 3) := by decide +kernel
theorem dX2_here_14 : decode cX2_here 14 = .ok (.aload_n 0, 1) := by decide +kernel
theorem dX2_here_15 : decode cX2_here 15 = .ok (.getfield 14, 3) := by decide +kernel
theorem dX2_here_18 : decode cX2_here 18 = .ok (.aload_n 0, 1) := by decide +kernel
theorem dX2_here_19 : decode cX2_here 19 = .ok (.getfield 34, 3) := by decide +kernel
theorem dX2_here_22 : decode cX2_here 22 = .ok (.invokevirtual 48, 3) := by decide +kernel
theorem dX2_here_25 : decode cX2_here 25 = .ok (.goto 4, 3) := by decide +kernel
theorem dX2_here_28 : decode cX2_here 28 = .ok (.iconst (-1), 1) := by decide +kernel
theorem dX2_here_29 : decode cX2_here 29 = .ok (.ireturn, 1) := by decide +kernel
theorem dX2_readLevel_0 : decode cX2_readLevel 0 = .ok (.iload_n 1, 1) := by decide +kernel
theorem dX2_readLevel_1 : decode cX2_readLevel 1 = .ok (.iconst 5, 1) := by decide +kernel
theorem dX2_readLevel_2 : decode cX2_readLevel 2 = .ok (.if_icmp .lt 9, 3) := by decide +kernel
theorem dX2_readLevel_5 : decode cX2_readLevel 5 = .ok (.aload_n 0, 1) := by decide +kernel
theorem dX2_readLevel_6 : decode cX2_readLevel 6 = .ok (.iload_n 2, 1) := by decide +kernel
theorem dX2_readLevel_7 : decode cX2_readLevel 7 = .ok (.invokevirtual 52, 3) := by decide +kernel
theorem dX2_readLevel_10 : decode cX2_readLevel 10 = .ok (.ireturn, 1) := by decide +kernel
theorem dX2_readLevel_11 : decode cX2_readLevel 11 = .ok (.aload_n 0, 1) := by decide +kernel
theorem dX2_readLevel_12 : decode cX2_readLevel 12 = .ok (.iload_n 1, 1) := by decide +kernel
theorem dX2_readLevel_13 : decode cX2_readLevel 13 = .ok (.iconst 1, 1) := by decide +kernel
theorem dX2_readLevel_14 : decode cX2_readLevel 14 = .ok (.iadd, 1) := by decide +kernel
theorem dX2_readLevel_15 : decode cX2_readLevel 15 = .ok (.iload_n 2, 1) := by decide +kernel
theorem dX2_readLevel_16 : decode cX2_readLevel 16 = .ok (.invokevirtual 37, 3) := by decide +kernel
theorem dX2_readLevel_19 : decode cX2_readLevel 19 = .ok (.istore_n 3, 1) := by decide +kernel
theorem dX2_readLevel_20 : decode cX2_readLevel 20 = .ok (.iconst 0, 1) := by decide +kernel
theorem dX2_readLevel_21 : decode cX2_readLevel 21 = .ok (.istore 4, 2) := by decide +kernel
theorem dX2_readLevel_23 : decode cX2_readLevel 23 = .ok (.iload 4, 2) := by decide +kernel
theorem dX2_readLevel_25 : decode cX2_readLevel 25 = .ok (.bipush 50, 2) := by decide +kernel
theorem dX2_readLevel_27 : decode cX2_readLevel 27 = .ok (.if_icmp .ge 67, 3) := by decide +kernel
theorem dX2_readLevel_30 : decode cX2_readLevel 30 = .ok (.iload_n 3, 1) := by decide +kernel
theorem dX2_readLevel_31 : decode cX2_readLevel 31 = .ok (.ifCond .eq 63, 3) := by decide +kernel
theorem dX2_readLevel_34 : decode cX2_readLevel 34 = .ok (.aload_n 0, 1) := by decide +kernel
theorem dX2_readLevel_35 : decode cX2_readLevel 35 = .ok (.invokevirtual 55, 3) := by decide +kernel
theorem dX2_readLevel_38 : decode cX2_readLevel 38 = .ok (.invokestatic 59, 3) := by decide +kernel
theorem dX2_readLevel_41 : decode cX2_readLevel 41 = .ok (.iload_n 1, 1) := by decide +kernel
theorem dX2_readLevel_42 : decode cX2_readLevel 42 = .ok (.if_icmp .ne 52, 3) := by decide +kernel
theorem dX2_readLevel_45 : decode cX2_readLevel 45 = .ok (.aload_n 0, 1) := by decide +kernel
theorem dX2_readLevel_46 : decode cX2_readLevel 46 = .ok (.invokevirtual 55, 3) := by decide +kernel
theorem dX2_readLevel_49 : decode cX2_readLevel 49 = .ok (.istore 5, 2) := by decide +kernel
theorem dX2_readLevel_51 : decode cX2_readLevel 51 = .ok (.aload_n 0, 1) := by decide +kernel
theorem dX2_readLevel_52 : decode cX2_readLevel 52 = .ok (.dup, 1) := by decide +kernel
theorem dX2_readLevel_53 : decode cX2_readLevel 53 = .ok (.getfield 34, 3) := by decide +kernel
theorem dX2_readLevel_56 : decode cX2_readLevel 56 = .ok (.iconst 1, 1) := by decide +kernel
theorem dX2_readLevel_57 : decode cX2_readLevel 57 = .ok (.iadd, 1) := by decide +kernel
theorem dX2_readLevel_58 : decode cX2_readLevel 58 = .ok (.putfield 34, 3) := by decide +kernel
theorem dX2_readLevel_61 : decode cX2_readLevel 61 = .ok (.aload_n 0, 1) := by decide +kernel
theorem dX2_readLevel_62 : decode cX2_readLevel 62 = .ok (.iload_n 1, 1) := by decide +kernel
theorem dX2_readLevel_63 : decode cX2_readLevel 63 = .ok (.iconst 1, 1) := by decide +kernel
theorem dX2_readLevel_64 : decode cX2_readLevel 64 = .ok (.iadd, 1) := by decide +kernel
theorem dX2_readLevel_65 : decode cX2_readLevel 65 = .ok (.iload_n 2, 1) := by decide +kernel
theorem dX2_readLevel_66 : decode cX2_readLevel 66 = .ok (.invokevirtual 37, 3) := by decide +kernel
theorem dX2_readLevel_69 : decode cX2_readLevel 69 = .ok (.istore_n 3, 1) := by decide +kernel
theorem dX2_readLevel_70 : decode cX2_readLevel 70 = .ok (.aload_n 0, 1) := by decide +kernel
theorem dX2_readLevel_71 : decode cX2_readLevel 71 = .ok (.getfield 20, 3) := by decide +kernel
theorem dX2_readLevel_74 : decode cX2_readLevel 74 = .ok (.iload 5, 2) := by decide +kernel
theorem dX2_readLevel_76 : decode cX2_readLevel 76 = .ok (.ineg, 1) := by decide +kernel
theorem dX2_readLevel_77 : decode cX2_readLevel 77 = .ok (.invokevirtual 62, 3) := by decide +kernel
theorem dX2_readLevel_80 : decode cX2_readLevel 80 = .ok (.pop, 1) := by decide +kernel
theorem dX2_readLevel_81 : decode cX2_readLevel 81 = .ok (.iload_n 1, 1) := by decide +kernel
theorem dX2_readLevel_82 : decode cX2_readLevel 82 = .ok (.iconst 2, 1) := by decide +kernel
theorem dX2_readLevel_83 : decode cX2_readLevel 83 = .ok (.if_icmp .ne 5, 3) := by decide +kernel
theorem dX2_readLevel_86 : decode cX2_readLevel 86 = .ok (.iload_n 3, 1) := by decide +kernel
theorem dX2_readLevel_87 : decode cX2_readLevel 87 = .ok (.ireturn, 1) := by decide +kernel
theorem dX2_readLevel_88 : decode cX2_readLevel 88 = .ok (.iinc 4 1, 3) := by decide +kernel
theorem dX2_readLevel_91 : decode cX2_readLevel 91 = .ok (.goto (-68), 3) := by decide +kernel
theorem dX2_readLevel_94 : decode cX2_readLevel 94 = .ok (.iload_n 3, 1) := by decide +kernel
theorem dX2_readLevel_95 : decode cX2_readLevel 95 = .ok (.ireturn, 1) := by decide +kernel
theorem dX2_readSingle_0 : decode cX2_readSingle 0 = .ok (.aload_n 0, 1) := by decide +kernel
theorem dX2_readSingle_1 : decode cX2_readSingle 1 = .ok (.invokevirtual 55, 3) := by decide +kernel
theorem dX2_readSingle_4 : decode cX2_readSingle 4 = .ok (.istore_n 2, 1) := by decide +kernel
theorem dX2_readSingle_5 : decode cX2_readSingle 5 = .ok (.iload_n 2, 1) := by decide +kernel
theorem dX2_readSingle_6 : decode cX2_readSingle 6 = .ok (.invokestatic 65, 3) := by decide +kernel
theorem dX2_readSingle_9 : decode cX2_readSingle 9 = .ok (.ifCond .eq 9, 3) := by decide +kernel
theorem dX2_readSingle_12 : decode cX2_readSingle 12 = .ok (.aload_n 0, 1) := by decide +kernel
theorem dX2_readSingle_13 : decode cX2_readSingle 13 = .ok (.invokevirtual 68, 3) := by decide +kernel
theorem dX2_readSingle_16 : decode cX2_readSingle 16 = .ok (.iconst 1, 1) := by decide +kernel
theorem dX2_readSingle_17 : decode cX2_readSingle 17 = .ok (.ireturn, 1) := by decide +kernel
theorem dX2_readSingle_18 : decode cX2_readSingle 18 = .ok (.aload_n 0, 1) := by decide +kernel
theorem dX2_readSingle_19 : decode cX2_readSingle 19 = .ok (.iload_n 2, 1) := by decide +kernel
theorem dX2_readSingle_20 : decode cX2_readSingle 20 = .ok (.invokevirtual 71, 3) := by decide +kernel
theorem dX2_readSingle_23 : decode cX2_readSingle 23 = .ok (.istore_n 3, 1) := by decide +kernel
theorem dX2_readSingle_24 : decode cX2_readSingle 24 = .ok (.iload_n 3, 1) := by decide +kernel
theorem dX2_readSingle_25 : decode cX2_readSingle 25 = .ok (.ifCond .eq 24, 3) := by decide +kernel
theorem dX2_readSingle_28 : decode cX2_readSingle 28 = .ok (.aload_n 0, 1) := by decide +kernel
theorem dX2_readSingle_29 : decode cX2_readSingle 29 = .ok (.dup, 1) := by decide +kernel
theorem dX2_readSingle_30 : decode cX2_readSingle 30 = .ok (.getfield 34, 3) := by decide +kernel
theorem dX2_readSingle_33 : decode cX2_readSingle 33 = .ok (.iconst 1, 1) := by decide +kernel
theorem dX2_readSingle_34 : decode cX2_readSingle 34 = .ok (.iadd, 1) := by decide +kernel
theorem dX2_readSingle_35 : decode cX2_readSingle 35 = .ok (.putfield 34, 3) := by decide +kernel
theorem dX2_readSingle_38 : decode cX2_readSingle 38 = .ok (.aload_n 0, 1) := by decide +kernel
theorem dX2_readSingle_39 : decode cX2_readSingle 39 = .ok (.getfield 20, 3) := by decide +kernel
theorem dX2_readSingle_42 : decode cX2_readSingle 42 = .ok (.iload_n 3, 1) := by decide +kernel
theorem dX2_readSingle_43 : decode cX2_readSingle 43 = .ok (.invokevirtual 62, 3) := by decide +kernel
theorem dX2_readSingle_46 : decode cX2_readSingle 46 = .ok (.pop, 1) := by decide +kernel
theorem dX2_readSingle_47 : decode cX2_readSingle 47 = .ok (.iconst 1, 1) := by decide +kernel
theorem dX2_readSingle_48 : decode cX2_readSingle 48 = .ok (.ireturn, 1) := by decide +kernel
theorem dX2_readSingle_49 : decode cX2_readSingle 49 = .ok (.iload_n 2, 1) := by decide +kernel
theorem dX2_readSingle_50 : decode cX2_readSingle 50 = .ok (.bipush 33, 2) := by decide +kernel
theorem dX2_readSingle_52 : decode cX2_readSingle 52 = .ok (.if_icmp .eq 9, 3) := by decide +kernel
theorem dX2_readSingle_55 : decode cX2_readSingle 55 = .ok (.iload_n 2, 1) := by decide +kernel
theorem dX2_readSingle_56 : decode cX2_readSingle 56 = .ok (.bipush 40, 2) := by decide +kernel
theorem dX2_readSingle_58 : decode cX2_readSingle 58 = .ok (.if_icmp .ne 8, 3) := by decide +kernel
theorem dX2_readSingle_61 : decode cX2_readSingle 61 = .ok (.iload_n 1, 1) := by decide +kernel
theorem dX2_readSingle_62 : decode cX2_readSingle 62 = .ok (.iconst 5, 1) := by decide +kernel
theorem dX2_readSingle_63 : decode cX2_readSingle 63 = .ok (.if_icmp .lt 5, 3) := by decide +kernel
theorem dX2_readSingle_66 : decode cX2_readSingle 66 = .ok (.iconst 0, 1) := by decide +kernel
theorem dX2_readSingle_67 : decode cX2_readSingle 67 = .ok (.ireturn, 1) := by decide +kernel
theorem dX2_readSingle_68 : decode cX2_readSingle 68 = .ok (.aload_n 0, 1) := by decide +kernel
theorem dX2_readSingle_69 : decode cX2_readSingle 69 = .ok (.dup, 1) := by decide +kernel
theorem dX2_readSingle_70 : decode cX2_readSingle 70 = .ok (.getfield 34, 3) := by decide +kernel
theorem dX2_readSingle_73 : decode cX2_readSingle 73 = .ok (.iconst 1, 1) := by decide +kernel
theorem dX2_readSingle_74 : decode cX2_readSingle 74 = .ok (.iadd, 1) := by decide +kernel
theorem dX2_readSingle_75 : decode cX2_readSingle 75 = .ok (.putfield 34, 3) := by decide +kernel
theorem dX2_readSingle_78 : decode cX2_readSingle 78 = .ok (.iload_n 2, 1) := by decide +kernel
theorem dX2_readSingle_79 : decode cX2_readSingle 79 = .ok (.bipush 33, 2) := by decide +kernel
theorem dX2_readSingle_81 : decode cX2_readSingle 81 = .ok (.if_icmp .ne 13, 3) := by decide +kernel
theorem dX2_readSingle_84 : decode cX2_readSingle 84 = .ok (.aload_n 0, 1) := by decide +kernel
theorem dX2_readSingle_85 : decode cX2_readSingle 85 = .ok (.iload_n 1, 1) := by decide +kernel
theorem dX2_readSingle_86 : decode cX2_readSingle 86 = .ok (.iconst 1, 1) := by decide +kernel
theorem dX2_readSingle_87 : decode cX2_readSingle 87 = .ok (.iadd, 1) := by decide +kernel
theorem dX2_readSingle_88 : decode cX2_readSingle 88 = .ok (.invokevirtual 74, 3) := by decide +kernel
theorem dX2_readSingle_91 : decode cX2_readSingle 91 = .ok (.goto 10, 3) := by decide +kernel
theorem dX2_readSingle_94 : decode cX2_readSingle 94 = .ok (.aload_n 0, 1) := by decide +kernel
theorem dX2_readSingle_95 : decode cX2_readSingle 95 = .ok (.iload_n 1, 1) := by decide +kernel
theorem dX2_readSingle_96 : decode cX2_readSingle 96 = .ok (.iconst 1, 1) := by decide +kernel
theorem dX2_readSingle_97 : decode cX2_readSingle 97 = .ok (.iadd, 1) := by decide +kernel
theorem dX2_readSingle_98 : decode cX2_readSingle 98 = .ok (.invokevirtual 77, 3) := by decide +kernel
theorem dX2_readSingle_101 : decode cX2_readSingle 101 = .ok (.ireturn, 1) := by decide +kernel
theorem dX2_readNot_0 : decode cX2_readNot 0 = .ok (.aload_n 0, 1) := by decide +kernel
theorem dX2_readNot_1 : decode cX2_readNot 1 = .ok (.iload_n 1, 1) := by decide +kernel
theorem dX2_readNot_2 : decode cX2_readNot 2 = .ok (.invokevirtual 52, 3) := by decide +kernel
theorem dX2_readNot_5 : decode cX2_readNot 5 = .ok (.istore_n 2, 1) := by decide +kernel
theorem dX2_readNot_6 : decode cX2_readNot 6 = .ok (.aload_n 0, 1) := by decide +kernel
theorem dX2_readNot_7 : decode cX2_readNot 7 = .ok (.getfield 20, 3) := by decide +kernel
theorem dX2_readNot_10 : decode cX2_readNot 10 = .ok (.bipush (-33), 2) := by decide +kernel
theorem dX2_readNot_12 : decode cX2_readNot 12 = .ok (.invokevirtual 62, 3) := by decide +kernel
theorem dX2_readNot_15 : decode cX2_readNot 15 = .ok (.pop, 1) := by decide +kernel
theorem dX2_readNot_16 : decode cX2_readNot 16 = .ok (.iload_n 2, 1) := by decide +kernel
theorem dX2_readNot_17 : decode cX2_readNot 17 = .ok (.ireturn, 1) := by decide +kernel
theorem dX2_readClosed_0 : decode cX2_readClosed 0 = .ok (.aload_n 0, 1) := by decide +kernel
theorem dX2_readClosed_1 : decode cX2_readClosed 1 = .ok (.iconst 0, 1) := by decide +kernel
theorem dX2_readClosed_2 : decode cX2_readClosed 2 = .ok (.iload_n 1, 1) := by decide +kernel
theorem dX2_readClosed_3 : decode cX2_readClosed 3 = .ok (.invokevirtual 37, 3) := by decide +kernel
theorem dX2_readClosed_6 : decode cX2_readClosed 6 = .ok (.ifCond .eq 12, 3) := by decide +kernel
theorem dX2_readClosed_9 : decode cX2_readClosed 9 = .ok (.aload_n 0, 1) := by decide +kernel
theorem dX2_readClosed_10 : decode cX2_readClosed 10 = .ok (.invokevirtual 55, 3) := by decide +kernel
theorem dX2_readClosed_13 : decode cX2_readClosed 13 = .ok (.bipush 41, 2) := by decide +kernel
theorem dX2_readClosed_15 : decode cX2_readClosed 15 = .ok (.if_icmp .eq 5, 3) := by decide +kernel
theorem dX2_readClosed_18 : decode cX2_readClosed 18 = .ok (.iconst 0, 1) := by decide +kernel
theorem dX2_readClosed_19 : decode cX2_readClosed 19 = .ok (.ireturn, 1) := by decide +kernel
theorem dX2_readClosed_20 : decode cX2_readClosed 20 = .ok (.aload_n 0, 1) := by decide +kernel
theorem dX2_readClosed_21 : decode cX2_readClosed 21 = .ok (.dup, 1) := by decide +kernel
theorem dX2_readClosed_22 : decode cX2_readClosed 22 = .ok (.getfield 34, 3) := by decide +kernel
theorem dX2_readClosed_25 : decode cX2_readClosed 25 = .ok (.iconst 1, 1) := by decide +kernel
theorem dX2_readClosed_26 : decode cX2_readClosed 26 = .ok (.iadd, 1) := by decide +kernel
theorem dX2_readClosed_27 : decode cX2_readClosed 27 = .ok (.putfield 34, 3) := by decide +kernel
theorem dX2_readClosed_30 : decode cX2_readClosed 30 = .ok (.iconst 1, 1) := by decide +kernel
theorem dX2_readClosed_31 : decode cX2_readClosed 31 = .ok (.ireturn, 1) := by decide +kernel
theorem dX2_readNumber_0 : decode cX2_readNumber 0 = .ok (.iconst 0, 1) := by decide +kernel
theorem dX2_readNumber_1 : decode cX2_readNumber 1 = .ok (.istore_n 1, 1) := by decide +kernel
theorem dX2_readNumber_2 : decode cX2_readNumber 2 = .ok (.iconst 0, 1) := by decide +kernel
theorem dX2_readNumber_3 : decode cX2_readNumber 3 = .ok (.istore_n 2, 1) := by decide +kernel
theorem dX2_readNumber_4 : decode cX2_readNumber 4 = .ok (.iload_n 2, 1) := by decide +kernel
theorem dX2_readNumber_5 : decode cX2_readNumber 5 = .ok (.iconst 4, 1) := by decide +kernel
theorem dX2_readNumber_6 : decode cX2_readNumber 6 = .ok (.if_icmp .ge 42, 3) := by decide +kernel
theorem dX2_readNumber_9 : decode cX2_readNumber 9 = .ok (.aload_n 0, 1) := by decide +kernel
theorem dX2_readNumber_10 : decode cX2_readNumber 10 = .ok (.invokevirtual 55, 3) := by decide +kernel
theorem dX2_readNumber_13 : decode cX2_readNumber 13 = .ok (.invokestatic 65, 3) := by decide +kernel
theorem dX2_readNumber_16 : decode cX2_readNumber 16 = .ok (.ifCond .eq 32, 3) := by decide +kernel
theorem dX2_readNumber_19 : decode cX2_readNumber 19 = .ok (.iload_n 1, 1) := by decide +kernel
theorem dX2_readNumber_20 : decode cX2_readNumber 20 = .ok (.bipush 10, 2) := by decide +kernel
theorem dX2_readNumber_22 : decode cX2_readNumber 22 = .ok (.imul, 1) := by decide +kernel
theorem dX2_readNumber_23 : decode cX2_readNumber 23 = .ok (.aload_n 0, 1) := by decide +kernel
theorem dX2_readNumber_24 : decode cX2_readNumber 24 = .ok (.invokevirtual 55, 3) := by decide +kernel
theorem dX2_readNumber_27 : decode cX2_readNumber 27 = .ok (.iadd, 1) := by decide +kernel
theorem dX2_readNumber_28 : decode cX2_readNumber 28 = .ok (.bipush 48, 2) := by decide +kernel
theorem dX2_readNumber_30 : decode cX2_readNumber 30 = .ok (.isub, 1) := by decide +kernel
theorem dX2_readNumber_31 : decode cX2_readNumber 31 = .ok (.istore_n 1, 1) := by decide +kernel
theorem dX2_readNumber_32 : decode cX2_readNumber 32 = .ok (.aload_n 0, 1) := by decide +kernel
theorem dX2_readNumber_33 : decode cX2_readNumber 33 = .ok (.dup, 1) := by decide +kernel
theorem dX2_readNumber_34 : decode cX2_readNumber 34 = .ok (.getfield 34, 3) := by decide +kernel
theorem dX2_readNumber_37 : decode cX2_readNumber 37 = .ok (.iconst 1, 1) := by decide +kernel
theorem dX2_readNumber_38 : decode cX2_readNumber 38 = .ok (.iadd, 1) := by decide +kernel
theorem dX2_readNumber_39 : decode cX2_readNumber 39 = .ok (.putfield 34, 3) := by decide +kernel
theorem dX2_readNumber_42 : decode cX2_readNumber 42 = .ok (.iinc 2 1, 3) := by decide +kernel
theorem dX2_readNumber_45 : decode cX2_readNumber 45 = .ok (.goto (-41), 3) := by decide +kernel
theorem dX2_readNumber_48 : decode cX2_readNumber 48 = .ok (.aload_n 0, 1) := by decide +kernel
theorem dX2_readNumber_49 : decode cX2_readNumber 49 = .ok (.getfield 20, 3) := by decide +kernel
theorem dX2_readNumber_52 : decode cX2_readNumber 52 = .ok (.iload_n 1, 1) := by decide +kernel
theorem dX2_readNumber_53 : decode cX2_readNumber 53 = .ok (.invokevirtual 62, 3) := by decide +kernel
theorem dX2_readNumber_56 : decode cX2_readNumber 56 = .ok (.pop, 1) := by decide +kernel
theorem dX2_readNumber_57 : decode cX2_readNumber 57 = .ok (.return_, 1) := by decide +kernel
theorem dX2_nameOf_0 : decode cX2_nameOf 0 = .ok (.iload_n 1, 1) := by decide +kernel
theorem dX2_nameOf_1 : decode cX2_nameOf 1 = .ok (.lookupswitch 144 #[(99, 114), (110, 59), (112, 72), (113, 129), (114, 100), (119, 86)], 59) := by decide +kernel
theorem dX2_nameOf_60 : decode cX2_nameOf 60 = .ok (.aload_n 0, 1) := by decide +kernel
theorem dX2_nameOf_61 : decode cX2_nameOf 61 = .ok (.getfield 30, 3) := by decide +kernel
theorem dX2_nameOf_64 : decode cX2_nameOf 64 = .ok (.ifCond .ne 7, 3) := by decide +kernel
theorem dX2_nameOf_67 : decode cX2_nameOf 67 = .ok (.iconst (-1), 1) := by decide +kernel
theorem dX2_nameOf_68 : decode cX2_nameOf 68 = .ok (.goto 4, 3) := by decide +kernel
theorem dX2_nameOf_71 : decode cX2_nameOf 71 = .ok (.iconst 0, 1) := by decide +kernel
theorem dX2_nameOf_72 : decode cX2_nameOf 72 = .ok (.ireturn, 1) := by decide +kernel
theorem dX2_nameOf_73 : decode cX2_nameOf 73 = .ok (.aload_n 0, 1) := by decide +kernel
theorem dX2_nameOf_74 : decode cX2_nameOf 74 = .ok (.getfield 30, 3) := by decide +kernel
theorem dX2_nameOf_77 : decode cX2_nameOf 77 = .ok (.ifCond .ne 8, 3) := by decide +kernel
theorem dX2_nameOf_80 : decode cX2_nameOf 80 = .ok (.bipush (-2), 2) := by decide +kernel
theorem dX2_nameOf_82 : decode cX2_nameOf 82 = .ok (.goto 4, 3) := by decide +kernel
theorem dX2_nameOf_85 : decode cX2_nameOf 85 = .ok (.iconst 0, 1) := by decide +kernel
theorem dX2_nameOf_86 : decode cX2_nameOf 86 = .ok (.ireturn, 1) := by decide +kernel
theorem dX2_nameOf_87 : decode cX2_nameOf 87 = .ok (.aload_n 0, 1) := by decide +kernel
theorem dX2_nameOf_88 : decode cX2_nameOf 88 = .ok (.getfield 30, 3) := by decide +kernel
theorem dX2_nameOf_91 : decode cX2_nameOf 91 = .ok (.ifCond .ne 8, 3) := by decide +kernel
theorem dX2_nameOf_94 : decode cX2_nameOf 94 = .ok (.bipush (-3), 2) := by decide +kernel
theorem dX2_nameOf_96 : decode cX2_nameOf 96 = .ok (.goto 4, 3) := by decide +kernel
theorem dX2_nameOf_99 : decode cX2_nameOf 99 = .ok (.iconst 0, 1) := by decide +kernel
theorem dX2_nameOf_100 : decode cX2_nameOf 100 = .ok (.ireturn, 1) := by decide +kernel
theorem dX2_nameOf_101 : decode cX2_nameOf 101 = .ok (.aload_n 0, 1) := by decide +kernel
theorem dX2_nameOf_102 : decode cX2_nameOf 102 = .ok (.getfield 30, 3) := by decide +kernel
theorem dX2_nameOf_105 : decode cX2_nameOf 105 = .ok (.iconst 1, 1) := by decide +kernel
theorem dX2_nameOf_106 : decode cX2_nameOf 106 = .ok (.if_icmp .ne 7, 3) := by decide +kernel
theorem dX2_nameOf_109 : decode cX2_nameOf 109 = .ok (.iconst (-1), 1) := by decide +kernel
theorem dX2_nameOf_110 : decode cX2_nameOf 110 = .ok (.goto 4, 3) := by decide +kernel
theorem dX2_nameOf_113 : decode cX2_nameOf 113 = .ok (.iconst 0, 1) := by decide +kernel
theorem dX2_nameOf_114 : decode cX2_nameOf 114 = .ok (.ireturn, 1) := by decide +kernel
theorem dX2_nameOf_115 : decode cX2_nameOf 115 = .ok (.aload_n 0, 1) := by decide +kernel
theorem dX2_nameOf_116 : decode cX2_nameOf 116 = .ok (.getfield 30, 3) := by decide +kernel
theorem dX2_nameOf_119 : decode cX2_nameOf 119 = .ok (.iconst 1, 1) := by decide +kernel
theorem dX2_nameOf_120 : decode cX2_nameOf 120 = .ok (.if_icmp .ne 8, 3) := by decide +kernel
theorem dX2_nameOf_123 : decode cX2_nameOf 123 = .ok (.bipush (-2), 2) := by decide +kernel
theorem dX2_nameOf_125 : decode cX2_nameOf 125 = .ok (.goto 4, 3) := by decide +kernel
theorem dX2_nameOf_128 : decode cX2_nameOf 128 = .ok (.iconst 0, 1) := by decide +kernel
theorem dX2_nameOf_129 : decode cX2_nameOf 129 = .ok (.ireturn, 1) := by decide +kernel
theorem dX2_nameOf_130 : decode cX2_nameOf 130 = .ok (.aload_n 0, 1) := by decide +kernel
theorem dX2_nameOf_131 : decode cX2_nameOf 131 = .ok (.getfield 30, 3) := by decide +kernel
theorem dX2_nameOf_134 : decode cX2_nameOf 134 = .ok (.iconst 1, 1) := by decide +kernel
theorem dX2_nameOf_135 : decode cX2_nameOf 135 = .ok (.if_icmp .ne 8, 3) := by decide +kernel
theorem dX2_nameOf_138 : decode cX2_nameOf 138 = .ok (.bipush (-3), 2) := by decide +kernel
theorem dX2_nameOf_140 : decode cX2_nameOf 140 = .ok (.goto 4, 3) := by decide +kernel
theorem dX2_nameOf_143 : decode cX2_nameOf 143 = .ok (.iconst 0, 1) := by decide +kernel
theorem dX2_nameOf_144 : decode cX2_nameOf 144 = .ok (.ireturn, 1) := by decide +kernel
theorem dX2_nameOf_145 : decode cX2_nameOf 145 = .ok (.iconst 0, 1) := by decide +kernel
theorem dX2_nameOf_146 : decode cX2_nameOf 146 = .ok (.ireturn, 1) := by decide +kernel
theorem dX2_isDigit_0 : decode cX2_isDigit 0 = .ok (.iload_n 0, 1) := by decide +kernel
theorem dX2_isDigit_1 : decode cX2_isDigit 1 = .ok (.bipush 48, 2) := by decide +kernel
theorem dX2_isDigit_3 : decode cX2_isDigit 3 = .ok (.if_icmp .lt 13, 3) := by decide +kernel
theorem dX2_isDigit_6 : decode cX2_isDigit 6 = .ok (.iload_n 0, 1) := by decide +kernel
theorem dX2_isDigit_7 : decode cX2_isDigit 7 = .ok (.bipush 57, 2) := by decide +kernel
theorem dX2_isDigit_9 : decode cX2_isDigit 9 = .ok (.if_icmp .gt 7, 3) := by decide +kernel
theorem dX2_isDigit_12 : decode cX2_isDigit 12 = .ok (.iconst 1, 1) := by decide +kernel
theorem dX2_isDigit_13 : decode cX2_isDigit 13 = .ok (.goto 4, 3) := by decide +kernel
theorem dX2_isDigit_16 : decode cX2_isDigit 16 = .ok (.iconst 0, 1) := by decide +kernel
theorem dX2_isDigit_17 : decode cX2_isDigit 17 = .ok (.ireturn, 1) := by decide +kernel
theorem dX2_levelOf_0 : decode cX2_levelOf 0 = .ok (.iload_n 0, 1) := by decide +kernel
theorem dX2_levelOf_1 : decode cX2_levelOf 1 = .ok (.lookupswitch 101 #[(37, 99), (38, 93), (42, 99), (43, 97), (45, 97), (47, 99), (60, 95), (61, 95), (62, 95), (124, 91)], 91) := by decide +kernel
theorem dX2_levelOf_92 : decode cX2_levelOf 92 = .ok (.iconst 0, 1) := by decide +kernel
theorem dX2_levelOf_93 : decode cX2_levelOf 93 = .ok (.ireturn, 1) := by decide +kernel
theorem dX2_levelOf_94 : decode cX2_levelOf 94 = .ok (.iconst 1, 1) := by decide +kernel
theorem dX2_levelOf_95 : decode cX2_levelOf 95 = .ok (.ireturn, 1) := by decide +kernel
theorem dX2_levelOf_96 : decode cX2_levelOf 96 = .ok (.iconst 2, 1) := by decide +kernel
theorem dX2_levelOf_97 : decode cX2_levelOf 97 = .ok (.ireturn, 1) := by decide +kernel
theorem dX2_levelOf_98 : decode cX2_levelOf 98 = .ok (.iconst 3, 1) := by decide +kernel
theorem dX2_levelOf_99 : decode cX2_levelOf 99 = .ok (.ireturn, 1) := by decide +kernel
theorem dX2_levelOf_100 : decode cX2_levelOf 100 = .ok (.iconst 4, 1) := by decide +kernel
theorem dX2_levelOf_101 : decode cX2_levelOf 101 = .ok (.ireturn, 1) := by decide +kernel
theorem dX2_levelOf_102 : decode cX2_levelOf 102 = .ok (.iconst (-1), 1) := by decide +kernel
theorem dX2_levelOf_103 : decode cX2_levelOf 103 = .ok (.ireturn, 1) := by decide +kernel
theorem dX3_init_0 : decode cX3_init 0 = .ok (.aload_n 0, 1) := by decide +kernel
theorem dX3_init_1 : decode cX3_init 1 = .ok (.invokespecial 1, 3) := by decide +kernel
theorem dX3_init_4 : decode cX3_init 4 = .ok (.aload_n 0, 1) := by decide +kernel
theorem dX3_init_5 : decode cX3_init 5 = .ok (.iconst 0, 1) := by decide +kernel
theorem dX3_init_6 : decode cX3_init 6 = .ok (.iload_n 1, 1) := by decide +kernel
theorem dX3_init_7 : decode cX3_init 7 = .ok (.invokestatic 7, 3) := by decide +kernel
theorem dX3_init_10 : decode cX3_init 10 = .ok (.newarray .int, 2) := by decide +kernel
theorem dX3_init_12 : decode cX3_init 12 = .ok (.putfield 13, 3) := by decide +kernel
theorem dX3_init_15 : decode cX3_init 15 = .ok (.return_, 1) := by decide +kernel
theorem dX3_has_0 : decode cX3_has 0 = .ok (.iload_n 1, 1) := by decide +kernel
theorem dX3_has_1 : decode cX3_has 1 = .ok (.ifCond .lt 24, 3) := by decide +kernel
theorem dX3_has_4 : decode cX3_has 4 = .ok (.iload_n 1, 1) := by decide +kernel
theorem dX3_has_5 : decode cX3_has 5 = .ok (.aload_n 0, 1) := by decide +kernel
theorem dX3_has_6 : decode cX3_has 6 = .ok (.getfield 19, 3) := by decide +kernel
theorem dX3_has_9 : decode cX3_has 9 = .ok (.if_icmp .ge 16, 3) := by decide +kernel
theorem dX3_has_12 : decode cX3_has 12 = .ok (.iload_n 1, 1) := by decide +kernel
theorem dX3_has_13 : decode cX3_has 13 = .ok (.aload_n 0, 1) := by decide +kernel
theorem dX3_has_14 : decode cX3_has 14 = .ok (.getfield 13, 3) := by decide +kernel
theorem dX3_has_17 : decode cX3_has 17 = .ok (.arraylength, 1) := by decide +kernel
theorem dX3_has_18 : decode cX3_has 18 = .ok (.if_icmp .ge 7, 3) := by decide +kernel
theorem dX3_has_21 : decode cX3_has 21 = .ok (.iconst 1, 1) := by decide +kernel
theorem dX3_has_22 : decode cX3_has 22 = .ok (.goto 4, 3) := by decide +kernel
theorem dX3_has_25 : decode cX3_has 25 = .ok (.iconst 0, 1) := by decide +kernel
theorem dX3_has_26 : decode cX3_has 26 = .ok (.ireturn, 1) := by decide +kernel
theorem dX3_get_0 : decode cX3_get 0 = .ok (.iload_n 1, 1) := by decide +kernel
theorem dX3_get_1 : decode cX3_get 1 = .ok (.ifCond .lt 29, 3) := by decide +kernel
theorem dX3_get_4 : decode cX3_get 4 = .ok (.iload_n 1, 1) := by decide +kernel
theorem dX3_get_5 : decode cX3_get 5 = .ok (.aload_n 0, 1) := by decide +kernel
theorem dX3_get_6 : decode cX3_get 6 = .ok (.getfield 19, 3) := by decide +kernel
theorem dX3_get_9 : decode cX3_get 9 = .ok (.if_icmp .ge 21, 3) := by decide +kernel
theorem dX3_get_12 : decode cX3_get 12 = .ok (.iload_n 1, 1) := by decide +kernel
theorem dX3_get_13 : decode cX3_get 13 = .ok (.aload_n 0, 1) := by decide +kernel
theorem dX3_get_14 : decode cX3_get 14 = .ok (.getfield 13, 3) := by decide +kernel
theorem dX3_get_17 : decode cX3_get 17 = .ok (.arraylength, 1) := by decide +kernel
theorem dX3_get_18 : decode cX3_get 18 = .ok (.if_icmp .ge 12, 3) := by decide +kernel
theorem dX3_get_21 : decode cX3_get 21 = .ok (.aload_n 0, 1) := by decide +kernel
theorem dX3_get_22 : decode cX3_get 22 = .ok (.getfield 13, 3) := by decide +kernel
theorem dX3_get_25 : decode cX3_get 25 = .ok (.iload_n 1, 1) := by decide +kernel
theorem dX3_get_26 : decode cX3_get 26 = .ok (.iaload, 1) := by decide +kernel
theorem dX3_get_27 : decode cX3_get 27 = .ok (.goto 4, 3) := by decide +kernel
theorem dX3_get_30 : decode cX3_get 30 = .ok (.iconst 0, 1) := by decide +kernel
theorem dX3_get_31 : decode cX3_get 31 = .ok (.ireturn, 1) := by decide +kernel
theorem dX3_set_0 : decode cX3_set 0 = .ok (.aload_n 0, 1) := by decide +kernel
theorem dX3_set_1 : decode cX3_set 1 = .ok (.iload_n 1, 1) := by decide +kernel
theorem dX3_set_2 : decode cX3_set 2 = .ok (.invokevirtual 23, 3) := by decide +kernel
theorem dX3_set_5 : decode cX3_set 5 = .ok (.ifCond .eq 10, 3) := by decide +kernel
theorem dX3_set_8 : decode cX3_set 8 = .ok (.aload_n 0, 1) := by decide +kernel
theorem dX3_set_9 : decode cX3_set 9 = .ok (.getfield 13, 3) := by decide +kernel
theorem dX3_set_12 : decode cX3_set 12 = .ok (.iload_n 1, 1) := by decide +kernel
theorem dX3_set_13 : decode cX3_set 13 = .ok (.iload_n 2, 1) := by decide +kernel
theorem dX3_set_14 : decode cX3_set 14 = .ok (.iastore, 1) := by decide +kernel
theorem dX3_set_15 : decode cX3_set 15 = .ok (.return_, 1) := by decide +kernel
theorem dX3_add_0 : decode cX3_add 0 = .ok (.aload_n 0, 1) := by decide +kernel
theorem dX3_add_1 : decode cX3_add 1 = .ok (.getfield 19, 3) := by decide +kernel
theorem dX3_add_4 : decode cX3_add 4 = .ok (.ifCond .lt 15, 3) := by decide +kernel
theorem dX3_add_7 : decode cX3_add 7 = .ok (.aload_n 0, 1) := by decide +kernel
theorem dX3_add_8 : decode cX3_add 8 = .ok (.getfield 19, 3) := by decide +kernel
theorem dX3_add_11 : decode cX3_add 11 = .ok (.aload_n 0, 1) := by decide +kernel
theorem dX3_add_12 : decode cX3_add 12 = .ok (.getfield 13, 3) := by decide +kernel
theorem dX3_add_15 : decode cX3_add 15 = .ok (.arraylength, 1) := by decide +kernel
theorem dX3_add_16 : decode cX3_add 16 = .ok (.if_icmp .lt 5, 3) := by decide +kernel
theorem dX3_add_19 : decode cX3_add 19 = .ok (.iconst 0, 1) := by decide +kernel
theorem dX3_add_20 : decode cX3_add 20 = .ok (.ireturn, 1) := by decide +kernel
theorem dX3_add_21 : decode cX3_add 21 = .ok (.aload_n 0, 1) := by decide +kernel
theorem dX3_add_22 : decode cX3_add 22 = .ok (.getfield 13, 3) := by decide +kernel
theorem dX3_add_25 : decode cX3_add 25 = .ok (.aload_n 0, 1) := by decide +kernel
theorem dX3_add_26 : decode cX3_add 26 = .ok (.getfield 19, 3) := by decide +kernel
theorem dX3_add_29 : decode cX3_add 29 = .ok (.iload_n 1, 1) := by decide +kernel
theorem dX3_add_30 : decode cX3_add 30 = .ok (.iastore, 1) := by decide +kernel
theorem dX3_add_31 : decode cX3_add 31 = .ok (.aload_n 0, 1) := by decide +kernel
theorem dX3_add_32 : decode cX3_add 32 = .ok (.dup, 1) := by decide +kernel
theorem dX3_add_33 : decode cX3_add 33 = .ok (.getfield 19, 3) := by decide +kernel
theorem dX3_add_36 : decode cX3_add 36 = .ok (.iconst 1, 1) := by decide +kernel
theorem dX3_add_37 : decode cX3_add 37 = .ok (.iadd, 1) := by decide +kernel
theorem dX3_add_38 : decode cX3_add 38 = .ok (.putfield 19, 3) := by decide +kernel
theorem dX3_add_41 : decode cX3_add 41 = .ok (.iconst 1, 1) := by decide +kernel
theorem dX3_add_42 : decode cX3_add 42 = .ok (.ireturn, 1) := by decide +kernel
theorem dX3_empty_0 : decode cX3_empty 0 = .ok (.aload_n 0, 1) := by decide +kernel
theorem dX3_empty_1 : decode cX3_empty 1 = .ok (.iconst 0, 1) := by decide +kernel
theorem dX3_empty_2 : decode cX3_empty 2 = .ok (.putfield 19, 3) := by decide +kernel
theorem dX3_empty_5 : decode cX3_empty 5 = .ok (.return_, 1) := by decide +kernel
theorem dX3_fillWithNone_0 : decode cX3_fillWithNone 0 = .ok (.aload_n 0, 1) := by decide +kernel
theorem dX3_fillWithNone_1 : decode cX3_fillWithNone 1 = .ok (.iconst 0, 1) := by decide +kernel
theorem dX3_fillWithNone_2 : decode cX3_fillWithNone 2 = .ok (.iload_n 1, 1) := by decide +kernel
theorem dX3_fillWithNone_3 : decode cX3_fillWithNone 3 = .ok (.aload_n 0, 1) := by decide +kernel
theorem dX3_fillWithNone_4 : decode cX3_fillWithNone 4 = .ok (.getfield 13, 3) := by decide +kernel
theorem dX3_fillWithNone_7 : decode cX3_fillWithNone 7 = .ok (.arraylength, 1) := by decide +kernel
theorem dX3_fillWithNone_8 : decode cX3_fillWithNone 8 = .ok (.invokestatic 27, 3) := by decide +kernel
theorem dX3_fillWithNone_11 : decode cX3_fillWithNone 11 = .ok (.invokestatic 7, 3) := by decide +kernel
theorem dX3_fillWithNone_14 : decode cX3_fillWithNone 14 = .ok (.putfield 19, 3) := by decide +kernel
theorem dX3_fillWithNone_17 : decode cX3_fillWithNone 17 = .ok (.iconst 0, 1) := by decide +kernel
theorem dX3_fillWithNone_18 : decode cX3_fillWithNone 18 = .ok (.istore_n 2, 1) := by decide +kernel
theorem dX3_fillWithNone_19 : decode cX3_fillWithNone 19 = .ok (.iload_n 2, 1) := by decide +kernel
theorem dX3_fillWithNone_20 : decode cX3_fillWithNone 20 = .ok (.aload_n 0, 1) := by decide +kernel
theorem dX3_fillWithNone_21 : decode cX3_fillWithNone 21 = .ok (.getfield 13, 3) := by decide +kernel
theorem dX3_fillWithNone_24 : decode cX3_fillWithNone 24 = .ok (.arraylength, 1) := by decide +kernel
theorem dX3_fillWithNone_25 : decode cX3_fillWithNone 25 = .ok (.if_icmp .ge 16, 3) := by decide +kernel
theorem dX3_fillWithNone_28 : decode cX3_fillWithNone 28 = .ok (.aload_n 0, 1) := by decide +kernel
theorem dX3_fillWithNone_29 : decode cX3_fillWithNone 29 = .ok (.getfield 13, 3) := by decide +kernel
theorem dX3_fillWithNone_32 : decode cX3_fillWithNone 32 = .ok (.iload_n 2, 1) := by decide +kernel
theorem dX3_fillWithNone_33 : decode cX3_fillWithNone 33 = .ok (.iconst 0, 1) := by decide +kernel
theorem dX3_fillWithNone_34 : decode cX3_fillWithNone 34 = .ok (.iastore, 1) := by decide +kernel
theorem dX3_fillWithNone_35 : decode cX3_fillWithNone 35 = .ok (.iinc 2 1, 3) := by decide +kernel
theorem dX3_fillWithNone_38 : decode cX3_fillWithNone 38 = .ok (.goto (-19), 3) := by decide +kernel
theorem dX3_fillWithNone_41 : decode cX3_fillWithNone 41 = .ok (.return_, 1) := by decide +kernel
theorem dX3_copyFrom_0 : decode cX3_copyFrom 0 = .ok (.aload_n 0, 1) := by decide +kernel
theorem dX3_copyFrom_1 : decode cX3_copyFrom 1 = .ok (.iconst 0, 1) := by decide +kernel
theorem dX3_copyFrom_2 : decode cX3_copyFrom 2 = .ok (.aload_n 1, 1) := by decide +kernel
theorem dX3_copyFrom_3 : decode cX3_copyFrom 3 = .ok (.getfield 19, 3) := by decide +kernel
theorem dX3_copyFrom_6 : decode cX3_copyFrom 6 = .ok (.aload_n 0, 1) := by decide +kernel
theorem dX3_copyFrom_7 : decode cX3_copyFrom 7 = .ok (.getfield 13, 3) := by decide +kernel
theorem dX3_copyFrom_10 : decode cX3_copyFrom 10 = .ok (.arraylength, 1) := by decide +kernel
theorem dX3_copyFrom_11 : decode cX3_copyFrom 11 = .ok (.invokestatic 27, 3) := by decide +kernel
theorem dX3_copyFrom_14 : decode cX3_copyFrom 14 = .ok (.invokestatic 7, 3) := by decide +kernel
theorem dX3_copyFrom_17 : decode cX3_copyFrom 17 = .ok (.putfield 19, 3) := by decide +kernel
theorem dX3_copyFrom_20 : decode cX3_copyFrom 20 = .ok (.aload_n 0, 1) := by decide +kernel
theorem dX3_copyFrom_21 : decode cX3_copyFrom 21 = .ok (.aload_n 1, 1) := by decide +kernel
theorem dX3_copyFrom_22 : decode cX3_copyFrom 22 = .ok (.iconst 0, 1) := by decide +kernel
theorem dX3_copyFrom_23 : decode cX3_copyFrom 23 = .ok (.iconst 0, 1) := by decide +kernel
theorem dX3_copyFrom_24 : decode cX3_copyFrom 24 = .ok (.aload_n 0, 1) := by decide +kernel
theorem dX3_copyFrom_25 : decode cX3_copyFrom 25 = .ok (.getfield 19, 3) := by decide +kernel
theorem dX3_copyFrom_28 : decode cX3_copyFrom 28 = .ok (.invokevirtual 30, 3) := by decide +kernel
theorem dX3_copyFrom_31 : decode cX3_copyFrom 31 = .ok (.pop, 1) := by decide +kernel
theorem dX3_copyFrom_32 : decode cX3_copyFrom 32 = .ok (.return_, 1) := by decide +kernel
theorem dX3_takeFrom_0 : decode cX3_takeFrom 0 = .ok (.iload 4, 2) := by decide +kernel
theorem dX3_takeFrom_2 : decode cX3_takeFrom 2 = .ok (.ifCond .lt 33, 3) := by decide +kernel
theorem dX3_takeFrom_5 : decode cX3_takeFrom 5 = .ok (.iload_n 2, 1) := by decide +kernel
theorem dX3_takeFrom_6 : decode cX3_takeFrom 6 = .ok (.ifCond .lt 29, 3) := by decide +kernel
theorem dX3_takeFrom_9 : decode cX3_takeFrom 9 = .ok (.iload_n 3, 1) := by decide +kernel
theorem dX3_takeFrom_10 : decode cX3_takeFrom 10 = .ok (.ifCond .lt 25, 3) := by decide +kernel
theorem dX3_takeFrom_13 : decode cX3_takeFrom 13 = .ok (.iload 4, 2) := by decide +kernel
theorem dX3_takeFrom_15 : decode cX3_takeFrom 15 = .ok (.aload_n 1, 1) := by decide +kernel
theorem dX3_takeFrom_16 : decode cX3_takeFrom 16 = .ok (.getfield 19, 3) := by decide +kernel
theorem dX3_takeFrom_19 : decode cX3_takeFrom 19 = .ok (.iload_n 2, 1) := by decide +kernel
theorem dX3_takeFrom_20 : decode cX3_takeFrom 20 = .ok (.isub, 1) := by decide +kernel
theorem dX3_takeFrom_21 : decode cX3_takeFrom 21 = .ok (.if_icmp .gt 14, 3) := by decide +kernel
theorem dX3_takeFrom_24 : decode cX3_takeFrom 24 = .ok (.iload 4, 2) := by decide +kernel
theorem dX3_takeFrom_26 : decode cX3_takeFrom 26 = .ok (.aload_n 0, 1) := by decide +kernel
theorem dX3_takeFrom_27 : decode cX3_takeFrom 27 = .ok (.getfield 19, 3) := by decide +kernel
theorem dX3_takeFrom_30 : decode cX3_takeFrom 30 = .ok (.iload_n 3, 1) := by decide +kernel
theorem dX3_takeFrom_31 : decode cX3_takeFrom 31 = .ok (.isub, 1) := by decide +kernel
theorem dX3_takeFrom_32 : decode cX3_takeFrom 32 = .ok (.if_icmp .le 5, 3) := by decide +kernel
theorem dX3_takeFrom_35 : decode cX3_takeFrom 35 = .ok (.iconst 0, 1) := by decide +kernel
theorem dX3_takeFrom_36 : decode cX3_takeFrom 36 = .ok (.ireturn, 1) := by decide +kernel
theorem dX3_takeFrom_37 : decode cX3_takeFrom 37 = .ok (.aload_n 1, 1) := by decide +kernel
theorem dX3_takeFrom_38 : decode cX3_takeFrom 38 = .ok (.getfield 13, 3) := by decide +kernel
theorem dX3_takeFrom_41 : decode cX3_takeFrom 41 = .ok (.iload_n 2, 1) := by decide +kernel
theorem dX3_takeFrom_42 : decode cX3_takeFrom 42 = .ok (.aload_n 0, 1) := by decide +kernel
theorem dX3_takeFrom_43 : decode cX3_takeFrom 43 = .ok (.getfield 13, 3) := by decide +kernel
theorem dX3_takeFrom_46 : decode cX3_takeFrom 46 = .ok (.iload_n 3, 1) := by decide +kernel
theorem dX3_takeFrom_47 : decode cX3_takeFrom 47 = .ok (.iload 4, 2) := by decide +kernel
theorem dX3_takeFrom_49 : decode cX3_takeFrom 49 = .ok (.invokestatic 34, 3) := by decide +kernel
theorem dX3_takeFrom_52 : decode cX3_takeFrom 52 = .ok (.iconst 1, 1) := by decide +kernel
theorem dX3_takeFrom_53 : decode cX3_takeFrom 53 = .ok (.ireturn, 1) := by decide +kernel
theorem dX4_init_0 : decode cX4_init 0 = .ok (.aload_n 0, 1) := by decide +kernel
theorem dX4_init_1 : decode cX4_init 1 = .ok (.invokespecial 3, 3) := by decide +kernel
theorem dX4_init_4 : decode cX4_init 4 = .ok (.aload_n 0, 1) := by decide +kernel
theorem dX4_init_5 : decode cX4_init 5 = .ok (.new 9, 3) := by decide +kernel
theorem dX4_init_8 : decode cX4_init 8 = .ok (.dup, 1) := by decide +kernel
theorem dX4_init_9 : decode cX4_init 9 = .ok (.bipush 40, 2) := by decide +kernel
theorem dX4_init_11 : decode cX4_init 11 = .ok (.invokespecial 11, 3) := by decide +kernel
theorem dX4_init_14 : decode cX4_init 14 = .ok (.putfield 14, 3) := by decide +kernel
theorem dX4_init_17 : decode cX4_init 17 = .ok (.return_, 1) := by decide +kernel
theorem dX4_lowestBits_0 : decode cX4_lowestBits 0 = .ok (.aload_n 0, 1) := by decide +kernel
theorem dX4_lowestBits_1 : decode cX4_lowestBits 1 = .ok (.getfield 20, 3) := by decide +kernel
theorem dX4_lowestBits_4 : decode cX4_lowestBits 4 = .ok (.bipush 8, 2) := by decide +kernel
theorem dX4_lowestBits_6 : decode cX4_lowestBits 6 = .ok (.if_icmp .ne 6, 3) := by decide +kernel
theorem dX4_lowestBits_9 : decode cX4_lowestBits 9 = .ok (.iload_n 1, 1) := by decide +kernel
theorem dX4_lowestBits_10 : decode cX4_lowestBits 10 = .ok (.i2b, 1) := by decide +kernel
theorem dX4_lowestBits_11 : decode cX4_lowestBits 11 = .ok (.ireturn, 1) := by decide +kernel
theorem dX4_lowestBits_12 : decode cX4_lowestBits 12 = .ok (.aload_n 0, 1) := by decide +kernel
theorem dX4_lowestBits_13 : decode cX4_lowestBits 13 = .ok (.getfield 20, 3) := by decide +kernel
theorem dX4_lowestBits_16 : decode cX4_lowestBits 16 = .ok (.bipush 16, 2) := by decide +kernel
theorem dX4_lowestBits_18 : decode cX4_lowestBits 18 = .ok (.if_icmp .ne 8, 3) := by decide +kernel
theorem dX4_lowestBits_21 : decode cX4_lowestBits 21 = .ok (.iload_n 1, 1) := by decide +kernel
theorem dX4_lowestBits_22 : decode cX4_lowestBits 22 = .ok (.i2s, 1) := by decide +kernel
theorem dX4_lowestBits_23 : decode cX4_lowestBits 23 = .ok (.goto 4, 3) := by decide +kernel
theorem dX4_lowestBits_26 : decode cX4_lowestBits 26 = .ok (.iload_n 1, 1) := by decide +kernel
theorem dX4_lowestBits_27 : decode cX4_lowestBits 27 = .ok (.ireturn, 1) := by decide +kernel
theorem dX5_init_0 : decode cX5_init 0 = .ok (.aload_n 0, 1) := by decide +kernel
theorem dX5_init_1 : decode cX5_init 1 = .ok (.invokespecial 3, 3) := by decide +kernel
theorem dX5_init_4 : decode cX5_init 4 = .ok (.aload_n 0, 1) := by decide +kernel
theorem dX5_init_5 : decode cX5_init 5 = .ok (.new 9, 3) := by decide +kernel
theorem dX5_init_8 : decode cX5_init 8 = .ok (.dup, 1) := by decide +kernel
theorem dX5_init_9 : decode cX5_init 9 = .ok (.bipush 40, 2) := by decide +kernel
theorem dX5_init_11 : decode cX5_init 11 = .ok (.invokespecial 11, 3) := by decide +kernel
theorem dX5_init_14 : decode cX5_init 14 = .ok (.putfield 14, 3) := by decide +kernel
theorem dX5_init_17 : decode cX5_init 17 = .ok (.return_, 1) := by decide +kernel
theorem dX5_speak_0 : decode cX5_speak 0 = .ok (.aload_n 0, 1) := by decide +kernel
theorem dX5_speak_1 : decode cX5_speak 1 = .ok (.getfield 14, 3) := by decide +kernel
theorem dX5_speak_4 : decode cX5_speak 4 = .ok (.invokevirtual 20, 3) := by decide +kernel
theorem dX5_speak_7 : decode cX5_speak 7 = .ok (.aload_n 0, 1) := by decide +kernel
theorem dX5_speak_8 : decode cX5_speak 8 = .ok (.aload_n 1, 1) := by decide +kernel
theorem dX5_speak_9 : decode cX5_speak 9 = .ok (.getfield 23, 3) := by decide +kernel
theorem dX5_speak_12 : decode cX5_speak 12 = .ok (.putfield 29, 3) := by decide +kernel
theorem dX5_speak_15 : decode cX5_speak 15 = .ok (.aload_n 0, 1) := by decide +kernel
theorem dX5_speak_16 : decode cX5_speak 16 = .ok (.aload_n 1, 1) := by decide +kernel
theorem dX5_speak_17 : decode cX5_speak 17 = .ok (.getfield 30, 3) := by decide +kernel
theorem dX5_speak_20 : decode cX5_speak 20 = .ok (.putfield 33, 3) := by decide +kernel
theorem dX5_speak_23 : decode cX5_speak 23 = .ok (.aload_n 0, 1) := by decide +kernel
theorem dX5_speak_24 : decode cX5_speak 24 = .ok (.iload_n 2, 1) := by decide +kernel
theorem dX5_speak_25 : decode cX5_speak 25 = .ok (.putfield 34, 3) := by decide +kernel
theorem dX5_speak_28 : decode cX5_speak 28 = .ok (.aload_n 0, 1) := by decide +kernel
theorem dX5_speak_29 : decode cX5_speak 29 = .ok (.aload_n 0, 1) := by decide +kernel
theorem dX5_speak_30 : decode cX5_speak 30 = .ok (.getfield 29, 3) := by decide +kernel
theorem dX5_speak_33 : decode cX5_speak 33 = .ok (.iload_n 3, 1) := by decide +kernel
theorem dX5_speak_34 : decode cX5_speak 34 = .ok (.iload 4, 2) := by decide +kernel
theorem dX5_speak_36 : decode cX5_speak 36 = .ok (.iconst 0, 1) := by decide +kernel
theorem dX5_speak_37 : decode cX5_speak 37 = .ok (.invokevirtual 37, 3) := by decide +kernel
theorem dX5_speak_40 : decode cX5_speak 40 = .ok (.ireturn, 1) := by decide +kernel
theorem dX5_bodyOf_0 : decode cX5_bodyOf 0 = .ok (.iload_n 0, 1) := by decide +kernel
theorem dX5_bodyOf_1 : decode cX5_bodyOf 1 = .ok (.istore_n 2, 1) := by decide +kernel
theorem dX5_bodyOf_2 : decode cX5_bodyOf 2 = .ok (.iconst 0, 1) := by decide +kernel
theorem dX5_bodyOf_3 : decode cX5_bodyOf 3 = .ok (.istore_n 3, 1) := by decide +kernel
theorem dX5_bodyOf_4 : decode cX5_bodyOf 4 = .ok (.iload_n 3, 1) := by decide +kernel
theorem dX5_bodyOf_5 : decode cX5_bodyOf 5 = .ok (.getstatic 41, 3) := by decide +kernel
theorem dX5_bodyOf_8 : decode cX5_bodyOf 8 = .ok (.arraylength, 1) := by decide +kernel
theorem dX5_bodyOf_9 : decode cX5_bodyOf 9 = .ok (.if_icmp .ge 68, 3) := by decide +kernel
theorem dX5_bodyOf_12 : decode cX5_bodyOf 12 = .ok (.iload_n 2, 1) := by decide +kernel
theorem dX5_bodyOf_13 : decode cX5_bodyOf 13 = .ok (.ifCond .lt 64, 3) := by decide +kernel
theorem dX5_bodyOf_16 : decode cX5_bodyOf 16 = .ok (.iload_n 2, 1) := by decide +kernel
theorem dX5_bodyOf_17 : decode cX5_bodyOf 17 = .ok (.getstatic 41, 3) := by decide +kernel
theorem dX5_bodyOf_20 : decode cX5_bodyOf 20 = .ok (.arraylength, 1) := by decide +kernel
theorem dX5_bodyOf_21 : decode cX5_bodyOf 21 = .ok (.if_icmp .ge 56, 3) := by decide +kernel
theorem dX5_bodyOf_24 : decode cX5_bodyOf 24 = .ok (.iconst 4, 1) := by decide +kernel
theorem dX5_bodyOf_25 : decode cX5_bodyOf 25 = .ok (.iload_n 2, 1) := by decide +kernel
theorem dX5_bodyOf_26 : decode cX5_bodyOf 26 = .ok (.imul, 1) := by decide +kernel
theorem dX5_bodyOf_27 : decode cX5_bodyOf 27 = .ok (.iload_n 1, 1) := by decide +kernel
theorem dX5_bodyOf_28 : decode cX5_bodyOf 28 = .ok (.iadd, 1) := by decide +kernel
theorem dX5_bodyOf_29 : decode cX5_bodyOf 29 = .ok (.istore 4, 2) := by decide +kernel
theorem dX5_bodyOf_31 : decode cX5_bodyOf 31 = .ok (.iload 4, 2) := by decide +kernel
theorem dX5_bodyOf_33 : decode cX5_bodyOf 33 = .ok (.ifCond .lt 21, 3) := by decide +kernel
theorem dX5_bodyOf_36 : decode cX5_bodyOf 36 = .ok (.iload 4, 2) := by decide +kernel
theorem dX5_bodyOf_38 : decode cX5_bodyOf 38 = .ok (.getstatic 45, 3) := by decide +kernel
theorem dX5_bodyOf_41 : decode cX5_bodyOf 41 = .ok (.arraylength, 1) := by decide +kernel
theorem dX5_bodyOf_42 : decode cX5_bodyOf 42 = .ok (.if_icmp .ge 12, 3) := by decide +kernel
theorem dX5_bodyOf_45 : decode cX5_bodyOf 45 = .ok (.getstatic 45, 3) := by decide +kernel
theorem dX5_bodyOf_48 : decode cX5_bodyOf 48 = .ok (.iload 4, 2) := by decide +kernel
theorem dX5_bodyOf_50 : decode cX5_bodyOf 50 = .ok (.iaload, 1) := by decide +kernel
theorem dX5_bodyOf_51 : decode cX5_bodyOf 51 = .ok (.goto 4, 3) := by decide +kernel
theorem dX5_bodyOf_54 : decode cX5_bodyOf 54 = .ok (.iconst 0, 1) := by decide +kernel
theorem dX5_bodyOf_55 : decode cX5_bodyOf 55 = .ok (.istore 5, 2) := by decide +kernel
theorem dX5_bodyOf_57 : decode cX5_bodyOf 57 = .ok (.iload 5, 2) := by decide +kernel
theorem dX5_bodyOf_59 : decode cX5_bodyOf 59 = .ok (.ifCond .eq 6, 3) := by decide +kernel
theorem dX5_bodyOf_62 : decode cX5_bodyOf 62 = .ok (.iload 5, 2) := by decide +kernel
theorem dX5_bodyOf_64 : decode cX5_bodyOf 64 = .ok (.ireturn, 1) := by decide +kernel
theorem dX5_bodyOf_65 : decode cX5_bodyOf 65 = .ok (.getstatic 41, 3) := by decide +kernel
theorem dX5_bodyOf_68 : decode cX5_bodyOf 68 = .ok (.iload_n 2, 1) := by decide +kernel
theorem dX5_bodyOf_69 : decode cX5_bodyOf 69 = .ok (.iaload, 1) := by decide +kernel
theorem dX5_bodyOf_70 : decode cX5_bodyOf 70 = .ok (.istore_n 2, 1) := by decide +kernel
theorem dX5_bodyOf_71 : decode cX5_bodyOf 71 = .ok (.iinc 3 1, 3) := by decide +kernel
theorem dX5_bodyOf_74 : decode cX5_bodyOf 74 = .ok (.goto (-70), 3) := by decide +kernel
theorem dX5_bodyOf_77 : decode cX5_bodyOf 77 = .ok (.iconst 0, 1) := by decide +kernel
theorem dX5_bodyOf_78 : decode cX5_bodyOf 78 = .ok (.ireturn, 1) := by decide +kernel
theorem dX5_say_0 : decode cX5_say 0 = .ok (.iload 4, 2) := by decide +kernel
theorem dX5_say_2 : decode cX5_say 2 = .ok (.bipush 30, 2) := by decide +kernel
theorem dX5_say_4 : decode cX5_say 4 = .ok (.if_icmp .le 5, 3) := by decide +kernel
theorem dX5_say_7 : decode cX5_say 7 = .ok (.iconst 0, 1) := by decide +kernel
theorem dX5_say_8 : decode cX5_say 8 = .ok (.ireturn, 1) := by decide +kernel
theorem dX5_say_9 : decode cX5_say 9 = .ok (.iload_n 1, 1) := by decide +kernel
theorem dX5_say_10 : decode cX5_say 10 = .ok (.iload_n 2, 1) := by decide +kernel
theorem dX5_say_11 : decode cX5_say 11 = .ok (.invokestatic 48, 3) := by decide +kernel
theorem dX5_say_14 : decode cX5_say 14 = .ok (.istore 5, 2) := by decide +kernel
theorem dX5_say_16 : decode cX5_say 16 = .ok (.iload 4, 2) := by decide +kernel
theorem dX5_say_18 : decode cX5_say 18 = .ok (.iconst 1, 1) := by decide +kernel
theorem dX5_say_19 : decode cX5_say 19 = .ok (.iadd, 1) := by decide +kernel
theorem dX5_say_20 : decode cX5_say 20 = .ok (.istore 6, 2) := by decide +kernel
theorem dX5_say_22 : decode cX5_say 22 = .ok (.aload_n 0, 1) := by decide +kernel
theorem dX5_say_23 : decode cX5_say 23 = .ok (.getfield 14, 3) := by decide +kernel
theorem dX5_say_26 : decode cX5_say 26 = .ok (.iload 5, 2) := by decide +kernel
theorem dX5_say_28 : decode cX5_say 28 = .ok (.invokevirtual 52, 3) := by decide +kernel
theorem dX5_say_31 : decode cX5_say 31 = .ok (.pop, 1) := by decide +kernel
theorem dX5_say_32 : decode cX5_say 32 = .ok (.iload 5, 2) := by decide +kernel
theorem dX5_say_34 : decode cX5_say 34 = .ok (.lookupswitch 272 #[(10, 98), (11, 105), (12, 120), (13, 127), (20, 153), (30, 165), (40, 176), (50, 199), (60, 222), (61, 237), (70, 260)], 98) := by decide +kernel
theorem dX5_say_132 : decode cX5_say 132 = .ok (.iload_n 3, 1) := by decide +kernel
theorem dX5_say_133 : decode cX5_say 133 = .ok (.aload_n 0, 1) := by decide +kernel
theorem dX5_say_134 : decode cX5_say 134 = .ok (.getfield 34, 3) := by decide +kernel
theorem dX5_say_137 : decode cX5_say 137 = .ok (.iadd, 1) := by decide +kernel
theorem dX5_say_138 : decode cX5_say 138 = .ok (.ireturn, 1) := by decide +kernel
theorem dX5_say_139 : decode cX5_say 139 = .ok (.aload_n 0, 1) := by decide +kernel
theorem dX5_say_140 : decode cX5_say 140 = .ok (.aload_n 0, 1) := by decide +kernel
theorem dX5_say_141 : decode cX5_say 141 = .ok (.getfield 29, 3) := by decide +kernel
theorem dX5_say_144 : decode cX5_say 144 = .ok (.iconst 0, 1) := by decide +kernel
theorem dX5_say_145 : decode cX5_say 145 = .ok (.iload_n 3, 1) := by decide +kernel
theorem dX5_say_146 : decode cX5_say 146 = .ok (.iload 6, 2) := by decide +kernel
theorem dX5_say_148 : decode cX5_say 148 = .ok (.invokevirtual 37, 3) := by decide +kernel
theorem dX5_say_151 : decode cX5_say 151 = .ok (.iconst 2, 1) := by decide +kernel
theorem dX5_say_152 : decode cX5_say 152 = .ok (.imul, 1) := by decide +kernel
theorem dX5_say_153 : decode cX5_say 153 = .ok (.ireturn, 1) := by decide +kernel
theorem dX5_say_154 : decode cX5_say 154 = .ok (.iload_n 3, 1) := by decide +kernel
theorem dX5_say_155 : decode cX5_say 155 = .ok (.aload_n 0, 1) := by decide +kernel
theorem dX5_say_156 : decode cX5_say 156 = .ok (.getfield 33, 3) := by decide +kernel
theorem dX5_say_159 : decode cX5_say 159 = .ok (.isub, 1) := by decide +kernel
theorem dX5_say_160 : decode cX5_say 160 = .ok (.ireturn, 1) := by decide +kernel
theorem dX5_say_161 : decode cX5_say 161 = .ok (.aload_n 0, 1) := by decide +kernel
theorem dX5_say_162 : decode cX5_say 162 = .ok (.aload_n 0, 1) := by decide +kernel
theorem dX5_say_163 : decode cX5_say 163 = .ok (.getfield 29, 3) := by decide +kernel
theorem dX5_say_166 : decode cX5_say 166 = .ok (.iconst 1, 1) := by decide +kernel
theorem dX5_say_167 : decode cX5_say 167 = .ok (.iload_n 3, 1) := by decide +kernel
theorem dX5_say_168 : decode cX5_say 168 = .ok (.iload 6, 2) := by decide +kernel
theorem dX5_say_170 : decode cX5_say 170 = .ok (.invokevirtual 37, 3) := by decide +kernel
theorem dX5_say_173 : decode cX5_say 173 = .ok (.aload_n 0, 1) := by decide +kernel
theorem dX5_say_174 : decode cX5_say 174 = .ok (.aload_n 0, 1) := by decide +kernel
theorem dX5_say_175 : decode cX5_say 175 = .ok (.getfield 29, 3) := by decide +kernel
theorem dX5_say_178 : decode cX5_say 178 = .ok (.iconst 2, 1) := by decide +kernel
theorem dX5_say_179 : decode cX5_say 179 = .ok (.iload_n 3, 1) := by decide +kernel
theorem dX5_say_180 : decode cX5_say 180 = .ok (.iload 6, 2) := by decide +kernel
theorem dX5_say_182 : decode cX5_say 182 = .ok (.invokevirtual 37, 3) := by decide +kernel
theorem dX5_say_185 : decode cX5_say 185 = .ok (.ixor, 1) := by decide +kernel
theorem dX5_say_186 : decode cX5_say 186 = .ok (.ireturn, 1) := by decide +kernel
theorem dX5_say_187 : decode cX5_say 187 = .ok (.aload_n 0, 1) := by decide +kernel
theorem dX5_say_188 : decode cX5_say 188 = .ok (.iconst 0, 1) := by decide +kernel
theorem dX5_say_189 : decode cX5_say 189 = .ok (.iconst 0, 1) := by decide +kernel
theorem dX5_say_190 : decode cX5_say 190 = .ok (.iload_n 3, 1) := by decide +kernel
theorem dX5_say_191 : decode cX5_say 191 = .ok (.iload 6, 2) := by decide +kernel
theorem dX5_say_193 : decode cX5_say 193 = .ok (.invokevirtual 37, 3) := by decide +kernel
theorem dX5_say_196 : decode cX5_say 196 = .ok (.iconst 3, 1) := by decide +kernel
theorem dX5_say_197 : decode cX5_say 197 = .ok (.imul, 1) := by decide +kernel
theorem dX5_say_198 : decode cX5_say 198 = .ok (.ireturn, 1) := by decide +kernel
theorem dX5_say_199 : decode cX5_say 199 = .ok (.aload_n 0, 1) := by decide +kernel
theorem dX5_say_200 : decode cX5_say 200 = .ok (.iconst 0, 1) := by decide +kernel
theorem dX5_say_201 : decode cX5_say 201 = .ok (.iconst 2, 1) := by decide +kernel
theorem dX5_say_202 : decode cX5_say 202 = .ok (.iload_n 3, 1) := by decide +kernel
theorem dX5_say_203 : decode cX5_say 203 = .ok (.iload 6, 2) := by decide +kernel
theorem dX5_say_205 : decode cX5_say 205 = .ok (.invokevirtual 37, 3) := by decide +kernel
theorem dX5_say_208 : decode cX5_say 208 = .ok (.ineg, 1) := by decide +kernel
theorem dX5_say_209 : decode cX5_say 209 = .ok (.ireturn, 1) := by decide +kernel
theorem dX5_say_210 : decode cX5_say 210 = .ok (.aload_n 0, 1) := by decide +kernel
theorem dX5_say_211 : decode cX5_say 211 = .ok (.iconst 0, 1) := by decide +kernel
theorem dX5_say_212 : decode cX5_say 212 = .ok (.iconst 1, 1) := by decide +kernel
theorem dX5_say_213 : decode cX5_say 213 = .ok (.iload_n 3, 1) := by decide +kernel
theorem dX5_say_214 : decode cX5_say 214 = .ok (.iload 6, 2) := by decide +kernel
theorem dX5_say_216 : decode cX5_say 216 = .ok (.invokevirtual 37, 3) := by decide +kernel
theorem dX5_say_219 : decode cX5_say 219 = .ok (.aload_n 0, 1) := by decide +kernel
theorem dX5_say_220 : decode cX5_say 220 = .ok (.aload_n 0, 1) := by decide +kernel
theorem dX5_say_221 : decode cX5_say 221 = .ok (.getfield 29, 3) := by decide +kernel
theorem dX5_say_224 : decode cX5_say 224 = .ok (.iconst 2, 1) := by decide +kernel
theorem dX5_say_225 : decode cX5_say 225 = .ok (.iconst 1, 1) := by decide +kernel
theorem dX5_say_226 : decode cX5_say 226 = .ok (.iload 6, 2) := by decide +kernel
theorem dX5_say_228 : decode cX5_say 228 = .ok (.invokevirtual 37, 3) := by decide +kernel
theorem dX5_say_231 : decode cX5_say 231 = .ok (.isub, 1) := by decide +kernel
theorem dX5_say_232 : decode cX5_say 232 = .ok (.ireturn, 1) := by decide +kernel
theorem dX5_say_233 : decode cX5_say 233 = .ok (.aload_n 0, 1) := by decide +kernel
theorem dX5_say_234 : decode cX5_say 234 = .ok (.iconst 1, 1) := by decide +kernel
theorem dX5_say_235 : decode cX5_say 235 = .ok (.iconst 3, 1) := by decide +kernel
theorem dX5_say_236 : decode cX5_say 236 = .ok (.iload_n 3, 1) := by decide +kernel
theorem dX5_say_237 : decode cX5_say 237 = .ok (.iload 6, 2) := by decide +kernel
theorem dX5_say_239 : decode cX5_say 239 = .ok (.invokevirtual 37, 3) := by decide +kernel
theorem dX5_say_242 : decode cX5_say 242 = .ok (.aload_n 0, 1) := by decide +kernel
theorem dX5_say_243 : decode cX5_say 243 = .ok (.aload_n 0, 1) := by decide +kernel
theorem dX5_say_244 : decode cX5_say 244 = .ok (.getfield 29, 3) := by decide +kernel
theorem dX5_say_247 : decode cX5_say 247 = .ok (.iconst 0, 1) := by decide +kernel
theorem dX5_say_248 : decode cX5_say 248 = .ok (.iconst 2, 1) := by decide +kernel
theorem dX5_say_249 : decode cX5_say 249 = .ok (.iload 6, 2) := by decide +kernel
theorem dX5_say_251 : decode cX5_say 251 = .ok (.invokevirtual 37, 3) := by decide +kernel
theorem dX5_say_254 : decode cX5_say 254 = .ok (.isub, 1) := by decide +kernel
theorem dX5_say_255 : decode cX5_say 255 = .ok (.ireturn, 1) := by decide +kernel
theorem dX5_say_256 : decode cX5_say 256 = .ok (.aload_n 0, 1) := by decide +kernel
theorem dX5_say_257 : decode cX5_say 257 = .ok (.iconst 2, 1) := by decide +kernel
theorem dX5_say_258 : decode cX5_say 258 = .ok (.iconst 2, 1) := by decide +kernel
theorem dX5_say_259 : decode cX5_say 259 = .ok (.iload_n 3, 1) := by decide +kernel
theorem dX5_say_260 : decode cX5_say 260 = .ok (.iload 6, 2) := by decide +kernel
theorem dX5_say_262 : decode cX5_say 262 = .ok (.invokevirtual 37, 3) := by decide +kernel
theorem dX5_say_265 : decode cX5_say 265 = .ok (.aload_n 0, 1) := by decide +kernel
theorem dX5_say_266 : decode cX5_say 266 = .ok (.getfield 34, 3) := by decide +kernel
theorem dX5_say_269 : decode cX5_say 269 = .ok (.ixor, 1) := by decide +kernel
theorem dX5_say_270 : decode cX5_say 270 = .ok (.ireturn, 1) := by decide +kernel
theorem dX5_say_271 : decode cX5_say 271 = .ok (.aload_n 0, 1) := by decide +kernel
theorem dX5_say_272 : decode cX5_say 272 = .ok (.aload_n 0, 1) := by decide +kernel
theorem dX5_say_273 : decode cX5_say 273 = .ok (.getfield 29, 3) := by decide +kernel
theorem dX5_say_276 : decode cX5_say 276 = .ok (.iconst 1, 1) := by decide +kernel
theorem dX5_say_277 : decode cX5_say 277 = .ok (.iload_n 3, 1) := by decide +kernel
theorem dX5_say_278 : decode cX5_say 278 = .ok (.iload 6, 2) := by decide +kernel
theorem dX5_say_280 : decode cX5_say 280 = .ok (.invokevirtual 37, 3) := by decide +kernel
theorem dX5_say_283 : decode cX5_say 283 = .ok (.aload_n 0, 1) := by decide +kernel
theorem dX5_say_284 : decode cX5_say 284 = .ok (.iconst 2, 1) := by decide +kernel
theorem dX5_say_285 : decode cX5_say 285 = .ok (.iconst 3, 1) := by decide +kernel
theorem dX5_say_286 : decode cX5_say 286 = .ok (.iload_n 3, 1) := by decide +kernel
theorem dX5_say_287 : decode cX5_say 287 = .ok (.iload 6, 2) := by decide +kernel
theorem dX5_say_289 : decode cX5_say 289 = .ok (.invokevirtual 37, 3) := by decide +kernel
theorem dX5_say_292 : decode cX5_say 292 = .ok (.isub, 1) := by decide +kernel
theorem dX5_say_293 : decode cX5_say 293 = .ok (.ireturn, 1) := by decide +kernel
theorem dX5_say_294 : decode cX5_say 294 = .ok (.aload_n 0, 1) := by decide +kernel
theorem dX5_say_295 : decode cX5_say 295 = .ok (.iconst 3, 1) := by decide +kernel
theorem dX5_say_296 : decode cX5_say 296 = .ok (.iconst 1, 1) := by decide +kernel
theorem dX5_say_297 : decode cX5_say 297 = .ok (.iload_n 3, 1) := by decide +kernel
theorem dX5_say_298 : decode cX5_say 298 = .ok (.iconst 1, 1) := by decide +kernel
theorem dX5_say_299 : decode cX5_say 299 = .ok (.iadd, 1) := by decide +kernel
theorem dX5_say_300 : decode cX5_say 300 = .ok (.iload 6, 2) := by decide +kernel
theorem dX5_say_302 : decode cX5_say 302 = .ok (.invokevirtual 37, 3) := by decide +kernel
theorem dX5_say_305 : decode cX5_say 305 = .ok (.ireturn, 1) := by decide +kernel
theorem dX5_say_306 : decode cX5_say 306 = .ok (.iconst 0, 1) := by decide +kernel
theorem dX5_say_307 : decode cX5_say 307 = .ok (.ireturn, 1) := by decide +kernel
theorem dX6_init_0 : decode cX6_init 0 = .ok (.aload_n 0, 1) := by decide +kernel
theorem dX6_init_1 : decode cX6_init 1 = .ok (.invokespecial 3, 3) := by decide +kernel
theorem dX6_init_4 : decode cX6_init 4 = .ok (.return_, 1) := by decide +kernel
theorem dX6_copyFrom_0 : decode cX6_copyFrom 0 = .ok (.aload_n 0, 1) := by decide +kernel
theorem dX6_copyFrom_1 : decode cX6_copyFrom 1 = .ok (.aload_n 1, 1) := by decide +kernel
theorem dX6_copyFrom_2 : decode cX6_copyFrom 2 = .ok (.getfield 9, 3) := by decide +kernel
theorem dX6_copyFrom_5 : decode cX6_copyFrom 5 = .ok (.putfield 9, 3) := by decide +kernel
theorem dX6_copyFrom_8 : decode cX6_copyFrom 8 = .ok (.aload_n 0, 1) := by decide +kernel
theorem dX6_copyFrom_9 : decode cX6_copyFrom 9 = .ok (.aload_n 1, 1) := by decide +kernel
theorem dX6_copyFrom_10 : decode cX6_copyFrom 10 = .ok (.getfield 15, 3) := by decide +kernel
theorem dX6_copyFrom_13 : decode cX6_copyFrom 13 = .ok (.putfield 15, 3) := by decide +kernel
theorem dX6_copyFrom_16 : decode cX6_copyFrom 16 = .ok (.aload_n 0, 1) := by decide +kernel
theorem dX6_copyFrom_17 : decode cX6_copyFrom 17 = .ok (.aload_n 1, 1) := by decide +kernel
theorem dX6_copyFrom_18 : decode cX6_copyFrom 18 = .ok (.getfield 18, 3) := by decide +kernel
theorem dX6_copyFrom_21 : decode cX6_copyFrom 21 = .ok (.putfield 18, 3) := by decide +kernel
theorem dX6_copyFrom_24 : decode cX6_copyFrom 24 = .ok (.aload_n 0, 1) := by decide +kernel
theorem dX6_copyFrom_25 : decode cX6_copyFrom 25 = .ok (.aload_n 1, 1) := by decide +kernel
theorem dX6_copyFrom_26 : decode cX6_copyFrom 26 = .ok (.getfield 21, 3) := by decide +kernel
theorem dX6_copyFrom_29 : decode cX6_copyFrom 29 = .ok (.putfield 21, 3) := by decide +kernel
theorem dX6_copyFrom_32 : decode cX6_copyFrom 32 = .ok (.aload_n 0, 1) := by decide +kernel
theorem dX6_copyFrom_33 : decode cX6_copyFrom 33 = .ok (.aload_n 1, 1) := by decide +kernel
theorem dX6_copyFrom_34 : decode cX6_copyFrom 34 = .ok (.getfield 24, 3) := by decide +kernel
theorem dX6_copyFrom_37 : decode cX6_copyFrom 37 = .ok (.putfield 24, 3) := by decide +kernel
theorem dX6_copyFrom_40 : decode cX6_copyFrom 40 = .ok (.return_, 1) := by decide +kernel
theorem dX6_looksIn_0 : decode cX6_looksIn 0 = .ok (.aload_n 0, 1) := by decide +kernel
theorem dX6_looksIn_1 : decode cX6_looksIn 1 = .ok (.getfield 9, 3) := by decide +kernel
theorem dX6_looksIn_4 : decode cX6_looksIn 4 = .ok (.tableswitch 99 1 6 #[40, 64, 87, 40, 85, 87], 40) := by decide +kernel
theorem dX6_looksIn_44 : decode cX6_looksIn 44 = .ok (.aload_n 0, 1) := by decide +kernel
theorem dX6_looksIn_45 : decode cX6_looksIn 45 = .ok (.getfield 15, 3) := by decide +kernel
theorem dX6_looksIn_48 : decode cX6_looksIn 48 = .ok (.iconst 2, 1) := by decide +kernel
theorem dX6_looksIn_49 : decode cX6_looksIn 49 = .ok (.if_icmp .gt 13, 3) := by decide +kernel
theorem dX6_looksIn_52 : decode cX6_looksIn 52 = .ok (.iload_n 1, 1) := by decide +kernel
theorem dX6_looksIn_53 : decode cX6_looksIn 53 = .ok (.iconst 3, 1) := by decide +kernel
theorem dX6_looksIn_54 : decode cX6_looksIn 54 = .ok (.irem, 1) := by decide +kernel
theorem dX6_looksIn_55 : decode cX6_looksIn 55 = .ok (.aload_n 0, 1) := by decide +kernel
theorem dX6_looksIn_56 : decode cX6_looksIn 56 = .ok (.getfield 15, 3) := by decide +kernel
theorem dX6_looksIn_59 : decode cX6_looksIn 59 = .ok (.if_icmp .ne 7, 3) := by decide +kernel
theorem dX6_looksIn_62 : decode cX6_looksIn 62 = .ok (.iconst 1, 1) := by decide +kernel
theorem dX6_looksIn_63 : decode cX6_looksIn 63 = .ok (.goto 4, 3) := by decide +kernel
theorem dX6_looksIn_66 : decode cX6_looksIn 66 = .ok (.iconst 0, 1) := by decide +kernel
theorem dX6_looksIn_67 : decode cX6_looksIn 67 = .ok (.ireturn, 1) := by decide +kernel
theorem dX6_looksIn_68 : decode cX6_looksIn 68 = .ok (.aload_n 0, 1) := by decide +kernel
theorem dX6_looksIn_69 : decode cX6_looksIn 69 = .ok (.getfield 18, 3) := by decide +kernel
theorem dX6_looksIn_72 : decode cX6_looksIn 72 = .ok (.iload_n 1, 1) := by decide +kernel
theorem dX6_looksIn_73 : decode cX6_looksIn 73 = .ok (.bipush 16, 2) := by decide +kernel
theorem dX6_looksIn_75 : decode cX6_looksIn 75 = .ok (.irem, 1) := by decide +kernel
theorem dX6_looksIn_76 : decode cX6_looksIn 76 = .ok (.invokestatic 28, 3) := by decide +kernel
theorem dX6_looksIn_79 : decode cX6_looksIn 79 = .ok (.iand, 1) := by decide +kernel
theorem dX6_looksIn_80 : decode cX6_looksIn 80 = .ok (.ifCond .eq 7, 3) := by decide +kernel
theorem dX6_looksIn_83 : decode cX6_looksIn 83 = .ok (.iconst 1, 1) := by decide +kernel
theorem dX6_looksIn_84 : decode cX6_looksIn 84 = .ok (.goto 4, 3) := by decide +kernel
theorem dX6_looksIn_87 : decode cX6_looksIn 87 = .ok (.iconst 0, 1) := by decide +kernel
theorem dX6_looksIn_88 : decode cX6_looksIn 88 = .ok (.ireturn, 1) := by decide +kernel
theorem dX6_looksIn_89 : decode cX6_looksIn 89 = .ok (.iconst 0, 1) := by decide +kernel
theorem dX6_looksIn_90 : decode cX6_looksIn 90 = .ok (.ireturn, 1) := by decide +kernel
theorem dX6_looksIn_91 : decode cX6_looksIn 91 = .ok (.iload_n 1, 1) := by decide +kernel
theorem dX6_looksIn_92 : decode cX6_looksIn 92 = .ok (.iconst 2, 1) := by decide +kernel
theorem dX6_looksIn_93 : decode cX6_looksIn 93 = .ok (.irem, 1) := by decide +kernel
theorem dX6_looksIn_94 : decode cX6_looksIn 94 = .ok (.ifCond .ne 7, 3) := by decide +kernel
theorem dX6_looksIn_97 : decode cX6_looksIn 97 = .ok (.iconst 1, 1) := by decide +kernel
theorem dX6_looksIn_98 : decode cX6_looksIn 98 = .ok (.goto 4, 3) := by decide +kernel
theorem dX6_looksIn_101 : decode cX6_looksIn 101 = .ok (.iconst 0, 1) := by decide +kernel
theorem dX6_looksIn_102 : decode cX6_looksIn 102 = .ok (.ireturn, 1) := by decide +kernel
theorem dX6_looksIn_103 : decode cX6_looksIn 103 = .ok (.iconst 1, 1) := by decide +kernel
theorem dX6_looksIn_104 : decode cX6_looksIn 104 = .ok (.ireturn, 1) := by decide +kernel
theorem dX6_earn_0 : decode cX6_earn 0 = .ok (.aload_n 0, 1) := by decide +kernel
theorem dX6_earn_1 : decode cX6_earn 1 = .ok (.getfield 18, 3) := by decide +kernel
theorem dX6_earn_4 : decode cX6_earn 4 = .ok (.iload_n 2, 1) := by decide +kernel
theorem dX6_earn_5 : decode cX6_earn 5 = .ok (.iand, 1) := by decide +kernel
theorem dX6_earn_6 : decode cX6_earn 6 = .ok (.istore_n 3, 1) := by decide +kernel
theorem dX6_earn_7 : decode cX6_earn 7 = .ok (.iload_n 3, 1) := by decide +kernel
theorem dX6_earn_8 : decode cX6_earn 8 = .ok (.ifCond .eq 11, 3) := by decide +kernel
theorem dX6_earn_11 : decode cX6_earn 11 = .ok (.aload_n 0, 1) := by decide +kernel
theorem dX6_earn_12 : decode cX6_earn 12 = .ok (.iload_n 1, 1) := by decide +kernel
theorem dX6_earn_13 : decode cX6_earn 13 = .ok (.invokevirtual 32, 3) := by decide +kernel
theorem dX6_earn_16 : decode cX6_earn 16 = .ok (.ifCond .ne 4, 3) := by decide +kernel
theorem dX6_earn_19 : decode cX6_earn 19 = .ok (.return_, 1) := by decide +kernel
theorem dX6_earn_20 : decode cX6_earn 20 = .ok (.aload_n 0, 1) := by decide +kernel
theorem dX6_earn_21 : decode cX6_earn 21 = .ok (.sipush 9999, 3) := by decide +kernel
theorem dX6_earn_24 : decode cX6_earn 24 = .ok (.aload_n 0, 1) := by decide +kernel
theorem dX6_earn_25 : decode cX6_earn 25 = .ok (.getfield 21, 3) := by decide +kernel
theorem dX6_earn_28 : decode cX6_earn 28 = .ok (.aload_n 0, 1) := by decide +kernel
theorem dX6_earn_29 : decode cX6_earn 29 = .ok (.iload_n 3, 1) := by decide +kernel
theorem dX6_earn_30 : decode cX6_earn 30 = .ok (.invokestatic 36, 3) := by decide +kernel
theorem dX6_earn_33 : decode cX6_earn 33 = .ok (.invokevirtual 41, 3) := by decide +kernel
theorem dX6_earn_36 : decode cX6_earn 36 = .ok (.iadd, 1) := by decide +kernel
theorem dX6_earn_37 : decode cX6_earn 37 = .ok (.invokestatic 44, 3) := by decide +kernel
theorem dX6_earn_40 : decode cX6_earn 40 = .ok (.putfield 21, 3) := by decide +kernel
theorem dX6_earn_43 : decode cX6_earn 43 = .ok (.return_, 1) := by decide +kernel
theorem dX6_wages_0 : decode cX6_wages 0 = .ok (.aload_n 0, 1) := by decide +kernel
theorem dX6_wages_1 : decode cX6_wages 1 = .ok (.getfield 9, 3) := by decide +kernel
theorem dX6_wages_4 : decode cX6_wages 4 = .ok (.tableswitch 49 1 6 #[40, 49, 43, 40, 47, 43], 40) := by decide +kernel
theorem dX6_wages_44 : decode cX6_wages 44 = .ok (.bipush 9, 2) := by decide +kernel
theorem dX6_wages_46 : decode cX6_wages 46 = .ok (.ireturn, 1) := by decide +kernel
theorem dX6_wages_47 : decode cX6_wages 47 = .ok (.iconst 2, 1) := by decide +kernel
theorem dX6_wages_48 : decode cX6_wages 48 = .ok (.iload_n 1, 1) := by decide +kernel
theorem dX6_wages_49 : decode cX6_wages 49 = .ok (.imul, 1) := by decide +kernel
theorem dX6_wages_50 : decode cX6_wages 50 = .ok (.ireturn, 1) := by decide +kernel
theorem dX6_wages_51 : decode cX6_wages 51 = .ok (.iconst 0, 1) := by decide +kernel
theorem dX6_wages_52 : decode cX6_wages 52 = .ok (.ireturn, 1) := by decide +kernel
theorem dX6_wages_53 : decode cX6_wages 53 = .ok (.iconst 5, 1) := by decide +kernel
theorem dX6_wages_54 : decode cX6_wages 54 = .ok (.ireturn, 1) := by decide +kernel
theorem dX6_owesBy_0 : decode cX6_owesBy 0 = .ok (.aload_n 0, 1) := by decide +kernel
theorem dX6_owesBy_1 : decode cX6_owesBy 1 = .ok (.getfield 9, 3) := by decide +kernel
theorem dX6_owesBy_4 : decode cX6_owesBy 4 = .ok (.tableswitch 86 1 6 #[40, 56, 63, 44, 56, 70], 40) := by decide +kernel
theorem dX6_owesBy_44 : decode cX6_owesBy 44 = .ok (.iload_n 1, 1) := by decide +kernel
theorem dX6_owesBy_45 : decode cX6_owesBy 45 = .ok (.iconst 2, 1) := by decide +kernel
theorem dX6_owesBy_46 : decode cX6_owesBy 46 = .ok (.idiv, 1) := by decide +kernel
theorem dX6_owesBy_47 : decode cX6_owesBy 47 = .ok (.ireturn, 1) := by decide +kernel
theorem dX6_owesBy_48 : decode cX6_owesBy 48 = .ok (.iload_n 1, 1) := by decide +kernel
theorem dX6_owesBy_49 : decode cX6_owesBy 49 = .ok (.iconst 2, 1) := by decide +kernel
theorem dX6_owesBy_50 : decode cX6_owesBy 50 = .ok (.idiv, 1) := by decide +kernel
theorem dX6_owesBy_51 : decode cX6_owesBy 51 = .ok (.iconst 1, 1) := by decide +kernel
theorem dX6_owesBy_52 : decode cX6_owesBy 52 = .ok (.iconst 1, 1) := by decide +kernel
theorem dX6_owesBy_53 : decode cX6_owesBy 53 = .ok (.iload_n 2, 1) := by decide +kernel
theorem dX6_owesBy_54 : decode cX6_owesBy 54 = .ok (.iadd, 1) := by decide +kernel
theorem dX6_owesBy_55 : decode cX6_owesBy 55 = .ok (.invokestatic 50, 3) := by decide +kernel
theorem dX6_owesBy_58 : decode cX6_owesBy 58 = .ok (.idiv, 1) := by decide +kernel
theorem dX6_owesBy_59 : decode cX6_owesBy 59 = .ok (.ireturn, 1) := by decide +kernel
theorem dX6_owesBy_60 : decode cX6_owesBy 60 = .ok (.iload_n 1, 1) := by decide +kernel
theorem dX6_owesBy_61 : decode cX6_owesBy 61 = .ok (.aload_n 0, 1) := by decide +kernel
theorem dX6_owesBy_62 : decode cX6_owesBy 62 = .ok (.getfield 15, 3) := by decide +kernel
theorem dX6_owesBy_65 : decode cX6_owesBy 65 = .ok (.iadd, 1) := by decide +kernel
theorem dX6_owesBy_66 : decode cX6_owesBy 66 = .ok (.ireturn, 1) := by decide +kernel
theorem dX6_owesBy_67 : decode cX6_owesBy 67 = .ok (.iload_n 1, 1) := by decide +kernel
theorem dX6_owesBy_68 : decode cX6_owesBy 68 = .ok (.iload_n 1, 1) := by decide +kernel
theorem dX6_owesBy_69 : decode cX6_owesBy 69 = .ok (.bipush 10, 2) := by decide +kernel
theorem dX6_owesBy_71 : decode cX6_owesBy 71 = .ok (.idiv, 1) := by decide +kernel
theorem dX6_owesBy_72 : decode cX6_owesBy 72 = .ok (.isub, 1) := by decide +kernel
theorem dX6_owesBy_73 : decode cX6_owesBy 73 = .ok (.ireturn, 1) := by decide +kernel
theorem dX6_owesBy_74 : decode cX6_owesBy 74 = .ok (.iconst 0, 1) := by decide +kernel
theorem dX6_owesBy_75 : decode cX6_owesBy 75 = .ok (.iload_n 1, 1) := by decide +kernel
theorem dX6_owesBy_76 : decode cX6_owesBy 76 = .ok (.iload_n 1, 1) := by decide +kernel
theorem dX6_owesBy_77 : decode cX6_owesBy 77 = .ok (.bipush 10, 2) := by decide +kernel
theorem dX6_owesBy_79 : decode cX6_owesBy 79 = .ok (.idiv, 1) := by decide +kernel
theorem dX6_owesBy_80 : decode cX6_owesBy 80 = .ok (.isub, 1) := by decide +kernel
theorem dX6_owesBy_81 : decode cX6_owesBy 81 = .ok (.aload_n 0, 1) := by decide +kernel
theorem dX6_owesBy_82 : decode cX6_owesBy 82 = .ok (.getfield 15, 3) := by decide +kernel
theorem dX6_owesBy_85 : decode cX6_owesBy 85 = .ok (.isub, 1) := by decide +kernel
theorem dX6_owesBy_86 : decode cX6_owesBy 86 = .ok (.invokestatic 50, 3) := by decide +kernel
theorem dX6_owesBy_89 : decode cX6_owesBy 89 = .ok (.ireturn, 1) := by decide +kernel
theorem dX6_owesBy_90 : decode cX6_owesBy 90 = .ok (.iload_n 1, 1) := by decide +kernel
theorem dX6_owesBy_91 : decode cX6_owesBy 91 = .ok (.ireturn, 1) := by decide +kernel
theorem dX6_pay_0 : decode cX6_pay 0 = .ok (.aload_n 0, 1) := by decide +kernel
theorem dX6_pay_1 : decode cX6_pay 1 = .ok (.sipush (-9999), 3) := by decide +kernel
theorem dX6_pay_4 : decode cX6_pay 4 = .ok (.aload_n 0, 1) := by decide +kernel
theorem dX6_pay_5 : decode cX6_pay 5 = .ok (.getfield 21, 3) := by decide +kernel
theorem dX6_pay_8 : decode cX6_pay 8 = .ok (.iload_n 1, 1) := by decide +kernel
theorem dX6_pay_9 : decode cX6_pay 9 = .ok (.isub, 1) := by decide +kernel
theorem dX6_pay_10 : decode cX6_pay 10 = .ok (.invokestatic 50, 3) := by decide +kernel
theorem dX6_pay_13 : decode cX6_pay 13 = .ok (.putfield 21, 3) := by decide +kernel
theorem dX6_pay_16 : decode cX6_pay 16 = .ok (.aload_n 0, 1) := by decide +kernel
theorem dX6_pay_17 : decode cX6_pay 17 = .ok (.getfield 21, 3) := by decide +kernel
theorem dX6_pay_20 : decode cX6_pay 20 = .ok (.ifCond .ge 13, 3) := by decide +kernel
theorem dX6_pay_23 : decode cX6_pay 23 = .ok (.aload_n 0, 1) := by decide +kernel
theorem dX6_pay_24 : decode cX6_pay 24 = .ok (.iconst 1, 1) := by decide +kernel
theorem dX6_pay_25 : decode cX6_pay 25 = .ok (.putfield 24, 3) := by decide +kernel
theorem dX6_pay_28 : decode cX6_pay 28 = .ok (.aload_n 0, 1) := by decide +kernel
theorem dX6_pay_29 : decode cX6_pay 29 = .ok (.iconst 0, 1) := by decide +kernel
theorem dX6_pay_30 : decode cX6_pay 30 = .ok (.putfield 18, 3) := by decide +kernel
theorem dX6_pay_33 : decode cX6_pay 33 = .ok (.return_, 1) := by decide +kernel
theorem dX7_init_0 : decode cX7_init 0 = .ok (.aload_n 0, 1) := by decide +kernel
theorem dX7_init_1 : decode cX7_init 1 = .ok (.invokespecial 3, 3) := by decide +kernel
theorem dX7_init_4 : decode cX7_init 4 = .ok (.aload_n 0, 1) := by decide +kernel
theorem dX7_init_5 : decode cX7_init 5 = .ok (.new 9, 3) := by decide +kernel
theorem dX7_init_8 : decode cX7_init 8 = .ok (.dup, 1) := by decide +kernel
theorem dX7_init_9 : decode cX7_init 9 = .ok (.bipush 6, 2) := by decide +kernel
theorem dX7_init_11 : decode cX7_init 11 = .ok (.invokespecial 11, 3) := by decide +kernel
theorem dX7_init_14 : decode cX7_init 14 = .ok (.putfield 14, 3) := by decide +kernel
theorem dX7_init_17 : decode cX7_init 17 = .ok (.return_, 1) := by decide +kernel
theorem dX7_mostFrom_0 : decode cX7_mostFrom 0 = .ok (.iconst 0, 1) := by decide +kernel
theorem dX7_mostFrom_1 : decode cX7_mostFrom 1 = .ok (.aload_n 0, 1) := by decide +kernel
theorem dX7_mostFrom_2 : decode cX7_mostFrom 2 = .ok (.getfield 14, 3) := by decide +kernel
theorem dX7_mostFrom_5 : decode cX7_mostFrom 5 = .ok (.getfield 20, 3) := by decide +kernel
theorem dX7_mostFrom_8 : decode cX7_mostFrom 8 = .ok (.iload_n 1, 1) := by decide +kernel
theorem dX7_mostFrom_9 : decode cX7_mostFrom 9 = .ok (.isub, 1) := by decide +kernel
theorem dX7_mostFrom_10 : decode cX7_mostFrom 10 = .ok (.invokestatic 24, 3) := by decide +kernel
theorem dX7_mostFrom_13 : decode cX7_mostFrom 13 = .ok (.istore_n 3, 1) := by decide +kernel
theorem dX7_mostFrom_14 : decode cX7_mostFrom 14 = .ok (.iload_n 3, 1) := by decide +kernel
theorem dX7_mostFrom_15 : decode cX7_mostFrom 15 = .ok (.istore 4, 2) := by decide +kernel
theorem dX7_mostFrom_17 : decode cX7_mostFrom 17 = .ok (.iconst 0, 1) := by decide +kernel
theorem dX7_mostFrom_18 : decode cX7_mostFrom 18 = .ok (.istore 5, 2) := by decide +kernel
theorem dX7_mostFrom_20 : decode cX7_mostFrom 20 = .ok (.iload 5, 2) := by decide +kernel
theorem dX7_mostFrom_22 : decode cX7_mostFrom 22 = .ok (.iconst 1, 1) := by decide +kernel
theorem dX7_mostFrom_23 : decode cX7_mostFrom 23 = .ok (.iload_n 3, 1) := by decide +kernel
theorem dX7_mostFrom_24 : decode cX7_mostFrom 24 = .ok (.ishl, 1) := by decide +kernel
theorem dX7_mostFrom_25 : decode cX7_mostFrom 25 = .ok (.if_icmp .ge 43, 3) := by decide +kernel
theorem dX7_mostFrom_28 : decode cX7_mostFrom 28 = .ok (.aload_n 0, 1) := by decide +kernel
theorem dX7_mostFrom_29 : decode cX7_mostFrom 29 = .ok (.iload 5, 2) := by decide +kernel
theorem dX7_mostFrom_31 : decode cX7_mostFrom 31 = .ok (.iload_n 1, 1) := by decide +kernel
theorem dX7_mostFrom_32 : decode cX7_mostFrom 32 = .ok (.ishl, 1) := by decide +kernel
theorem dX7_mostFrom_33 : decode cX7_mostFrom 33 = .ok (.invokevirtual 30, 3) := by decide +kernel
theorem dX7_mostFrom_36 : decode cX7_mostFrom 36 = .ok (.iload_n 2, 1) := by decide +kernel
theorem dX7_mostFrom_37 : decode cX7_mostFrom 37 = .ok (.iconst (-1), 1) := by decide +kernel
theorem dX7_mostFrom_38 : decode cX7_mostFrom 38 = .ok (.ixor, 1) := by decide +kernel
theorem dX7_mostFrom_39 : decode cX7_mostFrom 39 = .ok (.iand, 1) := by decide +kernel
theorem dX7_mostFrom_40 : decode cX7_mostFrom 40 = .ok (.istore 6, 2) := by decide +kernel
theorem dX7_mostFrom_42 : decode cX7_mostFrom 42 = .ok (.iload 4, 2) := by decide +kernel
theorem dX7_mostFrom_44 : decode cX7_mostFrom 44 = .ok (.iload_n 3, 1) := by decide +kernel
theorem dX7_mostFrom_45 : decode cX7_mostFrom 45 = .ok (.iload 5, 2) := by decide +kernel
theorem dX7_mostFrom_47 : decode cX7_mostFrom 47 = .ok (.invokestatic 34, 3) := by decide +kernel
theorem dX7_mostFrom_50 : decode cX7_mostFrom 50 = .ok (.isub, 1) := by decide +kernel
theorem dX7_mostFrom_51 : decode cX7_mostFrom 51 = .ok (.iload 6, 2) := by decide +kernel
theorem dX7_mostFrom_53 : decode cX7_mostFrom 53 = .ok (.invokestatic 34, 3) := by decide +kernel
theorem dX7_mostFrom_56 : decode cX7_mostFrom 56 = .ok (.iadd, 1) := by decide +kernel
theorem dX7_mostFrom_57 : decode cX7_mostFrom 57 = .ok (.invokestatic 39, 3) := by decide +kernel
theorem dX7_mostFrom_60 : decode cX7_mostFrom 60 = .ok (.istore 4, 2) := by decide +kernel
theorem dX7_mostFrom_62 : decode cX7_mostFrom 62 = .ok (.iinc 5 1, 3) := by decide +kernel
theorem dX7_mostFrom_65 : decode cX7_mostFrom 65 = .ok (.goto (-45), 3) := by decide +kernel
theorem dX7_mostFrom_68 : decode cX7_mostFrom 68 = .ok (.iload 4, 2) := by decide +kernel
theorem dX7_mostFrom_70 : decode cX7_mostFrom 70 = .ok (.ireturn, 1) := by decide +kernel
theorem dX7_wishedBy_0 : decode cX7_wishedBy 0 = .ok (.iconst 0, 1) := by decide +kernel
theorem dX7_wishedBy_1 : decode cX7_wishedBy 1 = .ok (.istore_n 2, 1) := by decide +kernel
theorem dX7_wishedBy_2 : decode cX7_wishedBy 2 = .ok (.iconst 0, 1) := by decide +kernel
theorem dX7_wishedBy_3 : decode cX7_wishedBy 3 = .ok (.istore_n 3, 1) := by decide +kernel
theorem dX7_wishedBy_4 : decode cX7_wishedBy 4 = .ok (.iload_n 3, 1) := by decide +kernel
theorem dX7_wishedBy_5 : decode cX7_wishedBy 5 = .ok (.aload_n 0, 1) := by decide +kernel
theorem dX7_wishedBy_6 : decode cX7_wishedBy 6 = .ok (.getfield 14, 3) := by decide +kernel
theorem dX7_wishedBy_9 : decode cX7_wishedBy 9 = .ok (.getfield 20, 3) := by decide +kernel
theorem dX7_wishedBy_12 : decode cX7_wishedBy 12 = .ok (.if_icmp .ge 28, 3) := by decide +kernel
theorem dX7_wishedBy_15 : decode cX7_wishedBy 15 = .ok (.iload_n 1, 1) := by decide +kernel
theorem dX7_wishedBy_16 : decode cX7_wishedBy 16 = .ok (.iload_n 3, 1) := by decide +kernel
theorem dX7_wishedBy_17 : decode cX7_wishedBy 17 = .ok (.ishr, 1) := by decide +kernel
theorem dX7_wishedBy_18 : decode cX7_wishedBy 18 = .ok (.iconst 1, 1) := by decide +kernel
theorem dX7_wishedBy_19 : decode cX7_wishedBy 19 = .ok (.iand, 1) := by decide +kernel
theorem dX7_wishedBy_20 : decode cX7_wishedBy 20 = .ok (.ifCond .eq 14, 3) := by decide +kernel
theorem dX7_wishedBy_23 : decode cX7_wishedBy 23 = .ok (.iload_n 2, 1) := by decide +kernel
theorem dX7_wishedBy_24 : decode cX7_wishedBy 24 = .ok (.aload_n 0, 1) := by decide +kernel
theorem dX7_wishedBy_25 : decode cX7_wishedBy 25 = .ok (.getfield 14, 3) := by decide +kernel
theorem dX7_wishedBy_28 : decode cX7_wishedBy 28 = .ok (.iload_n 3, 1) := by decide +kernel
theorem dX7_wishedBy_29 : decode cX7_wishedBy 29 = .ok (.invokevirtual 42, 3) := by decide +kernel
theorem dX7_wishedBy_32 : decode cX7_wishedBy 32 = .ok (.ior, 1) := by decide +kernel
theorem dX7_wishedBy_33 : decode cX7_wishedBy 33 = .ok (.istore_n 2, 1) := by decide +kernel
theorem dX7_wishedBy_34 : decode cX7_wishedBy 34 = .ok (.iinc 3 1, 3) := by decide +kernel
theorem dX7_wishedBy_37 : decode cX7_wishedBy 37 = .ok (.goto (-33), 3) := by decide +kernel
theorem dX7_wishedBy_40 : decode cX7_wishedBy 40 = .ok (.iload_n 2, 1) := by decide +kernel
theorem dX7_wishedBy_41 : decode cX7_wishedBy 41 = .ok (.ireturn, 1) := by decide +kernel
theorem dX7_roomOf_0 : decode cX7_roomOf 0 = .ok (.iconst 0, 1) := by decide +kernel
theorem dX7_roomOf_1 : decode cX7_roomOf 1 = .ok (.istore_n 2, 1) := by decide +kernel
theorem dX7_roomOf_2 : decode cX7_roomOf 2 = .ok (.iconst (-1), 1) := by decide +kernel
theorem dX7_roomOf_3 : decode cX7_roomOf 3 = .ok (.istore_n 3, 1) := by decide +kernel
theorem dX7_roomOf_4 : decode cX7_roomOf 4 = .ok (.iconst 0, 1) := by decide +kernel
theorem dX7_roomOf_5 : decode cX7_roomOf 5 = .ok (.istore 4, 2) := by decide +kernel
theorem dX7_roomOf_7 : decode cX7_roomOf 7 = .ok (.iload 4, 2) := by decide +kernel
theorem dX7_roomOf_9 : decode cX7_roomOf 9 = .ok (.iload_n 1, 1) := by decide +kernel
theorem dX7_roomOf_10 : decode cX7_roomOf 10 = .ok (.if_icmp .gt 39, 3) := by decide +kernel
theorem dX7_roomOf_13 : decode cX7_roomOf 13 = .ok (.iload 4, 2) := by decide +kernel
theorem dX7_roomOf_15 : decode cX7_roomOf 15 = .ok (.aload_n 0, 1) := by decide +kernel
theorem dX7_roomOf_16 : decode cX7_roomOf 16 = .ok (.getfield 14, 3) := by decide +kernel
theorem dX7_roomOf_19 : decode cX7_roomOf 19 = .ok (.getfield 20, 3) := by decide +kernel
theorem dX7_roomOf_22 : decode cX7_roomOf 22 = .ok (.if_icmp .ge 27, 3) := by decide +kernel
theorem dX7_roomOf_25 : decode cX7_roomOf 25 = .ok (.aload_n 0, 1) := by decide +kernel
theorem dX7_roomOf_26 : decode cX7_roomOf 26 = .ok (.iload 4, 2) := by decide +kernel
theorem dX7_roomOf_28 : decode cX7_roomOf 28 = .ok (.iload_n 2, 1) := by decide +kernel
theorem dX7_roomOf_29 : decode cX7_roomOf 29 = .ok (.invokevirtual 45, 3) := by decide +kernel
theorem dX7_roomOf_32 : decode cX7_roomOf 32 = .ok (.istore_n 3, 1) := by decide +kernel
theorem dX7_roomOf_33 : decode cX7_roomOf 33 = .ok (.iload_n 3, 1) := by decide +kernel
theorem dX7_roomOf_34 : decode cX7_roomOf 34 = .ok (.ifCond .lt 9, 3) := by decide +kernel
theorem dX7_roomOf_37 : decode cX7_roomOf 37 = .ok (.iload_n 2, 1) := by decide +kernel
theorem dX7_roomOf_38 : decode cX7_roomOf 38 = .ok (.iconst 1, 1) := by decide +kernel
theorem dX7_roomOf_39 : decode cX7_roomOf 39 = .ok (.iload_n 3, 1) := by decide +kernel
theorem dX7_roomOf_40 : decode cX7_roomOf 40 = .ok (.ishl, 1) := by decide +kernel
theorem dX7_roomOf_41 : decode cX7_roomOf 41 = .ok (.ior, 1) := by decide +kernel
theorem dX7_roomOf_42 : decode cX7_roomOf 42 = .ok (.istore_n 2, 1) := by decide +kernel
theorem dX7_roomOf_43 : decode cX7_roomOf 43 = .ok (.iinc 4 1, 3) := by decide +kernel
theorem dX7_roomOf_46 : decode cX7_roomOf 46 = .ok (.goto (-39), 3) := by decide +kernel
theorem dX7_roomOf_49 : decode cX7_roomOf 49 = .ok (.iload_n 3, 1) := by decide +kernel
theorem dX7_roomOf_50 : decode cX7_roomOf 50 = .ok (.ireturn, 1) := by decide +kernel
theorem dX7_firstRoom_0 : decode cX7_firstRoom 0 = .ok (.aload_n 0, 1) := by decide +kernel
theorem dX7_firstRoom_1 : decode cX7_firstRoom 1 = .ok (.iload_n 1, 1) := by decide +kernel
theorem dX7_firstRoom_2 : decode cX7_firstRoom 2 = .ok (.iload_n 2, 1) := by decide +kernel
theorem dX7_firstRoom_3 : decode cX7_firstRoom 3 = .ok (.invokevirtual 48, 3) := by decide +kernel
theorem dX7_firstRoom_6 : decode cX7_firstRoom 6 = .ok (.istore_n 3, 1) := by decide +kernel
theorem dX7_firstRoom_7 : decode cX7_firstRoom 7 = .ok (.aload_n 0, 1) := by decide +kernel
theorem dX7_firstRoom_8 : decode cX7_firstRoom 8 = .ok (.getfield 14, 3) := by decide +kernel
theorem dX7_firstRoom_11 : decode cX7_firstRoom 11 = .ok (.iload_n 1, 1) := by decide +kernel
theorem dX7_firstRoom_12 : decode cX7_firstRoom 12 = .ok (.invokevirtual 42, 3) := by decide +kernel
theorem dX7_firstRoom_15 : decode cX7_firstRoom 15 = .ok (.iload_n 2, 1) := by decide +kernel
theorem dX7_firstRoom_16 : decode cX7_firstRoom 16 = .ok (.iconst (-1), 1) := by decide +kernel
theorem dX7_firstRoom_17 : decode cX7_firstRoom 17 = .ok (.ixor, 1) := by decide +kernel
theorem dX7_firstRoom_18 : decode cX7_firstRoom 18 = .ok (.iand, 1) := by decide +kernel
theorem dX7_firstRoom_19 : decode cX7_firstRoom 19 = .ok (.istore 4, 2) := by decide +kernel
theorem dX7_firstRoom_21 : decode cX7_firstRoom 21 = .ok (.iconst 0, 1) := by decide +kernel
theorem dX7_firstRoom_22 : decode cX7_firstRoom 22 = .ok (.istore 5, 2) := by decide +kernel
theorem dX7_firstRoom_24 : decode cX7_firstRoom 24 = .ok (.iload 5, 2) := by decide +kernel
theorem dX7_firstRoom_26 : decode cX7_firstRoom 26 = .ok (.bipush 24, 2) := by decide +kernel
theorem dX7_firstRoom_28 : decode cX7_firstRoom 28 = .ok (.if_icmp .ge 41, 3) := by decide +kernel
theorem dX7_firstRoom_31 : decode cX7_firstRoom 31 = .ok (.iload 4, 2) := by decide +kernel
theorem dX7_firstRoom_33 : decode cX7_firstRoom 33 = .ok (.iload 5, 2) := by decide +kernel
theorem dX7_firstRoom_35 : decode cX7_firstRoom 35 = .ok (.ishr, 1) := by decide +kernel
theorem dX7_firstRoom_36 : decode cX7_firstRoom 36 = .ok (.iconst 1, 1) := by decide +kernel
theorem dX7_firstRoom_37 : decode cX7_firstRoom 37 = .ok (.iand, 1) := by decide +kernel
theorem dX7_firstRoom_38 : decode cX7_firstRoom 38 = .ok (.ifCond .eq 25, 3) := by decide +kernel
theorem dX7_firstRoom_41 : decode cX7_firstRoom 41 = .ok (.iconst 1, 1) := by decide +kernel
theorem dX7_firstRoom_42 : decode cX7_firstRoom 42 = .ok (.aload_n 0, 1) := by decide +kernel
theorem dX7_firstRoom_43 : decode cX7_firstRoom 43 = .ok (.iload_n 1, 1) := by decide +kernel
theorem dX7_firstRoom_44 : decode cX7_firstRoom 44 = .ok (.iconst 1, 1) := by decide +kernel
theorem dX7_firstRoom_45 : decode cX7_firstRoom 45 = .ok (.iadd, 1) := by decide +kernel
theorem dX7_firstRoom_46 : decode cX7_firstRoom 46 = .ok (.iload_n 2, 1) := by decide +kernel
theorem dX7_firstRoom_47 : decode cX7_firstRoom 47 = .ok (.iconst 1, 1) := by decide +kernel
theorem dX7_firstRoom_48 : decode cX7_firstRoom 48 = .ok (.iload 5, 2) := by decide +kernel
theorem dX7_firstRoom_50 : decode cX7_firstRoom 50 = .ok (.ishl, 1) := by decide +kernel
theorem dX7_firstRoom_51 : decode cX7_firstRoom 51 = .ok (.ior, 1) := by decide +kernel
theorem dX7_firstRoom_52 : decode cX7_firstRoom 52 = .ok (.invokevirtual 48, 3) := by decide +kernel
theorem dX7_firstRoom_55 : decode cX7_firstRoom 55 = .ok (.iadd, 1) := by decide +kernel
theorem dX7_firstRoom_56 : decode cX7_firstRoom 56 = .ok (.iload_n 3, 1) := by decide +kernel
theorem dX7_firstRoom_57 : decode cX7_firstRoom 57 = .ok (.if_icmp .ne 6, 3) := by decide +kernel
theorem dX7_firstRoom_60 : decode cX7_firstRoom 60 = .ok (.iload 5, 2) := by decide +kernel
theorem dX7_firstRoom_62 : decode cX7_firstRoom 62 = .ok (.ireturn, 1) := by decide +kernel
theorem dX7_firstRoom_63 : decode cX7_firstRoom 63 = .ok (.iinc 5 1, 3) := by decide +kernel
theorem dX7_firstRoom_66 : decode cX7_firstRoom 66 = .ok (.goto (-42), 3) := by decide +kernel
theorem dX7_firstRoom_69 : decode cX7_firstRoom 69 = .ok (.iconst (-1), 1) := by decide +kernel
theorem dX7_firstRoom_70 : decode cX7_firstRoom 70 = .ok (.ireturn, 1) := by decide +kernel
theorem dJ6_bitCount_0f7a4_0 : decode cJ6_bitCount_0f7a4 0 = .ok (.iload_n 0, 1) := by decide +kernel
theorem dJ6_bitCount_0f7a4_1 : decode cJ6_bitCount_0f7a4 1 = .ok (.iload_n 0, 1) := by decide +kernel
theorem dJ6_bitCount_0f7a4_2 : decode cJ6_bitCount_0f7a4 2 = .ok (.iconst 1, 1) := by decide +kernel
theorem dJ6_bitCount_0f7a4_3 : decode cJ6_bitCount_0f7a4 3 = .ok (.iushr, 1) := by decide +kernel
theorem dJ6_bitCount_0f7a4_4 : decode cJ6_bitCount_0f7a4 4 = .ok (.ldc_w 265, 3) := by decide +kernel
theorem dJ6_bitCount_0f7a4_7 : decode cJ6_bitCount_0f7a4 7 = .ok (.iand, 1) := by decide +kernel
theorem dJ6_bitCount_0f7a4_8 : decode cJ6_bitCount_0f7a4 8 = .ok (.isub, 1) := by decide +kernel
theorem dJ6_bitCount_0f7a4_9 : decode cJ6_bitCount_0f7a4 9 = .ok (.istore_n 0, 1) := by decide +kernel
theorem dJ6_bitCount_0f7a4_10 : decode cJ6_bitCount_0f7a4 10 = .ok (.iload_n 0, 1) := by decide +kernel
theorem dJ6_bitCount_0f7a4_11 : decode cJ6_bitCount_0f7a4 11 = .ok (.ldc_w 266, 3) := by decide +kernel
theorem dJ6_bitCount_0f7a4_14 : decode cJ6_bitCount_0f7a4 14 = .ok (.iand, 1) := by decide +kernel
theorem dJ6_bitCount_0f7a4_15 : decode cJ6_bitCount_0f7a4 15 = .ok (.iload_n 0, 1) := by decide +kernel
theorem dJ6_bitCount_0f7a4_16 : decode cJ6_bitCount_0f7a4 16 = .ok (.iconst 2, 1) := by decide +kernel
theorem dJ6_bitCount_0f7a4_17 : decode cJ6_bitCount_0f7a4 17 = .ok (.iushr, 1) := by decide +kernel
theorem dJ6_bitCount_0f7a4_18 : decode cJ6_bitCount_0f7a4 18 = .ok (.ldc_w 266, 3) := by decide +kernel
theorem dJ6_bitCount_0f7a4_21 : decode cJ6_bitCount_0f7a4 21 = .ok (.iand, 1) := by decide +kernel
theorem dJ6_bitCount_0f7a4_22 : decode cJ6_bitCount_0f7a4 22 = .ok (.iadd, 1) := by decide +kernel
theorem dJ6_bitCount_0f7a4_23 : decode cJ6_bitCount_0f7a4 23 = .ok (.istore_n 0, 1) := by decide +kernel
theorem dJ6_bitCount_0f7a4_24 : decode cJ6_bitCount_0f7a4 24 = .ok (.iload_n 0, 1) := by decide +kernel
theorem dJ6_bitCount_0f7a4_25 : decode cJ6_bitCount_0f7a4 25 = .ok (.iload_n 0, 1) := by decide +kernel
theorem dJ6_bitCount_0f7a4_26 : decode cJ6_bitCount_0f7a4 26 = .ok (.iconst 4, 1) := by decide +kernel
theorem dJ6_bitCount_0f7a4_27 : decode cJ6_bitCount_0f7a4 27 = .ok (.iushr, 1) := by decide +kernel
theorem dJ6_bitCount_0f7a4_28 : decode cJ6_bitCount_0f7a4 28 = .ok (.iadd, 1) := by decide +kernel
theorem dJ6_bitCount_0f7a4_29 : decode cJ6_bitCount_0f7a4 29 = .ok (.ldc_w 267, 3) := by decide +kernel
theorem dJ6_bitCount_0f7a4_32 : decode cJ6_bitCount_0f7a4 32 = .ok (.iand, 1) := by decide +kernel
theorem dJ6_bitCount_0f7a4_33 : decode cJ6_bitCount_0f7a4 33 = .ok (.istore_n 0, 1) := by decide +kernel
theorem dJ6_bitCount_0f7a4_34 : decode cJ6_bitCount_0f7a4 34 = .ok (.iload_n 0, 1) := by decide +kernel
theorem dJ6_bitCount_0f7a4_35 : decode cJ6_bitCount_0f7a4 35 = .ok (.iload_n 0, 1) := by decide +kernel
theorem dJ6_bitCount_0f7a4_36 : decode cJ6_bitCount_0f7a4 36 = .ok (.bipush 8, 2) := by decide +kernel
theorem dJ6_bitCount_0f7a4_38 : decode cJ6_bitCount_0f7a4 38 = .ok (.iushr, 1) := by decide +kernel
theorem dJ6_bitCount_0f7a4_39 : decode cJ6_bitCount_0f7a4 39 = .ok (.iadd, 1) := by decide +kernel
theorem dJ6_bitCount_0f7a4_40 : decode cJ6_bitCount_0f7a4 40 = .ok (.istore_n 0, 1) := by decide +kernel
theorem dJ6_bitCount_0f7a4_41 : decode cJ6_bitCount_0f7a4 41 = .ok (.iload_n 0, 1) := by decide +kernel
theorem dJ6_bitCount_0f7a4_42 : decode cJ6_bitCount_0f7a4 42 = .ok (.iload_n 0, 1) := by decide +kernel
theorem dJ6_bitCount_0f7a4_43 : decode cJ6_bitCount_0f7a4 43 = .ok (.bipush 16, 2) := by decide +kernel
theorem dJ6_bitCount_0f7a4_45 : decode cJ6_bitCount_0f7a4 45 = .ok (.iushr, 1) := by decide +kernel
theorem dJ6_bitCount_0f7a4_46 : decode cJ6_bitCount_0f7a4 46 = .ok (.iadd, 1) := by decide +kernel
theorem dJ6_bitCount_0f7a4_47 : decode cJ6_bitCount_0f7a4 47 = .ok (.istore_n 0, 1) := by decide +kernel
theorem dJ6_bitCount_0f7a4_48 : decode cJ6_bitCount_0f7a4 48 = .ok (.iload_n 0, 1) := by decide +kernel
theorem dJ6_bitCount_0f7a4_49 : decode cJ6_bitCount_0f7a4 49 = .ok (.bipush 63, 2) := by decide +kernel
theorem dJ6_bitCount_0f7a4_51 : decode cJ6_bitCount_0f7a4 51 = .ok (.iand, 1) := by decide +kernel
theorem dJ6_bitCount_0f7a4_52 : decode cJ6_bitCount_0f7a4 52 = .ok (.ireturn, 1) := by decide +kernel
theorem dJ9_max_7cf53_0 : decode cJ9_max_7cf53 0 = .ok (.iload_n 0, 1) := by decide +kernel
theorem dJ9_max_7cf53_1 : decode cJ9_max_7cf53 1 = .ok (.iload_n 1, 1) := by decide +kernel
theorem dJ9_max_7cf53_2 : decode cJ9_max_7cf53 2 = .ok (.if_icmp .lt 7, 3) := by decide +kernel
theorem dJ9_max_7cf53_5 : decode cJ9_max_7cf53 5 = .ok (.iload_n 0, 1) := by decide +kernel
theorem dJ9_max_7cf53_6 : decode cJ9_max_7cf53 6 = .ok (.goto 4, 3) := by decide +kernel
theorem dJ9_max_7cf53_9 : decode cJ9_max_7cf53 9 = .ok (.iload_n 1, 1) := by decide +kernel
theorem dJ9_max_7cf53_10 : decode cJ9_max_7cf53 10 = .ok (.ireturn, 1) := by decide +kernel
theorem dJ9_min_7cf53_0 : decode cJ9_min_7cf53 0 = .ok (.iload_n 0, 1) := by decide +kernel
theorem dJ9_min_7cf53_1 : decode cJ9_min_7cf53 1 = .ok (.iload_n 1, 1) := by decide +kernel
theorem dJ9_min_7cf53_2 : decode cJ9_min_7cf53 2 = .ok (.if_icmp .gt 7, 3) := by decide +kernel
theorem dJ9_min_7cf53_5 : decode cJ9_min_7cf53 5 = .ok (.iload_n 0, 1) := by decide +kernel
theorem dJ9_min_7cf53_6 : decode cJ9_min_7cf53 6 = .ok (.goto 4, 3) := by decide +kernel
theorem dJ9_min_7cf53_9 : decode cJ9_min_7cf53 9 = .ok (.iload_n 1, 1) := by decide +kernel
theorem dJ9_min_7cf53_10 : decode cJ9_min_7cf53 10 = .ok (.ireturn, 1) := by decide +kernel
theorem dJ0_length_8abf5_0 : decode cJ0_length_8abf5 0 = .ok (.aload_n 0, 1) := by decide +kernel
theorem dJ0_length_8abf5_1 : decode cJ0_length_8abf5 1 = .ok (.getfield 9, 3) := by decide +kernel
theorem dJ0_length_8abf5_4 : decode cJ0_length_8abf5 4 = .ok (.arraylength, 1) := by decide +kernel
theorem dJ0_length_8abf5_5 : decode cJ0_length_8abf5 5 = .ok (.aload_n 0, 1) := by decide +kernel
theorem dJ0_length_8abf5_6 : decode cJ0_length_8abf5 6 = .ok (.invokevirtual 335, 3) := by decide +kernel
theorem dJ0_length_8abf5_9 : decode cJ0_length_8abf5 9 = .ok (.ishr, 1) := by decide +kernel
theorem dJ0_length_8abf5_10 : decode cJ0_length_8abf5 10 = .ok (.ireturn, 1) := by decide +kernel
theorem dJ0_charAt_5068e_0 : decode cJ0_charAt_5068e 0 = .ok (.aload_n 0, 1) := by decide +kernel
theorem dJ0_charAt_5068e_1 : decode cJ0_charAt_5068e 1 = .ok (.invokevirtual 492, 3) := by decide +kernel
theorem dJ0_charAt_5068e_4 : decode cJ0_charAt_5068e 4 = .ok (.ifCond .eq 12, 3) := by decide +kernel
theorem dJ0_charAt_5068e_7 : decode cJ0_charAt_5068e 7 = .ok (.aload_n 0, 1) := by decide +kernel
theorem dJ0_charAt_5068e_8 : decode cJ0_charAt_5068e 8 = .ok (.getfield 9, 3) := by decide +kernel
theorem dJ0_charAt_5068e_11 : decode cJ0_charAt_5068e 11 = .ok (.iload_n 1, 1) := by decide +kernel
theorem dJ0_charAt_5068e_12 : decode cJ0_charAt_5068e 12 = .ok (.invokestatic 495, 3) := by decide +kernel
theorem dJ0_charAt_5068e_15 : decode cJ0_charAt_5068e 15 = .ok (.ireturn, 1) := by decide +kernel
theorem dJ0_charAt_5068e_16 : decode cJ0_charAt_5068e 16 = .ok (.aload_n 0, 1) := by decide +kernel
theorem dJ0_charAt_5068e_17 : decode cJ0_charAt_5068e 17 = .ok (.getfield 9, 3) := by decide +kernel
theorem dJ0_charAt_5068e_20 : decode cJ0_charAt_5068e 20 = .ok (.iload_n 1, 1) := by decide +kernel
theorem dJ0_charAt_5068e_21 : decode cJ0_charAt_5068e 21 = .ok (.invokestatic 498, 3) := by decide +kernel
theorem dJ0_charAt_5068e_24 : decode cJ0_charAt_5068e 24 = .ok (.ireturn, 1) := by decide +kernel
theorem dJ0_coder_7d493_0 : decode cJ0_coder_7d493 0 = .ok (.getstatic 38, 3) := by decide +kernel
theorem dJ0_coder_7d493_3 : decode cJ0_coder_7d493 3 = .ok (.ifCond .eq 10, 3) := by decide +kernel
theorem dJ0_coder_7d493_6 : decode cJ0_coder_7d493 6 = .ok (.aload_n 0, 1) := by decide +kernel
theorem dJ0_coder_7d493_7 : decode cJ0_coder_7d493 7 = .ok (.getfield 15, 3) := by decide +kernel
theorem dJ0_coder_7d493_10 : decode cJ0_coder_7d493 10 = .ok (.goto 4, 3) := by decide +kernel
theorem dJ0_coder_7d493_13 : decode cJ0_coder_7d493 13 = .ok (.iconst 1, 1) := by decide +kernel
theorem dJ0_coder_7d493_14 : decode cJ0_coder_7d493 14 = .ok (.ireturn, 1) := by decide +kernel
theorem dJ0_isLatin1_aae02_0 : decode cJ0_isLatin1_aae02 0 = .ok (.getstatic 38, 3) := by decide +kernel
theorem dJ0_isLatin1_aae02_3 : decode cJ0_isLatin1_aae02 3 = .ok (.ifCond .eq 14, 3) := by decide +kernel
theorem dJ0_isLatin1_aae02_6 : decode cJ0_isLatin1_aae02 6 = .ok (.aload_n 0, 1) := by decide +kernel
theorem dJ0_isLatin1_aae02_7 : decode cJ0_isLatin1_aae02 7 = .ok (.getfield 15, 3) := by decide +kernel
theorem dJ0_isLatin1_aae02_10 : decode cJ0_isLatin1_aae02 10 = .ok (.ifCond .ne 7, 3) := by decide +kernel
theorem dJ0_isLatin1_aae02_13 : decode cJ0_isLatin1_aae02 13 = .ok (.iconst 1, 1) := by decide +kernel
theorem dJ0_isLatin1_aae02_14 : decode cJ0_isLatin1_aae02 14 = .ok (.goto 4, 3) := by decide +kernel
theorem dJ0_isLatin1_aae02_17 : decode cJ0_isLatin1_aae02 17 = .ok (.iconst 0, 1) := by decide +kernel
theorem dJ0_isLatin1_aae02_18 : decode cJ0_isLatin1_aae02 18 = .ok (.ireturn, 1) := by decide +kernel
theorem dJ0_checkIndex_df160_0 : decode cJ0_checkIndex_df160 0 = .ok (.iload_n 0, 1) := by decide +kernel
theorem dJ0_checkIndex_df160_1 : decode cJ0_checkIndex_df160 1 = .ok (.iload_n 1, 1) := by decide +kernel
theorem dJ0_checkIndex_df160_2 : decode cJ0_checkIndex_df160 2 = .ok (.getstatic 1053, 3) := by decide +kernel
theorem dJ0_checkIndex_df160_5 : decode cJ0_checkIndex_df160 5 = .ok (.invokestatic 1059, 3) := by decide +kernel
theorem dJ0_checkIndex_df160_8 : decode cJ0_checkIndex_df160 8 = .ok (.pop, 1) := by decide +kernel
theorem dJ0_checkIndex_df160_9 : decode cJ0_checkIndex_df160 9 = .ok (.return_, 1) := by decide +kernel
theorem dJ1_charAt_3b067_0 : decode cJ1_charAt_3b067 0 = .ok (.iload_n 1, 1) := by decide +kernel
theorem dJ1_charAt_3b067_1 : decode cJ1_charAt_3b067 1 = .ok (.aload_n 0, 1) := by decide +kernel
theorem dJ1_charAt_3b067_2 : decode cJ1_charAt_3b067 2 = .ok (.arraylength, 1) := by decide +kernel
theorem dJ1_charAt_3b067_3 : decode cJ1_charAt_3b067 3 = .ok (.invokestatic 9, 3) := by decide +kernel
theorem dJ1_charAt_3b067_6 : decode cJ1_charAt_3b067 6 = .ok (.aload_n 0, 1) := by decide +kernel
theorem dJ1_charAt_3b067_7 : decode cJ1_charAt_3b067 7 = .ok (.iload_n 1, 1) := by decide +kernel
theorem dJ1_charAt_3b067_8 : decode cJ1_charAt_3b067 8 = .ok (.baload, 1) := by decide +kernel
theorem dJ1_charAt_3b067_9 : decode cJ1_charAt_3b067 9 = .ok (.sipush 255, 3) := by decide +kernel
theorem dJ1_charAt_3b067_12 : decode cJ1_charAt_3b067 12 = .ok (.iand, 1) := by decide +kernel
theorem dJ1_charAt_3b067_13 : decode cJ1_charAt_3b067 13 = .ok (.i2c, 1) := by decide +kernel
theorem dJ1_charAt_3b067_14 : decode cJ1_charAt_3b067 14 = .ok (.ireturn, 1) := by decide +kernel
theorem dJ2_getChar_3b067_0 : decode cJ2_getChar_3b067 0 = .ok (.getstatic 44, 3) := by decide +kernel
theorem dJ2_getChar_3b067_3 : decode cJ2_getChar_3b067 3 = .ok (.ifCond .ne 25, 3) := by decide +kernel
theorem dJ2_getChar_3b067_6 : decode cJ2_getChar_3b067 6 = .ok (.iload_n 1, 1) := by decide +kernel
theorem dJ2_getChar_3b067_7 : decode cJ2_getChar_3b067 7 = .ok (.ifCond .lt 11, 3) := by decide +kernel
theorem dJ2_getChar_3b067_10 : decode cJ2_getChar_3b067 10 = .ok (.iload_n 1, 1) := by decide +kernel
theorem dJ2_getChar_3b067_11 : decode cJ2_getChar_3b067 11 = .ok (.aload_n 0, 1) := by decide +kernel
theorem dJ2_getChar_3b067_12 : decode cJ2_getChar_3b067 12 = .ok (.invokestatic 48, 3) := by decide +kernel
theorem dJ2_getChar_3b067_15 : decode cJ2_getChar_3b067 15 = .ok (.if_icmp .lt 13, 3) := by decide +kernel
theorem dJ2_getChar_3b067_18 : decode cJ2_getChar_3b067 18 = .ok (.new 52, 3) := by decide +kernel
theorem dJ2_getChar_3b067_21 : decode cJ2_getChar_3b067 21 = .ok (.dup, 1) := by decide +kernel
theorem dJ2_getChar_3b067_22 : decode cJ2_getChar_3b067 22 = .ok (.ldc 54, 2) := by decide +kernel
theorem dJ2_getChar_3b067_24 : decode cJ2_getChar_3b067 24 = .ok (.invokespecial 56, 3) := by decide +kernel
theorem dJ2_getChar_3b067_27 : decode cJ2_getChar_3b067 27 = .ok (.athrow, 1) := by decide +kernel
theorem dJ2_getChar_3b067_28 : decode cJ2_getChar_3b067 28 = .ok (.iload_n 1, 1) := by decide +kernel
theorem dJ2_getChar_3b067_29 : decode cJ2_getChar_3b067 29 = .ok (.iconst 1, 1) := by decide +kernel
theorem dJ2_getChar_3b067_30 : decode cJ2_getChar_3b067 30 = .ok (.ishl, 1) := by decide +kernel
theorem dJ2_getChar_3b067_31 : decode cJ2_getChar_3b067 31 = .ok (.istore_n 1, 1) := by decide +kernel
theorem dJ2_getChar_3b067_32 : decode cJ2_getChar_3b067 32 = .ok (.aload_n 0, 1) := by decide +kernel
theorem dJ2_getChar_3b067_33 : decode cJ2_getChar_3b067 33 = .ok (.iload_n 1, 1) := by decide +kernel
theorem dJ2_getChar_3b067_34 : decode cJ2_getChar_3b067 34 = .ok (.iinc 1 1, 3) := by decide +kernel
theorem dJ2_getChar_3b067_37 : decode cJ2_getChar_3b067 37 = .ok (.baload, 1) := by decide +kernel
theorem dJ2_getChar_3b067_38 : decode cJ2_getChar_3b067 38 = .ok (.sipush 255, 3) := by decide +kernel
theorem dJ2_getChar_3b067_41 : decode cJ2_getChar_3b067 41 = .ok (.iand, 1) := by decide +kernel
theorem dJ2_getChar_3b067_42 : decode cJ2_getChar_3b067 42 = .ok (.getstatic 59, 3) := by decide +kernel
theorem dJ2_getChar_3b067_45 : decode cJ2_getChar_3b067 45 = .ok (.ishl, 1) := by decide +kernel
theorem dJ2_getChar_3b067_46 : decode cJ2_getChar_3b067 46 = .ok (.aload_n 0, 1) := by decide +kernel
theorem dJ2_getChar_3b067_47 : decode cJ2_getChar_3b067 47 = .ok (.iload_n 1, 1) := by decide +kernel
theorem dJ2_getChar_3b067_48 : decode cJ2_getChar_3b067 48 = .ok (.baload, 1) := by decide +kernel
theorem dJ2_getChar_3b067_49 : decode cJ2_getChar_3b067 49 = .ok (.sipush 255, 3) := by decide +kernel
theorem dJ2_getChar_3b067_52 : decode cJ2_getChar_3b067 52 = .ok (.iand, 1) := by decide +kernel
theorem dJ2_getChar_3b067_53 : decode cJ2_getChar_3b067 53 = .ok (.getstatic 63, 3) := by decide +kernel
theorem dJ2_getChar_3b067_56 : decode cJ2_getChar_3b067 56 = .ok (.ishl, 1) := by decide +kernel
theorem dJ2_getChar_3b067_57 : decode cJ2_getChar_3b067 57 = .ok (.ior, 1) := by decide +kernel
theorem dJ2_getChar_3b067_58 : decode cJ2_getChar_3b067 58 = .ok (.i2c, 1) := by decide +kernel
theorem dJ2_getChar_3b067_59 : decode cJ2_getChar_3b067 59 = .ok (.ireturn, 1) := by decide +kernel
theorem dJ2_length_9d52b_0 : decode cJ2_length_9d52b 0 = .ok (.aload_n 0, 1) := by decide +kernel
theorem dJ2_length_9d52b_1 : decode cJ2_length_9d52b 1 = .ok (.arraylength, 1) := by decide +kernel
theorem dJ2_length_9d52b_2 : decode cJ2_length_9d52b 2 = .ok (.iconst 1, 1) := by decide +kernel
theorem dJ2_length_9d52b_3 : decode cJ2_length_9d52b 3 = .ok (.ishr, 1) := by decide +kernel
theorem dJ2_length_9d52b_4 : decode cJ2_length_9d52b 4 = .ok (.ireturn, 1) := by decide +kernel
theorem dJ2_charAt_3b067_0 : decode cJ2_charAt_3b067 0 = .ok (.iload_n 1, 1) := by decide +kernel
theorem dJ2_charAt_3b067_1 : decode cJ2_charAt_3b067 1 = .ok (.aload_n 0, 1) := by decide +kernel
theorem dJ2_charAt_3b067_2 : decode cJ2_charAt_3b067 2 = .ok (.invokestatic 67, 3) := by decide +kernel
theorem dJ2_charAt_3b067_5 : decode cJ2_charAt_3b067 5 = .ok (.aload_n 0, 1) := by decide +kernel
theorem dJ2_charAt_3b067_6 : decode cJ2_charAt_3b067 6 = .ok (.iload_n 1, 1) := by decide +kernel
theorem dJ2_charAt_3b067_7 : decode cJ2_charAt_3b067 7 = .ok (.invokestatic 71, 3) := by decide +kernel
theorem dJ2_charAt_3b067_10 : decode cJ2_charAt_3b067 10 = .ok (.ireturn, 1) := by decide +kernel
theorem dJ2_checkIndex_2214a_0 : decode cJ2_checkIndex_2214a 0 = .ok (.iload_n 0, 1) := by decide +kernel
theorem dJ2_checkIndex_2214a_1 : decode cJ2_checkIndex_2214a 1 = .ok (.aload_n 1, 1) := by decide +kernel
theorem dJ2_checkIndex_2214a_2 : decode cJ2_checkIndex_2214a 2 = .ok (.invokestatic 48, 3) := by decide +kernel
theorem dJ2_checkIndex_2214a_5 : decode cJ2_checkIndex_2214a 5 = .ok (.invokestatic 414, 3) := by decide +kernel
theorem dJ2_checkIndex_2214a_8 : decode cJ2_checkIndex_2214a 8 = .ok (.return_, 1) := by decide +kernel
theorem dJ3_checkIndex_8e157_0 : decode cJ3_checkIndex_8e157 0 = .ok (.iload_n 0, 1) := by decide +kernel
theorem dJ3_checkIndex_8e157_1 : decode cJ3_checkIndex_8e157 1 = .ok (.ifCond .lt 8, 3) := by decide +kernel
theorem dJ3_checkIndex_8e157_4 : decode cJ3_checkIndex_8e157 4 = .ok (.iload_n 0, 1) := by decide +kernel
theorem dJ3_checkIndex_8e157_5 : decode cJ3_checkIndex_8e157 5 = .ok (.iload_n 1, 1) := by decide +kernel
theorem dJ3_checkIndex_8e157_6 : decode cJ3_checkIndex_8e157 6 = .ok (.if_icmp .lt 10, 3) := by decide +kernel
theorem dJ3_checkIndex_8e157_9 : decode cJ3_checkIndex_8e157 9 = .ok (.aload_n 2, 1) := by decide +kernel
theorem dJ3_checkIndex_8e157_10 : decode cJ3_checkIndex_8e157 10 = .ok (.iload_n 0, 1) := by decide +kernel
theorem dJ3_checkIndex_8e157_11 : decode cJ3_checkIndex_8e157 11 = .ok (.iload_n 1, 1) := by decide +kernel
theorem dJ3_checkIndex_8e157_12 : decode cJ3_checkIndex_8e157 12 = .ok (.invokestatic 95, 3) := by decide +kernel
theorem dJ3_checkIndex_8e157_15 : decode cJ3_checkIndex_8e157 15 = .ok (.athrow, 1) := by decide +kernel
theorem dJ3_checkIndex_8e157_16 : decode cJ3_checkIndex_8e157 16 = .ok (.iload_n 0, 1) := by decide +kernel
theorem dJ3_checkIndex_8e157_17 : decode cJ3_checkIndex_8e157 17 = .ok (.ireturn, 1) := by decide +kernel
