theorem dX9_mostRooms_25 : decode cX9_mostRooms 25 = .ok (.iload_n 2, 1) := by decide +kernel
theorem dX9_mostRooms_26 : decode cX9_mostRooms 26 = .ok (.aload_n 0, 1) := by decide +kernel
theorem dX9_mostRooms_27 : decode cX9_mostRooms 27 = .ok (.getfield 9, 3) := by decide +kernel
theorem dX9_mostRooms_30 : decode cX9_mostRooms 30 = .ok (.iconst 1, 1) := by decide +kernel
theorem dX9_mostRooms_31 : decode cX9_mostRooms 31 = .ok (.iaload, 1) := by decide +kernel
theorem dX9_mostRooms_32 : decode cX9_mostRooms 32 = .ok (.if_icmp .ge 30, 3) := by decide +kernel
theorem dX9_mostRooms_35 : decode cX9_mostRooms 35 = .ok (.aload_n 0, 1) := by decide +kernel
theorem dX9_mostRooms_36 : decode cX9_mostRooms 36 = .ok (.iconst 0, 1) := by decide +kernel
theorem dX9_mostRooms_37 : decode cX9_mostRooms 37 = .ok (.putfield 275, 3) := by decide +kernel
theorem dX9_mostRooms_40 : decode cX9_mostRooms 40 = .ok (.iload_n 1, 1) := by decide +kernel
theorem dX9_mostRooms_41 : decode cX9_mostRooms 41 = .ok (.aload_n 0, 1) := by decide +kernel
theorem dX9_mostRooms_42 : decode cX9_mostRooms 42 = .ok (.iload_n 2, 1) := by decide +kernel
theorem dX9_mostRooms_43 : decode cX9_mostRooms 43 = .ok (.invokevirtual 278, 3) := by decide +kernel
theorem dX9_mostRooms_46 : decode cX9_mostRooms 46 = .ok (.ifCond .eq 7, 3) := by decide +kernel
theorem dX9_mostRooms_49 : decode cX9_mostRooms 49 = .ok (.iconst 1, 1) := by decide +kernel
theorem dX9_mostRooms_50 : decode cX9_mostRooms 50 = .ok (.goto 4, 3) := by decide +kernel
theorem dX9_mostRooms_53 : decode cX9_mostRooms 53 = .ok (.iconst 0, 1) := by decide +kernel
theorem dX9_mostRooms_54 : decode cX9_mostRooms 54 = .ok (.iadd, 1) := by decide +kernel
theorem dX9_mostRooms_55 : decode cX9_mostRooms 55 = .ok (.istore_n 1, 1) := by decide +kernel
theorem dX9_mostRooms_56 : decode cX9_mostRooms 56 = .ok (.iinc 2 1, 3) := by decide +kernel
theorem dX9_mostRooms_59 : decode cX9_mostRooms 59 = .ok (.goto (-34), 3) := by decide +kernel
theorem dX9_mostRooms_62 : decode cX9_mostRooms 62 = .ok (.iload_n 1, 1) := by decide +kernel
theorem dX9_mostRooms_63 : decode cX9_mostRooms 63 = .ok (.ireturn, 1) := by decide +kernel
theorem dX9_settle_0 : decode cX9_settle 0 = .ok (.iconst 0, 1) := by decide +kernel
theorem dX9_settle_1 : decode cX9_settle 1 = .ok (.istore_n 2, 1) := by decide +kernel
theorem dX9_settle_2 : decode cX9_settle 2 = .ok (.iload_n 2, 1) := by decide +kernel
theorem dX9_settle_3 : decode cX9_settle 3 = .ok (.aload_n 0, 1) := by decide +kernel
theorem dX9_settle_4 : decode cX9_settle 4 = .ok (.getfield 9, 3) := by decide +kernel
theorem dX9_settle_7 : decode cX9_settle 7 = .ok (.iconst 1, 1) := by decide +kernel
theorem dX9_settle_8 : decode cX9_settle 8 = .ok (.iaload, 1) := by decide +kernel
theorem dX9_settle_9 : decode cX9_settle 9 = .ok (.if_icmp .ge 109, 3) := by decide +kernel
theorem dX9_settle_12 : decode cX9_settle 12 = .ok (.aload_n 0, 1) := by decide +kernel
theorem dX9_settle_13 : decode cX9_settle 13 = .ok (.getfield 41, 3) := by decide +kernel
theorem dX9_settle_16 : decode cX9_settle 16 = .ok (.iload_n 2, 1) := by decide +kernel
theorem dX9_settle_17 : decode cX9_settle 17 = .ok (.iaload, 1) := by decide +kernel
theorem dX9_settle_18 : decode cX9_settle 18 = .ok (.istore_n 3, 1) := by decide +kernel
theorem dX9_settle_19 : decode cX9_settle 19 = .ok (.iconst 0, 1) := by decide +kernel
theorem dX9_settle_20 : decode cX9_settle 20 = .ok (.istore 4, 2) := by decide +kernel
theorem dX9_settle_22 : decode cX9_settle 22 = .ok (.iconst 0, 1) := by decide +kernel
theorem dX9_settle_23 : decode cX9_settle 23 = .ok (.istore 5, 2) := by decide +kernel
theorem dX9_settle_25 : decode cX9_settle 25 = .ok (.iload 5, 2) := by decide +kernel
theorem dX9_settle_27 : decode cX9_settle 27 = .ok (.bipush 24, 2) := by decide +kernel
theorem dX9_settle_29 : decode cX9_settle 29 = .ok (.if_icmp .gt 83, 3) := by decide +kernel
theorem dX9_settle_32 : decode cX9_settle 32 = .ok (.iload 4, 2) := by decide +kernel
theorem dX9_settle_34 : decode cX9_settle 34 = .ok (.ifCond .ne 78, 3) := by decide +kernel
theorem dX9_settle_37 : decode cX9_settle 37 = .ok (.aload_n 0, 1) := by decide +kernel
theorem dX9_settle_38 : decode cX9_settle 38 = .ok (.getfield 41, 3) := by decide +kernel
theorem dX9_settle_41 : decode cX9_settle 41 = .ok (.iload_n 2, 1) := by decide +kernel
theorem dX9_settle_42 : decode cX9_settle 42 = .ok (.iload 5, 2) := by decide +kernel
theorem dX9_settle_44 : decode cX9_settle 44 = .ok (.bipush 24, 2) := by decide +kernel
theorem dX9_settle_46 : decode cX9_settle 46 = .ok (.if_icmp .ge 12, 3) := by decide +kernel
theorem dX9_settle_49 : decode cX9_settle 49 = .ok (.iload_n 3, 1) := by decide +kernel
theorem dX9_settle_50 : decode cX9_settle 50 = .ok (.iconst 1, 1) := by decide +kernel
theorem dX9_settle_51 : decode cX9_settle 51 = .ok (.iload 5, 2) := by decide +kernel
theorem dX9_settle_53 : decode cX9_settle 53 = .ok (.ishl, 1) := by decide +kernel
theorem dX9_settle_54 : decode cX9_settle 54 = .ok (.iand, 1) := by decide +kernel
theorem dX9_settle_55 : decode cX9_settle 55 = .ok (.goto 4, 3) := by decide +kernel
theorem dX9_settle_58 : decode cX9_settle 58 = .ok (.iconst 0, 1) := by decide +kernel
theorem dX9_settle_59 : decode cX9_settle 59 = .ok (.iastore, 1) := by decide +kernel
theorem dX9_settle_60 : decode cX9_settle 60 = .ok (.iload 5, 2) := by decide +kernel
theorem dX9_settle_62 : decode cX9_settle 62 = .ok (.bipush 24, 2) := by decide +kernel
theorem dX9_settle_64 : decode cX9_settle 64 = .ok (.if_icmp .eq 12, 3) := by decide +kernel
theorem dX9_settle_67 : decode cX9_settle 67 = .ok (.aload_n 0, 1) := by decide +kernel
theorem dX9_settle_68 : decode cX9_settle 68 = .ok (.getfield 41, 3) := by decide +kernel
theorem dX9_settle_71 : decode cX9_settle 71 = .ok (.iload_n 2, 1) := by decide +kernel
theorem dX9_settle_72 : decode cX9_settle 72 = .ok (.iaload, 1) := by decide +kernel
theorem dX9_settle_73 : decode cX9_settle 73 = .ok (.ifCond .eq 30, 3) := by decide +kernel
theorem dX9_settle_76 : decode cX9_settle 76 = .ok (.aload_n 0, 1) := by decide +kernel
theorem dX9_settle_77 : decode cX9_settle 77 = .ok (.invokevirtual 281, 3) := by decide +kernel
theorem dX9_settle_80 : decode cX9_settle 80 = .ok (.iload_n 1, 1) := by decide +kernel
theorem dX9_settle_81 : decode cX9_settle 81 = .ok (.if_icmp .ne 22, 3) := by decide +kernel
theorem dX9_settle_84 : decode cX9_settle 84 = .ok (.iload 5, 2) := by decide +kernel
theorem dX9_settle_86 : decode cX9_settle 86 = .ok (.bipush 24, 2) := by decide +kernel
theorem dX9_settle_88 : decode cX9_settle 88 = .ok (.if_icmp .eq 11, 3) := by decide +kernel
theorem dX9_settle_91 : decode cX9_settle 91 = .ok (.aload_n 0, 1) := by decide +kernel
theorem dX9_settle_92 : decode cX9_settle 92 = .ok (.iload_n 2, 1) := by decide +kernel
theorem dX9_settle_93 : decode cX9_settle 93 = .ok (.invokevirtual 284, 3) := by decide +kernel
theorem dX9_settle_96 : decode cX9_settle 96 = .ok (.ifCond .eq 7, 3) := by decide +kernel
theorem dX9_settle_99 : decode cX9_settle 99 = .ok (.iconst 1, 1) := by decide +kernel
theorem dX9_settle_100 : decode cX9_settle 100 = .ok (.goto 4, 3) := by decide +kernel
theorem dX9_settle_103 : decode cX9_settle 103 = .ok (.iconst 0, 1) := by decide +kernel
theorem dX9_settle_104 : decode cX9_settle 104 = .ok (.istore 4, 2) := by decide +kernel
theorem dX9_settle_106 : decode cX9_settle 106 = .ok (.iinc 5 1, 3) := by decide +kernel
theorem dX9_settle_109 : decode cX9_settle 109 = .ok (.goto (-84), 3) := by decide +kernel
theorem dX9_settle_112 : decode cX9_settle 112 = .ok (.iinc 2 1, 3) := by decide +kernel
theorem dX9_settle_115 : decode cX9_settle 115 = .ok (.goto (-113), 3) := by decide +kernel
theorem dX9_settle_118 : decode cX9_settle 118 = .ok (.return_, 1) := by decide +kernel
theorem dX9_isAlone_0 : decode cX9_isAlone 0 = .ok (.iconst 1, 1) := by decide +kernel
theorem dX9_isAlone_1 : decode cX9_isAlone 1 = .ok (.istore_n 2, 1) := by decide +kernel
theorem dX9_isAlone_2 : decode cX9_isAlone 2 = .ok (.iconst 0, 1) := by decide +kernel
theorem dX9_isAlone_3 : decode cX9_isAlone 3 = .ok (.istore_n 3, 1) := by decide +kernel
theorem dX9_isAlone_4 : decode cX9_isAlone 4 = .ok (.iload_n 3, 1) := by decide +kernel
theorem dX9_isAlone_5 : decode cX9_isAlone 5 = .ok (.iload_n 1, 1) := by decide +kernel
theorem dX9_isAlone_6 : decode cX9_isAlone 6 = .ok (.if_icmp .ge 34, 3) := by decide +kernel
theorem dX9_isAlone_9 : decode cX9_isAlone 9 = .ok (.iload_n 2, 1) := by decide +kernel
theorem dX9_isAlone_10 : decode cX9_isAlone 10 = .ok (.ifCond .eq 22, 3) := by decide +kernel
theorem dX9_isAlone_13 : decode cX9_isAlone 13 = .ok (.aload_n 0, 1) := by decide +kernel
theorem dX9_isAlone_14 : decode cX9_isAlone 14 = .ok (.getfield 41, 3) := by decide +kernel
theorem dX9_isAlone_17 : decode cX9_isAlone 17 = .ok (.iload_n 3, 1) := by decide +kernel
theorem dX9_isAlone_18 : decode cX9_isAlone 18 = .ok (.iaload, 1) := by decide +kernel
theorem dX9_isAlone_19 : decode cX9_isAlone 19 = .ok (.aload_n 0, 1) := by decide +kernel
theorem dX9_isAlone_20 : decode cX9_isAlone 20 = .ok (.getfield 41, 3) := by decide +kernel
theorem dX9_isAlone_23 : decode cX9_isAlone 23 = .ok (.iload_n 1, 1) := by decide +kernel
theorem dX9_isAlone_24 : decode cX9_isAlone 24 = .ok (.iaload, 1) := by decide +kernel
theorem dX9_isAlone_25 : decode cX9_isAlone 25 = .ok (.if_icmp .eq 7, 3) := by decide +kernel
theorem dX9_isAlone_28 : decode cX9_isAlone 28 = .ok (.iconst 1, 1) := by decide +kernel
theorem dX9_isAlone_29 : decode cX9_isAlone 29 = .ok (.goto 4, 3) := by decide +kernel
theorem dX9_isAlone_32 : decode cX9_isAlone 32 = .ok (.iconst 0, 1) := by decide +kernel
theorem dX9_isAlone_33 : decode cX9_isAlone 33 = .ok (.istore_n 2, 1) := by decide +kernel
theorem dX9_isAlone_34 : decode cX9_isAlone 34 = .ok (.iinc 3 1, 3) := by decide +kernel
theorem dX9_isAlone_37 : decode cX9_isAlone 37 = .ok (.goto (-33), 3) := by decide +kernel
theorem dX9_isAlone_40 : decode cX9_isAlone 40 = .ok (.iload_n 2, 1) := by decide +kernel
theorem dX9_isAlone_41 : decode cX9_isAlone 41 = .ok (.ireturn, 1) := by decide +kernel
theorem dX9_tellsWishes_0 : decode cX9_tellsWishes 0 = .ok (.aload_n 0, 1) := by decide +kernel
theorem dX9_tellsWishes_1 : decode cX9_tellsWishes 1 = .ok (.getfield 50, 3) := by decide +kernel
theorem dX9_tellsWishes_4 : decode cX9_tellsWishes 4 = .ok (.iload_n 1, 1) := by decide +kernel
theorem dX9_tellsWishes_5 : decode cX9_tellsWishes 5 = .ok (.iaload, 1) := by decide +kernel
theorem dX9_tellsWishes_6 : decode cX9_tellsWishes 6 = .ok (.ifCond .le 22, 3) := by decide +kernel
theorem dX9_tellsWishes_9 : decode cX9_tellsWishes 9 = .ok (.aload_n 0, 1) := by decide +kernel
theorem dX9_tellsWishes_10 : decode cX9_tellsWishes 10 = .ok (.getfield 53, 3) := by decide +kernel
theorem dX9_tellsWishes_13 : decode cX9_tellsWishes 13 = .ok (.iload_n 1, 1) := by decide +kernel
theorem dX9_tellsWishes_14 : decode cX9_tellsWishes 14 = .ok (.iaload, 1) := by decide +kernel
theorem dX9_tellsWishes_15 : decode cX9_tellsWishes 15 = .ok (.aload_n 0, 1) := by decide +kernel
theorem dX9_tellsWishes_16 : decode cX9_tellsWishes 16 = .ok (.getfield 9, 3) := by decide +kernel
theorem dX9_tellsWishes_19 : decode cX9_tellsWishes 19 = .ok (.iconst 1, 1) := by decide +kernel
theorem dX9_tellsWishes_20 : decode cX9_tellsWishes 20 = .ok (.iaload, 1) := by decide +kernel
theorem dX9_tellsWishes_21 : decode cX9_tellsWishes 21 = .ok (.if_icmp .ne 7, 3) := by decide +kernel
theorem dX9_tellsWishes_24 : decode cX9_tellsWishes 24 = .ok (.iconst 1, 1) := by decide +kernel
theorem dX9_tellsWishes_25 : decode cX9_tellsWishes 25 = .ok (.goto 4, 3) := by decide +kernel
theorem dX9_tellsWishes_28 : decode cX9_tellsWishes 28 = .ok (.iconst 0, 1) := by decide +kernel
theorem dX9_tellsWishes_29 : decode cX9_tellsWishes 29 = .ok (.istore_n 2, 1) := by decide +kernel
theorem dX9_tellsWishes_30 : decode cX9_tellsWishes 30 = .ok (.iconst 0, 1) := by decide +kernel
theorem dX9_tellsWishes_31 : decode cX9_tellsWishes 31 = .ok (.istore_n 3, 1) := by decide +kernel
theorem dX9_tellsWishes_32 : decode cX9_tellsWishes 32 = .ok (.iload_n 3, 1) := by decide +kernel
theorem dX9_tellsWishes_33 : decode cX9_tellsWishes 33 = .ok (.aload_n 0, 1) := by decide +kernel
theorem dX9_tellsWishes_34 : decode cX9_tellsWishes 34 = .ok (.getfield 9, 3) := by decide +kernel
theorem dX9_tellsWishes_37 : decode cX9_tellsWishes 37 = .ok (.iconst 1, 1) := by decide +kernel
theorem dX9_tellsWishes_38 : decode cX9_tellsWishes 38 = .ok (.iaload, 1) := by decide +kernel
theorem dX9_tellsWishes_39 : decode cX9_tellsWishes 39 = .ok (.if_icmp .ge 40, 3) := by decide +kernel
theorem dX9_tellsWishes_42 : decode cX9_tellsWishes 42 = .ok (.iload_n 2, 1) := by decide +kernel
theorem dX9_tellsWishes_43 : decode cX9_tellsWishes 43 = .ok (.ifCond .eq 36, 3) := by decide +kernel
theorem dX9_tellsWishes_46 : decode cX9_tellsWishes 46 = .ok (.aload_n 0, 1) := by decide +kernel
theorem dX9_tellsWishes_47 : decode cX9_tellsWishes 47 = .ok (.getfield 41, 3) := by decide +kernel
theorem dX9_tellsWishes_50 : decode cX9_tellsWishes 50 = .ok (.iload_n 3, 1) := by decide +kernel
theorem dX9_tellsWishes_51 : decode cX9_tellsWishes 51 = .ok (.aload_n 0, 1) := by decide +kernel
theorem dX9_tellsWishes_52 : decode cX9_tellsWishes 52 = .ok (.getfield 56, 3) := by decide +kernel
theorem dX9_tellsWishes_55 : decode cX9_tellsWishes 55 = .ok (.bipush 40, 2) := by decide +kernel
theorem dX9_tellsWishes_57 : decode cX9_tellsWishes 57 = .ok (.iload_n 1, 1) := by decide +kernel
theorem dX9_tellsWishes_58 : decode cX9_tellsWishes 58 = .ok (.imul, 1) := by decide +kernel
theorem dX9_tellsWishes_59 : decode cX9_tellsWishes 59 = .ok (.iload_n 3, 1) := by decide +kernel
theorem dX9_tellsWishes_60 : decode cX9_tellsWishes 60 = .ok (.iadd, 1) := by decide +kernel
theorem dX9_tellsWishes_61 : decode cX9_tellsWishes 61 = .ok (.iaload, 1) := by decide +kernel
theorem dX9_tellsWishes_62 : decode cX9_tellsWishes 62 = .ok (.iastore, 1) := by decide +kernel
theorem dX9_tellsWishes_63 : decode cX9_tellsWishes 63 = .ok (.aload_n 0, 1) := by decide +kernel
theorem dX9_tellsWishes_64 : decode cX9_tellsWishes 64 = .ok (.getfield 41, 3) := by decide +kernel
theorem dX9_tellsWishes_67 : decode cX9_tellsWishes 67 = .ok (.iload_n 3, 1) := by decide +kernel
theorem dX9_tellsWishes_68 : decode cX9_tellsWishes 68 = .ok (.iaload, 1) := by decide +kernel
theorem dX9_tellsWishes_69 : decode cX9_tellsWishes 69 = .ok (.invokestatic 236, 3) := by decide +kernel
theorem dX9_tellsWishes_72 : decode cX9_tellsWishes 72 = .ok (.istore_n 2, 1) := by decide +kernel
theorem dX9_tellsWishes_73 : decode cX9_tellsWishes 73 = .ok (.iinc 3 1, 3) := by decide +kernel
theorem dX9_tellsWishes_76 : decode cX9_tellsWishes 76 = .ok (.goto (-44), 3) := by decide +kernel
theorem dX9_tellsWishes_79 : decode cX9_tellsWishes 79 = .ok (.iload_n 2, 1) := by decide +kernel
theorem dX9_tellsWishes_80 : decode cX9_tellsWishes 80 = .ok (.ireturn, 1) := by decide +kernel
theorem dX9_rooms_0 : decode cX9_rooms 0 = .ok (.iload_n 1, 1) := by decide +kernel
theorem dX9_rooms_1 : decode cX9_rooms 1 = .ok (.invokestatic 287, 3) := by decide +kernel
theorem dX9_rooms_4 : decode cX9_rooms 4 = .ok (.ifCond .eq 19, 3) := by decide +kernel
theorem dX9_rooms_7 : decode cX9_rooms 7 = .ok (.iload_n 2, 1) := by decide +kernel
theorem dX9_rooms_8 : decode cX9_rooms 8 = .ok (.iconst (-1), 1) := by decide +kernel
theorem dX9_rooms_9 : decode cX9_rooms 9 = .ok (.aload_n 0, 1) := by decide +kernel
theorem dX9_rooms_10 : decode cX9_rooms 10 = .ok (.getfield 9, 3) := by decide +kernel
theorem dX9_rooms_13 : decode cX9_rooms 13 = .ok (.iconst 1, 1) := by decide +kernel
theorem dX9_rooms_14 : decode cX9_rooms 14 = .ok (.iaload, 1) := by decide +kernel
theorem dX9_rooms_15 : decode cX9_rooms 15 = .ok (.iconst 1, 1) := by decide +kernel
theorem dX9_rooms_16 : decode cX9_rooms 16 = .ok (.isub, 1) := by decide +kernel
theorem dX9_rooms_17 : decode cX9_rooms 17 = .ok (.invokestatic 76, 3) := by decide +kernel
theorem dX9_rooms_20 : decode cX9_rooms 20 = .ok (.ifCond .ne 10, 3) := by decide +kernel
theorem dX9_rooms_23 : decode cX9_rooms 23 = .ok (.aload_n 0, 1) := by decide +kernel
theorem dX9_rooms_24 : decode cX9_rooms 24 = .ok (.ldc 80, 2) := by decide +kernel
theorem dX9_rooms_26 : decode cX9_rooms 26 = .ok (.invokevirtual 81, 3) := by decide +kernel
theorem dX9_rooms_29 : decode cX9_rooms 29 = .ok (.ireturn, 1) := by decide +kernel
theorem dX9_rooms_30 : decode cX9_rooms 30 = .ok (.aload_n 0, 1) := by decide +kernel
theorem dX9_rooms_31 : decode cX9_rooms 31 = .ok (.iload_n 1, 1) := by decide +kernel
theorem dX9_rooms_32 : decode cX9_rooms 32 = .ok (.invokevirtual 290, 3) := by decide +kernel
theorem dX9_rooms_35 : decode cX9_rooms 35 = .ok (.ifCond .ne 11, 3) := by decide +kernel
theorem dX9_rooms_38 : decode cX9_rooms 38 = .ok (.aload_n 0, 1) := by decide +kernel
theorem dX9_rooms_39 : decode cX9_rooms 39 = .ok (.ldc_w 268, 3) := by decide +kernel
theorem dX9_rooms_42 : decode cX9_rooms 42 = .ok (.invokevirtual 81, 3) := by decide +kernel
theorem dX9_rooms_45 : decode cX9_rooms 45 = .ok (.ireturn, 1) := by decide +kernel
theorem dX9_rooms_46 : decode cX9_rooms 46 = .ok (.aload_n 0, 1) := by decide +kernel
theorem dX9_rooms_47 : decode cX9_rooms 47 = .ok (.invokevirtual 281, 3) := by decide +kernel
theorem dX9_rooms_50 : decode cX9_rooms 50 = .ok (.istore_n 3, 1) := by decide +kernel
theorem dX9_rooms_51 : decode cX9_rooms 51 = .ok (.iload_n 2, 1) := by decide +kernel
theorem dX9_rooms_52 : decode cX9_rooms 52 = .ok (.ifCond .ge 5, 3) := by decide +kernel
theorem dX9_rooms_55 : decode cX9_rooms 55 = .ok (.iload_n 3, 1) := by decide +kernel
theorem dX9_rooms_56 : decode cX9_rooms 56 = .ok (.ireturn, 1) := by decide +kernel
theorem dX9_rooms_57 : decode cX9_rooms 57 = .ok (.aload_n 0, 1) := by decide +kernel
theorem dX9_rooms_58 : decode cX9_rooms 58 = .ok (.iload_n 3, 1) := by decide +kernel
theorem dX9_rooms_59 : decode cX9_rooms 59 = .ok (.invokevirtual 293, 3) := by decide +kernel
theorem dX9_rooms_62 : decode cX9_rooms 62 = .ok (.iconst (-1), 1) := by decide +kernel
theorem dX9_rooms_63 : decode cX9_rooms 63 = .ok (.istore 4, 2) := by decide +kernel
theorem dX9_rooms_65 : decode cX9_rooms 65 = .ok (.iconst 0, 1) := by decide +kernel
theorem dX9_rooms_66 : decode cX9_rooms 66 = .ok (.istore 5, 2) := by decide +kernel
theorem dX9_rooms_68 : decode cX9_rooms 68 = .ok (.iload 5, 2) := by decide +kernel
theorem dX9_rooms_70 : decode cX9_rooms 70 = .ok (.bipush 24, 2) := by decide +kernel
theorem dX9_rooms_72 : decode cX9_rooms 72 = .ok (.if_icmp .ge 31, 3) := by decide +kernel
theorem dX9_rooms_75 : decode cX9_rooms 75 = .ok (.aload_n 0, 1) := by decide +kernel
theorem dX9_rooms_76 : decode cX9_rooms 76 = .ok (.getfield 41, 3) := by decide +kernel
theorem dX9_rooms_79 : decode cX9_rooms 79 = .ok (.iload_n 2, 1) := by decide +kernel
theorem dX9_rooms_80 : decode cX9_rooms 80 = .ok (.iaload, 1) := by decide +kernel
theorem dX9_rooms_81 : decode cX9_rooms 81 = .ok (.iconst 1, 1) := by decide +kernel
theorem dX9_rooms_82 : decode cX9_rooms 82 = .ok (.iload 5, 2) := by decide +kernel
theorem dX9_rooms_84 : decode cX9_rooms 84 = .ok (.ishl, 1) := by decide +kernel
theorem dX9_rooms_85 : decode cX9_rooms 85 = .ok (.if_icmp .ne 8, 3) := by decide +kernel
theorem dX9_rooms_88 : decode cX9_rooms 88 = .ok (.iload 5, 2) := by decide +kernel
theorem dX9_rooms_90 : decode cX9_rooms 90 = .ok (.goto 5, 3) := by decide +kernel
theorem dX9_rooms_93 : decode cX9_rooms 93 = .ok (.iload 4, 2) := by decide +kernel
theorem dX9_rooms_95 : decode cX9_rooms 95 = .ok (.istore 4, 2) := by decide +kernel
theorem dX9_rooms_97 : decode cX9_rooms 97 = .ok (.iinc 5 1, 3) := by decide +kernel
theorem dX9_rooms_100 : decode cX9_rooms 100 = .ok (.goto (-32), 3) := by decide +kernel
theorem dX9_rooms_103 : decode cX9_rooms 103 = .ok (.iload 4, 2) := by decide +kernel
theorem dX9_rooms_105 : decode cX9_rooms 105 = .ok (.ireturn, 1) := by decide +kernel
theorem dX9_falls_0 : decode cX9_falls 0 = .ok (.iload_n 1, 1) := by decide +kernel
theorem dX9_falls_1 : decode cX9_falls 1 = .ok (.iconst 0, 1) := by decide +kernel
theorem dX9_falls_2 : decode cX9_falls 2 = .ok (.bipush 15, 2) := by decide +kernel
theorem dX9_falls_4 : decode cX9_falls 4 = .ok (.invokestatic 76, 3) := by decide +kernel
theorem dX9_falls_7 : decode cX9_falls 7 = .ok (.ifCond .eq 13, 3) := by decide +kernel
theorem dX9_falls_10 : decode cX9_falls 10 = .ok (.iload_n 2, 1) := by decide +kernel
theorem dX9_falls_11 : decode cX9_falls 11 = .ok (.iconst 0, 1) := by decide +kernel
theorem dX9_falls_12 : decode cX9_falls 12 = .ok (.bipush 6, 2) := by decide +kernel
theorem dX9_falls_14 : decode cX9_falls 14 = .ok (.invokestatic 76, 3) := by decide +kernel
theorem dX9_falls_17 : decode cX9_falls 17 = .ok (.ifCond .ne 10, 3) := by decide +kernel
theorem dX9_falls_20 : decode cX9_falls 20 = .ok (.aload_n 0, 1) := by decide +kernel
theorem dX9_falls_21 : decode cX9_falls 21 = .ok (.ldc 80, 2) := by decide +kernel
theorem dX9_falls_23 : decode cX9_falls 23 = .ok (.invokevirtual 81, 3) := by decide +kernel
theorem dX9_falls_26 : decode cX9_falls 26 = .ok (.ireturn, 1) := by decide +kernel
theorem dX9_falls_27 : decode cX9_falls 27 = .ok (.iconst 0, 1) := by decide +kernel
theorem dX9_falls_28 : decode cX9_falls 28 = .ok (.istore_n 3, 1) := by decide +kernel
theorem dX9_falls_29 : decode cX9_falls 29 = .ok (.aload_n 0, 1) := by decide +kernel
theorem dX9_falls_30 : decode cX9_falls 30 = .ok (.getfield 9, 3) := by decide +kernel
theorem dX9_falls_33 : decode cX9_falls 33 = .ok (.iconst 0, 1) := by decide +kernel
theorem dX9_falls_34 : decode cX9_falls 34 = .ok (.iaload, 1) := by decide +kernel
theorem dX9_falls_35 : decode cX9_falls 35 = .ok (.iload_n 3, 1) := by decide +kernel
theorem dX9_falls_36 : decode cX9_falls 36 = .ok (.iadd, 1) := by decide +kernel
theorem dX9_falls_37 : decode cX9_falls 37 = .ok (.bipush 16, 2) := by decide +kernel
theorem dX9_falls_39 : decode cX9_falls 39 = .ok (.irem, 1) := by decide +kernel
theorem dX9_falls_40 : decode cX9_falls 40 = .ok (.iload_n 1, 1) := by decide +kernel
theorem dX9_falls_41 : decode cX9_falls 41 = .ok (.if_icmp .ne 18, 3) := by decide +kernel
theorem dX9_falls_44 : decode cX9_falls 44 = .ok (.aload_n 0, 1) := by decide +kernel
theorem dX9_falls_45 : decode cX9_falls 45 = .ok (.getfield 9, 3) := by decide +kernel
theorem dX9_falls_48 : decode cX9_falls 48 = .ok (.iconst 0, 1) := by decide +kernel
theorem dX9_falls_49 : decode cX9_falls 49 = .ok (.iaload, 1) := by decide +kernel
theorem dX9_falls_50 : decode cX9_falls 50 = .ok (.iload_n 3, 1) := by decide +kernel
theorem dX9_falls_51 : decode cX9_falls 51 = .ok (.iadd, 1) := by decide +kernel
theorem dX9_falls_52 : decode cX9_falls 52 = .ok (.bipush 7, 2) := by decide +kernel
theorem dX9_falls_54 : decode cX9_falls 54 = .ok (.irem, 1) := by decide +kernel
theorem dX9_falls_55 : decode cX9_falls 55 = .ok (.iload_n 2, 1) := by decide +kernel
theorem dX9_falls_56 : decode cX9_falls 56 = .ok (.if_icmp .eq 9, 3) := by decide +kernel
theorem dX9_falls_59 : decode cX9_falls 59 = .ok (.iinc 3 1, 3) := by decide +kernel
theorem dX9_falls_62 : decode cX9_falls 62 = .ok (.goto (-33), 3) := by decide +kernel
theorem dX9_falls_65 : decode cX9_falls 65 = .ok (.iload_n 3, 1) := by decide +kernel
theorem dX9_falls_66 : decode cX9_falls 66 = .ok (.ireturn, 1) := by decide +kernel
theorem dX9_was_0 : decode cX9_was 0 = .ok (.iload_n 1, 1) := by decide +kernel
theorem dX9_was_1 : decode cX9_was 1 = .ok (.invokestatic 287, 3) := by decide +kernel
theorem dX9_was_4 : decode cX9_was 4 = .ok (.ifCond .ne 10, 3) := by decide +kernel
theorem dX9_was_7 : decode cX9_was 7 = .ok (.aload_n 0, 1) := by decide +kernel
theorem dX9_was_8 : decode cX9_was 8 = .ok (.ldc 80, 2) := by decide +kernel
theorem dX9_was_10 : decode cX9_was 10 = .ok (.invokevirtual 81, 3) := by decide +kernel
theorem dX9_was_13 : decode cX9_was 13 = .ok (.ireturn, 1) := by decide +kernel
theorem dX9_was_14 : decode cX9_was 14 = .ok (.aload_n 0, 1) := by decide +kernel
theorem dX9_was_15 : decode cX9_was 15 = .ok (.getfield 50, 3) := by decide +kernel
theorem dX9_was_18 : decode cX9_was 18 = .ok (.iload_n 1, 1) := by decide +kernel
theorem dX9_was_19 : decode cX9_was 19 = .ok (.iaload, 1) := by decide +kernel
theorem dX9_was_20 : decode cX9_was 20 = .ok (.ifCond .le 7, 3) := by decide +kernel
theorem dX9_was_23 : decode cX9_was 23 = .ok (.iconst 1, 1) := by decide +kernel
theorem dX9_was_24 : decode cX9_was 24 = .ok (.goto 4, 3) := by decide +kernel
theorem dX9_was_27 : decode cX9_was 27 = .ok (.iconst 0, 1) := by decide +kernel
theorem dX9_was_28 : decode cX9_was 28 = .ok (.istore_n 2, 1) := by decide +kernel
theorem dX9_was_29 : decode cX9_was 29 = .ok (.iconst 0, 1) := by decide +kernel
theorem dX9_was_30 : decode cX9_was 30 = .ok (.istore_n 3, 1) := by decide +kernel
theorem dX9_was_31 : decode cX9_was 31 = .ok (.iload_n 3, 1) := by decide +kernel
theorem dX9_was_32 : decode cX9_was 32 = .ok (.aload_n 0, 1) := by decide +kernel
theorem dX9_was_33 : decode cX9_was 33 = .ok (.getfield 53, 3) := by decide +kernel
theorem dX9_was_36 : decode cX9_was 36 = .ok (.iload_n 1, 1) := by decide +kernel
theorem dX9_was_37 : decode cX9_was 37 = .ok (.iaload, 1) := by decide +kernel
theorem dX9_was_38 : decode cX9_was 38 = .ok (.if_icmp .ge 38, 3) := by decide +kernel
theorem dX9_was_41 : decode cX9_was 41 = .ok (.iload_n 2, 1) := by decide +kernel
theorem dX9_was_42 : decode cX9_was 42 = .ok (.ifCond .eq 26, 3) := by decide +kernel
theorem dX9_was_45 : decode cX9_was 45 = .ok (.aload_n 0, 1) := by decide +kernel
theorem dX9_was_46 : decode cX9_was 46 = .ok (.getfield 56, 3) := by decide +kernel
theorem dX9_was_49 : decode cX9_was 49 = .ok (.bipush 40, 2) := by decide +kernel
theorem dX9_was_51 : decode cX9_was 51 = .ok (.iload_n 1, 1) := by decide +kernel
theorem dX9_was_52 : decode cX9_was 52 = .ok (.imul, 1) := by decide +kernel
theorem dX9_was_53 : decode cX9_was 53 = .ok (.iload_n 3, 1) := by decide +kernel
theorem dX9_was_54 : decode cX9_was 54 = .ok (.iadd, 1) := by decide +kernel
theorem dX9_was_55 : decode cX9_was 55 = .ok (.iaload, 1) := by decide +kernel
theorem dX9_was_56 : decode cX9_was 56 = .ok (.iconst 0, 1) := by decide +kernel
theorem dX9_was_57 : decode cX9_was 57 = .ok (.iconst 1, 1) := by decide +kernel
theorem dX9_was_58 : decode cX9_was 58 = .ok (.invokestatic 76, 3) := by decide +kernel
theorem dX9_was_61 : decode cX9_was 61 = .ok (.ifCond .eq 7, 3) := by decide +kernel
theorem dX9_was_64 : decode cX9_was 64 = .ok (.iconst 1, 1) := by decide +kernel
theorem dX9_was_65 : decode cX9_was 65 = .ok (.goto 4, 3) := by decide +kernel
theorem dX9_was_68 : decode cX9_was 68 = .ok (.iconst 0, 1) := by decide +kernel
theorem dX9_was_69 : decode cX9_was 69 = .ok (.istore_n 2, 1) := by decide +kernel
theorem dX9_was_70 : decode cX9_was 70 = .ok (.iinc 3 1, 3) := by decide +kernel
theorem dX9_was_73 : decode cX9_was 73 = .ok (.goto (-42), 3) := by decide +kernel
theorem dX9_was_76 : decode cX9_was 76 = .ok (.iload_n 2, 1) := by decide +kernel
theorem dX9_was_77 : decode cX9_was 77 = .ok (.ifCond .ne 11, 3) := by decide +kernel
theorem dX9_was_80 : decode cX9_was 80 = .ok (.aload_n 0, 1) := by decide +kernel
theorem dX9_was_81 : decode cX9_was 81 = .ok (.ldc_w 268, 3) := by decide +kernel
theorem dX9_was_84 : decode cX9_was 84 = .ok (.invokevirtual 81, 3) := by decide +kernel
theorem dX9_was_87 : decode cX9_was 87 = .ok (.ireturn, 1) := by decide +kernel
theorem dX9_was_88 : decode cX9_was 88 = .ok (.aload_n 0, 1) := by decide +kernel
theorem dX9_was_89 : decode cX9_was 89 = .ok (.getfield 9, 3) := by decide +kernel
theorem dX9_was_92 : decode cX9_was 92 = .ok (.iconst 0, 1) := by decide +kernel
theorem dX9_was_93 : decode cX9_was 93 = .ok (.iaload, 1) := by decide +kernel
theorem dX9_was_94 : decode cX9_was 94 = .ok (.istore_n 3, 1) := by decide +kernel
theorem dX9_was_95 : decode cX9_was 95 = .ok (.ldc 235, 2) := by decide +kernel
theorem dX9_was_97 : decode cX9_was 97 = .ok (.istore 4, 2) := by decide +kernel
theorem dX9_was_99 : decode cX9_was 99 = .ok (.iconst 0, 1) := by decide +kernel
theorem dX9_was_100 : decode cX9_was 100 = .ok (.istore 5, 2) := by decide +kernel
theorem dX9_was_102 : decode cX9_was 102 = .ok (.iload 5, 2) := by decide +kernel
theorem dX9_was_104 : decode cX9_was 104 = .ok (.aload_n 0, 1) := by decide +kernel
theorem dX9_was_105 : decode cX9_was 105 = .ok (.getfield 53, 3) := by decide +kernel
theorem dX9_was_108 : decode cX9_was 108 = .ok (.iload_n 1, 1) := by decide +kernel
theorem dX9_was_109 : decode cX9_was 109 = .ok (.iaload, 1) := by decide +kernel
theorem dX9_was_110 : decode cX9_was 110 = .ok (.if_icmp .ge 53, 3) := by decide +kernel
theorem dX9_was_113 : decode cX9_was 113 = .ok (.iload 4, 2) := by decide +kernel
theorem dX9_was_115 : decode cX9_was 115 = .ok (.aload_n 0, 1) := by decide +kernel
theorem dX9_was_116 : decode cX9_was 116 = .ok (.getfield 56, 3) := by decide +kernel
theorem dX9_was_119 : decode cX9_was 119 = .ok (.bipush 40, 2) := by decide +kernel
theorem dX9_was_121 : decode cX9_was 121 = .ok (.iload_n 1, 1) := by decide +kernel
theorem dX9_was_122 : decode cX9_was 122 = .ok (.imul, 1) := by decide +kernel
theorem dX9_was_123 : decode cX9_was 123 = .ok (.iload 5, 2) := by decide +kernel
theorem dX9_was_125 : decode cX9_was 125 = .ok (.iadd, 1) := by decide +kernel
theorem dX9_was_126 : decode cX9_was 126 = .ok (.iaload, 1) := by decide +kernel
theorem dX9_was_127 : decode cX9_was 127 = .ok (.iconst 1, 1) := by decide +kernel
theorem dX9_was_128 : decode cX9_was 128 = .ok (.if_icmp .ne 10, 3) := by decide +kernel
theorem dX9_was_131 : decode cX9_was 131 = .ok (.aload_n 0, 1) := by decide +kernel
theorem dX9_was_132 : decode cX9_was 132 = .ok (.invokevirtual 195, 3) := by decide +kernel
theorem dX9_was_135 : decode cX9_was 135 = .ok (.goto 9, 3) := by decide +kernel
theorem dX9_was_138 : decode cX9_was 138 = .ok (.aload_n 0, 1) := by decide +kernel
theorem dX9_was_139 : decode cX9_was 139 = .ok (.invokevirtual 195, 3) := by decide +kernel
theorem dX9_was_142 : decode cX9_was 142 = .ok (.iconst (-1), 1) := by decide +kernel
theorem dX9_was_143 : decode cX9_was 143 = .ok (.ixor, 1) := by decide +kernel
theorem dX9_was_144 : decode cX9_was 144 = .ok (.iand, 1) := by decide +kernel
theorem dX9_was_145 : decode cX9_was 145 = .ok (.istore 4, 2) := by decide +kernel
theorem dX9_was_147 : decode cX9_was 147 = .ok (.aload_n 0, 1) := by decide +kernel
theorem dX9_was_148 : decode cX9_was 148 = .ok (.getfield 9, 3) := by decide +kernel
theorem dX9_was_151 : decode cX9_was 151 = .ok (.iconst 0, 1) := by decide +kernel
theorem dX9_was_152 : decode cX9_was 152 = .ok (.dup2, 1) := by decide +kernel
theorem dX9_was_153 : decode cX9_was 153 = .ok (.iaload, 1) := by decide +kernel
theorem dX9_was_154 : decode cX9_was 154 = .ok (.iconst 1, 1) := by decide +kernel
theorem dX9_was_155 : decode cX9_was 155 = .ok (.iadd, 1) := by decide +kernel
theorem dX9_was_156 : decode cX9_was 156 = .ok (.iastore, 1) := by decide +kernel
theorem dX9_was_157 : decode cX9_was 157 = .ok (.iinc 5 1, 3) := by decide +kernel
theorem dX9_was_160 : decode cX9_was 160 = .ok (.goto (-58), 3) := by decide +kernel
theorem dX9_was_163 : decode cX9_was 163 = .ok (.aload_n 0, 1) := by decide +kernel
theorem dX9_was_164 : decode cX9_was 164 = .ok (.getfield 9, 3) := by decide +kernel
theorem dX9_was_167 : decode cX9_was 167 = .ok (.iconst 0, 1) := by decide +kernel
theorem dX9_was_168 : decode cX9_was 168 = .ok (.iload_n 3, 1) := by decide +kernel
theorem dX9_was_169 : decode cX9_was 169 = .ok (.iastore, 1) := by decide +kernel
theorem dX9_was_170 : decode cX9_was 170 = .ok (.iload 4, 2) := by decide +kernel
theorem dX9_was_172 : decode cX9_was 172 = .ok (.ireturn, 1) := by decide +kernel
theorem dX9_dear_0 : decode cX9_dear 0 = .ok (.iload_n 1, 1) := by decide +kernel
theorem dX9_dear_1 : decode cX9_dear 1 = .ok (.iconst 0, 1) := by decide +kernel
theorem dX9_dear_2 : decode cX9_dear 2 = .ok (.bipush 99, 2) := by decide +kernel
theorem dX9_dear_4 : decode cX9_dear 4 = .ok (.invokestatic 76, 3) := by decide +kernel
theorem dX9_dear_7 : decode cX9_dear 7 = .ok (.ifCond .ne 10, 3) := by decide +kernel
theorem dX9_dear_10 : decode cX9_dear 10 = .ok (.aload_n 0, 1) := by decide +kernel
theorem dX9_dear_11 : decode cX9_dear 11 = .ok (.ldc 80, 2) := by decide +kernel
theorem dX9_dear_13 : decode cX9_dear 13 = .ok (.invokevirtual 81, 3) := by decide +kernel
theorem dX9_dear_16 : decode cX9_dear 16 = .ok (.ireturn, 1) := by decide +kernel
theorem dX9_dear_17 : decode cX9_dear 17 = .ok (.iconst (-1), 1) := by decide +kernel
theorem dX9_dear_18 : decode cX9_dear 18 = .ok (.istore_n 2, 1) := by decide +kernel
theorem dX9_dear_19 : decode cX9_dear 19 = .ok (.iconst (-1), 1) := by decide +kernel
theorem dX9_dear_20 : decode cX9_dear 20 = .ok (.istore_n 3, 1) := by decide +kernel
theorem dX9_dear_21 : decode cX9_dear 21 = .ok (.iconst 0, 1) := by decide +kernel
theorem dX9_dear_22 : decode cX9_dear 22 = .ok (.istore 4, 2) := by decide +kernel
theorem dX9_dear_24 : decode cX9_dear 24 = .ok (.iload 4, 2) := by decide +kernel
theorem dX9_dear_26 : decode cX9_dear 26 = .ok (.bipush 24, 2) := by decide +kernel
theorem dX9_dear_28 : decode cX9_dear 28 = .ok (.if_icmp .ge 48, 3) := by decide +kernel
theorem dX9_dear_31 : decode cX9_dear 31 = .ok (.aload_n 0, 1) := by decide +kernel
theorem dX9_dear_32 : decode cX9_dear 32 = .ok (.iload 4, 2) := by decide +kernel
theorem dX9_dear_34 : decode cX9_dear 34 = .ok (.invokevirtual 186, 3) := by decide +kernel
theorem dX9_dear_37 : decode cX9_dear 37 = .ok (.ifCond .ne 12, 3) := by decide +kernel
theorem dX9_dear_40 : decode cX9_dear 40 = .ok (.aload_n 0, 1) := by decide +kernel
theorem dX9_dear_41 : decode cX9_dear 41 = .ok (.iload 4, 2) := by decide +kernel
theorem dX9_dear_43 : decode cX9_dear 43 = .ok (.invokevirtual 198, 3) := by decide +kernel
theorem dX9_dear_46 : decode cX9_dear 46 = .ok (.goto 4, 3) := by decide +kernel
theorem dX9_dear_49 : decode cX9_dear 49 = .ok (.iconst (-1), 1) := by decide +kernel
theorem dX9_dear_50 : decode cX9_dear 50 = .ok (.istore 5, 2) := by decide +kernel
theorem dX9_dear_52 : decode cX9_dear 52 = .ok (.iload 5, 2) := by decide +kernel
theorem dX9_dear_54 : decode cX9_dear 54 = .ok (.iload_n 3, 1) := by decide +kernel
theorem dX9_dear_55 : decode cX9_dear 55 = .ok (.if_icmp .le 15, 3) := by decide +kernel
theorem dX9_dear_58 : decode cX9_dear 58 = .ok (.iload 5, 2) := by decide +kernel
theorem dX9_dear_60 : decode cX9_dear 60 = .ok (.iload_n 1, 1) := by decide +kernel
theorem dX9_dear_61 : decode cX9_dear 61 = .ok (.if_icmp .gt 9, 3) := by decide +kernel
theorem dX9_dear_64 : decode cX9_dear 64 = .ok (.iload 4, 2) := by decide +kernel
theorem dX9_dear_66 : decode cX9_dear 66 = .ok (.istore_n 2, 1) := by decide +kernel
theorem dX9_dear_67 : decode cX9_dear 67 = .ok (.iload 5, 2) := by decide +kernel
theorem dX9_dear_69 : decode cX9_dear 69 = .ok (.istore_n 3, 1) := by decide +kernel
theorem dX9_dear_70 : decode cX9_dear 70 = .ok (.iinc 4 1, 3) := by decide +kernel
theorem dX9_dear_73 : decode cX9_dear 73 = .ok (.goto (-49), 3) := by decide +kernel
theorem dX9_dear_76 : decode cX9_dear 76 = .ok (.iload_n 2, 1) := by decide +kernel
theorem dX9_dear_77 : decode cX9_dear 77 = .ok (.ifCond .ge 13, 3) := by decide +kernel
theorem dX9_dear_80 : decode cX9_dear 80 = .ok (.aload_n 0, 1) := by decide +kernel
theorem dX9_dear_81 : decode cX9_dear 81 = .ok (.ldc_w 268, 3) := by decide +kernel
theorem dX9_dear_84 : decode cX9_dear 84 = .ok (.invokevirtual 81, 3) := by decide +kernel
theorem dX9_dear_87 : decode cX9_dear 87 = .ok (.goto 4, 3) := by decide +kernel
theorem dX9_dear_90 : decode cX9_dear 90 = .ok (.iload_n 2, 1) := by decide +kernel
theorem dX9_dear_91 : decode cX9_dear 91 = .ok (.ireturn, 1) := by decide +kernel
theorem dX9_seed_0 : decode cX9_seed 0 = .ok (.aload_n 0, 1) := by decide +kernel
theorem dX9_seed_1 : decode cX9_seed 1 = .ok (.iconst 5, 1) := by decide +kernel
theorem dX9_seed_2 : decode cX9_seed 2 = .ok (.iload_n 1, 1) := by decide +kernel
theorem dX9_seed_3 : decode cX9_seed 3 = .ok (.invokevirtual 201, 3) := by decide +kernel
theorem dX9_seed_6 : decode cX9_seed 6 = .ok (.ireturn, 1) := by decide +kernel
theorem dX9_runs_0 : decode cX9_runs 0 = .ok (.aload_n 0, 1) := by decide +kernel
theorem dX9_runs_1 : decode cX9_runs 1 = .ok (.getfield 296, 3) := by decide +kernel
theorem dX9_runs_4 : decode cX9_runs 4 = .ok (.bipush 40, 2) := by decide +kernel
theorem dX9_runs_6 : decode cX9_runs 6 = .ok (.if_icmp .ge 23, 3) := by decide +kernel
theorem dX9_runs_9 : decode cX9_runs 9 = .ok (.aload_n 0, 1) := by decide +kernel
theorem dX9_runs_10 : decode cX9_runs 10 = .ok (.getfield 47, 3) := by decide +kernel
theorem dX9_runs_13 : decode cX9_runs 13 = .ok (.aload_n 0, 1) := by decide +kernel
theorem dX9_runs_14 : decode cX9_runs 14 = .ok (.getfield 296, 3) := by decide +kernel
theorem dX9_runs_17 : decode cX9_runs 17 = .ok (.iload_n 1, 1) := by decide +kernel
theorem dX9_runs_18 : decode cX9_runs 18 = .ok (.iastore, 1) := by decide +kernel
theorem dX9_runs_19 : decode cX9_runs 19 = .ok (.aload_n 0, 1) := by decide +kernel
theorem dX9_runs_20 : decode cX9_runs 20 = .ok (.dup, 1) := by decide +kernel
theorem dX9_runs_21 : decode cX9_runs 21 = .ok (.getfield 296, 3) := by decide +kernel
theorem dX9_runs_24 : decode cX9_runs 24 = .ok (.iconst 1, 1) := by decide +kernel
theorem dX9_runs_25 : decode cX9_runs 25 = .ok (.iadd, 1) := by decide +kernel
theorem dX9_runs_26 : decode cX9_runs 26 = .ok (.putfield 296, 3) := by decide +kernel
theorem dX9_runs_29 : decode cX9_runs 29 = .ok (.return_, 1) := by decide +kernel
theorem dX9_looksOf_0 : decode cX9_looksOf 0 = .ok (.aload_n 0, 1) := by decide +kernel
theorem dX9_looksOf_1 : decode cX9_looksOf 1 = .ok (.getfield 299, 3) := by decide +kernel
theorem dX9_looksOf_4 : decode cX9_looksOf 4 = .ok (.iconst 1, 1) := by decide +kernel
theorem dX9_looksOf_5 : decode cX9_looksOf 5 = .ok (.if_icmp .eq 11, 3) := by decide +kernel
theorem dX9_looksOf_8 : decode cX9_looksOf 8 = .ok (.aload_n 0, 1) := by decide +kernel
theorem dX9_looksOf_9 : decode cX9_looksOf 9 = .ok (.getfield 299, 3) := by decide +kernel
theorem dX9_looksOf_12 : decode cX9_looksOf 12 = .ok (.iconst 4, 1) := by decide +kernel
theorem dX9_looksOf_13 : decode cX9_looksOf 13 = .ok (.if_icmp .ne 7, 3) := by decide +kernel
theorem dX9_looksOf_16 : decode cX9_looksOf 16 = .ok (.iconst 1, 1) := by decide +kernel
theorem dX9_looksOf_17 : decode cX9_looksOf 17 = .ok (.goto 4, 3) := by decide +kernel
theorem dX9_looksOf_20 : decode cX9_looksOf 20 = .ok (.iconst 0, 1) := by decide +kernel
theorem dX9_looksOf_21 : decode cX9_looksOf 21 = .ok (.istore_n 2, 1) := by decide +kernel
theorem dX9_looksOf_22 : decode cX9_looksOf 22 = .ok (.iload_n 2, 1) := by decide +kernel
theorem dX9_looksOf_23 : decode cX9_looksOf 23 = .ok (.ifCond .eq 9, 3) := by decide +kernel
theorem dX9_looksOf_26 : decode cX9_looksOf 26 = .ok (.aload_n 0, 1) := by decide +kernel
theorem dX9_looksOf_27 : decode cX9_looksOf 27 = .ok (.bipush 20, 2) := by decide +kernel
theorem dX9_looksOf_29 : decode cX9_looksOf 29 = .ok (.invokevirtual 302, 3) := by decide +kernel
theorem dX9_looksOf_32 : decode cX9_looksOf 32 = .ok (.aload_n 0, 1) := by decide +kernel
theorem dX9_looksOf_33 : decode cX9_looksOf 33 = .ok (.bipush 10, 2) := by decide +kernel
theorem dX9_looksOf_35 : decode cX9_looksOf 35 = .ok (.invokevirtual 302, 3) := by decide +kernel
theorem dX9_looksOf_38 : decode cX9_looksOf 38 = .ok (.iload_n 2, 1) := by decide +kernel
theorem dX9_looksOf_39 : decode cX9_looksOf 39 = .ok (.ifCond .eq 14, 3) := by decide +kernel
theorem dX9_looksOf_42 : decode cX9_looksOf 42 = .ok (.iload_n 1, 1) := by decide +kernel
theorem dX9_looksOf_43 : decode cX9_looksOf 43 = .ok (.aload_n 0, 1) := by decide +kernel
theorem dX9_looksOf_44 : decode cX9_looksOf 44 = .ok (.getfield 305, 3) := by decide +kernel
theorem dX9_looksOf_47 : decode cX9_looksOf 47 = .ok (.iadd, 1) := by decide +kernel
theorem dX9_looksOf_48 : decode cX9_looksOf 48 = .ok (.iconst 3, 1) := by decide +kernel
theorem dX9_looksOf_49 : decode cX9_looksOf 49 = .ok (.imul, 1) := by decide +kernel
theorem dX9_looksOf_50 : decode cX9_looksOf 50 = .ok (.goto 9, 3) := by decide +kernel
theorem dX9_looksOf_53 : decode cX9_looksOf 53 = .ok (.iload_n 1, 1) := by decide +kernel
theorem dX9_looksOf_54 : decode cX9_looksOf 54 = .ok (.aload_n 0, 1) := by decide +kernel
theorem dX9_looksOf_55 : decode cX9_looksOf 55 = .ok (.getfield 305, 3) := by decide +kernel
theorem dX9_looksOf_58 : decode cX9_looksOf 58 = .ok (.iadd, 1) := by decide +kernel
theorem dX9_looksOf_59 : decode cX9_looksOf 59 = .ok (.ireturn, 1) := by decide +kernel
theorem dX9_paysOf_0 : decode cX9_paysOf 0 = .ok (.iload_n 1, 1) := by decide +kernel
theorem dX9_paysOf_1 : decode cX9_paysOf 1 = .ok (.istore_n 2, 1) := by decide +kernel
theorem dX9_paysOf_2 : decode cX9_paysOf 2 = .ok (.aload_n 0, 1) := by decide +kernel
theorem dX9_paysOf_3 : decode cX9_paysOf 3 = .ok (.getfield 299, 3) := by decide +kernel
theorem dX9_paysOf_6 : decode cX9_paysOf 6 = .ok (.bipush 6, 2) := by decide +kernel
theorem dX9_paysOf_8 : decode cX9_paysOf 8 = .ok (.if_icmp .ne 12, 3) := by decide +kernel
theorem dX9_paysOf_11 : decode cX9_paysOf 11 = .ok (.aload_n 0, 1) := by decide +kernel
theorem dX9_paysOf_12 : decode cX9_paysOf 12 = .ok (.bipush 70, 2) := by decide +kernel
theorem dX9_paysOf_14 : decode cX9_paysOf 14 = .ok (.invokevirtual 302, 3) := by decide +kernel
theorem dX9_paysOf_17 : decode cX9_paysOf 17 = .ok (.iinc 2 1, 3) := by decide +kernel
theorem dX9_paysOf_20 : decode cX9_paysOf 20 = .ok (.aload_n 0, 1) := by decide +kernel
theorem dX9_paysOf_21 : decode cX9_paysOf 21 = .ok (.getfield 299, 3) := by decide +kernel
theorem dX9_paysOf_24 : decode cX9_paysOf 24 = .ok (.iconst 3, 1) := by decide +kernel
theorem dX9_paysOf_25 : decode cX9_paysOf 25 = .ok (.if_icmp .eq 12, 3) := by decide +kernel
theorem dX9_paysOf_28 : decode cX9_paysOf 28 = .ok (.aload_n 0, 1) := by decide +kernel
theorem dX9_paysOf_29 : decode cX9_paysOf 29 = .ok (.getfield 299, 3) := by decide +kernel
theorem dX9_paysOf_32 : decode cX9_paysOf 32 = .ok (.bipush 6, 2) := by decide +kernel
theorem dX9_paysOf_34 : decode cX9_paysOf 34 = .ok (.if_icmp .ne 7, 3) := by decide +kernel
theorem dX9_paysOf_37 : decode cX9_paysOf 37 = .ok (.iconst 1, 1) := by decide +kernel
theorem dX9_paysOf_38 : decode cX9_paysOf 38 = .ok (.goto 4, 3) := by decide +kernel
theorem dX9_paysOf_41 : decode cX9_paysOf 41 = .ok (.iconst 0, 1) := by decide +kernel
theorem dX9_paysOf_42 : decode cX9_paysOf 42 = .ok (.istore_n 3, 1) := by decide +kernel
theorem dX9_paysOf_43 : decode cX9_paysOf 43 = .ok (.iload_n 3, 1) := by decide +kernel
theorem dX9_paysOf_44 : decode cX9_paysOf 44 = .ok (.ifCond .eq 9, 3) := by decide +kernel
theorem dX9_paysOf_47 : decode cX9_paysOf 47 = .ok (.aload_n 0, 1) := by decide +kernel
theorem dX9_paysOf_48 : decode cX9_paysOf 48 = .ok (.bipush 40, 2) := by decide +kernel
theorem dX9_paysOf_50 : decode cX9_paysOf 50 = .ok (.invokevirtual 302, 3) := by decide +kernel
theorem dX9_paysOf_53 : decode cX9_paysOf 53 = .ok (.aload_n 0, 1) := by decide +kernel
theorem dX9_paysOf_54 : decode cX9_paysOf 54 = .ok (.bipush 11, 2) := by decide +kernel
theorem dX9_paysOf_56 : decode cX9_paysOf 56 = .ok (.invokevirtual 302, 3) := by decide +kernel
theorem dX9_paysOf_59 : decode cX9_paysOf 59 = .ok (.aload_n 0, 1) := by decide +kernel
theorem dX9_paysOf_60 : decode cX9_paysOf 60 = .ok (.iload_n 2, 1) := by decide +kernel
theorem dX9_paysOf_61 : decode cX9_paysOf 61 = .ok (.invokevirtual 308, 3) := by decide +kernel
theorem dX9_paysOf_64 : decode cX9_paysOf 64 = .ok (.iconst 2, 1) := by decide +kernel
theorem dX9_paysOf_65 : decode cX9_paysOf 65 = .ok (.imul, 1) := by decide +kernel
theorem dX9_paysOf_66 : decode cX9_paysOf 66 = .ok (.istore 4, 2) := by decide +kernel
theorem dX9_paysOf_68 : decode cX9_paysOf 68 = .ok (.iload_n 3, 1) := by decide +kernel
theorem dX9_paysOf_69 : decode cX9_paysOf 69 = .ok (.ifCond .eq 14, 3) := by decide +kernel
theorem dX9_paysOf_72 : decode cX9_paysOf 72 = .ok (.iload 4, 2) := by decide +kernel
theorem dX9_paysOf_74 : decode cX9_paysOf 74 = .ok (.aload_n 0, 1) := by decide +kernel
theorem dX9_paysOf_75 : decode cX9_paysOf 75 = .ok (.iconst 1, 1) := by decide +kernel
theorem dX9_paysOf_76 : decode cX9_paysOf 76 = .ok (.invokevirtual 311, 3) := by decide +kernel
theorem dX9_paysOf_79 : decode cX9_paysOf 79 = .ok (.isub, 1) := by decide +kernel
theorem dX9_paysOf_80 : decode cX9_paysOf 80 = .ok (.goto 5, 3) := by decide +kernel
theorem dX9_paysOf_83 : decode cX9_paysOf 83 = .ok (.iload 4, 2) := by decide +kernel
theorem dX9_paysOf_85 : decode cX9_paysOf 85 = .ok (.ireturn, 1) := by decide +kernel
theorem dX9_holdsOf_0 : decode cX9_holdsOf 0 = .ok (.aload_n 0, 1) := by decide +kernel
theorem dX9_holdsOf_1 : decode cX9_holdsOf 1 = .ok (.getfield 299, 3) := by decide +kernel
theorem dX9_holdsOf_4 : decode cX9_holdsOf 4 = .ok (.iconst 5, 1) := by decide +kernel
theorem dX9_holdsOf_5 : decode cX9_holdsOf 5 = .ok (.if_icmp .ne 9, 3) := by decide +kernel
theorem dX9_holdsOf_8 : decode cX9_holdsOf 8 = .ok (.aload_n 0, 1) := by decide +kernel
theorem dX9_holdsOf_9 : decode cX9_holdsOf 9 = .ok (.bipush 60, 2) := by decide +kernel
theorem dX9_holdsOf_11 : decode cX9_holdsOf 11 = .ok (.invokevirtual 302, 3) := by decide +kernel
theorem dX9_holdsOf_14 : decode cX9_holdsOf 14 = .ok (.aload_n 0, 1) := by decide +kernel
theorem dX9_holdsOf_15 : decode cX9_holdsOf 15 = .ok (.getfield 299, 3) := by decide +kernel
theorem dX9_holdsOf_18 : decode cX9_holdsOf 18 = .ok (.iconst 2, 1) := by decide +kernel
theorem dX9_holdsOf_19 : decode cX9_holdsOf 19 = .ok (.if_icmp .eq 11, 3) := by decide +kernel
theorem dX9_holdsOf_22 : decode cX9_holdsOf 22 = .ok (.aload_n 0, 1) := by decide +kernel
theorem dX9_holdsOf_23 : decode cX9_holdsOf 23 = .ok (.getfield 299, 3) := by decide +kernel
theorem dX9_holdsOf_26 : decode cX9_holdsOf 26 = .ok (.iconst 5, 1) := by decide +kernel
theorem dX9_holdsOf_27 : decode cX9_holdsOf 27 = .ok (.if_icmp .ne 7, 3) := by decide +kernel
theorem dX9_holdsOf_30 : decode cX9_holdsOf 30 = .ok (.iconst 1, 1) := by decide +kernel
theorem dX9_holdsOf_31 : decode cX9_holdsOf 31 = .ok (.goto 4, 3) := by decide +kernel
theorem dX9_holdsOf_34 : decode cX9_holdsOf 34 = .ok (.iconst 0, 1) := by decide +kernel
theorem dX9_holdsOf_35 : decode cX9_holdsOf 35 = .ok (.istore_n 2, 1) := by decide +kernel
theorem dX9_holdsOf_36 : decode cX9_holdsOf 36 = .ok (.iload_n 2, 1) := by decide +kernel
theorem dX9_holdsOf_37 : decode cX9_holdsOf 37 = .ok (.ifCond .eq 9, 3) := by decide +kernel
theorem dX9_holdsOf_40 : decode cX9_holdsOf 40 = .ok (.aload_n 0, 1) := by decide +kernel
theorem dX9_holdsOf_41 : decode cX9_holdsOf 41 = .ok (.bipush 30, 2) := by decide +kernel
theorem dX9_holdsOf_43 : decode cX9_holdsOf 43 = .ok (.invokevirtual 302, 3) := by decide +kernel
theorem dX9_holdsOf_46 : decode cX9_holdsOf 46 = .ok (.aload_n 0, 1) := by decide +kernel
theorem dX9_holdsOf_47 : decode cX9_holdsOf 47 = .ok (.bipush 12, 2) := by decide +kernel
theorem dX9_holdsOf_49 : decode cX9_holdsOf 49 = .ok (.invokevirtual 302, 3) := by decide +kernel
theorem dX9_holdsOf_52 : decode cX9_holdsOf 52 = .ok (.iload_n 2, 1) := by decide +kernel
theorem dX9_holdsOf_53 : decode cX9_holdsOf 53 = .ok (.ifCond .eq 13, 3) := by decide +kernel
theorem dX9_holdsOf_56 : decode cX9_holdsOf 56 = .ok (.iload_n 1, 1) := by decide +kernel
theorem dX9_holdsOf_57 : decode cX9_holdsOf 57 = .ok (.aload_n 0, 1) := by decide +kernel
theorem dX9_holdsOf_58 : decode cX9_holdsOf 58 = .ok (.getfield 314, 3) := by decide +kernel
theorem dX9_holdsOf_61 : decode cX9_holdsOf 61 = .ok (.isub, 1) := by decide +kernel
theorem dX9_holdsOf_62 : decode cX9_holdsOf 62 = .ok (.ineg, 1) := by decide +kernel
theorem dX9_holdsOf_63 : decode cX9_holdsOf 63 = .ok (.goto 9, 3) := by decide +kernel
theorem dX9_holdsOf_66 : decode cX9_holdsOf 66 = .ok (.iload_n 1, 1) := by decide +kernel
theorem dX9_holdsOf_67 : decode cX9_holdsOf 67 = .ok (.aload_n 0, 1) := by decide +kernel
theorem dX9_holdsOf_68 : decode cX9_holdsOf 68 = .ok (.getfield 314, 3) := by decide +kernel
theorem dX9_holdsOf_71 : decode cX9_holdsOf 71 = .ok (.isub, 1) := by decide +kernel
theorem dX9_holdsOf_72 : decode cX9_holdsOf 72 = .ok (.istore_n 3, 1) := by decide +kernel
theorem dX9_holdsOf_73 : decode cX9_holdsOf 73 = .ok (.aload_n 0, 1) := by decide +kernel
theorem dX9_holdsOf_74 : decode cX9_holdsOf 74 = .ok (.getfield 299, 3) := by decide +kernel
theorem dX9_holdsOf_77 : decode cX9_holdsOf 77 = .ok (.iconst 5, 1) := by decide +kernel
theorem dX9_holdsOf_78 : decode cX9_holdsOf 78 = .ok (.if_icmp .ne 12, 3) := by decide +kernel
theorem dX9_holdsOf_81 : decode cX9_holdsOf 81 = .ok (.iload_n 3, 1) := by decide +kernel
theorem dX9_holdsOf_82 : decode cX9_holdsOf 82 = .ok (.aload_n 0, 1) := by decide +kernel
theorem dX9_holdsOf_83 : decode cX9_holdsOf 83 = .ok (.getfield 305, 3) := by decide +kernel
theorem dX9_holdsOf_86 : decode cX9_holdsOf 86 = .ok (.ixor, 1) := by decide +kernel
theorem dX9_holdsOf_87 : decode cX9_holdsOf 87 = .ok (.goto 4, 3) := by decide +kernel
theorem dX9_holdsOf_90 : decode cX9_holdsOf 90 = .ok (.iload_n 3, 1) := by decide +kernel
theorem dX9_holdsOf_91 : decode cX9_holdsOf 91 = .ok (.ireturn, 1) := by decide +kernel
theorem dX9_plainTells_0 : decode cX9_plainTells 0 = .ok (.aload_n 0, 1) := by decide +kernel
theorem dX9_plainTells_1 : decode cX9_plainTells 1 = .ok (.bipush 13, 2) := by decide +kernel
theorem dX9_plainTells_3 : decode cX9_plainTells 3 = .ok (.invokevirtual 302, 3) := by decide +kernel
theorem dX9_plainTells_6 : decode cX9_plainTells 6 = .ok (.aload_n 0, 1) := by decide +kernel
theorem dX9_plainTells_7 : decode cX9_plainTells 7 = .ok (.iload_n 1, 1) := by decide +kernel
theorem dX9_plainTells_8 : decode cX9_plainTells 8 = .ok (.invokevirtual 317, 3) := by decide +kernel
theorem dX9_plainTells_11 : decode cX9_plainTells 11 = .ok (.istore_n 2, 1) := by decide +kernel
theorem dX9_plainTells_12 : decode cX9_plainTells 12 = .ok (.iload_n 2, 1) := by decide +kernel
theorem dX9_plainTells_13 : decode cX9_plainTells 13 = .ok (.aload_n 0, 1) := by decide +kernel
theorem dX9_plainTells_14 : decode cX9_plainTells 14 = .ok (.iload_n 1, 1) := by decide +kernel
theorem dX9_plainTells_15 : decode cX9_plainTells 15 = .ok (.invokevirtual 311, 3) := by decide +kernel
theorem dX9_plainTells_18 : decode cX9_plainTells 18 = .ok (.ixor, 1) := by decide +kernel
theorem dX9_plainTells_19 : decode cX9_plainTells 19 = .ok (.ireturn, 1) := by decide +kernel
theorem dX9_tellsOf_0 : decode cX9_tellsOf 0 = .ok (.aload_n 0, 1) := by decide +kernel
theorem dX9_tellsOf_1 : decode cX9_tellsOf 1 = .ok (.getfield 299, 3) := by decide +kernel
theorem dX9_tellsOf_4 : decode cX9_tellsOf 4 = .ok (.iconst 5, 1) := by decide +kernel
theorem dX9_tellsOf_5 : decode cX9_tellsOf 5 = .ok (.if_icmp .ne 23, 3) := by decide +kernel
theorem dX9_tellsOf_8 : decode cX9_tellsOf 8 = .ok (.aload_n 0, 1) := by decide +kernel
theorem dX9_tellsOf_9 : decode cX9_tellsOf 9 = .ok (.bipush 61, 2) := by decide +kernel
theorem dX9_tellsOf_11 : decode cX9_tellsOf 11 = .ok (.invokevirtual 302, 3) := by decide +kernel
theorem dX9_tellsOf_14 : decode cX9_tellsOf 14 = .ok (.aload_n 0, 1) := by decide +kernel
theorem dX9_tellsOf_15 : decode cX9_tellsOf 15 = .ok (.iload_n 1, 1) := by decide +kernel
theorem dX9_tellsOf_16 : decode cX9_tellsOf 16 = .ok (.invokevirtual 317, 3) := by decide +kernel
theorem dX9_tellsOf_19 : decode cX9_tellsOf 19 = .ok (.istore_n 2, 1) := by decide +kernel
theorem dX9_tellsOf_20 : decode cX9_tellsOf 20 = .ok (.iload_n 2, 1) := by decide +kernel
theorem dX9_tellsOf_21 : decode cX9_tellsOf 21 = .ok (.aload_n 0, 1) := by decide +kernel
theorem dX9_tellsOf_22 : decode cX9_tellsOf 22 = .ok (.iload_n 1, 1) := by decide +kernel
theorem dX9_tellsOf_23 : decode cX9_tellsOf 23 = .ok (.invokevirtual 320, 3) := by decide +kernel
theorem dX9_tellsOf_26 : decode cX9_tellsOf 26 = .ok (.isub, 1) := by decide +kernel
theorem dX9_tellsOf_27 : decode cX9_tellsOf 27 = .ok (.ireturn, 1) := by decide +kernel
theorem dX9_tellsOf_28 : decode cX9_tellsOf 28 = .ok (.aload_n 0, 1) := by decide +kernel
theorem dX9_tellsOf_29 : decode cX9_tellsOf 29 = .ok (.getfield 299, 3) := by decide +kernel
theorem dX9_tellsOf_32 : decode cX9_tellsOf 32 = .ok (.iconst 4, 1) := by decide +kernel
theorem dX9_tellsOf_33 : decode cX9_tellsOf 33 = .ok (.if_icmp .ne 23, 3) := by decide +kernel
theorem dX9_tellsOf_36 : decode cX9_tellsOf 36 = .ok (.aload_n 0, 1) := by decide +kernel
theorem dX9_tellsOf_37 : decode cX9_tellsOf 37 = .ok (.bipush 50, 2) := by decide +kernel
theorem dX9_tellsOf_39 : decode cX9_tellsOf 39 = .ok (.invokevirtual 302, 3) := by decide +kernel
theorem dX9_tellsOf_42 : decode cX9_tellsOf 42 = .ok (.aload_n 0, 1) := by decide +kernel
theorem dX9_tellsOf_43 : decode cX9_tellsOf 43 = .ok (.iload_n 1, 1) := by decide +kernel
theorem dX9_tellsOf_44 : decode cX9_tellsOf 44 = .ok (.invokevirtual 320, 3) := by decide +kernel
theorem dX9_tellsOf_47 : decode cX9_tellsOf 47 = .ok (.istore_n 2, 1) := by decide +kernel
theorem dX9_tellsOf_48 : decode cX9_tellsOf 48 = .ok (.iload_n 2, 1) := by decide +kernel
theorem dX9_tellsOf_49 : decode cX9_tellsOf 49 = .ok (.aload_n 0, 1) := by decide +kernel
theorem dX9_tellsOf_50 : decode cX9_tellsOf 50 = .ok (.iconst 2, 1) := by decide +kernel
theorem dX9_tellsOf_51 : decode cX9_tellsOf 51 = .ok (.invokevirtual 308, 3) := by decide +kernel
theorem dX9_tellsOf_54 : decode cX9_tellsOf 54 = .ok (.isub, 1) := by decide +kernel
theorem dX9_tellsOf_55 : decode cX9_tellsOf 55 = .ok (.ireturn, 1) := by decide +kernel
theorem dX9_tellsOf_56 : decode cX9_tellsOf 56 = .ok (.aload_n 0, 1) := by decide +kernel
theorem dX9_tellsOf_57 : decode cX9_tellsOf 57 = .ok (.iload_n 1, 1) := by decide +kernel
theorem dX9_tellsOf_58 : decode cX9_tellsOf 58 = .ok (.invokevirtual 320, 3) := by decide +kernel
theorem dX9_tellsOf_61 : decode cX9_tellsOf 61 = .ok (.ireturn, 1) := by decide +kernel
theorem dX9_voice_0 : decode cX9_voice 0 = .ok (.aload_n 0, 1) := by decide +kernel
theorem dX9_voice_1 : decode cX9_voice 1 = .ok (.iload_n 1, 1) := by decide +kernel
theorem dX9_voice_2 : decode cX9_voice 2 = .ok (.invokevirtual 227, 3) := by decide +kernel
theorem dX9_voice_5 : decode cX9_voice 5 = .ok (.ifCond .eq 12, 3) := by decide +kernel
theorem dX9_voice_8 : decode cX9_voice 8 = .ok (.iload_n 2, 1) := by decide +kernel
theorem dX9_voice_9 : decode cX9_voice 9 = .ok (.iconst 0, 1) := by decide +kernel
theorem dX9_voice_10 : decode cX9_voice 10 = .ok (.iconst 3, 1) := by decide +kernel
theorem dX9_voice_11 : decode cX9_voice 11 = .ok (.invokestatic 76, 3) := by decide +kernel
theorem dX9_voice_14 : decode cX9_voice 14 = .ok (.ifCond .ne 10, 3) := by decide +kernel
theorem dX9_voice_17 : decode cX9_voice 17 = .ok (.aload_n 0, 1) := by decide +kernel
theorem dX9_voice_18 : decode cX9_voice 18 = .ok (.ldc 80, 2) := by decide +kernel
theorem dX9_voice_20 : decode cX9_voice 20 = .ok (.invokevirtual 81, 3) := by decide +kernel
theorem dX9_voice_23 : decode cX9_voice 23 = .ok (.ireturn, 1) := by decide +kernel
theorem dX9_voice_24 : decode cX9_voice 24 = .ok (.aload_n 0, 1) := by decide +kernel
theorem dX9_voice_25 : decode cX9_voice 25 = .ok (.iconst 0, 1) := by decide +kernel
theorem dX9_voice_26 : decode cX9_voice 26 = .ok (.putfield 296, 3) := by decide +kernel
theorem dX9_voice_29 : decode cX9_voice 29 = .ok (.aload_n 0, 1) := by decide +kernel
theorem dX9_voice_30 : decode cX9_voice 30 = .ok (.aload_n 0, 1) := by decide +kernel
theorem dX9_voice_31 : decode cX9_voice 31 = .ok (.iload_n 1, 1) := by decide +kernel
theorem dX9_voice_32 : decode cX9_voice 32 = .ok (.iconst 0, 1) := by decide +kernel
theorem dX9_voice_33 : decode cX9_voice 33 = .ok (.invokevirtual 179, 3) := by decide +kernel
theorem dX9_voice_36 : decode cX9_voice 36 = .ok (.putfield 299, 3) := by decide +kernel
theorem dX9_voice_39 : decode cX9_voice 39 = .ok (.aload_n 0, 1) := by decide +kernel
theorem dX9_voice_40 : decode cX9_voice 40 = .ok (.iload_n 1, 1) := by decide +kernel
theorem dX9_voice_41 : decode cX9_voice 41 = .ok (.putfield 305, 3) := by decide +kernel
theorem dX9_voice_44 : decode cX9_voice 44 = .ok (.aload_n 0, 1) := by decide +kernel
theorem dX9_voice_45 : decode cX9_voice 45 = .ok (.aload_n 0, 1) := by decide +kernel
theorem dX9_voice_46 : decode cX9_voice 46 = .ok (.iload_n 1, 1) := by decide +kernel
theorem dX9_voice_47 : decode cX9_voice 47 = .ok (.iconst 1, 1) := by decide +kernel
theorem dX9_voice_48 : decode cX9_voice 48 = .ok (.invokevirtual 179, 3) := by decide +kernel
theorem dX9_voice_51 : decode cX9_voice 51 = .ok (.putfield 314, 3) := by decide +kernel
theorem dX9_voice_54 : decode cX9_voice 54 = .ok (.iload_n 2, 1) := by decide +kernel
theorem dX9_voice_55 : decode cX9_voice 55 = .ok (.ifCond .ne 11, 3) := by decide +kernel
theorem dX9_voice_58 : decode cX9_voice 58 = .ok (.aload_n 0, 1) := by decide +kernel
theorem dX9_voice_59 : decode cX9_voice 59 = .ok (.iload_n 3, 1) := by decide +kernel
theorem dX9_voice_60 : decode cX9_voice 60 = .ok (.invokevirtual 308, 3) := by decide +kernel
theorem dX9_voice_63 : decode cX9_voice 63 = .ok (.goto 34, 3) := by decide +kernel
theorem dX9_voice_66 : decode cX9_voice 66 = .ok (.iload_n 2, 1) := by decide +kernel
theorem dX9_voice_67 : decode cX9_voice 67 = .ok (.iconst 1, 1) := by decide +kernel
theorem dX9_voice_68 : decode cX9_voice 68 = .ok (.if_icmp .ne 11, 3) := by decide +kernel
theorem dX9_voice_71 : decode cX9_voice 71 = .ok (.aload_n 0, 1) := by decide +kernel
theorem dX9_voice_72 : decode cX9_voice 72 = .ok (.iload_n 3, 1) := by decide +kernel
theorem dX9_voice_73 : decode cX9_voice 73 = .ok (.invokevirtual 317, 3) := by decide +kernel
theorem dX9_voice_76 : decode cX9_voice 76 = .ok (.goto 21, 3) := by decide +kernel
theorem dX9_voice_79 : decode cX9_voice 79 = .ok (.iload_n 2, 1) := by decide +kernel
theorem dX9_voice_80 : decode cX9_voice 80 = .ok (.iconst 2, 1) := by decide +kernel
theorem dX9_voice_81 : decode cX9_voice 81 = .ok (.if_icmp .ne 11, 3) := by decide +kernel
theorem dX9_voice_84 : decode cX9_voice 84 = .ok (.aload_n 0, 1) := by decide +kernel
theorem dX9_voice_85 : decode cX9_voice 85 = .ok (.iload_n 3, 1) := by decide +kernel
theorem dX9_voice_86 : decode cX9_voice 86 = .ok (.invokevirtual 311, 3) := by decide +kernel
theorem dX9_voice_89 : decode cX9_voice 89 = .ok (.goto 8, 3) := by decide +kernel
theorem dX9_voice_92 : decode cX9_voice 92 = .ok (.aload_n 0, 1) := by decide +kernel
theorem dX9_voice_93 : decode cX9_voice 93 = .ok (.iload_n 3, 1) := by decide +kernel
theorem dX9_voice_94 : decode cX9_voice 94 = .ok (.invokevirtual 323, 3) := by decide +kernel
theorem dX9_voice_97 : decode cX9_voice 97 = .ok (.ireturn, 1) := by decide +kernel
theorem dX9_trace_0 : decode cX9_trace 0 = .ok (.iload_n 1, 1) := by decide +kernel
theorem dX9_trace_1 : decode cX9_trace 1 = .ok (.iconst 0, 1) := by decide +kernel
theorem dX9_trace_2 : decode cX9_trace 2 = .ok (.aload_n 0, 1) := by decide +kernel
theorem dX9_trace_3 : decode cX9_trace 3 = .ok (.getfield 296, 3) := by decide +kernel
theorem dX9_trace_6 : decode cX9_trace 6 = .ok (.iconst 1, 1) := by decide +kernel
theorem dX9_trace_7 : decode cX9_trace 7 = .ok (.isub, 1) := by decide +kernel
theorem dX9_trace_8 : decode cX9_trace 8 = .ok (.invokestatic 76, 3) := by decide +kernel
theorem dX9_trace_11 : decode cX9_trace 11 = .ok (.ifCond .eq 12, 3) := by decide +kernel
theorem dX9_trace_14 : decode cX9_trace 14 = .ok (.aload_n 0, 1) := by decide +kernel
theorem dX9_trace_15 : decode cX9_trace 15 = .ok (.getfield 47, 3) := by decide +kernel
theorem dX9_trace_18 : decode cX9_trace 18 = .ok (.iload_n 1, 1) := by decide +kernel
theorem dX9_trace_19 : decode cX9_trace 19 = .ok (.iaload, 1) := by decide +kernel
theorem dX9_trace_20 : decode cX9_trace 20 = .ok (.goto 10, 3) := by decide +kernel
theorem dX9_trace_23 : decode cX9_trace 23 = .ok (.aload_n 0, 1) := by decide +kernel
theorem dX9_trace_24 : decode cX9_trace 24 = .ok (.ldc_w 268, 3) := by decide +kernel
theorem dX9_trace_27 : decode cX9_trace 27 = .ok (.invokevirtual 81, 3) := by decide +kernel
theorem dX9_trace_30 : decode cX9_trace 30 = .ok (.ireturn, 1) := by decide +kernel
theorem dX9_isSheet_0 : decode cX9_isSheet 0 = .ok (.iload_n 0, 1) := by decide +kernel
theorem dX9_isSheet_1 : decode cX9_isSheet 1 = .ok (.iconst 0, 1) := by decide +kernel
theorem dX9_isSheet_2 : decode cX9_isSheet 2 = .ok (.iconst 3, 1) := by decide +kernel
theorem dX9_isSheet_3 : decode cX9_isSheet 3 = .ok (.invokestatic 76, 3) := by decide +kernel
theorem dX9_isSheet_6 : decode cX9_isSheet 6 = .ok (.ireturn, 1) := by decide +kernel
theorem dX9_sheet_0 : decode cX9_sheet 0 = .ok (.iload_n 1, 1) := by decide +kernel
theorem dX9_sheet_1 : decode cX9_sheet 1 = .ok (.invokestatic 287, 3) := by decide +kernel
theorem dX9_sheet_4 : decode cX9_sheet 4 = .ok (.ifCond .eq 25, 3) := by decide +kernel
theorem dX9_sheet_7 : decode cX9_sheet 7 = .ok (.iload_n 2, 1) := by decide +kernel
theorem dX9_sheet_8 : decode cX9_sheet 8 = .ok (.ifCond .eq 28, 3) := by decide +kernel
theorem dX9_sheet_11 : decode cX9_sheet 11 = .ok (.iload_n 2, 1) := by decide +kernel
theorem dX9_sheet_12 : decode cX9_sheet 12 = .ok (.bipush 8, 2) := by decide +kernel
theorem dX9_sheet_14 : decode cX9_sheet 14 = .ok (.if_icmp .eq 22, 3) := by decide +kernel
theorem dX9_sheet_17 : decode cX9_sheet 17 = .ok (.iload_n 2, 1) := by decide +kernel
theorem dX9_sheet_18 : decode cX9_sheet 18 = .ok (.bipush 16, 2) := by decide +kernel
theorem dX9_sheet_20 : decode cX9_sheet 20 = .ok (.if_icmp .eq 16, 3) := by decide +kernel
theorem dX9_sheet_23 : decode cX9_sheet 23 = .ok (.iload_n 2, 1) := by decide +kernel
theorem dX9_sheet_24 : decode cX9_sheet 24 = .ok (.bipush 32, 2) := by decide +kernel
theorem dX9_sheet_26 : decode cX9_sheet 26 = .ok (.if_icmp .eq 10, 3) := by decide +kernel
theorem dX9_sheet_29 : decode cX9_sheet 29 = .ok (.aload_n 0, 1) := by decide +kernel
theorem dX9_sheet_30 : decode cX9_sheet 30 = .ok (.ldc 80, 2) := by decide +kernel
theorem dX9_sheet_32 : decode cX9_sheet 32 = .ok (.invokevirtual 81, 3) := by decide +kernel
theorem dX9_sheet_35 : decode cX9_sheet 35 = .ok (.ireturn, 1) := by decide +kernel
theorem dX9_sheet_36 : decode cX9_sheet 36 = .ok (.iload_n 2, 1) := by decide +kernel
theorem dX9_sheet_37 : decode cX9_sheet 37 = .ok (.ifCond .eq 14, 3) := by decide +kernel
theorem dX9_sheet_40 : decode cX9_sheet 40 = .ok (.iload_n 3, 1) := by decide +kernel
theorem dX9_sheet_41 : decode cX9_sheet 41 = .ok (.ifCond .ge 10, 3) := by decide +kernel
theorem dX9_sheet_44 : decode cX9_sheet 44 = .ok (.aload_n 0, 1) := by decide +kernel
theorem dX9_sheet_45 : decode cX9_sheet 45 = .ok (.ldc 242, 2) := by decide +kernel
theorem dX9_sheet_47 : decode cX9_sheet 47 = .ok (.invokevirtual 81, 3) := by decide +kernel
theorem dX9_sheet_50 : decode cX9_sheet 50 = .ok (.ireturn, 1) := by decide +kernel
theorem dX9_sheet_51 : decode cX9_sheet 51 = .ok (.iload_n 2, 1) := by decide +kernel
theorem dX9_sheet_52 : decode cX9_sheet 52 = .ok (.ifCond .eq 16, 3) := by decide +kernel
theorem dX9_sheet_55 : decode cX9_sheet 55 = .ok (.iload_n 3, 1) := by decide +kernel
theorem dX9_sheet_56 : decode cX9_sheet 56 = .ok (.bipush 40, 2) := by decide +kernel
theorem dX9_sheet_58 : decode cX9_sheet 58 = .ok (.if_icmp .le 10, 3) := by decide +kernel
theorem dX9_sheet_61 : decode cX9_sheet 61 = .ok (.aload_n 0, 1) := by decide +kernel
theorem dX9_sheet_62 : decode cX9_sheet 62 = .ok (.ldc 80, 2) := by decide +kernel
theorem dX9_sheet_64 : decode cX9_sheet 64 = .ok (.invokevirtual 81, 3) := by decide +kernel
theorem dX9_sheet_67 : decode cX9_sheet 67 = .ok (.ireturn, 1) := by decide +kernel
theorem dX9_sheet_68 : decode cX9_sheet 68 = .ok (.aload_n 0, 1) := by decide +kernel
theorem dX9_sheet_69 : decode cX9_sheet 69 = .ok (.getfield 50, 3) := by decide +kernel
theorem dX9_sheet_72 : decode cX9_sheet 72 = .ok (.iload_n 1, 1) := by decide +kernel
theorem dX9_sheet_73 : decode cX9_sheet 73 = .ok (.iload_n 2, 1) := by decide +kernel
theorem dX9_sheet_74 : decode cX9_sheet 74 = .ok (.iastore, 1) := by decide +kernel
theorem dX9_sheet_75 : decode cX9_sheet 75 = .ok (.aload_n 0, 1) := by decide +kernel
theorem dX9_sheet_76 : decode cX9_sheet 76 = .ok (.getfield 53, 3) := by decide +kernel
theorem dX9_sheet_79 : decode cX9_sheet 79 = .ok (.iload_n 1, 1) := by decide +kernel
theorem dX9_sheet_80 : decode cX9_sheet 80 = .ok (.iload_n 2, 1) := by decide +kernel
theorem dX9_sheet_81 : decode cX9_sheet 81 = .ok (.ifCond .ne 7, 3) := by decide +kernel
theorem dX9_sheet_84 : decode cX9_sheet 84 = .ok (.iconst 0, 1) := by decide +kernel
theorem dX9_sheet_85 : decode cX9_sheet 85 = .ok (.goto 4, 3) := by decide +kernel
theorem dX9_sheet_88 : decode cX9_sheet 88 = .ok (.iload_n 3, 1) := by decide +kernel
theorem dX9_sheet_89 : decode cX9_sheet 89 = .ok (.iastore, 1) := by decide +kernel
theorem dX9_sheet_90 : decode cX9_sheet 90 = .ok (.iconst 0, 1) := by decide +kernel
theorem dX9_sheet_91 : decode cX9_sheet 91 = .ok (.istore 4, 2) := by decide +kernel
theorem dX9_sheet_93 : decode cX9_sheet 93 = .ok (.iload 4, 2) := by decide +kernel
theorem dX9_sheet_95 : decode cX9_sheet 95 = .ok (.bipush 40, 2) := by decide +kernel
theorem dX9_sheet_97 : decode cX9_sheet 97 = .ok (.if_icmp .ge 22, 3) := by decide +kernel
theorem dX9_sheet_100 : decode cX9_sheet 100 = .ok (.aload_n 0, 1) := by decide +kernel
theorem dX9_sheet_101 : decode cX9_sheet 101 = .ok (.getfield 56, 3) := by decide +kernel
theorem dX9_sheet_104 : decode cX9_sheet 104 = .ok (.bipush 40, 2) := by decide +kernel
theorem dX9_sheet_106 : decode cX9_sheet 106 = .ok (.iload_n 1, 1) := by decide +kernel
theorem dX9_sheet_107 : decode cX9_sheet 107 = .ok (.imul, 1) := by decide +kernel
theorem dX9_sheet_108 : decode cX9_sheet 108 = .ok (.iload 4, 2) := by decide +kernel
theorem dX9_sheet_110 : decode cX9_sheet 110 = .ok (.iadd, 1) := by decide +kernel
theorem dX9_sheet_111 : decode cX9_sheet 111 = .ok (.iconst 0, 1) := by decide +kernel
theorem dX9_sheet_112 : decode cX9_sheet 112 = .ok (.iastore, 1) := by decide +kernel
theorem dX9_sheet_113 : decode cX9_sheet 113 = .ok (.iinc 4 1, 3) := by decide +kernel
theorem dX9_sheet_116 : decode cX9_sheet 116 = .ok (.goto (-23), 3) := by decide +kernel
theorem dX9_sheet_119 : decode cX9_sheet 119 = .ok (.iconst 1, 1) := by decide +kernel
theorem dX9_sheet_120 : decode cX9_sheet 120 = .ok (.ireturn, 1) := by decide +kernel
theorem dX9_put_0 : decode cX9_put 0 = .ok (.iload_n 1, 1) := by decide +kernel
theorem dX9_put_1 : decode cX9_put 1 = .ok (.invokestatic 287, 3) := by decide +kernel
theorem dX9_put_4 : decode cX9_put 4 = .ok (.ifCond .ne 10, 3) := by decide +kernel
theorem dX9_put_7 : decode cX9_put 7 = .ok (.aload_n 0, 1) := by decide +kernel
theorem dX9_put_8 : decode cX9_put 8 = .ok (.ldc 80, 2) := by decide +kernel
theorem dX9_put_10 : decode cX9_put 10 = .ok (.invokevirtual 81, 3) := by decide +kernel
theorem dX9_put_13 : decode cX9_put 13 = .ok (.ireturn, 1) := by decide +kernel
theorem dX9_put_14 : decode cX9_put 14 = .ok (.aload_n 0, 1) := by decide +kernel
theorem dX9_put_15 : decode cX9_put 15 = .ok (.getfield 50, 3) := by decide +kernel
theorem dX9_put_18 : decode cX9_put 18 = .ok (.iload_n 1, 1) := by decide +kernel
theorem dX9_put_19 : decode cX9_put 19 = .ok (.iaload, 1) := by decide +kernel
theorem dX9_put_20 : decode cX9_put 20 = .ok (.ifCond .ne 11, 3) := by decide +kernel
theorem dX9_put_23 : decode cX9_put 23 = .ok (.aload_n 0, 1) := by decide +kernel
theorem dX9_put_24 : decode cX9_put 24 = .ok (.ldc_w 268, 3) := by decide +kernel
theorem dX9_put_27 : decode cX9_put 27 = .ok (.invokevirtual 81, 3) := by decide +kernel
theorem dX9_put_30 : decode cX9_put 30 = .ok (.ireturn, 1) := by decide +kernel
theorem dX9_put_31 : decode cX9_put 31 = .ok (.iload_n 2, 1) := by decide +kernel
theorem dX9_put_32 : decode cX9_put 32 = .ok (.iconst 0, 1) := by decide +kernel
theorem dX9_put_33 : decode cX9_put 33 = .ok (.aload_n 0, 1) := by decide +kernel
theorem dX9_put_34 : decode cX9_put 34 = .ok (.getfield 53, 3) := by decide +kernel
theorem dX9_put_37 : decode cX9_put 37 = .ok (.iload_n 1, 1) := by decide +kernel
theorem dX9_put_38 : decode cX9_put 38 = .ok (.iaload, 1) := by decide +kernel
theorem dX9_put_39 : decode cX9_put 39 = .ok (.iconst 1, 1) := by decide +kernel
theorem dX9_put_40 : decode cX9_put 40 = .ok (.isub, 1) := by decide +kernel
theorem dX9_put_41 : decode cX9_put 41 = .ok (.invokestatic 76, 3) := by decide +kernel
theorem dX9_put_44 : decode cX9_put 44 = .ok (.ifCond .ne 10, 3) := by decide +kernel
theorem dX9_put_47 : decode cX9_put 47 = .ok (.aload_n 0, 1) := by decide +kernel
theorem dX9_put_48 : decode cX9_put 48 = .ok (.ldc 80, 2) := by decide +kernel
theorem dX9_put_50 : decode cX9_put 50 = .ok (.invokevirtual 81, 3) := by decide +kernel
theorem dX9_put_53 : decode cX9_put 53 = .ok (.ireturn, 1) := by decide +kernel
theorem dX9_put_54 : decode cX9_put 54 = .ok (.aload_n 0, 1) := by decide +kernel
theorem dX9_put_55 : decode cX9_put 55 = .ok (.getfield 56, 3) := by decide +kernel
theorem dX9_put_58 : decode cX9_put 58 = .ok (.bipush 40, 2) := by decide +kernel
theorem dX9_put_60 : decode cX9_put 60 = .ok (.iload_n 1, 1) := by decide +kernel
theorem dX9_put_61 : decode cX9_put 61 = .ok (.imul, 1) := by decide +kernel
theorem dX9_put_62 : decode cX9_put 62 = .ok (.iload_n 2, 1) := by decide +kernel
theorem dX9_put_63 : decode cX9_put 63 = .ok (.iadd, 1) := by decide +kernel
theorem dX9_put_64 : decode cX9_put 64 = .ok (.aload_n 0, 1) := by decide +kernel
theorem dX9_put_65 : decode cX9_put 65 = .ok (.getfield 50, 3) := by decide +kernel
theorem dX9_put_68 : decode cX9_put 68 = .ok (.iload_n 1, 1) := by decide +kernel
theorem dX9_put_69 : decode cX9_put 69 = .ok (.iaload, 1) := by decide +kernel
theorem dX9_put_70 : decode cX9_put 70 = .ok (.bipush 8, 2) := by decide +kernel
theorem dX9_put_72 : decode cX9_put 72 = .ok (.if_icmp .ne 8, 3) := by decide +kernel
theorem dX9_put_75 : decode cX9_put 75 = .ok (.iload_n 3, 1) := by decide +kernel
theorem dX9_put_76 : decode cX9_put 76 = .ok (.i2b, 1) := by decide +kernel
theorem dX9_put_77 : decode cX9_put 77 = .ok (.goto 20, 3) := by decide +kernel
theorem dX9_put_80 : decode cX9_put 80 = .ok (.aload_n 0, 1) := by decide +kernel
theorem dX9_put_81 : decode cX9_put 81 = .ok (.getfield 50, 3) := by decide +kernel
theorem dX9_put_84 : decode cX9_put 84 = .ok (.iload_n 1, 1) := by decide +kernel
theorem dX9_put_85 : decode cX9_put 85 = .ok (.iaload, 1) := by decide +kernel
theorem dX9_put_86 : decode cX9_put 86 = .ok (.bipush 16, 2) := by decide +kernel
theorem dX9_put_88 : decode cX9_put 88 = .ok (.if_icmp .ne 8, 3) := by decide +kernel
theorem dX9_put_91 : decode cX9_put 91 = .ok (.iload_n 3, 1) := by decide +kernel
theorem dX9_put_92 : decode cX9_put 92 = .ok (.i2s, 1) := by decide +kernel
theorem dX9_put_93 : decode cX9_put 93 = .ok (.goto 4, 3) := by decide +kernel
theorem dX9_put_96 : decode cX9_put 96 = .ok (.iload_n 3, 1) := by decide +kernel
theorem dX9_put_97 : decode cX9_put 97 = .ok (.iastore, 1) := by decide +kernel
theorem dX9_put_98 : decode cX9_put 98 = .ok (.iconst 1, 1) := by decide +kernel
theorem dX9_put_99 : decode cX9_put 99 = .ok (.ireturn, 1) := by decide +kernel
theorem dX9_move_0 : decode cX9_move 0 = .ok (.iload_n 1, 1) := by decide +kernel
theorem dX9_move_1 : decode cX9_move 1 = .ok (.invokestatic 287, 3) := by decide +kernel
theorem dX9_move_4 : decode cX9_move 4 = .ok (.ifCond .eq 10, 3) := by decide +kernel
theorem dX9_move_7 : decode cX9_move 7 = .ok (.iload_n 3, 1) := by decide +kernel
theorem dX9_move_8 : decode cX9_move 8 = .ok (.invokestatic 287, 3) := by decide +kernel
theorem dX9_move_11 : decode cX9_move 11 = .ok (.ifCond .ne 10, 3) := by decide +kernel
theorem dX9_move_14 : decode cX9_move 14 = .ok (.aload_n 0, 1) := by decide +kernel
theorem dX9_move_15 : decode cX9_move 15 = .ok (.ldc 80, 2) := by decide +kernel
theorem dX9_move_17 : decode cX9_move 17 = .ok (.invokevirtual 81, 3) := by decide +kernel
theorem dX9_move_20 : decode cX9_move 20 = .ok (.ireturn, 1) := by decide +kernel
theorem dX9_move_21 : decode cX9_move 21 = .ok (.aload_n 0, 1) := by decide +kernel
theorem dX9_move_22 : decode cX9_move 22 = .ok (.getfield 50, 3) := by decide +kernel
theorem dX9_move_25 : decode cX9_move 25 = .ok (.iload_n 1, 1) := by decide +kernel
theorem dX9_move_26 : decode cX9_move 26 = .ok (.iaload, 1) := by decide +kernel
theorem dX9_move_27 : decode cX9_move 27 = .ok (.ifCond .eq 12, 3) := by decide +kernel
theorem dX9_move_30 : decode cX9_move 30 = .ok (.aload_n 0, 1) := by decide +kernel
theorem dX9_move_31 : decode cX9_move 31 = .ok (.getfield 50, 3) := by decide +kernel
theorem dX9_move_34 : decode cX9_move 34 = .ok (.iload_n 3, 1) := by decide +kernel
theorem dX9_move_35 : decode cX9_move 35 = .ok (.iaload, 1) := by decide +kernel
theorem dX9_move_36 : decode cX9_move 36 = .ok (.ifCond .ne 11, 3) := by decide +kernel
theorem dX9_move_39 : decode cX9_move 39 = .ok (.aload_n 0, 1) := by decide +kernel
theorem dX9_move_40 : decode cX9_move 40 = .ok (.ldc_w 268, 3) := by decide +kernel
theorem dX9_move_43 : decode cX9_move 43 = .ok (.invokevirtual 81, 3) := by decide +kernel
theorem dX9_move_46 : decode cX9_move 46 = .ok (.ireturn, 1) := by decide +kernel
theorem dX9_move_47 : decode cX9_move 47 = .ok (.aload_n 0, 1) := by decide +kernel
theorem dX9_move_48 : decode cX9_move 48 = .ok (.getfield 50, 3) := by decide +kernel
theorem dX9_move_51 : decode cX9_move 51 = .ok (.iload_n 1, 1) := by decide +kernel
theorem dX9_move_52 : decode cX9_move 52 = .ok (.iaload, 1) := by decide +kernel
theorem dX9_move_53 : decode cX9_move 53 = .ok (.aload_n 0, 1) := by decide +kernel
theorem dX9_move_54 : decode cX9_move 54 = .ok (.getfield 50, 3) := by decide +kernel
theorem dX9_move_57 : decode cX9_move 57 = .ok (.iload_n 3, 1) := by decide +kernel
theorem dX9_move_58 : decode cX9_move 58 = .ok (.iaload, 1) := by decide +kernel
theorem dX9_move_59 : decode cX9_move 59 = .ok (.if_icmp .eq 10, 3) := by decide +kernel
theorem dX9_move_62 : decode cX9_move 62 = .ok (.aload_n 0, 1) := by decide +kernel
theorem dX9_move_63 : decode cX9_move 63 = .ok (.ldc 234, 2) := by decide +kernel
theorem dX9_move_65 : decode cX9_move 65 = .ok (.invokevirtual 81, 3) := by decide +kernel
theorem dX9_move_68 : decode cX9_move 68 = .ok (.ireturn, 1) := by decide +kernel
theorem dX9_move_69 : decode cX9_move 69 = .ok (.iload 5, 2) := by decide +kernel
theorem dX9_move_71 : decode cX9_move 71 = .ok (.ifCond .lt 47, 3) := by decide +kernel
theorem dX9_move_74 : decode cX9_move 74 = .ok (.iload_n 2, 1) := by decide +kernel
theorem dX9_move_75 : decode cX9_move 75 = .ok (.ifCond .lt 43, 3) := by decide +kernel
theorem dX9_move_78 : decode cX9_move 78 = .ok (.iload 4, 2) := by decide +kernel
theorem dX9_move_80 : decode cX9_move 80 = .ok (.ifCond .lt 38, 3) := by decide +kernel
theorem dX9_move_83 : decode cX9_move 83 = .ok (.iload_n 2, 1) := by decide +kernel
theorem dX9_move_84 : decode cX9_move 84 = .ok (.i2l, 1) := by decide +kernel
theorem dX9_move_85 : decode cX9_move 85 = .ok (.iload 5, 2) := by decide +kernel
theorem dX9_move_87 : decode cX9_move 87 = .ok (.i2l, 1) := by decide +kernel
theorem dX9_move_88 : decode cX9_move 88 = .ok (.ladd, 1) := by decide +kernel
theorem dX9_move_89 : decode cX9_move 89 = .ok (.aload_n 0, 1) := by decide +kernel
theorem dX9_move_90 : decode cX9_move 90 = .ok (.getfield 53, 3) := by decide +kernel
theorem dX9_move_93 : decode cX9_move 93 = .ok (.iload_n 1, 1) := by decide +kernel
theorem dX9_move_94 : decode cX9_move 94 = .ok (.iaload, 1) := by decide +kernel
theorem dX9_move_95 : decode cX9_move 95 = .ok (.i2l, 1) := by decide +kernel
theorem dX9_move_96 : decode cX9_move 96 = .ok (.lcmp, 1) := by decide +kernel
theorem dX9_move_97 : decode cX9_move 97 = .ok (.ifCond .gt 21, 3) := by decide +kernel
theorem dX9_move_100 : decode cX9_move 100 = .ok (.iload 4, 2) := by decide +kernel
theorem dX9_move_102 : decode cX9_move 102 = .ok (.i2l, 1) := by decide +kernel
theorem dX9_move_103 : decode cX9_move 103 = .ok (.iload 5, 2) := by decide +kernel
theorem dX9_move_105 : decode cX9_move 105 = .ok (.i2l, 1) := by decide +kernel
theorem dX9_move_106 : decode cX9_move 106 = .ok (.ladd, 1) := by decide +kernel
theorem dX9_move_107 : decode cX9_move 107 = .ok (.aload_n 0, 1) := by decide +kernel
theorem dX9_move_108 : decode cX9_move 108 = .ok (.getfield 53, 3) := by decide +kernel
theorem dX9_move_111 : decode cX9_move 111 = .ok (.iload_n 3, 1) := by decide +kernel
theorem dX9_move_112 : decode cX9_move 112 = .ok (.iaload, 1) := by decide +kernel
theorem dX9_move_113 : decode cX9_move 113 = .ok (.i2l, 1) := by decide +kernel
theorem dX9_move_114 : decode cX9_move 114 = .ok (.lcmp, 1) := by decide +kernel
theorem dX9_move_115 : decode cX9_move 115 = .ok (.ifCond .le 10, 3) := by decide +kernel
theorem dX9_move_118 : decode cX9_move 118 = .ok (.aload_n 0, 1) := by decide +kernel
theorem dX9_move_119 : decode cX9_move 119 = .ok (.ldc 80, 2) := by decide +kernel
theorem dX9_move_121 : decode cX9_move 121 = .ok (.invokevirtual 81, 3) := by decide +kernel
theorem dX9_move_124 : decode cX9_move 124 = .ok (.ireturn, 1) := by decide +kernel
theorem dX9_move_125 : decode cX9_move 125 = .ok (.iconst 0, 1) := by decide +kernel
theorem dX9_move_126 : decode cX9_move 126 = .ok (.istore 6, 2) := by decide +kernel
theorem dX9_move_128 : decode cX9_move 128 = .ok (.iload 6, 2) := by decide +kernel
theorem dX9_move_130 : decode cX9_move 130 = .ok (.iload 5, 2) := by decide +kernel
theorem dX9_move_132 : decode cX9_move 132 = .ok (.if_icmp .ge 30, 3) := by decide +kernel
theorem dX9_move_135 : decode cX9_move 135 = .ok (.aload_n 0, 1) := by decide +kernel
theorem dX9_move_136 : decode cX9_move 136 = .ok (.getfield 59, 3) := by decide +kernel
theorem dX9_move_139 : decode cX9_move 139 = .ok (.iload 6, 2) := by decide +kernel
theorem dX9_move_141 : decode cX9_move 141 = .ok (.aload_n 0, 1) := by decide +kernel
theorem dX9_move_142 : decode cX9_move 142 = .ok (.getfield 56, 3) := by decide +kernel
theorem dX9_move_145 : decode cX9_move 145 = .ok (.bipush 40, 2) := by decide +kernel
theorem dX9_move_147 : decode cX9_move 147 = .ok (.iload_n 1, 1) := by decide +kernel
theorem dX9_move_148 : decode cX9_move 148 = .ok (.imul, 1) := by decide +kernel
theorem dX9_move_149 : decode cX9_move 149 = .ok (.iload_n 2, 1) := by decide +kernel
theorem dX9_move_150 : decode cX9_move 150 = .ok (.iadd, 1) := by decide +kernel
theorem dX9_move_151 : decode cX9_move 151 = .ok (.iload 6, 2) := by decide +kernel
theorem dX9_move_153 : decode cX9_move 153 = .ok (.iadd, 1) := by decide +kernel
theorem dX9_move_154 : decode cX9_move 154 = .ok (.iaload, 1) := by decide +kernel
theorem dX9_move_155 : decode cX9_move 155 = .ok (.iastore, 1) := by decide +kernel
theorem dX9_move_156 : decode cX9_move 156 = .ok (.iinc 6 1, 3) := by decide +kernel
theorem dX9_move_159 : decode cX9_move 159 = .ok (.goto (-31), 3) := by decide +kernel
theorem dX9_move_162 : decode cX9_move 162 = .ok (.iconst 0, 1) := by decide +kernel
theorem dX9_move_163 : decode cX9_move 163 = .ok (.istore 6, 2) := by decide +kernel
theorem dX9_move_165 : decode cX9_move 165 = .ok (.iload 6, 2) := by decide +kernel
theorem dX9_move_167 : decode cX9_move 167 = .ok (.iload 5, 2) := by decide +kernel
theorem dX9_move_169 : decode cX9_move 169 = .ok (.if_icmp .ge 31, 3) := by decide +kernel
theorem dX9_move_172 : decode cX9_move 172 = .ok (.aload_n 0, 1) := by decide +kernel
theorem dX9_move_173 : decode cX9_move 173 = .ok (.getfield 56, 3) := by decide +kernel
theorem dX9_move_176 : decode cX9_move 176 = .ok (.bipush 40, 2) := by decide +kernel
theorem dX9_move_178 : decode cX9_move 178 = .ok (.iload_n 3, 1) := by decide +kernel
theorem dX9_move_179 : decode cX9_move 179 = .ok (.imul, 1) := by decide +kernel
theorem dX9_move_180 : decode cX9_move 180 = .ok (.iload 4, 2) := by decide +kernel
theorem dX9_move_182 : decode cX9_move 182 = .ok (.iadd, 1) := by decide +kernel
theorem dX9_move_183 : decode cX9_move 183 = .ok (.iload 6, 2) := by decide +kernel
theorem dX9_move_185 : decode cX9_move 185 = .ok (.iadd, 1) := by decide +kernel
theorem dX9_move_186 : decode cX9_move 186 = .ok (.aload_n 0, 1) := by decide +kernel
theorem dX9_move_187 : decode cX9_move 187 = .ok (.getfield 59, 3) := by decide +kernel
theorem dX9_move_190 : decode cX9_move 190 = .ok (.iload 6, 2) := by decide +kernel
theorem dX9_move_192 : decode cX9_move 192 = .ok (.iaload, 1) := by decide +kernel
theorem dX9_move_193 : decode cX9_move 193 = .ok (.iastore, 1) := by decide +kernel
theorem dX9_move_194 : decode cX9_move 194 = .ok (.iinc 6 1, 3) := by decide +kernel
theorem dX9_move_197 : decode cX9_move 197 = .ok (.goto (-32), 3) := by decide +kernel
theorem dX9_move_200 : decode cX9_move 200 = .ok (.iload 5, 2) := by decide +kernel
theorem dX9_move_202 : decode cX9_move 202 = .ok (.ireturn, 1) := by decide +kernel
theorem dX9_leases_0 : decode cX9_leases 0 = .ok (.iload_n 1, 1) := by decide +kernel
theorem dX9_leases_1 : decode cX9_leases 1 = .ok (.invokestatic 287, 3) := by decide +kernel
theorem dX9_leases_4 : decode cX9_leases 4 = .ok (.ifCond .ne 10, 3) := by decide +kernel
theorem dX9_leases_7 : decode cX9_leases 7 = .ok (.aload_n 0, 1) := by decide +kernel
theorem dX9_leases_8 : decode cX9_leases 8 = .ok (.ldc 80, 2) := by decide +kernel
theorem dX9_leases_10 : decode cX9_leases 10 = .ok (.invokevirtual 81, 3) := by decide +kernel
theorem dX9_leases_13 : decode cX9_leases 13 = .ok (.ireturn, 1) := by decide +kernel
theorem dX9_leases_14 : decode cX9_leases 14 = .ok (.aload_n 0, 1) := by decide +kernel
theorem dX9_leases_15 : decode cX9_leases 15 = .ok (.getfield 50, 3) := by decide +kernel
theorem dX9_leases_18 : decode cX9_leases 18 = .ok (.iload_n 1, 1) := by decide +kernel
theorem dX9_leases_19 : decode cX9_leases 19 = .ok (.iaload, 1) := by decide +kernel
theorem dX9_leases_20 : decode cX9_leases 20 = .ok (.ifCond .ne 11, 3) := by decide +kernel
theorem dX9_leases_23 : decode cX9_leases 23 = .ok (.aload_n 0, 1) := by decide +kernel
theorem dX9_leases_24 : decode cX9_leases 24 = .ok (.ldc_w 268, 3) := by decide +kernel
theorem dX9_leases_27 : decode cX9_leases 27 = .ok (.invokevirtual 81, 3) := by decide +kernel
theorem dX9_leases_30 : decode cX9_leases 30 = .ok (.ireturn, 1) := by decide +kernel
theorem dX9_leases_31 : decode cX9_leases 31 = .ok (.iconst 0, 1) := by decide +kernel
theorem dX9_leases_32 : decode cX9_leases 32 = .ok (.istore_n 2, 1) := by decide +kernel
theorem dX9_leases_33 : decode cX9_leases 33 = .ok (.iload_n 2, 1) := by decide +kernel
theorem dX9_leases_34 : decode cX9_leases 34 = .ok (.aload_n 0, 1) := by decide +kernel
theorem dX9_leases_35 : decode cX9_leases 35 = .ok (.getfield 53, 3) := by decide +kernel
theorem dX9_leases_38 : decode cX9_leases 38 = .ok (.iload_n 1, 1) := by decide +kernel
theorem dX9_leases_39 : decode cX9_leases 39 = .ok (.iaload, 1) := by decide +kernel
theorem dX9_leases_40 : decode cX9_leases 40 = .ok (.if_icmp .ge 63, 3) := by decide +kernel
theorem dX9_leases_43 : decode cX9_leases 43 = .ok (.aload_n 0, 1) := by decide +kernel
theorem dX9_leases_44 : decode cX9_leases 44 = .ok (.iload_n 2, 1) := by decide +kernel
theorem dX9_leases_45 : decode cX9_leases 45 = .ok (.invokevirtual 227, 3) := by decide +kernel
theorem dX9_leases_48 : decode cX9_leases 48 = .ok (.ifCond .eq 55, 3) := by decide +kernel
theorem dX9_leases_51 : decode cX9_leases 51 = .ok (.aload_n 0, 1) := by decide +kernel
theorem dX9_leases_52 : decode cX9_leases 52 = .ok (.iload_n 2, 1) := by decide +kernel
theorem dX9_leases_53 : decode cX9_leases 53 = .ok (.invokevirtual 239, 3) := by decide +kernel
theorem dX9_leases_56 : decode cX9_leases 56 = .ok (.ifCond .ne 47, 3) := by decide +kernel
theorem dX9_leases_59 : decode cX9_leases 59 = .ok (.aload_n 0, 1) := by decide +kernel
theorem dX9_leases_60 : decode cX9_leases 60 = .ok (.getfield 56, 3) := by decide +kernel
theorem dX9_leases_63 : decode cX9_leases 63 = .ok (.bipush 40, 2) := by decide +kernel
theorem dX9_leases_65 : decode cX9_leases 65 = .ok (.iload_n 1, 1) := by decide +kernel
theorem dX9_leases_66 : decode cX9_leases 66 = .ok (.imul, 1) := by decide +kernel
theorem dX9_leases_67 : decode cX9_leases 67 = .ok (.iload_n 2, 1) := by decide +kernel
theorem dX9_leases_68 : decode cX9_leases 68 = .ok (.iadd, 1) := by decide +kernel
theorem dX9_leases_69 : decode cX9_leases 69 = .ok (.iaload, 1) := by decide +kernel
theorem dX9_leases_70 : decode cX9_leases 70 = .ok (.invokestatic 236, 3) := by decide +kernel
theorem dX9_leases_73 : decode cX9_leases 73 = .ok (.ifCond .eq 30, 3) := by decide +kernel
theorem dX9_leases_76 : decode cX9_leases 76 = .ok (.aload_n 0, 1) := by decide +kernel
theorem dX9_leases_77 : decode cX9_leases 77 = .ok (.getfield 9, 3) := by decide +kernel
theorem dX9_leases_80 : decode cX9_leases 80 = .ok (.iload_n 2, 1) := by decide +kernel
theorem dX9_leases_81 : decode cX9_leases 81 = .ok (.iconst 2, 1) := by decide +kernel
theorem dX9_leases_82 : decode cX9_leases 82 = .ok (.invokestatic 204, 3) := by decide +kernel
theorem dX9_leases_85 : decode cX9_leases 85 = .ok (.aload_n 0, 1) := by decide +kernel
theorem dX9_leases_86 : decode cX9_leases 86 = .ok (.getfield 56, 3) := by decide +kernel
theorem dX9_leases_89 : decode cX9_leases 89 = .ok (.bipush 40, 2) := by decide +kernel
theorem dX9_leases_91 : decode cX9_leases 91 = .ok (.iload_n 1, 1) := by decide +kernel
theorem dX9_leases_92 : decode cX9_leases 92 = .ok (.imul, 1) := by decide +kernel
theorem dX9_leases_93 : decode cX9_leases 93 = .ok (.iload_n 2, 1) := by decide +kernel
theorem dX9_leases_94 : decode cX9_leases 94 = .ok (.iadd, 1) := by decide +kernel
theorem dX9_leases_95 : decode cX9_leases 95 = .ok (.iaload, 1) := by decide +kernel
theorem dX9_leases_96 : decode cX9_leases 96 = .ok (.iastore, 1) := by decide +kernel
theorem dX9_leases_97 : decode cX9_leases 97 = .ok (.iinc 2 1, 3) := by decide +kernel
theorem dX9_leases_100 : decode cX9_leases 100 = .ok (.goto (-67), 3) := by decide +kernel
theorem dX9_leases_103 : decode cX9_leases 103 = .ok (.iload_n 2, 1) := by decide +kernel
theorem dX9_leases_104 : decode cX9_leases 104 = .ok (.ireturn, 1) := by decide +kernel
theorem dX9_judge_0 : decode cX9_judge 0 = .ok (.iload_n 1, 1) := by decide +kernel
theorem dX9_judge_1 : decode cX9_judge 1 = .ok (.invokestatic 287, 3) := by decide +kernel
theorem dX9_judge_4 : decode cX9_judge 4 = .ok (.ifCond .ne 10, 3) := by decide +kernel
theorem dX9_judge_7 : decode cX9_judge 7 = .ok (.aload_n 0, 1) := by decide +kernel
theorem dX9_judge_8 : decode cX9_judge 8 = .ok (.ldc 80, 2) := by decide +kernel
theorem dX9_judge_10 : decode cX9_judge 10 = .ok (.invokevirtual 81, 3) := by decide +kernel
theorem dX9_judge_13 : decode cX9_judge 13 = .ok (.ireturn, 1) := by decide +kernel
theorem dX9_judge_14 : decode cX9_judge 14 = .ok (.aload_n 0, 1) := by decide +kernel
theorem dX9_judge_15 : decode cX9_judge 15 = .ok (.getfield 50, 3) := by decide +kernel
theorem dX9_judge_18 : decode cX9_judge 18 = .ok (.iload_n 1, 1) := by decide +kernel
theorem dX9_judge_19 : decode cX9_judge 19 = .ok (.iaload, 1) := by decide +kernel
theorem dX9_judge_20 : decode cX9_judge 20 = .ok (.ifCond .ne 11, 3) := by decide +kernel
theorem dX9_judge_23 : decode cX9_judge 23 = .ok (.aload_n 0, 1) := by decide +kernel
theorem dX9_judge_24 : decode cX9_judge 24 = .ok (.ldc_w 268, 3) := by decide +kernel
theorem dX9_judge_27 : decode cX9_judge 27 = .ok (.invokevirtual 81, 3) := by decide +kernel
theorem dX9_judge_30 : decode cX9_judge 30 = .ok (.ireturn, 1) := by decide +kernel
theorem dX9_judge_31 : decode cX9_judge 31 = .ok (.iconst 0, 1) := by decide +kernel
theorem dX9_judge_32 : decode cX9_judge 32 = .ok (.istore_n 2, 1) := by decide +kernel
theorem dX9_judge_33 : decode cX9_judge 33 = .ok (.iload_n 2, 1) := by decide +kernel
theorem dX9_judge_34 : decode cX9_judge 34 = .ok (.aload_n 0, 1) := by decide +kernel
theorem dX9_judge_35 : decode cX9_judge 35 = .ok (.getfield 53, 3) := by decide +kernel
theorem dX9_judge_38 : decode cX9_judge 38 = .ok (.iload_n 1, 1) := by decide +kernel
theorem dX9_judge_39 : decode cX9_judge 39 = .ok (.iaload, 1) := by decide +kernel
theorem dX9_judge_40 : decode cX9_judge 40 = .ok (.if_icmp .ge 37, 3) := by decide +kernel
theorem dX9_judge_43 : decode cX9_judge 43 = .ok (.aload_n 0, 1) := by decide +kernel
theorem dX9_judge_44 : decode cX9_judge 44 = .ok (.iload_n 2, 1) := by decide +kernel
theorem dX9_judge_45 : decode cX9_judge 45 = .ok (.invokevirtual 227, 3) := by decide +kernel
theorem dX9_judge_48 : decode cX9_judge 48 = .ok (.ifCond .eq 29, 3) := by decide +kernel
theorem dX9_judge_51 : decode cX9_judge 51 = .ok (.aload_n 0, 1) := by decide +kernel
theorem dX9_judge_52 : decode cX9_judge 52 = .ok (.getfield 56, 3) := by decide +kernel
theorem dX9_judge_55 : decode cX9_judge 55 = .ok (.bipush 40, 2) := by decide +kernel
theorem dX9_judge_57 : decode cX9_judge 57 = .ok (.iload_n 1, 1) := by decide +kernel
theorem dX9_judge_58 : decode cX9_judge 58 = .ok (.imul, 1) := by decide +kernel
theorem dX9_judge_59 : decode cX9_judge 59 = .ok (.iload_n 2, 1) := by decide +kernel
theorem dX9_judge_60 : decode cX9_judge 60 = .ok (.iadd, 1) := by decide +kernel
theorem dX9_judge_61 : decode cX9_judge 61 = .ok (.iaload, 1) := by decide +kernel
theorem dX9_judge_62 : decode cX9_judge 62 = .ok (.aload_n 0, 1) := by decide +kernel
theorem dX9_judge_63 : decode cX9_judge 63 = .ok (.iload_n 2, 1) := by decide +kernel
theorem dX9_judge_64 : decode cX9_judge 64 = .ok (.iconst 3, 1) := by decide +kernel
theorem dX9_judge_65 : decode cX9_judge 65 = .ok (.invokevirtual 179, 3) := by decide +kernel
theorem dX9_judge_68 : decode cX9_judge 68 = .ok (.if_icmp .ne 9, 3) := by decide +kernel
theorem dX9_judge_71 : decode cX9_judge 71 = .ok (.iinc 2 1, 3) := by decide +kernel
theorem dX9_judge_74 : decode cX9_judge 74 = .ok (.goto (-41), 3) := by decide +kernel
theorem dX9_judge_77 : decode cX9_judge 77 = .ok (.iload_n 2, 1) := by decide +kernel
theorem dX9_judge_78 : decode cX9_judge 78 = .ok (.aload_n 0, 1) := by decide +kernel
theorem dX9_judge_79 : decode cX9_judge 79 = .ok (.getfield 53, 3) := by decide +kernel
theorem dX9_judge_82 : decode cX9_judge 82 = .ok (.iload_n 1, 1) := by decide +kernel
theorem dX9_judge_83 : decode cX9_judge 83 = .ok (.iaload, 1) := by decide +kernel
theorem dX9_judge_84 : decode cX9_judge 84 = .ok (.if_icmp .ne 17, 3) := by decide +kernel
theorem dX9_judge_87 : decode cX9_judge 87 = .ok (.iload_n 2, 1) := by decide +kernel
theorem dX9_judge_88 : decode cX9_judge 88 = .ok (.aload_n 0, 1) := by decide +kernel
theorem dX9_judge_89 : decode cX9_judge 89 = .ok (.getfield 9, 3) := by decide +kernel
theorem dX9_judge_92 : decode cX9_judge 92 = .ok (.iconst 1, 1) := by decide +kernel
theorem dX9_judge_93 : decode cX9_judge 93 = .ok (.iaload, 1) := by decide +kernel
theorem dX9_judge_94 : decode cX9_judge 94 = .ok (.if_icmp .ne 7, 3) := by decide +kernel
theorem dX9_judge_97 : decode cX9_judge 97 = .ok (.iconst (-1), 1) := by decide +kernel
theorem dX9_judge_98 : decode cX9_judge 98 = .ok (.goto 4, 3) := by decide +kernel
theorem dX9_judge_101 : decode cX9_judge 101 = .ok (.iload_n 2, 1) := by decide +kernel
theorem dX9_judge_102 : decode cX9_judge 102 = .ok (.ireturn, 1) := by decide +kernel
theorem dX9_image_0 : decode cX9_image 0 = .ok (.aload_n 0, 1) := by decide +kernel
theorem dX9_image_1 : decode cX9_image 1 = .ok (.getfield 9, 3) := by decide +kernel
theorem dX9_image_4 : decode cX9_image 4 = .ok (.aload_n 0, 1) := by decide +kernel
theorem dX9_image_5 : decode cX9_image 5 = .ok (.getfield 13, 3) := by decide +kernel
theorem dX9_image_8 : decode cX9_image 8 = .ok (.invokestatic 72, 3) := by decide +kernel
theorem dX9_image_11 : decode cX9_image 11 = .ok (.aload_n 0, 1) := by decide +kernel
theorem dX9_image_12 : decode cX9_image 12 = .ok (.dup, 1) := by decide +kernel
theorem dX9_image_13 : decode cX9_image 13 = .ok (.getfield 326, 3) := by decide +kernel
theorem dX9_image_16 : decode cX9_image 16 = .ok (.iconst 1, 1) := by decide +kernel
theorem dX9_image_17 : decode cX9_image 17 = .ok (.iadd, 1) := by decide +kernel
theorem dX9_image_18 : decode cX9_image 18 = .ok (.putfield 326, 3) := by decide +kernel
theorem dX9_image_21 : decode cX9_image 21 = .ok (.aload_n 0, 1) := by decide +kernel
theorem dX9_image_22 : decode cX9_image 22 = .ok (.getfield 326, 3) := by decide +kernel
theorem dX9_image_25 : decode cX9_image 25 = .ok (.ireturn, 1) := by decide +kernel
theorem dX9_restore_0 : decode cX9_restore 0 = .ok (.aload_n 0, 1) := by decide +kernel
theorem dX9_restore_1 : decode cX9_restore 1 = .ok (.getfield 326, 3) := by decide +kernel
theorem dX9_restore_4 : decode cX9_restore 4 = .ok (.ifCond .ne 11, 3) := by decide +kernel
theorem dX9_restore_7 : decode cX9_restore 7 = .ok (.aload_n 0, 1) := by decide +kernel
theorem dX9_restore_8 : decode cX9_restore 8 = .ok (.ldc_w 268, 3) := by decide +kernel
theorem dX9_restore_11 : decode cX9_restore 11 = .ok (.invokevirtual 81, 3) := by decide +kernel
theorem dX9_restore_14 : decode cX9_restore 14 = .ok (.ireturn, 1) := by decide +kernel
theorem dX9_restore_15 : decode cX9_restore 15 = .ok (.aload_n 0, 1) := by decide +kernel
theorem dX9_restore_16 : decode cX9_restore 16 = .ok (.getfield 13, 3) := by decide +kernel
theorem dX9_restore_19 : decode cX9_restore 19 = .ok (.aload_n 0, 1) := by decide +kernel
theorem dX9_restore_20 : decode cX9_restore 20 = .ok (.getfield 9, 3) := by decide +kernel
theorem dX9_restore_23 : decode cX9_restore 23 = .ok (.invokestatic 72, 3) := by decide +kernel
theorem dX9_restore_26 : decode cX9_restore 26 = .ok (.aload_n 0, 1) := by decide +kernel
theorem dX9_restore_27 : decode cX9_restore 27 = .ok (.getfield 9, 3) := by decide +kernel
theorem dX9_restore_30 : decode cX9_restore 30 = .ok (.iconst 0, 1) := by decide +kernel
theorem dX9_restore_31 : decode cX9_restore 31 = .ok (.iaload, 1) := by decide +kernel
theorem dX9_restore_32 : decode cX9_restore 32 = .ok (.ireturn, 1) := by decide +kernel
theorem dX9_tell_0 : decode cX9_tell 0 = .ok (.aload_n 0, 1) := by decide +kernel
theorem dX9_tell_1 : decode cX9_tell 1 = .ok (.getfield 9, 3) := by decide +kernel
theorem dX9_tell_4 : decode cX9_tell 4 = .ok (.iconst 4, 1) := by decide +kernel
theorem dX9_tell_5 : decode cX9_tell 5 = .ok (.iaload, 1) := by decide +kernel
theorem dX9_tell_6 : decode cX9_tell 6 = .ok (.bipush 20, 2) := by decide +kernel
theorem dX9_tell_8 : decode cX9_tell 8 = .ok (.if_icmp .ne 10, 3) := by decide +kernel
theorem dX9_tell_11 : decode cX9_tell 11 = .ok (.aload_n 0, 1) := by decide +kernel
theorem dX9_tell_12 : decode cX9_tell 12 = .ok (.ldc 85, 2) := by decide +kernel
theorem dX9_tell_14 : decode cX9_tell 14 = .ok (.invokevirtual 81, 3) := by decide +kernel
theorem dX9_tell_17 : decode cX9_tell 17 = .ok (.ireturn, 1) := by decide +kernel
theorem dX9_tell_18 : decode cX9_tell 18 = .ok (.aload_n 0, 1) := by decide +kernel
theorem dX9_tell_19 : decode cX9_tell 19 = .ok (.getfield 9, 3) := by decide +kernel
theorem dX9_tell_22 : decode cX9_tell 22 = .ok (.bipush 86, 2) := by decide +kernel
theorem dX9_tell_24 : decode cX9_tell 24 = .ok (.aload_n 0, 1) := by decide +kernel
theorem dX9_tell_25 : decode cX9_tell 25 = .ok (.getfield 9, 3) := by decide +kernel
theorem dX9_tell_28 : decode cX9_tell 28 = .ok (.iconst 4, 1) := by decide +kernel
theorem dX9_tell_29 : decode cX9_tell 29 = .ok (.iaload, 1) := by decide +kernel
theorem dX9_tell_30 : decode cX9_tell 30 = .ok (.iadd, 1) := by decide +kernel
theorem dX9_tell_31 : decode cX9_tell 31 = .ok (.iload_n 1, 1) := by decide +kernel
theorem dX9_tell_32 : decode cX9_tell 32 = .ok (.iastore, 1) := by decide +kernel
theorem dX9_tell_33 : decode cX9_tell 33 = .ok (.aload_n 0, 1) := by decide +kernel
theorem dX9_tell_34 : decode cX9_tell 34 = .ok (.getfield 9, 3) := by decide +kernel
theorem dX9_tell_37 : decode cX9_tell 37 = .ok (.iconst 4, 1) := by decide +kernel
theorem dX9_tell_38 : decode cX9_tell 38 = .ok (.dup2, 1) := by decide +kernel
theorem dX9_tell_39 : decode cX9_tell 39 = .ok (.iaload, 1) := by decide +kernel
theorem dX9_tell_40 : decode cX9_tell 40 = .ok (.iconst 1, 1) := by decide +kernel
theorem dX9_tell_41 : decode cX9_tell 41 = .ok (.iadd, 1) := by decide +kernel
theorem dX9_tell_42 : decode cX9_tell 42 = .ok (.iastore, 1) := by decide +kernel
theorem dX9_tell_43 : decode cX9_tell 43 = .ok (.aload_n 0, 1) := by decide +kernel
theorem dX9_tell_44 : decode cX9_tell 44 = .ok (.getfield 9, 3) := by decide +kernel
theorem dX9_tell_47 : decode cX9_tell 47 = .ok (.iconst 4, 1) := by decide +kernel
theorem dX9_tell_48 : decode cX9_tell 48 = .ok (.iaload, 1) := by decide +kernel
theorem dX9_tell_49 : decode cX9_tell 49 = .ok (.ireturn, 1) := by decide +kernel
theorem dX9_check_0 : decode cX9_check 0 = .ok (.aload_n 0, 1) := by decide +kernel
theorem dX9_check_1 : decode cX9_check 1 = .ok (.getfield 9, 3) := by decide +kernel
theorem dX9_check_4 : decode cX9_check 4 = .ok (.iconst 4, 1) := by decide +kernel
theorem dX9_check_5 : decode cX9_check 5 = .ok (.iaload, 1) := by decide +kernel
theorem dX9_check_6 : decode cX9_check 6 = .ok (.istore_n 1, 1) := by decide +kernel
theorem dX9_check_7 : decode cX9_check 7 = .ok (.aload_n 0, 1) := by decide +kernel
theorem dX9_check_8 : decode cX9_check 8 = .ok (.getfield 9, 3) := by decide +kernel
theorem dX9_check_11 : decode cX9_check 11 = .ok (.iconst 4, 1) := by decide +kernel
theorem dX9_check_12 : decode cX9_check 12 = .ok (.iconst 0, 1) := by decide +kernel
theorem dX9_check_13 : decode cX9_check 13 = .ok (.iastore, 1) := by decide +kernel
theorem dX9_check_14 : decode cX9_check 14 = .ok (.aload_n 0, 1) := by decide +kernel
theorem dX9_check_15 : decode cX9_check 15 = .ok (.getfield 9, 3) := by decide +kernel
theorem dX9_check_18 : decode cX9_check 18 = .ok (.iconst 0, 1) := by decide +kernel
theorem dX9_check_19 : decode cX9_check 19 = .ok (.iaload, 1) := by decide +kernel
theorem dX9_check_20 : decode cX9_check 20 = .ok (.istore_n 2, 1) := by decide +kernel
theorem dX9_check_21 : decode cX9_check 21 = .ok (.iconst 0, 1) := by decide +kernel
theorem dX9_check_22 : decode cX9_check 22 = .ok (.istore_n 3, 1) := by decide +kernel
theorem dX9_check_23 : decode cX9_check 23 = .ok (.iconst 0, 1) := by decide +kernel
theorem dX9_check_24 : decode cX9_check 24 = .ok (.istore 4, 2) := by decide +kernel
theorem dX9_check_26 : decode cX9_check 26 = .ok (.iload 4, 2) := by decide +kernel
theorem dX9_check_28 : decode cX9_check 28 = .ok (.iload_n 1, 1) := by decide +kernel
theorem dX9_check_29 : decode cX9_check 29 = .ok (.if_icmp .ge 52, 3) := by decide +kernel
theorem dX9_check_32 : decode cX9_check 32 = .ok (.iload_n 3, 1) := by decide +kernel
theorem dX9_check_33 : decode cX9_check 33 = .ok (.ifCond .ne 48, 3) := by decide +kernel
theorem dX9_check_36 : decode cX9_check 36 = .ok (.aload_n 0, 1) := by decide +kernel
theorem dX9_check_37 : decode cX9_check 37 = .ok (.getfield 9, 3) := by decide +kernel
theorem dX9_check_40 : decode cX9_check 40 = .ok (.bipush 86, 2) := by decide +kernel
theorem dX9_check_42 : decode cX9_check 42 = .ok (.iload 4, 2) := by decide +kernel
theorem dX9_check_44 : decode cX9_check 44 = .ok (.iadd, 1) := by decide +kernel
theorem dX9_check_45 : decode cX9_check 45 = .ok (.iaload, 1) := by decide +kernel
theorem dX9_check_46 : decode cX9_check 46 = .ok (.aload_n 0, 1) := by decide +kernel
theorem dX9_check_47 : decode cX9_check 47 = .ok (.invokevirtual 195, 3) := by decide +kernel
theorem dX9_check_50 : decode cX9_check 50 = .ok (.invokestatic 189, 3) := by decide +kernel
theorem dX9_check_53 : decode cX9_check 53 = .ok (.if_icmp .ne 7, 3) := by decide +kernel
theorem dX9_check_56 : decode cX9_check 56 = .ok (.iconst 0, 1) := by decide +kernel
theorem dX9_check_57 : decode cX9_check 57 = .ok (.goto 7, 3) := by decide +kernel
theorem dX9_check_60 : decode cX9_check 60 = .ok (.iconst 1, 1) := by decide +kernel
theorem dX9_check_61 : decode cX9_check 61 = .ok (.iload 4, 2) := by decide +kernel
theorem dX9_check_63 : decode cX9_check 63 = .ok (.iadd, 1) := by decide +kernel
theorem dX9_check_64 : decode cX9_check 64 = .ok (.istore_n 3, 1) := by decide +kernel
theorem dX9_check_65 : decode cX9_check 65 = .ok (.aload_n 0, 1) := by decide +kernel
theorem dX9_check_66 : decode cX9_check 66 = .ok (.getfield 9, 3) := by decide +kernel
theorem dX9_check_69 : decode cX9_check 69 = .ok (.iconst 0, 1) := by decide +kernel
theorem dX9_check_70 : decode cX9_check 70 = .ok (.dup2, 1) := by decide +kernel
theorem dX9_check_71 : decode cX9_check 71 = .ok (.iaload, 1) := by decide +kernel
theorem dX9_check_72 : decode cX9_check 72 = .ok (.iconst 1, 1) := by decide +kernel
theorem dX9_check_73 : decode cX9_check 73 = .ok (.iadd, 1) := by decide +kernel
theorem dX9_check_74 : decode cX9_check 74 = .ok (.iastore, 1) := by decide +kernel
theorem dX9_check_75 : decode cX9_check 75 = .ok (.iinc 4 1, 3) := by decide +kernel
theorem dX9_check_78 : decode cX9_check 78 = .ok (.goto (-52), 3) := by decide +kernel
theorem dX9_check_81 : decode cX9_check 81 = .ok (.aload_n 0, 1) := by decide +kernel
theorem dX9_check_82 : decode cX9_check 82 = .ok (.getfield 9, 3) := by decide +kernel
theorem dX9_check_85 : decode cX9_check 85 = .ok (.iconst 0, 1) := by decide +kernel
theorem dX9_check_86 : decode cX9_check 86 = .ok (.iload_n 2, 1) := by decide +kernel
theorem dX9_check_87 : decode cX9_check 87 = .ok (.iastore, 1) := by decide +kernel
theorem dX9_check_88 : decode cX9_check 88 = .ok (.iload_n 3, 1) := by decide +kernel
theorem dX9_check_89 : decode cX9_check 89 = .ok (.ireturn, 1) := by decide +kernel
theorem dX9_heldNow_0 : decode cX9_heldNow 0 = .ok (.iconst 0, 1) := by decide +kernel
theorem dX9_heldNow_1 : decode cX9_heldNow 1 = .ok (.istore_n 1, 1) := by decide +kernel
theorem dX9_heldNow_2 : decode cX9_heldNow 2 = .ok (.iconst 0, 1) := by decide +kernel
theorem dX9_heldNow_3 : decode cX9_heldNow 3 = .ok (.istore_n 2, 1) := by decide +kernel
theorem dX9_heldNow_4 : decode cX9_heldNow 4 = .ok (.iload_n 2, 1) := by decide +kernel
theorem dX9_heldNow_5 : decode cX9_heldNow 5 = .ok (.aload_n 0, 1) := by decide +kernel
theorem dX9_heldNow_6 : decode cX9_heldNow 6 = .ok (.getfield 9, 3) := by decide +kernel
theorem dX9_heldNow_9 : decode cX9_heldNow 9 = .ok (.iconst 1, 1) := by decide +kernel
theorem dX9_heldNow_10 : decode cX9_heldNow 10 = .ok (.iaload, 1) := by decide +kernel
theorem dX9_heldNow_11 : decode cX9_heldNow 11 = .ok (.if_icmp .ge 18, 3) := by decide +kernel
theorem dX9_heldNow_14 : decode cX9_heldNow 14 = .ok (.iload_n 1, 1) := by decide +kernel
theorem dX9_heldNow_15 : decode cX9_heldNow 15 = .ok (.aload_n 0, 1) := by decide +kernel
theorem dX9_heldNow_16 : decode cX9_heldNow 16 = .ok (.iload_n 2, 1) := by decide +kernel
theorem dX9_heldNow_17 : decode cX9_heldNow 17 = .ok (.iconst 2, 1) := by decide +kernel
theorem dX9_heldNow_18 : decode cX9_heldNow 18 = .ok (.invokevirtual 179, 3) := by decide +kernel
theorem dX9_heldNow_21 : decode cX9_heldNow 21 = .ok (.ior, 1) := by decide +kernel
theorem dX9_heldNow_22 : decode cX9_heldNow 22 = .ok (.istore_n 1, 1) := by decide +kernel
theorem dX9_heldNow_23 : decode cX9_heldNow 23 = .ok (.iinc 2 1, 3) := by decide +kernel
theorem dX9_heldNow_26 : decode cX9_heldNow 26 = .ok (.goto (-22), 3) := by decide +kernel
theorem dX9_heldNow_29 : decode cX9_heldNow 29 = .ok (.iload_n 1, 1) := by decide +kernel
theorem dX9_heldNow_30 : decode cX9_heldNow 30 = .ok (.ireturn, 1) := by decide +kernel
theorem dX9_count_0 : decode cX9_count 0 = .ok (.iload_n 1, 1) := by decide +kernel
theorem dX9_count_1 : decode cX9_count 1 = .ok (.tableswitch 132 0 10 #[59, 66, 73, 78, 85, 93, 101, 106, 113, 120, 125], 59) := by decide +kernel
theorem dX9_count_60 : decode cX9_count 60 = .ok (.aload_n 0, 1) := by decide +kernel
theorem dX9_count_61 : decode cX9_count 61 = .ok (.getfield 9, 3) := by decide +kernel
theorem dX9_count_64 : decode cX9_count 64 = .ok (.iconst 1, 1) := by decide +kernel
theorem dX9_count_65 : decode cX9_count 65 = .ok (.iaload, 1) := by decide +kernel
theorem dX9_count_66 : decode cX9_count 66 = .ok (.ireturn, 1) := by decide +kernel
theorem dX9_count_67 : decode cX9_count 67 = .ok (.aload_n 0, 1) := by decide +kernel
theorem dX9_count_68 : decode cX9_count 68 = .ok (.getfield 9, 3) := by decide +kernel
theorem dX9_count_71 : decode cX9_count 71 = .ok (.iconst 0, 1) := by decide +kernel
theorem dX9_count_72 : decode cX9_count 72 = .ok (.iaload, 1) := by decide +kernel
theorem dX9_count_73 : decode cX9_count 73 = .ok (.ireturn, 1) := by decide +kernel
theorem dX9_count_74 : decode cX9_count 74 = .ok (.aload_n 0, 1) := by decide +kernel
theorem dX9_count_75 : decode cX9_count 75 = .ok (.invokevirtual 166, 3) := by decide +kernel
theorem dX9_count_78 : decode cX9_count 78 = .ok (.ireturn, 1) := by decide +kernel
theorem dX9_count_79 : decode cX9_count 79 = .ok (.aload_n 0, 1) := by decide +kernel
theorem dX9_count_80 : decode cX9_count 80 = .ok (.getfield 9, 3) := by decide +kernel
theorem dX9_count_83 : decode cX9_count 83 = .ok (.iconst 2, 1) := by decide +kernel
theorem dX9_count_84 : decode cX9_count 84 = .ok (.iaload, 1) := by decide +kernel
theorem dX9_count_85 : decode cX9_count 85 = .ok (.ireturn, 1) := by decide +kernel
theorem dX9_count_86 : decode cX9_count 86 = .ok (.aload_n 0, 1) := by decide +kernel
theorem dX9_count_87 : decode cX9_count 87 = .ok (.invokevirtual 329, 3) := by decide +kernel
theorem dX9_count_90 : decode cX9_count 90 = .ok (.invokestatic 189, 3) := by decide +kernel
theorem dX9_count_93 : decode cX9_count 93 = .ok (.ireturn, 1) := by decide +kernel
theorem dX9_count_94 : decode cX9_count 94 = .ok (.aload_n 0, 1) := by decide +kernel
theorem dX9_count_95 : decode cX9_count 95 = .ok (.invokevirtual 195, 3) := by decide +kernel
theorem dX9_count_98 : decode cX9_count 98 = .ok (.invokestatic 189, 3) := by decide +kernel
theorem dX9_count_101 : decode cX9_count 101 = .ok (.ireturn, 1) := by decide +kernel
theorem dX9_count_102 : decode cX9_count 102 = .ok (.aload_n 0, 1) := by decide +kernel
theorem dX9_count_103 : decode cX9_count 103 = .ok (.invokevirtual 243, 3) := by decide +kernel
theorem dX9_count_106 : decode cX9_count 106 = .ok (.ireturn, 1) := by decide +kernel
theorem dX9_count_107 : decode cX9_count 107 = .ok (.aload_n 0, 1) := by decide +kernel
theorem dX9_count_108 : decode cX9_count 108 = .ok (.getfield 9, 3) := by decide +kernel
theorem dX9_count_111 : decode cX9_count 111 = .ok (.iconst 3, 1) := by decide +kernel
theorem dX9_count_112 : decode cX9_count 112 = .ok (.iaload, 1) := by decide +kernel
theorem dX9_count_113 : decode cX9_count 113 = .ok (.ireturn, 1) := by decide +kernel
theorem dX9_count_114 : decode cX9_count 114 = .ok (.aload_n 0, 1) := by decide +kernel
theorem dX9_count_115 : decode cX9_count 115 = .ok (.getfield 9, 3) := by decide +kernel
theorem dX9_count_118 : decode cX9_count 118 = .ok (.iconst 4, 1) := by decide +kernel
theorem dX9_count_119 : decode cX9_count 119 = .ok (.iaload, 1) := by decide +kernel
theorem dX9_count_120 : decode cX9_count 120 = .ok (.ireturn, 1) := by decide +kernel
theorem dX9_count_121 : decode cX9_count 121 = .ok (.aload_n 0, 1) := by decide +kernel
theorem dX9_count_122 : decode cX9_count 122 = .ok (.getfield 296, 3) := by decide +kernel
theorem dX9_count_125 : decode cX9_count 125 = .ok (.ireturn, 1) := by decide +kernel
theorem dX9_count_126 : decode cX9_count 126 = .ok (.aload_n 0, 1) := by decide +kernel
theorem dX9_count_127 : decode cX9_count 127 = .ok (.getfield 9, 3) := by decide +kernel
theorem dX9_count_130 : decode cX9_count 130 = .ok (.iconst 5, 1) := by decide +kernel
theorem dX9_count_131 : decode cX9_count 131 = .ok (.iaload, 1) := by decide +kernel
theorem dX9_count_132 : decode cX9_count 132 = .ok (.ireturn, 1) := by decide +kernel
theorem dX9_count_133 : decode cX9_count 133 = .ok (.aload_n 0, 1) := by decide +kernel
theorem dX9_count_134 : decode cX9_count 134 = .ok (.ldc 80, 2) := by decide +kernel
theorem dX9_count_136 : decode cX9_count 136 = .ok (.invokevirtual 81, 3) := by decide +kernel
theorem dX9_count_139 : decode cX9_count 139 = .ok (.ireturn, 1) := by decide +kernel
theorem dX9_told_0 : decode cX9_told 0 = .ok (.iload_n 1, 1) := by decide +kernel
theorem dX9_told_1 : decode cX9_told 1 = .ok (.iconst 1, 1) := by decide +kernel
theorem dX9_told_2 : decode cX9_told 2 = .ok (.iconst 5, 1) := by decide +kernel
theorem dX9_told_3 : decode cX9_told 3 = .ok (.invokestatic 76, 3) := by decide +kernel
theorem dX9_told_6 : decode cX9_told 6 = .ok (.ifCond .eq 12, 3) := by decide +kernel
theorem dX9_told_9 : decode cX9_told 9 = .ok (.aload_n 0, 1) := by decide +kernel
theorem dX9_told_10 : decode cX9_told 10 = .ok (.getfield 19, 3) := by decide +kernel
theorem dX9_told_13 : decode cX9_told 13 = .ok (.iload_n 1, 1) := by decide +kernel
theorem dX9_told_14 : decode cX9_told 14 = .ok (.iaload, 1) := by decide +kernel
theorem dX9_told_15 : decode cX9_told 15 = .ok (.goto 9, 3) := by decide +kernel
theorem dX9_told_18 : decode cX9_told 18 = .ok (.aload_n 0, 1) := by decide +kernel
theorem dX9_told_19 : decode cX9_told 19 = .ok (.ldc 80, 2) := by decide +kernel
theorem dX9_told_21 : decode cX9_told 21 = .ok (.invokevirtual 81, 3) := by decide +kernel
theorem dX9_told_24 : decode cX9_told 24 = .ok (.ireturn, 1) := by decide +kernel
