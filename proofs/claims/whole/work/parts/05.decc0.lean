theorem dX9_init_0 : decode cX9_init 0 = .ok (.aload_n 0, 1) := by decide +kernel
theorem dX9_init_1 : decode cX9_init 1 = .ok (.invokespecial 3, 3) := by decide +kernel
theorem dX9_init_4 : decode cX9_init 4 = .ok (.aload_n 0, 1) := by decide +kernel
theorem dX9_init_5 : decode cX9_init 5 = .ok (.sipush 210, 3) := by decide +kernel
theorem dX9_init_8 : decode cX9_init 8 = .ok (.newarray .int, 2) := by decide +kernel
theorem dX9_init_10 : decode cX9_init 10 = .ok (.putfield 9, 3) := by decide +kernel
theorem dX9_init_13 : decode cX9_init 13 = .ok (.aload_n 0, 1) := by decide +kernel
theorem dX9_init_14 : decode cX9_init 14 = .ok (.sipush 210, 3) := by decide +kernel
theorem dX9_init_17 : decode cX9_init 17 = .ok (.newarray .int, 2) := by decide +kernel
theorem dX9_init_19 : decode cX9_init 19 = .ok (.putfield 13, 3) := by decide +kernel
theorem dX9_init_22 : decode cX9_init 22 = .ok (.aload_n 0, 1) := by decide +kernel
theorem dX9_init_23 : decode cX9_init 23 = .ok (.sipush 210, 3) := by decide +kernel
theorem dX9_init_26 : decode cX9_init 26 = .ok (.newarray .int, 2) := by decide +kernel
theorem dX9_init_28 : decode cX9_init 28 = .ok (.putfield 16, 3) := by decide +kernel
theorem dX9_init_31 : decode cX9_init 31 = .ok (.aload_n 0, 1) := by decide +kernel
theorem dX9_init_32 : decode cX9_init 32 = .ok (.bipush 6, 2) := by decide +kernel
theorem dX9_init_34 : decode cX9_init 34 = .ok (.newarray .int, 2) := by decide +kernel
theorem dX9_init_36 : decode cX9_init 36 = .ok (.putfield 19, 3) := by decide +kernel
theorem dX9_init_39 : decode cX9_init 39 = .ok (.aload_n 0, 1) := by decide +kernel
theorem dX9_init_40 : decode cX9_init 40 = .ok (.iconst 2, 1) := by decide +kernel
theorem dX9_init_41 : decode cX9_init 41 = .ok (.anewarray 22, 3) := by decide +kernel
theorem dX9_init_44 : decode cX9_init 44 = .ok (.dup, 1) := by decide +kernel
theorem dX9_init_45 : decode cX9_init 45 = .ok (.iconst 0, 1) := by decide +kernel
theorem dX9_init_46 : decode cX9_init 46 = .ok (.ldc 24, 2) := by decide +kernel
theorem dX9_init_48 : decode cX9_init 48 = .ok (.aastore, 1) := by decide +kernel
theorem dX9_init_49 : decode cX9_init 49 = .ok (.dup, 1) := by decide +kernel
theorem dX9_init_50 : decode cX9_init 50 = .ok (.iconst 1, 1) := by decide +kernel
theorem dX9_init_51 : decode cX9_init 51 = .ok (.ldc 26, 2) := by decide +kernel
theorem dX9_init_53 : decode cX9_init 53 = .ok (.aastore, 1) := by decide +kernel
theorem dX9_init_54 : decode cX9_init 54 = .ok (.putfield 28, 3) := by decide +kernel
theorem dX9_init_57 : decode cX9_init 57 = .ok (.aload_n 0, 1) := by decide +kernel
theorem dX9_init_58 : decode cX9_init 58 = .ok (.bipush 60, 2) := by decide +kernel
theorem dX9_init_60 : decode cX9_init 60 = .ok (.newarray .int, 2) := by decide +kernel
theorem dX9_init_62 : decode cX9_init 62 = .ok (.putfield 32, 3) := by decide +kernel
theorem dX9_init_65 : decode cX9_init 65 = .ok (.aload_n 0, 1) := by decide +kernel
theorem dX9_init_66 : decode cX9_init 66 = .ok (.iconst 4, 1) := by decide +kernel
theorem dX9_init_67 : decode cX9_init 67 = .ok (.newarray .int, 2) := by decide +kernel
theorem dX9_init_69 : decode cX9_init 69 = .ok (.putfield 35, 3) := by decide +kernel
theorem dX9_init_72 : decode cX9_init 72 = .ok (.aload_n 0, 1) := by decide +kernel
theorem dX9_init_73 : decode cX9_init 73 = .ok (.bipush 60, 2) := by decide +kernel
theorem dX9_init_75 : decode cX9_init 75 = .ok (.newarray .int, 2) := by decide +kernel
theorem dX9_init_77 : decode cX9_init 77 = .ok (.putfield 38, 3) := by decide +kernel
theorem dX9_init_80 : decode cX9_init 80 = .ok (.aload_n 0, 1) := by decide +kernel
theorem dX9_init_81 : decode cX9_init 81 = .ok (.bipush 6, 2) := by decide +kernel
theorem dX9_init_83 : decode cX9_init 83 = .ok (.newarray .int, 2) := by decide +kernel
theorem dX9_init_85 : decode cX9_init 85 = .ok (.putfield 41, 3) := by decide +kernel
theorem dX9_init_88 : decode cX9_init 88 = .ok (.aload_n 0, 1) := by decide +kernel
theorem dX9_init_89 : decode cX9_init 89 = .ok (.bipush 24, 2) := by decide +kernel
theorem dX9_init_91 : decode cX9_init 91 = .ok (.newarray .int, 2) := by decide +kernel
theorem dX9_init_93 : decode cX9_init 93 = .ok (.putfield 44, 3) := by decide +kernel
theorem dX9_init_96 : decode cX9_init 96 = .ok (.aload_n 0, 1) := by decide +kernel
theorem dX9_init_97 : decode cX9_init 97 = .ok (.bipush 40, 2) := by decide +kernel
theorem dX9_init_99 : decode cX9_init 99 = .ok (.newarray .int, 2) := by decide +kernel
theorem dX9_init_101 : decode cX9_init 101 = .ok (.putfield 47, 3) := by decide +kernel
theorem dX9_init_104 : decode cX9_init 104 = .ok (.aload_n 0, 1) := by decide +kernel
theorem dX9_init_105 : decode cX9_init 105 = .ok (.iconst 4, 1) := by decide +kernel
theorem dX9_init_106 : decode cX9_init 106 = .ok (.newarray .int, 2) := by decide +kernel
theorem dX9_init_108 : decode cX9_init 108 = .ok (.putfield 50, 3) := by decide +kernel
theorem dX9_init_111 : decode cX9_init 111 = .ok (.aload_n 0, 1) := by decide +kernel
theorem dX9_init_112 : decode cX9_init 112 = .ok (.iconst 4, 1) := by decide +kernel
theorem dX9_init_113 : decode cX9_init 113 = .ok (.newarray .int, 2) := by decide +kernel
theorem dX9_init_115 : decode cX9_init 115 = .ok (.putfield 53, 3) := by decide +kernel
theorem dX9_init_118 : decode cX9_init 118 = .ok (.aload_n 0, 1) := by decide +kernel
theorem dX9_init_119 : decode cX9_init 119 = .ok (.sipush 160, 3) := by decide +kernel
theorem dX9_init_122 : decode cX9_init 122 = .ok (.newarray .int, 2) := by decide +kernel
theorem dX9_init_124 : decode cX9_init 124 = .ok (.putfield 56, 3) := by decide +kernel
theorem dX9_init_127 : decode cX9_init 127 = .ok (.aload_n 0, 1) := by decide +kernel
theorem dX9_init_128 : decode cX9_init 128 = .ok (.bipush 40, 2) := by decide +kernel
theorem dX9_init_130 : decode cX9_init 130 = .ok (.newarray .int, 2) := by decide +kernel
theorem dX9_init_132 : decode cX9_init 132 = .ok (.putfield 59, 3) := by decide +kernel
theorem dX9_init_135 : decode cX9_init 135 = .ok (.aload_n 0, 1) := by decide +kernel
theorem dX9_init_136 : decode cX9_init 136 = .ok (.getfield 9, 3) := by decide +kernel
theorem dX9_init_139 : decode cX9_init 139 = .ok (.iconst 5, 1) := by decide +kernel
theorem dX9_init_140 : decode cX9_init 140 = .ok (.iconst 1, 1) := by decide +kernel
theorem dX9_init_141 : decode cX9_init 141 = .ok (.iastore, 1) := by decide +kernel
theorem dX9_init_142 : decode cX9_init 142 = .ok (.return_, 1) := by decide +kernel
theorem dX9_finding_0 : decode cX9_finding 0 = .ok (.aload_n 0, 1) := by decide +kernel
theorem dX9_finding_1 : decode cX9_finding 1 = .ok (.getfield 19, 3) := by decide +kernel
theorem dX9_finding_4 : decode cX9_finding 4 = .ok (.ldc 62, 2) := by decide +kernel
theorem dX9_finding_6 : decode cX9_finding 6 = .ok (.iload_n 1, 1) := by decide +kernel
theorem dX9_finding_7 : decode cX9_finding 7 = .ok (.isub, 1) := by decide +kernel
theorem dX9_finding_8 : decode cX9_finding 8 = .ok (.dup2, 1) := by decide +kernel
theorem dX9_finding_9 : decode cX9_finding 9 = .ok (.iaload, 1) := by decide +kernel
theorem dX9_finding_10 : decode cX9_finding 10 = .ok (.iconst 1, 1) := by decide +kernel
theorem dX9_finding_11 : decode cX9_finding 11 = .ok (.iadd, 1) := by decide +kernel
theorem dX9_finding_12 : decode cX9_finding 12 = .ok (.iastore, 1) := by decide +kernel
theorem dX9_finding_13 : decode cX9_finding 13 = .ok (.iload_n 1, 1) := by decide +kernel
theorem dX9_finding_14 : decode cX9_finding 14 = .ok (.ireturn, 1) := by decide +kernel
theorem dX9_within_0 : decode cX9_within 0 = .ok (.iload_n 0, 1) := by decide +kernel
theorem dX9_within_1 : decode cX9_within 1 = .ok (.iload_n 1, 1) := by decide +kernel
theorem dX9_within_2 : decode cX9_within 2 = .ok (.if_icmp .lt 12, 3) := by decide +kernel
theorem dX9_within_5 : decode cX9_within 5 = .ok (.iload_n 0, 1) := by decide +kernel
theorem dX9_within_6 : decode cX9_within 6 = .ok (.iload_n 2, 1) := by decide +kernel
theorem dX9_within_7 : decode cX9_within 7 = .ok (.if_icmp .gt 7, 3) := by decide +kernel
theorem dX9_within_10 : decode cX9_within 10 = .ok (.iconst 1, 1) := by decide +kernel
theorem dX9_within_11 : decode cX9_within 11 = .ok (.goto 4, 3) := by decide +kernel
theorem dX9_within_14 : decode cX9_within 14 = .ok (.iconst 0, 1) := by decide +kernel
theorem dX9_within_15 : decode cX9_within 15 = .ok (.ireturn, 1) := by decide +kernel
theorem dX9_hasBit_0 : decode cX9_hasBit 0 = .ok (.iload_n 0, 1) := by decide +kernel
theorem dX9_hasBit_1 : decode cX9_hasBit 1 = .ok (.iload_n 1, 1) := by decide +kernel
theorem dX9_hasBit_2 : decode cX9_hasBit 2 = .ok (.ishr, 1) := by decide +kernel
theorem dX9_hasBit_3 : decode cX9_hasBit 3 = .ok (.iconst 1, 1) := by decide +kernel
theorem dX9_hasBit_4 : decode cX9_hasBit 4 = .ok (.iand, 1) := by decide +kernel
theorem dX9_hasBit_5 : decode cX9_hasBit 5 = .ok (.iconst 1, 1) := by decide +kernel
theorem dX9_hasBit_6 : decode cX9_hasBit 6 = .ok (.if_icmp .ne 7, 3) := by decide +kernel
theorem dX9_hasBit_9 : decode cX9_hasBit 9 = .ok (.iconst 1, 1) := by decide +kernel
theorem dX9_hasBit_10 : decode cX9_hasBit 10 = .ok (.goto 4, 3) := by decide +kernel
theorem dX9_hasBit_13 : decode cX9_hasBit 13 = .ok (.iconst 0, 1) := by decide +kernel
theorem dX9_hasBit_14 : decode cX9_hasBit 14 = .ok (.ireturn, 1) := by decide +kernel
theorem dX9_bits_0 : decode cX9_bits 0 = .ok (.iconst 0, 1) := by decide +kernel
theorem dX9_bits_1 : decode cX9_bits 1 = .ok (.istore_n 1, 1) := by decide +kernel
theorem dX9_bits_2 : decode cX9_bits 2 = .ok (.iload_n 0, 1) := by decide +kernel
theorem dX9_bits_3 : decode cX9_bits 3 = .ok (.istore_n 2, 1) := by decide +kernel
theorem dX9_bits_4 : decode cX9_bits 4 = .ok (.iload_n 2, 1) := by decide +kernel
theorem dX9_bits_5 : decode cX9_bits 5 = .ok (.ifCond .eq 15, 3) := by decide +kernel
theorem dX9_bits_8 : decode cX9_bits 8 = .ok (.iinc 1 1, 3) := by decide +kernel
theorem dX9_bits_11 : decode cX9_bits 11 = .ok (.iload_n 2, 1) := by decide +kernel
theorem dX9_bits_12 : decode cX9_bits 12 = .ok (.iload_n 2, 1) := by decide +kernel
theorem dX9_bits_13 : decode cX9_bits 13 = .ok (.iconst 1, 1) := by decide +kernel
theorem dX9_bits_14 : decode cX9_bits 14 = .ok (.isub, 1) := by decide +kernel
theorem dX9_bits_15 : decode cX9_bits 15 = .ok (.iand, 1) := by decide +kernel
theorem dX9_bits_16 : decode cX9_bits 16 = .ok (.istore_n 2, 1) := by decide +kernel
theorem dX9_bits_17 : decode cX9_bits 17 = .ok (.goto (-13), 3) := by decide +kernel
theorem dX9_bits_20 : decode cX9_bits 20 = .ok (.iload_n 1, 1) := by decide +kernel
theorem dX9_bits_21 : decode cX9_bits 21 = .ok (.ireturn, 1) := by decide +kernel
theorem dX9_held_0 : decode cX9_held 0 = .ok (.iload_n 1, 1) := by decide +kernel
theorem dX9_held_1 : decode cX9_held 1 = .ok (.iload_n 2, 1) := by decide +kernel
theorem dX9_held_2 : decode cX9_held 2 = .ok (.iload_n 0, 1) := by decide +kernel
theorem dX9_held_3 : decode cX9_held 3 = .ok (.invokestatic 63, 3) := by decide +kernel
theorem dX9_held_6 : decode cX9_held 6 = .ok (.invokestatic 69, 3) := by decide +kernel
theorem dX9_held_9 : decode cX9_held 9 = .ok (.ireturn, 1) := by decide +kernel
theorem dX9_copy_0 : decode cX9_copy 0 = .ok (.iconst 0, 1) := by decide +kernel
theorem dX9_copy_1 : decode cX9_copy 1 = .ok (.istore_n 2, 1) := by decide +kernel
theorem dX9_copy_2 : decode cX9_copy 2 = .ok (.iload_n 2, 1) := by decide +kernel
theorem dX9_copy_3 : decode cX9_copy 3 = .ok (.sipush 210, 3) := by decide +kernel
theorem dX9_copy_6 : decode cX9_copy 6 = .ok (.if_icmp .ge 15, 3) := by decide +kernel
theorem dX9_copy_9 : decode cX9_copy 9 = .ok (.aload_n 1, 1) := by decide +kernel
theorem dX9_copy_10 : decode cX9_copy 10 = .ok (.iload_n 2, 1) := by decide +kernel
theorem dX9_copy_11 : decode cX9_copy 11 = .ok (.aload_n 0, 1) := by decide +kernel
theorem dX9_copy_12 : decode cX9_copy 12 = .ok (.iload_n 2, 1) := by decide +kernel
theorem dX9_copy_13 : decode cX9_copy 13 = .ok (.iaload, 1) := by decide +kernel
theorem dX9_copy_14 : decode cX9_copy 14 = .ok (.iastore, 1) := by decide +kernel
theorem dX9_copy_15 : decode cX9_copy 15 = .ok (.iinc 2 1, 3) := by decide +kernel
theorem dX9_copy_18 : decode cX9_copy 18 = .ok (.goto (-16), 3) := by decide +kernel
theorem dX9_copy_21 : decode cX9_copy 21 = .ok (.return_, 1) := by decide +kernel
theorem dX9_turn_0 : decode cX9_turn 0 = .ok (.aload_n 0, 1) := by decide +kernel
theorem dX9_turn_1 : decode cX9_turn 1 = .ok (.getfield 9, 3) := by decide +kernel
theorem dX9_turn_4 : decode cX9_turn 4 = .ok (.iload_n 1, 1) := by decide +kernel
theorem dX9_turn_5 : decode cX9_turn 5 = .ok (.iaload, 1) := by decide +kernel
theorem dX9_turn_6 : decode cX9_turn 6 = .ok (.istore_n 3, 1) := by decide +kernel
theorem dX9_turn_7 : decode cX9_turn 7 = .ok (.aload_n 0, 1) := by decide +kernel
theorem dX9_turn_8 : decode cX9_turn 8 = .ok (.getfield 9, 3) := by decide +kernel
theorem dX9_turn_11 : decode cX9_turn 11 = .ok (.iload_n 1, 1) := by decide +kernel
theorem dX9_turn_12 : decode cX9_turn 12 = .ok (.iload_n 2, 1) := by decide +kernel
theorem dX9_turn_13 : decode cX9_turn 13 = .ok (.iastore, 1) := by decide +kernel
theorem dX9_turn_14 : decode cX9_turn 14 = .ok (.iload_n 3, 1) := by decide +kernel
theorem dX9_turn_15 : decode cX9_turn 15 = .ok (.ireturn, 1) := by decide +kernel
theorem dX9_putBack_0 : decode cX9_putBack 0 = .ok (.aload_n 0, 1) := by decide +kernel
theorem dX9_putBack_1 : decode cX9_putBack 1 = .ok (.getfield 16, 3) := by decide +kernel
theorem dX9_putBack_4 : decode cX9_putBack 4 = .ok (.aload_n 0, 1) := by decide +kernel
theorem dX9_putBack_5 : decode cX9_putBack 5 = .ok (.getfield 9, 3) := by decide +kernel
theorem dX9_putBack_8 : decode cX9_putBack 8 = .ok (.invokestatic 72, 3) := by decide +kernel
theorem dX9_putBack_11 : decode cX9_putBack 11 = .ok (.iload_n 1, 1) := by decide +kernel
theorem dX9_putBack_12 : decode cX9_putBack 12 = .ok (.ireturn, 1) := by decide +kernel
theorem dX9_feed_0 : decode cX9_feed 0 = .ok (.iload_n 3, 1) := by decide +kernel
theorem dX9_feed_1 : decode cX9_feed 1 = .ok (.iconst 1, 1) := by decide +kernel
theorem dX9_feed_2 : decode cX9_feed 2 = .ok (.bipush 8, 2) := by decide +kernel
theorem dX9_feed_4 : decode cX9_feed 4 = .ok (.invokestatic 76, 3) := by decide +kernel
theorem dX9_feed_7 : decode cX9_feed 7 = .ok (.ifCond .ne 10, 3) := by decide +kernel
theorem dX9_feed_10 : decode cX9_feed 10 = .ok (.aload_n 0, 1) := by decide +kernel
theorem dX9_feed_11 : decode cX9_feed 11 = .ok (.ldc 80, 2) := by decide +kernel
theorem dX9_feed_13 : decode cX9_feed 13 = .ok (.invokevirtual 81, 3) := by decide +kernel
theorem dX9_feed_16 : decode cX9_feed 16 = .ok (.ireturn, 1) := by decide +kernel
theorem dX9_feed_17 : decode cX9_feed 17 = .ok (.aload_n 0, 1) := by decide +kernel
theorem dX9_feed_18 : decode cX9_feed 18 = .ok (.getfield 9, 3) := by decide +kernel
theorem dX9_feed_21 : decode cX9_feed 21 = .ok (.iconst 3, 1) := by decide +kernel
theorem dX9_feed_22 : decode cX9_feed 22 = .ok (.iaload, 1) := by decide +kernel
theorem dX9_feed_23 : decode cX9_feed 23 = .ok (.iload_n 3, 1) := by decide +kernel
theorem dX9_feed_24 : decode cX9_feed 24 = .ok (.iadd, 1) := by decide +kernel
theorem dX9_feed_25 : decode cX9_feed 25 = .ok (.bipush 50, 2) := by decide +kernel
theorem dX9_feed_27 : decode cX9_feed 27 = .ok (.if_icmp .le 10, 3) := by decide +kernel
theorem dX9_feed_30 : decode cX9_feed 30 = .ok (.aload_n 0, 1) := by decide +kernel
theorem dX9_feed_31 : decode cX9_feed 31 = .ok (.ldc 85, 2) := by decide +kernel
theorem dX9_feed_33 : decode cX9_feed 33 = .ok (.invokevirtual 81, 3) := by decide +kernel
theorem dX9_feed_36 : decode cX9_feed 36 = .ok (.ireturn, 1) := by decide +kernel
theorem dX9_feed_37 : decode cX9_feed 37 = .ok (.iconst 0, 1) := by decide +kernel
theorem dX9_feed_38 : decode cX9_feed 38 = .ok (.istore 4, 2) := by decide +kernel
theorem dX9_feed_40 : decode cX9_feed 40 = .ok (.iload 4, 2) := by decide +kernel
theorem dX9_feed_42 : decode cX9_feed 42 = .ok (.iload_n 3, 1) := by decide +kernel
theorem dX9_feed_43 : decode cX9_feed 43 = .ok (.if_icmp .ge 45, 3) := by decide +kernel
theorem dX9_feed_46 : decode cX9_feed 46 = .ok (.aload_n 0, 1) := by decide +kernel
theorem dX9_feed_47 : decode cX9_feed 47 = .ok (.getfield 9, 3) := by decide +kernel
theorem dX9_feed_50 : decode cX9_feed 50 = .ok (.bipush 36, 2) := by decide +kernel
theorem dX9_feed_52 : decode cX9_feed 52 = .ok (.aload_n 0, 1) := by decide +kernel
theorem dX9_feed_53 : decode cX9_feed 53 = .ok (.getfield 9, 3) := by decide +kernel
theorem dX9_feed_56 : decode cX9_feed 56 = .ok (.iconst 3, 1) := by decide +kernel
theorem dX9_feed_57 : decode cX9_feed 57 = .ok (.iaload, 1) := by decide +kernel
theorem dX9_feed_58 : decode cX9_feed 58 = .ok (.iadd, 1) := by decide +kernel
theorem dX9_feed_59 : decode cX9_feed 59 = .ok (.lload_n 1, 1) := by decide +kernel
theorem dX9_feed_60 : decode cX9_feed 60 = .ok (.bipush 8, 2) := by decide +kernel
theorem dX9_feed_62 : decode cX9_feed 62 = .ok (.iload 4, 2) := by decide +kernel
theorem dX9_feed_64 : decode cX9_feed 64 = .ok (.imul, 1) := by decide +kernel
theorem dX9_feed_65 : decode cX9_feed 65 = .ok (.lshr, 1) := by decide +kernel
theorem dX9_feed_66 : decode cX9_feed 66 = .ok (.ldc2_w 86, 3) := by decide +kernel
theorem dX9_feed_69 : decode cX9_feed 69 = .ok (.land, 1) := by decide +kernel
theorem dX9_feed_70 : decode cX9_feed 70 = .ok (.l2i, 1) := by decide +kernel
theorem dX9_feed_71 : decode cX9_feed 71 = .ok (.iastore, 1) := by decide +kernel
theorem dX9_feed_72 : decode cX9_feed 72 = .ok (.aload_n 0, 1) := by decide +kernel
theorem dX9_feed_73 : decode cX9_feed 73 = .ok (.getfield 9, 3) := by decide +kernel
theorem dX9_feed_76 : decode cX9_feed 76 = .ok (.iconst 3, 1) := by decide +kernel
theorem dX9_feed_77 : decode cX9_feed 77 = .ok (.dup2, 1) := by decide +kernel
theorem dX9_feed_78 : decode cX9_feed 78 = .ok (.iaload, 1) := by decide +kernel
theorem dX9_feed_79 : decode cX9_feed 79 = .ok (.iconst 1, 1) := by decide +kernel
theorem dX9_feed_80 : decode cX9_feed 80 = .ok (.iadd, 1) := by decide +kernel
theorem dX9_feed_81 : decode cX9_feed 81 = .ok (.iastore, 1) := by decide +kernel
theorem dX9_feed_82 : decode cX9_feed 82 = .ok (.iinc 4 1, 3) := by decide +kernel
theorem dX9_feed_85 : decode cX9_feed 85 = .ok (.goto (-45), 3) := by decide +kernel
theorem dX9_feed_88 : decode cX9_feed 88 = .ok (.aload_n 0, 1) := by decide +kernel
theorem dX9_feed_89 : decode cX9_feed 89 = .ok (.getfield 9, 3) := by decide +kernel
theorem dX9_feed_92 : decode cX9_feed 92 = .ok (.iconst 3, 1) := by decide +kernel
theorem dX9_feed_93 : decode cX9_feed 93 = .ok (.iaload, 1) := by decide +kernel
theorem dX9_feed_94 : decode cX9_feed 94 = .ok (.ireturn, 1) := by decide +kernel
theorem dX9_here_0 : decode cX9_here 0 = .ok (.aload_n 0, 1) := by decide +kernel
theorem dX9_here_1 : decode cX9_here 1 = .ok (.getfield 88, 3) := by decide +kernel
theorem dX9_here_4 : decode cX9_here 4 = .ok (.ifCond .ne 31, 3) := by decide +kernel
theorem dX9_here_7 : decode cX9_here 7 = .ok (.aload_n 0, 1) := by decide +kernel
theorem dX9_here_8 : decode cX9_here 8 = .ok (.getfield 92, 3) := by decide +kernel
theorem dX9_here_11 : decode cX9_here 11 = .ok (.aload_n 0, 1) := by decide +kernel
theorem dX9_here_12 : decode cX9_here 12 = .ok (.getfield 9, 3) := by decide +kernel
theorem dX9_here_15 : decode cX9_here 15 = .ok (.iconst 3, 1) := by decide +kernel
theorem dX9_here_16 : decode cX9_here 16 = .ok (.iaload, 1) := by decide +kernel
theorem dX9_here_17 : decode cX9_here 17 = .ok (.if_icmp .ge 18, 3) := by decide +kernel
theorem dX9_here_20 : decode cX9_here 20 = .ok (.aload_n 0, 1) := by decide +kernel
theorem dX9_here_21 : decode cX9_here 21 = .ok (.getfield 9, 3) := by decide +kernel
theorem dX9_here_24 : decode cX9_here 24 = .ok (.bipush 36, 2) := by decide +kernel
theorem dX9_here_26 : decode cX9_here 26 = .ok (.aload_n 0, 1) := by decide +kernel
theorem dX9_here_27 : decode cX9_here 27 = .ok (.getfield 92, 3) := by decide +kernel
theorem dX9_here_30 : decode cX9_here 30 = .ok (.iadd, 1) := by decide +kernel
theorem dX9_here_31 : decode cX9_here 31 = .ok (.iaload, 1) := by decide +kernel
theorem dX9_here_32 : decode cX9_here 32 = .ok (.goto 4, 3) := by decide +kernel
theorem dX9_here_35 : decode cX9_here 35 = .ok (.iconst (-1), 1) := by decide +kernel
theorem dX9_here_36 : decode cX9_here 36 = .ok (.ireturn, 1) := by decide +kernel
theorem dX9_takes_0 : decode cX9_takes 0 = .ok (.aload_n 0, 1) := by decide +kernel
theorem dX9_takes_1 : decode cX9_takes 1 = .ok (.invokevirtual 96, 3) := by decide +kernel
theorem dX9_takes_4 : decode cX9_takes 4 = .ok (.iload_n 1, 1) := by decide +kernel
theorem dX9_takes_5 : decode cX9_takes 5 = .ok (.if_icmp .ne 7, 3) := by decide +kernel
theorem dX9_takes_8 : decode cX9_takes 8 = .ok (.iconst 1, 1) := by decide +kernel
theorem dX9_takes_9 : decode cX9_takes 9 = .ok (.goto 4, 3) := by decide +kernel
theorem dX9_takes_12 : decode cX9_takes 12 = .ok (.iconst 0, 1) := by decide +kernel
theorem dX9_takes_13 : decode cX9_takes 13 = .ok (.istore_n 2, 1) := by decide +kernel
theorem dX9_takes_14 : decode cX9_takes 14 = .ok (.aload_n 0, 1) := by decide +kernel
theorem dX9_takes_15 : decode cX9_takes 15 = .ok (.dup, 1) := by decide +kernel
theorem dX9_takes_16 : decode cX9_takes 16 = .ok (.getfield 92, 3) := by decide +kernel
theorem dX9_takes_19 : decode cX9_takes 19 = .ok (.iload_n 2, 1) := by decide +kernel
theorem dX9_takes_20 : decode cX9_takes 20 = .ok (.ifCond .eq 7, 3) := by decide +kernel
theorem dX9_takes_23 : decode cX9_takes 23 = .ok (.iconst 1, 1) := by decide +kernel
theorem dX9_takes_24 : decode cX9_takes 24 = .ok (.goto 4, 3) := by decide +kernel
theorem dX9_takes_27 : decode cX9_takes 27 = .ok (.iconst 0, 1) := by decide +kernel
theorem dX9_takes_28 : decode cX9_takes 28 = .ok (.iadd, 1) := by decide +kernel
theorem dX9_takes_29 : decode cX9_takes 29 = .ok (.putfield 92, 3) := by decide +kernel
theorem dX9_takes_32 : decode cX9_takes 32 = .ok (.iload_n 2, 1) := by decide +kernel
theorem dX9_takes_33 : decode cX9_takes 33 = .ok (.ireturn, 1) := by decide +kernel
theorem dX9_codes_0 : decode cX9_codes 0 = .ok (.aload_n 0, 1) := by decide +kernel
theorem dX9_codes_1 : decode cX9_codes 1 = .ok (.getfield 88, 3) := by decide +kernel
theorem dX9_codes_4 : decode cX9_codes 4 = .ok (.ifCond .ne 23, 3) := by decide +kernel
theorem dX9_codes_7 : decode cX9_codes 7 = .ok (.aload_n 0, 1) := by decide +kernel
theorem dX9_codes_8 : decode cX9_codes 8 = .ok (.getfield 32, 3) := by decide +kernel
theorem dX9_codes_11 : decode cX9_codes 11 = .ok (.aload_n 0, 1) := by decide +kernel
theorem dX9_codes_12 : decode cX9_codes 12 = .ok (.getfield 100, 3) := by decide +kernel
theorem dX9_codes_15 : decode cX9_codes 15 = .ok (.iload_n 1, 1) := by decide +kernel
theorem dX9_codes_16 : decode cX9_codes 16 = .ok (.iastore, 1) := by decide +kernel
theorem dX9_codes_17 : decode cX9_codes 17 = .ok (.aload_n 0, 1) := by decide +kernel
theorem dX9_codes_18 : decode cX9_codes 18 = .ok (.dup, 1) := by decide +kernel
theorem dX9_codes_19 : decode cX9_codes 19 = .ok (.getfield 100, 3) := by decide +kernel
theorem dX9_codes_22 : decode cX9_codes 22 = .ok (.iconst 1, 1) := by decide +kernel
theorem dX9_codes_23 : decode cX9_codes 23 = .ok (.iadd, 1) := by decide +kernel
theorem dX9_codes_24 : decode cX9_codes 24 = .ok (.putfield 100, 3) := by decide +kernel
theorem dX9_codes_27 : decode cX9_codes 27 = .ok (.return_, 1) := by decide +kernel
theorem dX9_either_0 : decode cX9_either 0 = .ok (.aload_n 0, 1) := by decide +kernel
theorem dX9_either_1 : decode cX9_either 1 = .ok (.invokevirtual 103, 3) := by decide +kernel
theorem dX9_either_4 : decode cX9_either 4 = .ok (.aload_n 0, 1) := by decide +kernel
theorem dX9_either_5 : decode cX9_either 5 = .ok (.bipush 124, 2) := by decide +kernel
theorem dX9_either_7 : decode cX9_either 7 = .ok (.invokevirtual 106, 3) := by decide +kernel
theorem dX9_either_10 : decode cX9_either 10 = .ok (.ifCond .eq 17, 3) := by decide +kernel
theorem dX9_either_13 : decode cX9_either 13 = .ok (.aload_n 0, 1) := by decide +kernel
theorem dX9_either_14 : decode cX9_either 14 = .ok (.invokevirtual 103, 3) := by decide +kernel
theorem dX9_either_17 : decode cX9_either 17 = .ok (.aload_n 0, 1) := by decide +kernel
theorem dX9_either_18 : decode cX9_either 18 = .ok (.sipush 20000, 3) := by decide +kernel
theorem dX9_either_21 : decode cX9_either 21 = .ok (.invokevirtual 110, 3) := by decide +kernel
theorem dX9_either_24 : decode cX9_either 24 = .ok (.goto (-20), 3) := by decide +kernel
theorem dX9_either_27 : decode cX9_either 27 = .ok (.return_, 1) := by decide +kernel
theorem dX9_both_0 : decode cX9_both 0 = .ok (.aload_n 0, 1) := by decide +kernel
theorem dX9_both_1 : decode cX9_both 1 = .ok (.invokevirtual 114, 3) := by decide +kernel
theorem dX9_both_4 : decode cX9_both 4 = .ok (.aload_n 0, 1) := by decide +kernel
theorem dX9_both_5 : decode cX9_both 5 = .ok (.bipush 38, 2) := by decide +kernel
theorem dX9_both_7 : decode cX9_both 7 = .ok (.invokevirtual 106, 3) := by decide +kernel
theorem dX9_both_10 : decode cX9_both 10 = .ok (.ifCond .eq 17, 3) := by decide +kernel
theorem dX9_both_13 : decode cX9_both 13 = .ok (.aload_n 0, 1) := by decide +kernel
theorem dX9_both_14 : decode cX9_both 14 = .ok (.invokevirtual 114, 3) := by decide +kernel
theorem dX9_both_17 : decode cX9_both 17 = .ok (.aload_n 0, 1) := by decide +kernel
theorem dX9_both_18 : decode cX9_both 18 = .ok (.sipush 20001, 3) := by decide +kernel
theorem dX9_both_21 : decode cX9_both 21 = .ok (.invokevirtual 110, 3) := by decide +kernel
theorem dX9_both_24 : decode cX9_both 24 = .ok (.goto (-20), 3) := by decide +kernel
theorem dX9_both_27 : decode cX9_both 27 = .ok (.return_, 1) := by decide +kernel
theorem dX9_compared_0 : decode cX9_compared 0 = .ok (.aload_n 0, 1) := by decide +kernel
theorem dX9_compared_1 : decode cX9_compared 1 = .ok (.invokevirtual 117, 3) := by decide +kernel
theorem dX9_compared_4 : decode cX9_compared 4 = .ok (.aload_n 0, 1) := by decide +kernel
theorem dX9_compared_5 : decode cX9_compared 5 = .ok (.bipush 60, 2) := by decide +kernel
theorem dX9_compared_7 : decode cX9_compared 7 = .ok (.invokevirtual 106, 3) := by decide +kernel
theorem dX9_compared_10 : decode cX9_compared 10 = .ok (.ifCond .eq 9, 3) := by decide +kernel
theorem dX9_compared_13 : decode cX9_compared 13 = .ok (.sipush 20002, 3) := by decide +kernel
theorem dX9_compared_16 : decode cX9_compared 16 = .ok (.goto 34, 3) := by decide +kernel
theorem dX9_compared_19 : decode cX9_compared 19 = .ok (.aload_n 0, 1) := by decide +kernel
theorem dX9_compared_20 : decode cX9_compared 20 = .ok (.bipush 61, 2) := by decide +kernel
theorem dX9_compared_22 : decode cX9_compared 22 = .ok (.invokevirtual 106, 3) := by decide +kernel
theorem dX9_compared_25 : decode cX9_compared 25 = .ok (.ifCond .eq 9, 3) := by decide +kernel
theorem dX9_compared_28 : decode cX9_compared 28 = .ok (.sipush 20003, 3) := by decide +kernel
theorem dX9_compared_31 : decode cX9_compared 31 = .ok (.goto 19, 3) := by decide +kernel
theorem dX9_compared_34 : decode cX9_compared 34 = .ok (.aload_n 0, 1) := by decide +kernel
theorem dX9_compared_35 : decode cX9_compared 35 = .ok (.bipush 62, 2) := by decide +kernel
theorem dX9_compared_37 : decode cX9_compared 37 = .ok (.invokevirtual 106, 3) := by decide +kernel
theorem dX9_compared_40 : decode cX9_compared 40 = .ok (.ifCond .eq 9, 3) := by decide +kernel
theorem dX9_compared_43 : decode cX9_compared 43 = .ok (.sipush 20004, 3) := by decide +kernel
theorem dX9_compared_46 : decode cX9_compared 46 = .ok (.goto 4, 3) := by decide +kernel
theorem dX9_compared_49 : decode cX9_compared 49 = .ok (.iconst 0, 1) := by decide +kernel
theorem dX9_compared_50 : decode cX9_compared 50 = .ok (.istore_n 1, 1) := by decide +kernel
theorem dX9_compared_51 : decode cX9_compared 51 = .ok (.iload_n 1, 1) := by decide +kernel
theorem dX9_compared_52 : decode cX9_compared 52 = .ok (.ifCond .le 12, 3) := by decide +kernel
theorem dX9_compared_55 : decode cX9_compared 55 = .ok (.aload_n 0, 1) := by decide +kernel
theorem dX9_compared_56 : decode cX9_compared 56 = .ok (.invokevirtual 117, 3) := by decide +kernel
theorem dX9_compared_59 : decode cX9_compared 59 = .ok (.aload_n 0, 1) := by decide +kernel
theorem dX9_compared_60 : decode cX9_compared 60 = .ok (.iload_n 1, 1) := by decide +kernel
theorem dX9_compared_61 : decode cX9_compared 61 = .ok (.invokevirtual 110, 3) := by decide +kernel
theorem dX9_compared_64 : decode cX9_compared 64 = .ok (.return_, 1) := by decide +kernel
theorem dX9_sum_0 : decode cX9_sum 0 = .ok (.aload_n 0, 1) := by decide +kernel
theorem dX9_sum_1 : decode cX9_sum 1 = .ok (.invokevirtual 120, 3) := by decide +kernel
theorem dX9_sum_4 : decode cX9_sum 4 = .ok (.aload_n 0, 1) := by decide +kernel
theorem dX9_sum_5 : decode cX9_sum 5 = .ok (.bipush 43, 2) := by decide +kernel
theorem dX9_sum_7 : decode cX9_sum 7 = .ok (.invokevirtual 106, 3) := by decide +kernel
theorem dX9_sum_10 : decode cX9_sum 10 = .ok (.ifCond .eq 9, 3) := by decide +kernel
theorem dX9_sum_13 : decode cX9_sum 13 = .ok (.sipush 20005, 3) := by decide +kernel
theorem dX9_sum_16 : decode cX9_sum 16 = .ok (.goto 19, 3) := by decide +kernel
theorem dX9_sum_19 : decode cX9_sum 19 = .ok (.aload_n 0, 1) := by decide +kernel
theorem dX9_sum_20 : decode cX9_sum 20 = .ok (.bipush 45, 2) := by decide +kernel
theorem dX9_sum_22 : decode cX9_sum 22 = .ok (.invokevirtual 106, 3) := by decide +kernel
theorem dX9_sum_25 : decode cX9_sum 25 = .ok (.ifCond .eq 9, 3) := by decide +kernel
theorem dX9_sum_28 : decode cX9_sum 28 = .ok (.sipush 20006, 3) := by decide +kernel
theorem dX9_sum_31 : decode cX9_sum 31 = .ok (.goto 4, 3) := by decide +kernel
theorem dX9_sum_34 : decode cX9_sum 34 = .ok (.iconst 0, 1) := by decide +kernel
theorem dX9_sum_35 : decode cX9_sum 35 = .ok (.istore_n 1, 1) := by decide +kernel
theorem dX9_sum_36 : decode cX9_sum 36 = .ok (.iload_n 1, 1) := by decide +kernel
theorem dX9_sum_37 : decode cX9_sum 37 = .ok (.ifCond .le 47, 3) := by decide +kernel
theorem dX9_sum_40 : decode cX9_sum 40 = .ok (.aload_n 0, 1) := by decide +kernel
theorem dX9_sum_41 : decode cX9_sum 41 = .ok (.invokevirtual 120, 3) := by decide +kernel
theorem dX9_sum_44 : decode cX9_sum 44 = .ok (.aload_n 0, 1) := by decide +kernel
theorem dX9_sum_45 : decode cX9_sum 45 = .ok (.iload_n 1, 1) := by decide +kernel
theorem dX9_sum_46 : decode cX9_sum 46 = .ok (.invokevirtual 110, 3) := by decide +kernel
theorem dX9_sum_49 : decode cX9_sum 49 = .ok (.aload_n 0, 1) := by decide +kernel
theorem dX9_sum_50 : decode cX9_sum 50 = .ok (.bipush 43, 2) := by decide +kernel
theorem dX9_sum_52 : decode cX9_sum 52 = .ok (.invokevirtual 106, 3) := by decide +kernel
theorem dX9_sum_55 : decode cX9_sum 55 = .ok (.ifCond .eq 9, 3) := by decide +kernel
theorem dX9_sum_58 : decode cX9_sum 58 = .ok (.sipush 20005, 3) := by decide +kernel
theorem dX9_sum_61 : decode cX9_sum 61 = .ok (.goto 19, 3) := by decide +kernel
theorem dX9_sum_64 : decode cX9_sum 64 = .ok (.aload_n 0, 1) := by decide +kernel
theorem dX9_sum_65 : decode cX9_sum 65 = .ok (.bipush 45, 2) := by decide +kernel
theorem dX9_sum_67 : decode cX9_sum 67 = .ok (.invokevirtual 106, 3) := by decide +kernel
theorem dX9_sum_70 : decode cX9_sum 70 = .ok (.ifCond .eq 9, 3) := by decide +kernel
theorem dX9_sum_73 : decode cX9_sum 73 = .ok (.sipush 20006, 3) := by decide +kernel
theorem dX9_sum_76 : decode cX9_sum 76 = .ok (.goto 4, 3) := by decide +kernel
theorem dX9_sum_79 : decode cX9_sum 79 = .ok (.iconst 0, 1) := by decide +kernel
theorem dX9_sum_80 : decode cX9_sum 80 = .ok (.istore_n 1, 1) := by decide +kernel
theorem dX9_sum_81 : decode cX9_sum 81 = .ok (.goto (-45), 3) := by decide +kernel
theorem dX9_sum_84 : decode cX9_sum 84 = .ok (.return_, 1) := by decide +kernel
theorem dX9_product_0 : decode cX9_product 0 = .ok (.aload_n 0, 1) := by decide +kernel
theorem dX9_product_1 : decode cX9_product 1 = .ok (.invokevirtual 123, 3) := by decide +kernel
theorem dX9_product_4 : decode cX9_product 4 = .ok (.aload_n 0, 1) := by decide +kernel
theorem dX9_product_5 : decode cX9_product 5 = .ok (.bipush 42, 2) := by decide +kernel
theorem dX9_product_7 : decode cX9_product 7 = .ok (.invokevirtual 106, 3) := by decide +kernel
theorem dX9_product_10 : decode cX9_product 10 = .ok (.ifCond .eq 9, 3) := by decide +kernel
theorem dX9_product_13 : decode cX9_product 13 = .ok (.sipush 20007, 3) := by decide +kernel
theorem dX9_product_16 : decode cX9_product 16 = .ok (.goto 34, 3) := by decide +kernel
theorem dX9_product_19 : decode cX9_product 19 = .ok (.aload_n 0, 1) := by decide +kernel
theorem dX9_product_20 : decode cX9_product 20 = .ok (.bipush 47, 2) := by decide +kernel
theorem dX9_product_22 : decode cX9_product 22 = .ok (.invokevirtual 106, 3) := by decide +kernel
theorem dX9_product_25 : decode cX9_product 25 = .ok (.ifCond .eq 9, 3) := by decide +kernel
theorem dX9_product_28 : decode cX9_product 28 = .ok (.sipush 20008, 3) := by decide +kernel
theorem dX9_product_31 : decode cX9_product 31 = .ok (.goto 19, 3) := by decide +kernel
theorem dX9_product_34 : decode cX9_product 34 = .ok (.aload_n 0, 1) := by decide +kernel
theorem dX9_product_35 : decode cX9_product 35 = .ok (.bipush 37, 2) := by decide +kernel
theorem dX9_product_37 : decode cX9_product 37 = .ok (.invokevirtual 106, 3) := by decide +kernel
theorem dX9_product_40 : decode cX9_product 40 = .ok (.ifCond .eq 9, 3) := by decide +kernel
theorem dX9_product_43 : decode cX9_product 43 = .ok (.sipush 20009, 3) := by decide +kernel
theorem dX9_product_46 : decode cX9_product 46 = .ok (.goto 4, 3) := by decide +kernel
theorem dX9_product_49 : decode cX9_product 49 = .ok (.iconst 0, 1) := by decide +kernel
theorem dX9_product_50 : decode cX9_product 50 = .ok (.istore_n 1, 1) := by decide +kernel
theorem dX9_product_51 : decode cX9_product 51 = .ok (.iload_n 1, 1) := by decide +kernel
theorem dX9_product_52 : decode cX9_product 52 = .ok (.ifCond .le 62, 3) := by decide +kernel
theorem dX9_product_55 : decode cX9_product 55 = .ok (.aload_n 0, 1) := by decide +kernel
theorem dX9_product_56 : decode cX9_product 56 = .ok (.invokevirtual 123, 3) := by decide +kernel
theorem dX9_product_59 : decode cX9_product 59 = .ok (.aload_n 0, 1) := by decide +kernel
theorem dX9_product_60 : decode cX9_product 60 = .ok (.iload_n 1, 1) := by decide +kernel
theorem dX9_product_61 : decode cX9_product 61 = .ok (.invokevirtual 110, 3) := by decide +kernel
theorem dX9_product_64 : decode cX9_product 64 = .ok (.aload_n 0, 1) := by decide +kernel
theorem dX9_product_65 : decode cX9_product 65 = .ok (.bipush 42, 2) := by decide +kernel
theorem dX9_product_67 : decode cX9_product 67 = .ok (.invokevirtual 106, 3) := by decide +kernel
theorem dX9_product_70 : decode cX9_product 70 = .ok (.ifCond .eq 9, 3) := by decide +kernel
theorem dX9_product_73 : decode cX9_product 73 = .ok (.sipush 20007, 3) := by decide +kernel
theorem dX9_product_76 : decode cX9_product 76 = .ok (.goto 34, 3) := by decide +kernel
theorem dX9_product_79 : decode cX9_product 79 = .ok (.aload_n 0, 1) := by decide +kernel
theorem dX9_product_80 : decode cX9_product 80 = .ok (.bipush 47, 2) := by decide +kernel
theorem dX9_product_82 : decode cX9_product 82 = .ok (.invokevirtual 106, 3) := by decide +kernel
theorem dX9_product_85 : decode cX9_product 85 = .ok (.ifCond .eq 9, 3) := by decide +kernel
theorem dX9_product_88 : decode cX9_product 88 = .ok (.sipush 20008, 3) := by decide +kernel
theorem dX9_product_91 : decode cX9_product 91 = .ok (.goto 19, 3) := by decide +kernel
theorem dX9_product_94 : decode cX9_product 94 = .ok (.aload_n 0, 1) := by decide +kernel
theorem dX9_product_95 : decode cX9_product 95 = .ok (.bipush 37, 2) := by decide +kernel
theorem dX9_product_97 : decode cX9_product 97 = .ok (.invokevirtual 106, 3) := by decide +kernel
theorem dX9_product_100 : decode cX9_product 100 = .ok (.ifCond .eq 9, 3) := by decide +kernel
theorem dX9_product_103 : decode cX9_product 103 = .ok (.sipush 20009, 3) := by decide +kernel
theorem dX9_product_106 : decode cX9_product 106 = .ok (.goto 4, 3) := by decide +kernel
theorem dX9_product_109 : decode cX9_product 109 = .ok (.iconst 0, 1) := by decide +kernel
theorem dX9_product_110 : decode cX9_product 110 = .ok (.istore_n 1, 1) := by decide +kernel
theorem dX9_product_111 : decode cX9_product 111 = .ok (.goto (-60), 3) := by decide +kernel
theorem dX9_product_114 : decode cX9_product 114 = .ok (.return_, 1) := by decide +kernel
theorem dX9_nameOf_0 : decode cX9_nameOf 0 = .ok (.iconst (-1), 1) := by decide +kernel
theorem dX9_nameOf_1 : decode cX9_nameOf 1 = .ok (.istore_n 2, 1) := by decide +kernel
theorem dX9_nameOf_2 : decode cX9_nameOf 2 = .ok (.iconst 0, 1) := by decide +kernel
theorem dX9_nameOf_3 : decode cX9_nameOf 3 = .ok (.istore_n 3, 1) := by decide +kernel
theorem dX9_nameOf_4 : decode cX9_nameOf 4 = .ok (.iload_n 3, 1) := by decide +kernel
theorem dX9_nameOf_5 : decode cX9_nameOf 5 = .ok (.aload_n 0, 1) := by decide +kernel
theorem dX9_nameOf_6 : decode cX9_nameOf 6 = .ok (.getfield 28, 3) := by decide +kernel
theorem dX9_nameOf_9 : decode cX9_nameOf 9 = .ok (.aload_n 0, 1) := by decide +kernel
theorem dX9_nameOf_10 : decode cX9_nameOf 10 = .ok (.getfield 126, 3) := by decide +kernel
theorem dX9_nameOf_13 : decode cX9_nameOf 13 = .ok (.aaload, 1) := by decide +kernel
theorem dX9_nameOf_14 : decode cX9_nameOf 14 = .ok (.invokevirtual 129, 3) := by decide +kernel
theorem dX9_nameOf_17 : decode cX9_nameOf 17 = .ok (.if_icmp .ge 32, 3) := by decide +kernel
theorem dX9_nameOf_20 : decode cX9_nameOf 20 = .ok (.aload_n 0, 1) := by decide +kernel
theorem dX9_nameOf_21 : decode cX9_nameOf 21 = .ok (.getfield 28, 3) := by decide +kernel
theorem dX9_nameOf_24 : decode cX9_nameOf 24 = .ok (.aload_n 0, 1) := by decide +kernel
theorem dX9_nameOf_25 : decode cX9_nameOf 25 = .ok (.getfield 126, 3) := by decide +kernel
theorem dX9_nameOf_28 : decode cX9_nameOf 28 = .ok (.aaload, 1) := by decide +kernel
theorem dX9_nameOf_29 : decode cX9_nameOf 29 = .ok (.iload_n 3, 1) := by decide +kernel
theorem dX9_nameOf_30 : decode cX9_nameOf 30 = .ok (.invokevirtual 132, 3) := by decide +kernel
theorem dX9_nameOf_33 : decode cX9_nameOf 33 = .ok (.iload_n 1, 1) := by decide +kernel
theorem dX9_nameOf_34 : decode cX9_nameOf 34 = .ok (.if_icmp .ne 7, 3) := by decide +kernel
theorem dX9_nameOf_37 : decode cX9_nameOf 37 = .ok (.iload_n 3, 1) := by decide +kernel
theorem dX9_nameOf_38 : decode cX9_nameOf 38 = .ok (.goto 4, 3) := by decide +kernel
theorem dX9_nameOf_41 : decode cX9_nameOf 41 = .ok (.iload_n 2, 1) := by decide +kernel
theorem dX9_nameOf_42 : decode cX9_nameOf 42 = .ok (.istore_n 2, 1) := by decide +kernel
theorem dX9_nameOf_43 : decode cX9_nameOf 43 = .ok (.iinc 3 1, 3) := by decide +kernel
theorem dX9_nameOf_46 : decode cX9_nameOf 46 = .ok (.goto (-42), 3) := by decide +kernel
theorem dX9_nameOf_49 : decode cX9_nameOf 49 = .ok (.iload_n 2, 1) := by decide +kernel
theorem dX9_nameOf_50 : decode cX9_nameOf 50 = .ok (.ireturn, 1) := by decide +kernel
theorem dX9_one_0 : decode cX9_one 0 = .ok (.aload_n 0, 1) := by decide +kernel
theorem dX9_one_1 : decode cX9_one 1 = .ok (.invokevirtual 96, 3) := by decide +kernel
theorem dX9_one_4 : decode cX9_one 4 = .ok (.istore_n 1, 1) := by decide +kernel
theorem dX9_one_5 : decode cX9_one 5 = .ok (.iload_n 1, 1) := by decide +kernel
theorem dX9_one_6 : decode cX9_one 6 = .ok (.bipush 33, 2) := by decide +kernel
theorem dX9_one_8 : decode cX9_one 8 = .ok (.if_icmp .eq 9, 3) := by decide +kernel
theorem dX9_one_11 : decode cX9_one 11 = .ok (.iload_n 1, 1) := by decide +kernel
theorem dX9_one_12 : decode cX9_one 12 = .ok (.bipush 40, 2) := by decide +kernel
theorem dX9_one_14 : decode cX9_one 14 = .ok (.if_icmp .ne 102, 3) := by decide +kernel
theorem dX9_one_17 : decode cX9_one 17 = .ok (.aload_n 0, 1) := by decide +kernel
theorem dX9_one_18 : decode cX9_one 18 = .ok (.aload_n 0, 1) := by decide +kernel
theorem dX9_one_19 : decode cX9_one 19 = .ok (.getfield 136, 3) := by decide +kernel
theorem dX9_one_22 : decode cX9_one 22 = .ok (.iconst 5, 1) := by decide +kernel
theorem dX9_one_23 : decode cX9_one 23 = .ok (.if_icmp .ne 7, 3) := by decide +kernel
theorem dX9_one_26 : decode cX9_one 26 = .ok (.iconst 1, 1) := by decide +kernel
theorem dX9_one_27 : decode cX9_one 27 = .ok (.goto 4, 3) := by decide +kernel
theorem dX9_one_30 : decode cX9_one 30 = .ok (.iconst 0, 1) := by decide +kernel
theorem dX9_one_31 : decode cX9_one 31 = .ok (.putfield 88, 3) := by decide +kernel
theorem dX9_one_34 : decode cX9_one 34 = .ok (.aload_n 0, 1) := by decide +kernel
theorem dX9_one_35 : decode cX9_one 35 = .ok (.getfield 88, 3) := by decide +kernel
theorem dX9_one_38 : decode cX9_one 38 = .ok (.ifCond .ne 209, 3) := by decide +kernel
theorem dX9_one_41 : decode cX9_one 41 = .ok (.aload_n 0, 1) := by decide +kernel
theorem dX9_one_42 : decode cX9_one 42 = .ok (.dup, 1) := by decide +kernel
theorem dX9_one_43 : decode cX9_one 43 = .ok (.getfield 136, 3) := by decide +kernel
theorem dX9_one_46 : decode cX9_one 46 = .ok (.iconst 1, 1) := by decide +kernel
theorem dX9_one_47 : decode cX9_one 47 = .ok (.iadd, 1) := by decide +kernel
theorem dX9_one_48 : decode cX9_one 48 = .ok (.putfield 136, 3) := by decide +kernel
theorem dX9_one_51 : decode cX9_one 51 = .ok (.aload_n 0, 1) := by decide +kernel
theorem dX9_one_52 : decode cX9_one 52 = .ok (.dup, 1) := by decide +kernel
theorem dX9_one_53 : decode cX9_one 53 = .ok (.getfield 92, 3) := by decide +kernel
theorem dX9_one_56 : decode cX9_one 56 = .ok (.iconst 1, 1) := by decide +kernel
theorem dX9_one_57 : decode cX9_one 57 = .ok (.iadd, 1) := by decide +kernel
theorem dX9_one_58 : decode cX9_one 58 = .ok (.putfield 92, 3) := by decide +kernel
theorem dX9_one_61 : decode cX9_one 61 = .ok (.iload_n 1, 1) := by decide +kernel
theorem dX9_one_62 : decode cX9_one 62 = .ok (.bipush 33, 2) := by decide +kernel
theorem dX9_one_64 : decode cX9_one 64 = .ok (.if_icmp .ne 17, 3) := by decide +kernel
theorem dX9_one_67 : decode cX9_one 67 = .ok (.aload_n 0, 1) := by decide +kernel
theorem dX9_one_68 : decode cX9_one 68 = .ok (.invokevirtual 123, 3) := by decide +kernel
theorem dX9_one_71 : decode cX9_one 71 = .ok (.aload_n 0, 1) := by decide +kernel
theorem dX9_one_72 : decode cX9_one 72 = .ok (.sipush 20010, 3) := by decide +kernel
theorem dX9_one_75 : decode cX9_one 75 = .ok (.invokevirtual 110, 3) := by decide +kernel
theorem dX9_one_78 : decode cX9_one 78 = .ok (.goto 25, 3) := by decide +kernel
theorem dX9_one_81 : decode cX9_one 81 = .ok (.aload_n 0, 1) := by decide +kernel
theorem dX9_one_82 : decode cX9_one 82 = .ok (.invokevirtual 139, 3) := by decide +kernel
theorem dX9_one_85 : decode cX9_one 85 = .ok (.aload_n 0, 1) := by decide +kernel
theorem dX9_one_86 : decode cX9_one 86 = .ok (.aload_n 0, 1) := by decide +kernel
theorem dX9_one_87 : decode cX9_one 87 = .ok (.bipush 41, 2) := by decide +kernel
theorem dX9_one_89 : decode cX9_one 89 = .ok (.invokevirtual 106, 3) := by decide +kernel
theorem dX9_one_92 : decode cX9_one 92 = .ok (.ifCond .ne 7, 3) := by decide +kernel
theorem dX9_one_95 : decode cX9_one 95 = .ok (.iconst 1, 1) := by decide +kernel
theorem dX9_one_96 : decode cX9_one 96 = .ok (.goto 4, 3) := by decide +kernel
theorem dX9_one_99 : decode cX9_one 99 = .ok (.iconst 0, 1) := by decide +kernel
theorem dX9_one_100 : decode cX9_one 100 = .ok (.putfield 88, 3) := by decide +kernel
theorem dX9_one_103 : decode cX9_one 103 = .ok (.aload_n 0, 1) := by decide +kernel
theorem dX9_one_104 : decode cX9_one 104 = .ok (.dup, 1) := by decide +kernel
theorem dX9_one_105 : decode cX9_one 105 = .ok (.getfield 136, 3) := by decide +kernel
theorem dX9_one_108 : decode cX9_one 108 = .ok (.iconst 1, 1) := by decide +kernel
theorem dX9_one_109 : decode cX9_one 109 = .ok (.isub, 1) := by decide +kernel
theorem dX9_one_110 : decode cX9_one 110 = .ok (.putfield 136, 3) := by decide +kernel
theorem dX9_one_113 : decode cX9_one 113 = .ok (.goto 134, 3) := by decide +kernel
theorem dX9_one_116 : decode cX9_one 116 = .ok (.iload_n 1, 1) := by decide +kernel
theorem dX9_one_117 : decode cX9_one 117 = .ok (.bipush 48, 2) := by decide +kernel
theorem dX9_one_119 : decode cX9_one 119 = .ok (.bipush 57, 2) := by decide +kernel
theorem dX9_one_121 : decode cX9_one 121 = .ok (.invokestatic 76, 3) := by decide +kernel
theorem dX9_one_124 : decode cX9_one 124 = .ok (.ifCond .eq 63, 3) := by decide +kernel
theorem dX9_one_127 : decode cX9_one 127 = .ok (.iconst 0, 1) := by decide +kernel
theorem dX9_one_128 : decode cX9_one 128 = .ok (.istore_n 2, 1) := by decide +kernel
theorem dX9_one_129 : decode cX9_one 129 = .ok (.iconst 0, 1) := by decide +kernel
theorem dX9_one_130 : decode cX9_one 130 = .ok (.istore_n 3, 1) := by decide +kernel
theorem dX9_one_131 : decode cX9_one 131 = .ok (.iload_n 3, 1) := by decide +kernel
theorem dX9_one_132 : decode cX9_one 132 = .ok (.iconst 4, 1) := by decide +kernel
theorem dX9_one_133 : decode cX9_one 133 = .ok (.if_icmp .ge 46, 3) := by decide +kernel
theorem dX9_one_136 : decode cX9_one 136 = .ok (.aload_n 0, 1) := by decide +kernel
theorem dX9_one_137 : decode cX9_one 137 = .ok (.invokevirtual 96, 3) := by decide +kernel
theorem dX9_one_140 : decode cX9_one 140 = .ok (.bipush 48, 2) := by decide +kernel
theorem dX9_one_142 : decode cX9_one 142 = .ok (.bipush 57, 2) := by decide +kernel
theorem dX9_one_144 : decode cX9_one 144 = .ok (.invokestatic 76, 3) := by decide +kernel
theorem dX9_one_147 : decode cX9_one 147 = .ok (.ifCond .eq 32, 3) := by decide +kernel
theorem dX9_one_150 : decode cX9_one 150 = .ok (.bipush 10, 2) := by decide +kernel
theorem dX9_one_152 : decode cX9_one 152 = .ok (.iload_n 2, 1) := by decide +kernel
theorem dX9_one_153 : decode cX9_one 153 = .ok (.imul, 1) := by decide +kernel
theorem dX9_one_154 : decode cX9_one 154 = .ok (.aload_n 0, 1) := by decide +kernel
theorem dX9_one_155 : decode cX9_one 155 = .ok (.invokevirtual 96, 3) := by decide +kernel
theorem dX9_one_158 : decode cX9_one 158 = .ok (.iadd, 1) := by decide +kernel
theorem dX9_one_159 : decode cX9_one 159 = .ok (.bipush 48, 2) := by decide +kernel
theorem dX9_one_161 : decode cX9_one 161 = .ok (.isub, 1) := by decide +kernel
theorem dX9_one_162 : decode cX9_one 162 = .ok (.istore_n 2, 1) := by decide +kernel
theorem dX9_one_163 : decode cX9_one 163 = .ok (.aload_n 0, 1) := by decide +kernel
theorem dX9_one_164 : decode cX9_one 164 = .ok (.dup, 1) := by decide +kernel
theorem dX9_one_165 : decode cX9_one 165 = .ok (.getfield 92, 3) := by decide +kernel
theorem dX9_one_168 : decode cX9_one 168 = .ok (.iconst 1, 1) := by decide +kernel
theorem dX9_one_169 : decode cX9_one 169 = .ok (.iadd, 1) := by decide +kernel
theorem dX9_one_170 : decode cX9_one 170 = .ok (.putfield 92, 3) := by decide +kernel
theorem dX9_one_173 : decode cX9_one 173 = .ok (.iinc 3 1, 3) := by decide +kernel
theorem dX9_one_176 : decode cX9_one 176 = .ok (.goto (-45), 3) := by decide +kernel
theorem dX9_one_179 : decode cX9_one 179 = .ok (.aload_n 0, 1) := by decide +kernel
theorem dX9_one_180 : decode cX9_one 180 = .ok (.iload_n 2, 1) := by decide +kernel
theorem dX9_one_181 : decode cX9_one 181 = .ok (.invokevirtual 110, 3) := by decide +kernel
theorem dX9_one_184 : decode cX9_one 184 = .ok (.goto 63, 3) := by decide +kernel
theorem dX9_one_187 : decode cX9_one 187 = .ok (.iload_n 1, 1) := by decide +kernel
theorem dX9_one_188 : decode cX9_one 188 = .ok (.ifCond .ge 7, 3) := by decide +kernel
theorem dX9_one_191 : decode cX9_one 191 = .ok (.iconst (-1), 1) := by decide +kernel
theorem dX9_one_192 : decode cX9_one 192 = .ok (.goto 8, 3) := by decide +kernel
theorem dX9_one_195 : decode cX9_one 195 = .ok (.aload_n 0, 1) := by decide +kernel
theorem dX9_one_196 : decode cX9_one 196 = .ok (.iload_n 1, 1) := by decide +kernel
theorem dX9_one_197 : decode cX9_one 197 = .ok (.invokevirtual 142, 3) := by decide +kernel
theorem dX9_one_200 : decode cX9_one 200 = .ok (.istore_n 2, 1) := by decide +kernel
theorem dX9_one_201 : decode cX9_one 201 = .ok (.aload_n 0, 1) := by decide +kernel
theorem dX9_one_202 : decode cX9_one 202 = .ok (.aload_n 0, 1) := by decide +kernel
theorem dX9_one_203 : decode cX9_one 203 = .ok (.getfield 88, 3) := by decide +kernel
theorem dX9_one_206 : decode cX9_one 206 = .ok (.ifCond .ne 7, 3) := by decide +kernel
theorem dX9_one_209 : decode cX9_one 209 = .ok (.iload_n 2, 1) := by decide +kernel
theorem dX9_one_210 : decode cX9_one 210 = .ok (.ifCond .ge 7, 3) := by decide +kernel
theorem dX9_one_213 : decode cX9_one 213 = .ok (.iconst 1, 1) := by decide +kernel
theorem dX9_one_214 : decode cX9_one 214 = .ok (.goto 4, 3) := by decide +kernel
theorem dX9_one_217 : decode cX9_one 217 = .ok (.iconst 0, 1) := by decide +kernel
theorem dX9_one_218 : decode cX9_one 218 = .ok (.putfield 88, 3) := by decide +kernel
theorem dX9_one_221 : decode cX9_one 221 = .ok (.aload_n 0, 1) := by decide +kernel
theorem dX9_one_222 : decode cX9_one 222 = .ok (.getfield 88, 3) := by decide +kernel
theorem dX9_one_225 : decode cX9_one 225 = .ok (.ifCond .ne 22, 3) := by decide +kernel
theorem dX9_one_228 : decode cX9_one 228 = .ok (.aload_n 0, 1) := by decide +kernel
theorem dX9_one_229 : decode cX9_one 229 = .ok (.sipush 10000, 3) := by decide +kernel
theorem dX9_one_232 : decode cX9_one 232 = .ok (.iload_n 2, 1) := by decide +kernel
theorem dX9_one_233 : decode cX9_one 233 = .ok (.iadd, 1) := by decide +kernel
theorem dX9_one_234 : decode cX9_one 234 = .ok (.invokevirtual 110, 3) := by decide +kernel
theorem dX9_one_237 : decode cX9_one 237 = .ok (.aload_n 0, 1) := by decide +kernel
theorem dX9_one_238 : decode cX9_one 238 = .ok (.dup, 1) := by decide +kernel
theorem dX9_one_239 : decode cX9_one 239 = .ok (.getfield 92, 3) := by decide +kernel
theorem dX9_one_242 : decode cX9_one 242 = .ok (.iconst 1, 1) := by decide +kernel
theorem dX9_one_243 : decode cX9_one 243 = .ok (.iadd, 1) := by decide +kernel
theorem dX9_one_244 : decode cX9_one 244 = .ok (.putfield 92, 3) := by decide +kernel
theorem dX9_one_247 : decode cX9_one 247 = .ok (.return_, 1) := by decide +kernel
theorem dX9_text_0 : decode cX9_text 0 = .ok (.iload_n 1, 1) := by decide +kernel
theorem dX9_text_1 : decode cX9_text 1 = .ok (.iconst 0, 1) := by decide +kernel
theorem dX9_text_2 : decode cX9_text 2 = .ok (.iconst 1, 1) := by decide +kernel
theorem dX9_text_3 : decode cX9_text 3 = .ok (.invokestatic 76, 3) := by decide +kernel
theorem dX9_text_6 : decode cX9_text 6 = .ok (.ifCond .ne 10, 3) := by decide +kernel
theorem dX9_text_9 : decode cX9_text 9 = .ok (.aload_n 0, 1) := by decide +kernel
theorem dX9_text_10 : decode cX9_text 10 = .ok (.ldc 80, 2) := by decide +kernel
theorem dX9_text_12 : decode cX9_text 12 = .ok (.invokevirtual 81, 3) := by decide +kernel
theorem dX9_text_15 : decode cX9_text 15 = .ok (.ireturn, 1) := by decide +kernel
theorem dX9_text_16 : decode cX9_text 16 = .ok (.aload_n 0, 1) := by decide +kernel
theorem dX9_text_17 : decode cX9_text 17 = .ok (.iload_n 1, 1) := by decide +kernel
theorem dX9_text_18 : decode cX9_text 18 = .ok (.putfield 126, 3) := by decide +kernel
theorem dX9_text_21 : decode cX9_text 21 = .ok (.aload_n 0, 1) := by decide +kernel
theorem dX9_text_22 : decode cX9_text 22 = .ok (.iconst 0, 1) := by decide +kernel
theorem dX9_text_23 : decode cX9_text 23 = .ok (.putfield 92, 3) := by decide +kernel
theorem dX9_text_26 : decode cX9_text 26 = .ok (.aload_n 0, 1) := by decide +kernel
theorem dX9_text_27 : decode cX9_text 27 = .ok (.iconst 0, 1) := by decide +kernel
theorem dX9_text_28 : decode cX9_text 28 = .ok (.putfield 136, 3) := by decide +kernel
theorem dX9_text_31 : decode cX9_text 31 = .ok (.aload_n 0, 1) := by decide +kernel
theorem dX9_text_32 : decode cX9_text 32 = .ok (.iconst 0, 1) := by decide +kernel
theorem dX9_text_33 : decode cX9_text 33 = .ok (.putfield 88, 3) := by decide +kernel
theorem dX9_text_36 : decode cX9_text 36 = .ok (.aload_n 0, 1) := by decide +kernel
theorem dX9_text_37 : decode cX9_text 37 = .ok (.iconst 0, 1) := by decide +kernel
theorem dX9_text_38 : decode cX9_text 38 = .ok (.putfield 100, 3) := by decide +kernel
theorem dX9_text_41 : decode cX9_text 41 = .ok (.aload_n 0, 1) := by decide +kernel
theorem dX9_text_42 : decode cX9_text 42 = .ok (.invokevirtual 139, 3) := by decide +kernel
theorem dX9_text_45 : decode cX9_text 45 = .ok (.aload_n 0, 1) := by decide +kernel
theorem dX9_text_46 : decode cX9_text 46 = .ok (.aload_n 0, 1) := by decide +kernel
theorem dX9_text_47 : decode cX9_text 47 = .ok (.getfield 88, 3) := by decide +kernel
theorem dX9_text_50 : decode cX9_text 50 = .ok (.ifCond .ne 16, 3) := by decide +kernel
theorem dX9_text_53 : decode cX9_text 53 = .ok (.aload_n 0, 1) := by decide +kernel
theorem dX9_text_54 : decode cX9_text 54 = .ok (.getfield 92, 3) := by decide +kernel
theorem dX9_text_57 : decode cX9_text 57 = .ok (.aload_n 0, 1) := by decide +kernel
theorem dX9_text_58 : decode cX9_text 58 = .ok (.getfield 9, 3) := by decide +kernel
theorem dX9_text_61 : decode cX9_text 61 = .ok (.iconst 3, 1) := by decide +kernel
theorem dX9_text_62 : decode cX9_text 62 = .ok (.iaload, 1) := by decide +kernel
theorem dX9_text_63 : decode cX9_text 63 = .ok (.if_icmp .ge 7, 3) := by decide +kernel
theorem dX9_text_66 : decode cX9_text 66 = .ok (.iconst 1, 1) := by decide +kernel
theorem dX9_text_67 : decode cX9_text 67 = .ok (.goto 4, 3) := by decide +kernel
theorem dX9_text_70 : decode cX9_text 70 = .ok (.iconst 0, 1) := by decide +kernel
theorem dX9_text_71 : decode cX9_text 71 = .ok (.putfield 88, 3) := by decide +kernel
theorem dX9_text_74 : decode cX9_text 74 = .ok (.aload_n 0, 1) := by decide +kernel
theorem dX9_text_75 : decode cX9_text 75 = .ok (.getfield 9, 3) := by decide +kernel
theorem dX9_text_78 : decode cX9_text 78 = .ok (.iconst 3, 1) := by decide +kernel
theorem dX9_text_79 : decode cX9_text 79 = .ok (.iconst 0, 1) := by decide +kernel
theorem dX9_text_80 : decode cX9_text 80 = .ok (.iastore, 1) := by decide +kernel
theorem dX9_text_81 : decode cX9_text 81 = .ok (.aload_n 0, 1) := by decide +kernel
theorem dX9_text_82 : decode cX9_text 82 = .ok (.getfield 88, 3) := by decide +kernel
theorem dX9_text_85 : decode cX9_text 85 = .ok (.ifCond .eq 11, 3) := by decide +kernel
theorem dX9_text_88 : decode cX9_text 88 = .ok (.bipush (-10), 2) := by decide +kernel
theorem dX9_text_90 : decode cX9_text 90 = .ok (.aload_n 0, 1) := by decide +kernel
theorem dX9_text_91 : decode cX9_text 91 = .ok (.getfield 92, 3) := by decide +kernel
theorem dX9_text_94 : decode cX9_text 94 = .ok (.isub, 1) := by decide +kernel
theorem dX9_text_95 : decode cX9_text 95 = .ok (.ireturn, 1) := by decide +kernel
theorem dX9_text_96 : decode cX9_text 96 = .ok (.aload_n 0, 1) := by decide +kernel
theorem dX9_text_97 : decode cX9_text 97 = .ok (.getfield 9, 3) := by decide +kernel
theorem dX9_text_100 : decode cX9_text 100 = .ok (.bipush 106, 2) := by decide +kernel
theorem dX9_text_102 : decode cX9_text 102 = .ok (.bipush 52, 2) := by decide +kernel
theorem dX9_text_104 : decode cX9_text 104 = .ok (.aload_n 0, 1) := by decide +kernel
theorem dX9_text_105 : decode cX9_text 105 = .ok (.getfield 126, 3) := by decide +kernel
theorem dX9_text_108 : decode cX9_text 108 = .ok (.imul, 1) := by decide +kernel
theorem dX9_text_109 : decode cX9_text 109 = .ok (.iadd, 1) := by decide +kernel
theorem dX9_text_110 : decode cX9_text 110 = .ok (.aload_n 0, 1) := by decide +kernel
theorem dX9_text_111 : decode cX9_text 111 = .ok (.getfield 100, 3) := by decide +kernel
theorem dX9_text_114 : decode cX9_text 114 = .ok (.iastore, 1) := by decide +kernel
theorem dX9_text_115 : decode cX9_text 115 = .ok (.iconst 0, 1) := by decide +kernel
theorem dX9_text_116 : decode cX9_text 116 = .ok (.istore_n 2, 1) := by decide +kernel
theorem dX9_text_117 : decode cX9_text 117 = .ok (.iload_n 2, 1) := by decide +kernel
theorem dX9_text_118 : decode cX9_text 118 = .ok (.aload_n 0, 1) := by decide +kernel
theorem dX9_text_119 : decode cX9_text 119 = .ok (.getfield 100, 3) := by decide +kernel
theorem dX9_text_122 : decode cX9_text 122 = .ok (.if_icmp .ge 34, 3) := by decide +kernel
theorem dX9_text_125 : decode cX9_text 125 = .ok (.aload_n 0, 1) := by decide +kernel
theorem dX9_text_126 : decode cX9_text 126 = .ok (.getfield 9, 3) := by decide +kernel
theorem dX9_text_129 : decode cX9_text 129 = .ok (.bipush 106, 2) := by decide +kernel
theorem dX9_text_131 : decode cX9_text 131 = .ok (.bipush 52, 2) := by decide +kernel
theorem dX9_text_133 : decode cX9_text 133 = .ok (.aload_n 0, 1) := by decide +kernel
theorem dX9_text_134 : decode cX9_text 134 = .ok (.getfield 126, 3) := by decide +kernel
theorem dX9_text_137 : decode cX9_text 137 = .ok (.imul, 1) := by decide +kernel
theorem dX9_text_138 : decode cX9_text 138 = .ok (.iadd, 1) := by decide +kernel
theorem dX9_text_139 : decode cX9_text 139 = .ok (.iconst 1, 1) := by decide +kernel
theorem dX9_text_140 : decode cX9_text 140 = .ok (.iadd, 1) := by decide +kernel
theorem dX9_text_141 : decode cX9_text 141 = .ok (.iload_n 2, 1) := by decide +kernel
theorem dX9_text_142 : decode cX9_text 142 = .ok (.iadd, 1) := by decide +kernel
theorem dX9_text_143 : decode cX9_text 143 = .ok (.aload_n 0, 1) := by decide +kernel
theorem dX9_text_144 : decode cX9_text 144 = .ok (.getfield 32, 3) := by decide +kernel
theorem dX9_text_147 : decode cX9_text 147 = .ok (.iload_n 2, 1) := by decide +kernel
theorem dX9_text_148 : decode cX9_text 148 = .ok (.iaload, 1) := by decide +kernel
theorem dX9_text_149 : decode cX9_text 149 = .ok (.iastore, 1) := by decide +kernel
theorem dX9_text_150 : decode cX9_text 150 = .ok (.iinc 2 1, 3) := by decide +kernel
theorem dX9_text_153 : decode cX9_text 153 = .ok (.goto (-36), 3) := by decide +kernel
theorem dX9_text_156 : decode cX9_text 156 = .ok (.iconst 1, 1) := by decide +kernel
theorem dX9_text_157 : decode cX9_text 157 = .ok (.ireturn, 1) := by decide +kernel
theorem dX9_done_0 : decode cX9_done 0 = .ok (.iload_n 0, 1) := by decide +kernel
theorem dX9_done_1 : decode cX9_done 1 = .ok (.tableswitch 136 20000 20008 #[51, 65, 79, 90, 101, 112, 116, 120, 124], 51) := by decide +kernel
theorem dX9_done_52 : decode cX9_done 52 = .ok (.iload_n 1, 1) := by decide +kernel
theorem dX9_done_53 : decode cX9_done 53 = .ok (.ifCond .ne 7, 3) := by decide +kernel
theorem dX9_done_56 : decode cX9_done 56 = .ok (.iload_n 2, 1) := by decide +kernel
theorem dX9_done_57 : decode cX9_done 57 = .ok (.ifCond .eq 7, 3) := by decide +kernel
theorem dX9_done_60 : decode cX9_done 60 = .ok (.iconst 1, 1) := by decide +kernel
theorem dX9_done_61 : decode cX9_done 61 = .ok (.goto 4, 3) := by decide +kernel
theorem dX9_done_64 : decode cX9_done 64 = .ok (.iconst 0, 1) := by decide +kernel
theorem dX9_done_65 : decode cX9_done 65 = .ok (.ireturn, 1) := by decide +kernel
theorem dX9_done_66 : decode cX9_done 66 = .ok (.iload_n 1, 1) := by decide +kernel
theorem dX9_done_67 : decode cX9_done 67 = .ok (.ifCond .eq 11, 3) := by decide +kernel
theorem dX9_done_70 : decode cX9_done 70 = .ok (.iload_n 2, 1) := by decide +kernel
theorem dX9_done_71 : decode cX9_done 71 = .ok (.ifCond .eq 7, 3) := by decide +kernel
theorem dX9_done_74 : decode cX9_done 74 = .ok (.iconst 1, 1) := by decide +kernel
theorem dX9_done_75 : decode cX9_done 75 = .ok (.goto 4, 3) := by decide +kernel
theorem dX9_done_78 : decode cX9_done 78 = .ok (.iconst 0, 1) := by decide +kernel
theorem dX9_done_79 : decode cX9_done 79 = .ok (.ireturn, 1) := by decide +kernel
theorem dX9_done_80 : decode cX9_done 80 = .ok (.iload_n 1, 1) := by decide +kernel
theorem dX9_done_81 : decode cX9_done 81 = .ok (.iload_n 2, 1) := by decide +kernel
theorem dX9_done_82 : decode cX9_done 82 = .ok (.if_icmp .ge 7, 3) := by decide +kernel
theorem dX9_done_85 : decode cX9_done 85 = .ok (.iconst 1, 1) := by decide +kernel
theorem dX9_done_86 : decode cX9_done 86 = .ok (.goto 4, 3) := by decide +kernel
theorem dX9_done_89 : decode cX9_done 89 = .ok (.iconst 0, 1) := by decide +kernel
theorem dX9_done_90 : decode cX9_done 90 = .ok (.ireturn, 1) := by decide +kernel
theorem dX9_done_91 : decode cX9_done 91 = .ok (.iload_n 1, 1) := by decide +kernel
theorem dX9_done_92 : decode cX9_done 92 = .ok (.iload_n 2, 1) := by decide +kernel
theorem dX9_done_93 : decode cX9_done 93 = .ok (.if_icmp .ne 7, 3) := by decide +kernel
theorem dX9_done_96 : decode cX9_done 96 = .ok (.iconst 1, 1) := by decide +kernel
theorem dX9_done_97 : decode cX9_done 97 = .ok (.goto 4, 3) := by decide +kernel
theorem dX9_done_100 : decode cX9_done 100 = .ok (.iconst 0, 1) := by decide +kernel
theorem dX9_done_101 : decode cX9_done 101 = .ok (.ireturn, 1) := by decide +kernel
theorem dX9_done_102 : decode cX9_done 102 = .ok (.iload_n 1, 1) := by decide +kernel
theorem dX9_done_103 : decode cX9_done 103 = .ok (.iload_n 2, 1) := by decide +kernel
theorem dX9_done_104 : decode cX9_done 104 = .ok (.if_icmp .le 7, 3) := by decide +kernel
theorem dX9_done_107 : decode cX9_done 107 = .ok (.iconst 1, 1) := by decide +kernel
theorem dX9_done_108 : decode cX9_done 108 = .ok (.goto 4, 3) := by decide +kernel
theorem dX9_done_111 : decode cX9_done 111 = .ok (.iconst 0, 1) := by decide +kernel
theorem dX9_done_112 : decode cX9_done 112 = .ok (.ireturn, 1) := by decide +kernel
theorem dX9_done_113 : decode cX9_done 113 = .ok (.iload_n 1, 1) := by decide +kernel
theorem dX9_done_114 : decode cX9_done 114 = .ok (.iload_n 2, 1) := by decide +kernel
theorem dX9_done_115 : decode cX9_done 115 = .ok (.iadd, 1) := by decide +kernel
theorem dX9_done_116 : decode cX9_done 116 = .ok (.ireturn, 1) := by decide +kernel
theorem dX9_done_117 : decode cX9_done 117 = .ok (.iload_n 1, 1) := by decide +kernel
theorem dX9_done_118 : decode cX9_done 118 = .ok (.iload_n 2, 1) := by decide +kernel
theorem dX9_done_119 : decode cX9_done 119 = .ok (.isub, 1) := by decide +kernel
theorem dX9_done_120 : decode cX9_done 120 = .ok (.ireturn, 1) := by decide +kernel
theorem dX9_done_121 : decode cX9_done 121 = .ok (.iload_n 1, 1) := by decide +kernel
theorem dX9_done_122 : decode cX9_done 122 = .ok (.iload_n 2, 1) := by decide +kernel
theorem dX9_done_123 : decode cX9_done 123 = .ok (.imul, 1) := by decide +kernel
theorem dX9_done_124 : decode cX9_done 124 = .ok (.ireturn, 1) := by decide +kernel
theorem dX9_done_125 : decode cX9_done 125 = .ok (.iload_n 2, 1) := by decide +kernel
theorem dX9_done_126 : decode cX9_done 126 = .ok (.ifCond .ne 7, 3) := by decide +kernel
theorem dX9_done_129 : decode cX9_done 129 = .ok (.iconst 0, 1) := by decide +kernel
theorem dX9_done_130 : decode cX9_done 130 = .ok (.goto 6, 3) := by decide +kernel
theorem dX9_done_133 : decode cX9_done 133 = .ok (.iload_n 1, 1) := by decide +kernel
theorem dX9_done_134 : decode cX9_done 134 = .ok (.iload_n 2, 1) := by decide +kernel
theorem dX9_done_135 : decode cX9_done 135 = .ok (.idiv, 1) := by decide +kernel
theorem dX9_done_136 : decode cX9_done 136 = .ok (.ireturn, 1) := by decide +kernel
theorem dX9_done_137 : decode cX9_done 137 = .ok (.iload_n 2, 1) := by decide +kernel
theorem dX9_done_138 : decode cX9_done 138 = .ok (.ifCond .ne 7, 3) := by decide +kernel
theorem dX9_done_141 : decode cX9_done 141 = .ok (.iconst 0, 1) := by decide +kernel
theorem dX9_done_142 : decode cX9_done 142 = .ok (.goto 6, 3) := by decide +kernel
theorem dX9_done_145 : decode cX9_done 145 = .ok (.iload_n 1, 1) := by decide +kernel
theorem dX9_done_146 : decode cX9_done 146 = .ok (.iload_n 2, 1) := by decide +kernel
theorem dX9_done_147 : decode cX9_done 147 = .ok (.irem, 1) := by decide +kernel
theorem dX9_done_148 : decode cX9_done 148 = .ok (.ireturn, 1) := by decide +kernel
theorem dX9_worked_0 : decode cX9_worked 0 = .ok (.iconst 0, 1) := by decide +kernel
theorem dX9_worked_1 : decode cX9_worked 1 = .ok (.istore_n 2, 1) := by decide +kernel
theorem dX9_worked_2 : decode cX9_worked 2 = .ok (.iload_n 1, 1) := by decide +kernel
theorem dX9_worked_3 : decode cX9_worked 3 = .ok (.istore_n 3, 1) := by decide +kernel
theorem dX9_worked_4 : decode cX9_worked 4 = .ok (.iload_n 3, 1) := by decide +kernel
theorem dX9_worked_5 : decode cX9_worked 5 = .ok (.iload_n 1, 1) := by decide +kernel
theorem dX9_worked_6 : decode cX9_worked 6 = .ok (.aload_n 0, 1) := by decide +kernel
theorem dX9_worked_7 : decode cX9_worked 7 = .ok (.getfield 9, 3) := by decide +kernel
theorem dX9_worked_10 : decode cX9_worked 10 = .ok (.iload_n 1, 1) := by decide +kernel
theorem dX9_worked_11 : decode cX9_worked 11 = .ok (.iconst 1, 1) := by decide +kernel
theorem dX9_worked_12 : decode cX9_worked 12 = .ok (.isub, 1) := by decide +kernel
theorem dX9_worked_13 : decode cX9_worked 13 = .ok (.iaload, 1) := by decide +kernel
theorem dX9_worked_14 : decode cX9_worked 14 = .ok (.iadd, 1) := by decide +kernel
theorem dX9_worked_15 : decode cX9_worked 15 = .ok (.if_icmp .ge 126, 3) := by decide +kernel
theorem dX9_worked_18 : decode cX9_worked 18 = .ok (.aload_n 0, 1) := by decide +kernel
theorem dX9_worked_19 : decode cX9_worked 19 = .ok (.getfield 9, 3) := by decide +kernel
theorem dX9_worked_22 : decode cX9_worked 22 = .ok (.iload_n 3, 1) := by decide +kernel
theorem dX9_worked_23 : decode cX9_worked 23 = .ok (.iaload, 1) := by decide +kernel
theorem dX9_worked_24 : decode cX9_worked 24 = .ok (.istore 4, 2) := by decide +kernel
theorem dX9_worked_26 : decode cX9_worked 26 = .ok (.iload 4, 2) := by decide +kernel
theorem dX9_worked_28 : decode cX9_worked 28 = .ok (.sipush 20000, 3) := by decide +kernel
theorem dX9_worked_31 : decode cX9_worked 31 = .ok (.if_icmp .ge 39, 3) := by decide +kernel
theorem dX9_worked_34 : decode cX9_worked 34 = .ok (.aload_n 0, 1) := by decide +kernel
theorem dX9_worked_35 : decode cX9_worked 35 = .ok (.getfield 38, 3) := by decide +kernel
theorem dX9_worked_38 : decode cX9_worked 38 = .ok (.iload_n 2, 1) := by decide +kernel
theorem dX9_worked_39 : decode cX9_worked 39 = .ok (.iload 4, 2) := by decide +kernel
theorem dX9_worked_41 : decode cX9_worked 41 = .ok (.sipush 10000, 3) := by decide +kernel
theorem dX9_worked_44 : decode cX9_worked 44 = .ok (.if_icmp .ge 8, 3) := by decide +kernel
theorem dX9_worked_47 : decode cX9_worked 47 = .ok (.iload 4, 2) := by decide +kernel
theorem dX9_worked_49 : decode cX9_worked 49 = .ok (.goto 14, 3) := by decide +kernel
theorem dX9_worked_52 : decode cX9_worked 52 = .ok (.aload_n 0, 1) := by decide +kernel
theorem dX9_worked_53 : decode cX9_worked 53 = .ok (.getfield 35, 3) := by decide +kernel
theorem dX9_worked_56 : decode cX9_worked 56 = .ok (.iload 4, 2) := by decide +kernel
theorem dX9_worked_58 : decode cX9_worked 58 = .ok (.sipush 10000, 3) := by decide +kernel
theorem dX9_worked_61 : decode cX9_worked 61 = .ok (.isub, 1) := by decide +kernel
theorem dX9_worked_62 : decode cX9_worked 62 = .ok (.iaload, 1) := by decide +kernel
theorem dX9_worked_63 : decode cX9_worked 63 = .ok (.iastore, 1) := by decide +kernel
theorem dX9_worked_64 : decode cX9_worked 64 = .ok (.iinc 2 1, 3) := by decide +kernel
theorem dX9_worked_67 : decode cX9_worked 67 = .ok (.goto 68, 3) := by decide +kernel
theorem dX9_worked_70 : decode cX9_worked 70 = .ok (.iload 4, 2) := by decide +kernel
theorem dX9_worked_72 : decode cX9_worked 72 = .ok (.sipush 20010, 3) := by decide +kernel
theorem dX9_worked_75 : decode cX9_worked 75 = .ok (.if_icmp .ne 30, 3) := by decide +kernel
theorem dX9_worked_78 : decode cX9_worked 78 = .ok (.aload_n 0, 1) := by decide +kernel
theorem dX9_worked_79 : decode cX9_worked 79 = .ok (.getfield 38, 3) := by decide +kernel
theorem dX9_worked_82 : decode cX9_worked 82 = .ok (.iload_n 2, 1) := by decide +kernel
theorem dX9_worked_83 : decode cX9_worked 83 = .ok (.iconst 1, 1) := by decide +kernel
theorem dX9_worked_84 : decode cX9_worked 84 = .ok (.isub, 1) := by decide +kernel
theorem dX9_worked_85 : decode cX9_worked 85 = .ok (.aload_n 0, 1) := by decide +kernel
theorem dX9_worked_86 : decode cX9_worked 86 = .ok (.getfield 38, 3) := by decide +kernel
theorem dX9_worked_89 : decode cX9_worked 89 = .ok (.iload_n 2, 1) := by decide +kernel
theorem dX9_worked_90 : decode cX9_worked 90 = .ok (.iconst 1, 1) := by decide +kernel
theorem dX9_worked_91 : decode cX9_worked 91 = .ok (.isub, 1) := by decide +kernel
theorem dX9_worked_92 : decode cX9_worked 92 = .ok (.iaload, 1) := by decide +kernel
theorem dX9_worked_93 : decode cX9_worked 93 = .ok (.ifCond .ne 7, 3) := by decide +kernel
theorem dX9_worked_96 : decode cX9_worked 96 = .ok (.iconst 1, 1) := by decide +kernel
theorem dX9_worked_97 : decode cX9_worked 97 = .ok (.goto 4, 3) := by decide +kernel
theorem dX9_worked_100 : decode cX9_worked 100 = .ok (.iconst 0, 1) := by decide +kernel
theorem dX9_worked_101 : decode cX9_worked 101 = .ok (.iastore, 1) := by decide +kernel
theorem dX9_worked_102 : decode cX9_worked 102 = .ok (.goto 33, 3) := by decide +kernel
theorem dX9_worked_105 : decode cX9_worked 105 = .ok (.iinc 2 (-1), 3) := by decide +kernel
theorem dX9_worked_108 : decode cX9_worked 108 = .ok (.aload_n 0, 1) := by decide +kernel
theorem dX9_worked_109 : decode cX9_worked 109 = .ok (.getfield 38, 3) := by decide +kernel
theorem dX9_worked_112 : decode cX9_worked 112 = .ok (.iload_n 2, 1) := by decide +kernel
theorem dX9_worked_113 : decode cX9_worked 113 = .ok (.iconst 1, 1) := by decide +kernel
theorem dX9_worked_114 : decode cX9_worked 114 = .ok (.isub, 1) := by decide +kernel
theorem dX9_worked_115 : decode cX9_worked 115 = .ok (.iload 4, 2) := by decide +kernel
theorem dX9_worked_117 : decode cX9_worked 117 = .ok (.aload_n 0, 1) := by decide +kernel
theorem dX9_worked_118 : decode cX9_worked 118 = .ok (.getfield 38, 3) := by decide +kernel
theorem dX9_worked_121 : decode cX9_worked 121 = .ok (.iload_n 2, 1) := by decide +kernel
theorem dX9_worked_122 : decode cX9_worked 122 = .ok (.iconst 1, 1) := by decide +kernel
theorem dX9_worked_123 : decode cX9_worked 123 = .ok (.isub, 1) := by decide +kernel
theorem dX9_worked_124 : decode cX9_worked 124 = .ok (.iaload, 1) := by decide +kernel
theorem dX9_worked_125 : decode cX9_worked 125 = .ok (.aload_n 0, 1) := by decide +kernel
theorem dX9_worked_126 : decode cX9_worked 126 = .ok (.getfield 38, 3) := by decide +kernel
theorem dX9_worked_129 : decode cX9_worked 129 = .ok (.iload_n 2, 1) := by decide +kernel
theorem dX9_worked_130 : decode cX9_worked 130 = .ok (.iaload, 1) := by decide +kernel
theorem dX9_worked_131 : decode cX9_worked 131 = .ok (.invokestatic 145, 3) := by decide +kernel
theorem dX9_worked_134 : decode cX9_worked 134 = .ok (.iastore, 1) := by decide +kernel
theorem dX9_worked_135 : decode cX9_worked 135 = .ok (.iinc 3 1, 3) := by decide +kernel
theorem dX9_worked_138 : decode cX9_worked 138 = .ok (.goto (-134), 3) := by decide +kernel
theorem dX9_worked_141 : decode cX9_worked 141 = .ok (.aload_n 0, 1) := by decide +kernel
theorem dX9_worked_142 : decode cX9_worked 142 = .ok (.getfield 38, 3) := by decide +kernel
theorem dX9_worked_145 : decode cX9_worked 145 = .ok (.iconst 0, 1) := by decide +kernel
theorem dX9_worked_146 : decode cX9_worked 146 = .ok (.iaload, 1) := by decide +kernel
theorem dX9_worked_147 : decode cX9_worked 147 = .ok (.ireturn, 1) := by decide +kernel
theorem dX9_hasText_0 : decode cX9_hasText 0 = .ok (.aload_n 0, 1) := by decide +kernel
theorem dX9_hasText_1 : decode cX9_hasText 1 = .ok (.getfield 9, 3) := by decide +kernel
theorem dX9_hasText_4 : decode cX9_hasText 4 = .ok (.bipush 106, 2) := by decide +kernel
theorem dX9_hasText_6 : decode cX9_hasText 6 = .ok (.bipush 52, 2) := by decide +kernel
theorem dX9_hasText_8 : decode cX9_hasText 8 = .ok (.iload_n 1, 1) := by decide +kernel
theorem dX9_hasText_9 : decode cX9_hasText 9 = .ok (.imul, 1) := by decide +kernel
theorem dX9_hasText_10 : decode cX9_hasText 10 = .ok (.iadd, 1) := by decide +kernel
theorem dX9_hasText_11 : decode cX9_hasText 11 = .ok (.iaload, 1) := by decide +kernel
theorem dX9_hasText_12 : decode cX9_hasText 12 = .ok (.ifCond .le 7, 3) := by decide +kernel
theorem dX9_hasText_15 : decode cX9_hasText 15 = .ok (.iconst 1, 1) := by decide +kernel
theorem dX9_hasText_16 : decode cX9_hasText 16 = .ok (.goto 4, 3) := by decide +kernel
theorem dX9_hasText_19 : decode cX9_hasText 19 = .ok (.iconst 0, 1) := by decide +kernel
theorem dX9_hasText_20 : decode cX9_hasText 20 = .ok (.ireturn, 1) := by decide +kernel
theorem dX9_given_0 : decode cX9_given 0 = .ok (.aload_n 0, 1) := by decide +kernel
theorem dX9_given_1 : decode cX9_given 1 = .ok (.getfield 35, 3) := by decide +kernel
theorem dX9_given_4 : decode cX9_given 4 = .ok (.iconst 0, 1) := by decide +kernel
theorem dX9_given_5 : decode cX9_given 5 = .ok (.iload_n 2, 1) := by decide +kernel
theorem dX9_given_6 : decode cX9_given 6 = .ok (.iastore, 1) := by decide +kernel
theorem dX9_given_7 : decode cX9_given 7 = .ok (.aload_n 0, 1) := by decide +kernel
theorem dX9_given_8 : decode cX9_given 8 = .ok (.getfield 35, 3) := by decide +kernel
theorem dX9_given_11 : decode cX9_given 11 = .ok (.iconst 1, 1) := by decide +kernel
theorem dX9_given_12 : decode cX9_given 12 = .ok (.iload_n 3, 1) := by decide +kernel
theorem dX9_given_13 : decode cX9_given 13 = .ok (.iastore, 1) := by decide +kernel
theorem dX9_given_14 : decode cX9_given 14 = .ok (.aload_n 0, 1) := by decide +kernel
theorem dX9_given_15 : decode cX9_given 15 = .ok (.getfield 35, 3) := by decide +kernel
theorem dX9_given_18 : decode cX9_given 18 = .ok (.iconst 2, 1) := by decide +kernel
theorem dX9_given_19 : decode cX9_given 19 = .ok (.iload 4, 2) := by decide +kernel
theorem dX9_given_21 : decode cX9_given 21 = .ok (.iastore, 1) := by decide +kernel
theorem dX9_given_22 : decode cX9_given 22 = .ok (.iload_n 1, 1) := by decide +kernel
theorem dX9_given_23 : decode cX9_given 23 = .ok (.ifCond .ne 22, 3) := by decide +kernel
theorem dX9_given_26 : decode cX9_given 26 = .ok (.aload_n 0, 1) := by decide +kernel
theorem dX9_given_27 : decode cX9_given 27 = .ok (.iconst 0, 1) := by decide +kernel
theorem dX9_given_28 : decode cX9_given 28 = .ok (.invokevirtual 149, 3) := by decide +kernel
theorem dX9_given_31 : decode cX9_given 31 = .ok (.ifCond .eq 12, 3) := by decide +kernel
theorem dX9_given_34 : decode cX9_given 34 = .ok (.aload_n 0, 1) := by decide +kernel
theorem dX9_given_35 : decode cX9_given 35 = .ok (.bipush 107, 2) := by decide +kernel
theorem dX9_given_37 : decode cX9_given 37 = .ok (.invokevirtual 152, 3) := by decide +kernel
theorem dX9_given_40 : decode cX9_given 40 = .ok (.goto 4, 3) := by decide +kernel
theorem dX9_given_43 : decode cX9_given 43 = .ok (.iconst 0, 1) := by decide +kernel
theorem dX9_given_44 : decode cX9_given 44 = .ok (.ireturn, 1) := by decide +kernel
theorem dX9_given_45 : decode cX9_given 45 = .ok (.aload_n 0, 1) := by decide +kernel
theorem dX9_given_46 : decode cX9_given 46 = .ok (.iconst 1, 1) := by decide +kernel
theorem dX9_given_47 : decode cX9_given 47 = .ok (.invokevirtual 149, 3) := by decide +kernel
theorem dX9_given_50 : decode cX9_given 50 = .ok (.ifCond .eq 13, 3) := by decide +kernel
theorem dX9_given_53 : decode cX9_given 53 = .ok (.aload_n 0, 1) := by decide +kernel
theorem dX9_given_54 : decode cX9_given 54 = .ok (.sipush 159, 3) := by decide +kernel
theorem dX9_given_57 : decode cX9_given 57 = .ok (.invokevirtual 152, 3) := by decide +kernel
theorem dX9_given_60 : decode cX9_given 60 = .ok (.goto 8, 3) := by decide +kernel
theorem dX9_given_63 : decode cX9_given 63 = .ok (.iconst 1, 1) := by decide +kernel
theorem dX9_given_64 : decode cX9_given 64 = .ok (.iload_n 3, 1) := by decide +kernel
theorem dX9_given_65 : decode cX9_given 65 = .ok (.iconst 4, 1) := by decide +kernel
theorem dX9_given_66 : decode cX9_given 66 = .ok (.idiv, 1) := by decide +kernel
theorem dX9_given_67 : decode cX9_given 67 = .ok (.iadd, 1) := by decide +kernel
theorem dX9_given_68 : decode cX9_given 68 = .ok (.iconst 0, 1) := by decide +kernel
theorem dX9_given_69 : decode cX9_given 69 = .ok (.bipush 99, 2) := by decide +kernel
theorem dX9_given_71 : decode cX9_given 71 = .ok (.invokestatic 155, 3) := by decide +kernel
theorem dX9_given_74 : decode cX9_given 74 = .ok (.ireturn, 1) := by decide +kernel
theorem dX9_law_0 : decode cX9_law 0 = .ok (.iload_n 1, 1) := by decide +kernel
theorem dX9_law_1 : decode cX9_law 1 = .ok (.iconst 0, 1) := by decide +kernel
theorem dX9_law_2 : decode cX9_law 2 = .ok (.iconst 1, 1) := by decide +kernel
theorem dX9_law_3 : decode cX9_law 3 = .ok (.invokestatic 76, 3) := by decide +kernel
theorem dX9_law_6 : decode cX9_law 6 = .ok (.ifCond .eq 15, 3) := by decide +kernel
theorem dX9_law_9 : decode cX9_law 9 = .ok (.aload_n 0, 1) := by decide +kernel
theorem dX9_law_10 : decode cX9_law 10 = .ok (.iload_n 1, 1) := by decide +kernel
theorem dX9_law_11 : decode cX9_law 11 = .ok (.iload_n 2, 1) := by decide +kernel
theorem dX9_law_12 : decode cX9_law 12 = .ok (.iload_n 3, 1) := by decide +kernel
theorem dX9_law_13 : decode cX9_law 13 = .ok (.iload 4, 2) := by decide +kernel
theorem dX9_law_15 : decode cX9_law 15 = .ok (.invokevirtual 158, 3) := by decide +kernel
theorem dX9_law_18 : decode cX9_law 18 = .ok (.goto 9, 3) := by decide +kernel
theorem dX9_law_21 : decode cX9_law 21 = .ok (.aload_n 0, 1) := by decide +kernel
theorem dX9_law_22 : decode cX9_law 22 = .ok (.ldc 80, 2) := by decide +kernel
theorem dX9_law_24 : decode cX9_law 24 = .ok (.invokevirtual 81, 3) := by decide +kernel
theorem dX9_law_27 : decode cX9_law 27 = .ok (.ireturn, 1) := by decide +kernel
theorem dX9_isCell_0 : decode cX9_isCell 0 = .ok (.iload_n 0, 1) := by decide +kernel
theorem dX9_isCell_1 : decode cX9_isCell 1 = .ok (.iconst 0, 1) := by decide +kernel
theorem dX9_isCell_2 : decode cX9_isCell 2 = .ok (.bipush 23, 2) := by decide +kernel
theorem dX9_isCell_4 : decode cX9_isCell 4 = .ok (.invokestatic 76, 3) := by decide +kernel
theorem dX9_isCell_7 : decode cX9_isCell 7 = .ok (.ireturn, 1) := by decide +kernel
theorem dX9_columnsLit_0 : decode cX9_columnsLit 0 = .ok (.iload_n 0, 1) := by decide +kernel
theorem dX9_columnsLit_1 : decode cX9_columnsLit 1 = .ok (.bipush 8, 2) := by decide +kernel
theorem dX9_columnsLit_3 : decode cX9_columnsLit 3 = .ok (.if_icmp .gt 18, 3) := by decide +kernel
theorem dX9_columnsLit_6 : decode cX9_columnsLit 6 = .ok (.sipush 255, 3) := by decide +kernel
theorem dX9_columnsLit_9 : decode cX9_columnsLit 9 = .ok (.bipush 8, 2) := by decide +kernel
theorem dX9_columnsLit_11 : decode cX9_columnsLit 11 = .ok (.iload_n 0, 1) := by decide +kernel
theorem dX9_columnsLit_12 : decode cX9_columnsLit 12 = .ok (.isub, 1) := by decide +kernel
theorem dX9_columnsLit_13 : decode cX9_columnsLit 13 = .ok (.ishl, 1) := by decide +kernel
theorem dX9_columnsLit_14 : decode cX9_columnsLit 14 = .ok (.sipush 255, 3) := by decide +kernel
theorem dX9_columnsLit_17 : decode cX9_columnsLit 17 = .ok (.iand, 1) := by decide +kernel
theorem dX9_columnsLit_18 : decode cX9_columnsLit 18 = .ok (.goto 11, 3) := by decide +kernel
theorem dX9_columnsLit_21 : decode cX9_columnsLit 21 = .ok (.iconst 1, 1) := by decide +kernel
theorem dX9_columnsLit_22 : decode cX9_columnsLit 22 = .ok (.bipush 16, 2) := by decide +kernel
theorem dX9_columnsLit_24 : decode cX9_columnsLit 24 = .ok (.iload_n 0, 1) := by decide +kernel
theorem dX9_columnsLit_25 : decode cX9_columnsLit 25 = .ok (.isub, 1) := by decide +kernel
theorem dX9_columnsLit_26 : decode cX9_columnsLit 26 = .ok (.ishl, 1) := by decide +kernel
theorem dX9_columnsLit_27 : decode cX9_columnsLit 27 = .ok (.iconst 1, 1) := by decide +kernel
theorem dX9_columnsLit_28 : decode cX9_columnsLit 28 = .ok (.isub, 1) := by decide +kernel
theorem dX9_columnsLit_29 : decode cX9_columnsLit 29 = .ok (.ireturn, 1) := by decide +kernel
theorem dX9_litBy_0 : decode cX9_litBy 0 = .ok (.iload_n 0, 1) := by decide +kernel
theorem dX9_litBy_1 : decode cX9_litBy 1 = .ok (.invokestatic 162, 3) := by decide +kernel
theorem dX9_litBy_4 : decode cX9_litBy 4 = .ok (.ldc 165, 2) := by decide +kernel
theorem dX9_litBy_6 : decode cX9_litBy 6 = .ok (.imul, 1) := by decide +kernel
theorem dX9_litBy_7 : decode cX9_litBy 7 = .ok (.ireturn, 1) := by decide +kernel
theorem dX9_phase_0 : decode cX9_phase 0 = .ok (.aload_n 0, 1) := by decide +kernel
theorem dX9_phase_1 : decode cX9_phase 1 = .ok (.getfield 9, 3) := by decide +kernel
theorem dX9_phase_4 : decode cX9_phase 4 = .ok (.iconst 0, 1) := by decide +kernel
theorem dX9_phase_5 : decode cX9_phase 5 = .ok (.iaload, 1) := by decide +kernel
theorem dX9_phase_6 : decode cX9_phase 6 = .ok (.bipush 16, 2) := by decide +kernel
theorem dX9_phase_8 : decode cX9_phase 8 = .ok (.irem, 1) := by decide +kernel
theorem dX9_phase_9 : decode cX9_phase 9 = .ok (.ireturn, 1) := by decide +kernel
theorem dX9_litNow_0 : decode cX9_litNow 0 = .ok (.aload_n 0, 1) := by decide +kernel
theorem dX9_litNow_1 : decode cX9_litNow 1 = .ok (.invokevirtual 166, 3) := by decide +kernel
theorem dX9_litNow_4 : decode cX9_litNow 4 = .ok (.invokestatic 169, 3) := by decide +kernel
theorem dX9_litNow_7 : decode cX9_litNow 7 = .ok (.ireturn, 1) := by decide +kernel
theorem dX9_isCloudy_0 : decode cX9_isCloudy 0 = .ok (.aload_n 0, 1) := by decide +kernel
theorem dX9_isCloudy_1 : decode cX9_isCloudy 1 = .ok (.iconst 0, 1) := by decide +kernel
theorem dX9_isCloudy_2 : decode cX9_isCloudy 2 = .ok (.aload_n 0, 1) := by decide +kernel
theorem dX9_isCloudy_3 : decode cX9_isCloudy 3 = .ok (.getfield 9, 3) := by decide +kernel
theorem dX9_isCloudy_6 : decode cX9_isCloudy 6 = .ok (.iconst 0, 1) := by decide +kernel
theorem dX9_isCloudy_7 : decode cX9_isCloudy 7 = .ok (.iaload, 1) := by decide +kernel
theorem dX9_isCloudy_8 : decode cX9_isCloudy 8 = .ok (.aload_n 0, 1) := by decide +kernel
theorem dX9_isCloudy_9 : decode cX9_isCloudy 9 = .ok (.invokevirtual 166, 3) := by decide +kernel
theorem dX9_isCloudy_12 : decode cX9_isCloudy 12 = .ok (.aload_n 0, 1) := by decide +kernel
theorem dX9_isCloudy_13 : decode cX9_isCloudy 13 = .ok (.getfield 9, 3) := by decide +kernel
theorem dX9_isCloudy_16 : decode cX9_isCloudy 16 = .ok (.iconst 2, 1) := by decide +kernel
theorem dX9_isCloudy_17 : decode cX9_isCloudy 17 = .ok (.iaload, 1) := by decide +kernel
theorem dX9_isCloudy_18 : decode cX9_isCloudy 18 = .ok (.invokevirtual 158, 3) := by decide +kernel
theorem dX9_isCloudy_21 : decode cX9_isCloudy 21 = .ok (.ifCond .eq 7, 3) := by decide +kernel
theorem dX9_isCloudy_24 : decode cX9_isCloudy 24 = .ok (.iconst 1, 1) := by decide +kernel
theorem dX9_isCloudy_25 : decode cX9_isCloudy 25 = .ok (.goto 4, 3) := by decide +kernel
theorem dX9_isCloudy_28 : decode cX9_isCloudy 28 = .ok (.iconst 0, 1) := by decide +kernel
theorem dX9_isCloudy_29 : decode cX9_isCloudy 29 = .ok (.ireturn, 1) := by decide +kernel
theorem dX9_seenNow_0 : decode cX9_seenNow 0 = .ok (.aload_n 0, 1) := by decide +kernel
theorem dX9_seenNow_1 : decode cX9_seenNow 1 = .ok (.invokevirtual 172, 3) := by decide +kernel
theorem dX9_seenNow_4 : decode cX9_seenNow 4 = .ok (.ifCond .eq 7, 3) := by decide +kernel
theorem dX9_seenNow_7 : decode cX9_seenNow 7 = .ok (.iconst 0, 1) := by decide +kernel
theorem dX9_seenNow_8 : decode cX9_seenNow 8 = .ok (.goto 7, 3) := by decide +kernel
theorem dX9_seenNow_11 : decode cX9_seenNow 11 = .ok (.aload_n 0, 1) := by decide +kernel
theorem dX9_seenNow_12 : decode cX9_seenNow 12 = .ok (.invokevirtual 176, 3) := by decide +kernel
theorem dX9_seenNow_15 : decode cX9_seenNow 15 = .ok (.ireturn, 1) := by decide +kernel
theorem dX9_holders_0 : decode cX9_holders 0 = .ok (.iconst 0, 1) := by decide +kernel
theorem dX9_holders_1 : decode cX9_holders 1 = .ok (.istore_n 2, 1) := by decide +kernel
theorem dX9_holders_2 : decode cX9_holders 2 = .ok (.iconst 0, 1) := by decide +kernel
theorem dX9_holders_3 : decode cX9_holders 3 = .ok (.istore_n 3, 1) := by decide +kernel
theorem dX9_holders_4 : decode cX9_holders 4 = .ok (.iload_n 3, 1) := by decide +kernel
theorem dX9_holders_5 : decode cX9_holders 5 = .ok (.aload_n 0, 1) := by decide +kernel
theorem dX9_holders_6 : decode cX9_holders 6 = .ok (.getfield 9, 3) := by decide +kernel
theorem dX9_holders_9 : decode cX9_holders 9 = .ok (.iconst 1, 1) := by decide +kernel
theorem dX9_holders_10 : decode cX9_holders 10 = .ok (.iaload, 1) := by decide +kernel
theorem dX9_holders_11 : decode cX9_holders 11 = .ok (.if_icmp .ge 32, 3) := by decide +kernel
theorem dX9_holders_14 : decode cX9_holders 14 = .ok (.iload_n 2, 1) := by decide +kernel
theorem dX9_holders_15 : decode cX9_holders 15 = .ok (.aload_n 0, 1) := by decide +kernel
theorem dX9_holders_16 : decode cX9_holders 16 = .ok (.iload_n 3, 1) := by decide +kernel
theorem dX9_holders_17 : decode cX9_holders 17 = .ok (.iconst 2, 1) := by decide +kernel
theorem dX9_holders_18 : decode cX9_holders 18 = .ok (.invokevirtual 179, 3) := by decide +kernel
theorem dX9_holders_21 : decode cX9_holders 21 = .ok (.iload_n 1, 1) := by decide +kernel
theorem dX9_holders_22 : decode cX9_holders 22 = .ok (.invokestatic 182, 3) := by decide +kernel
theorem dX9_holders_25 : decode cX9_holders 25 = .ok (.ifCond .eq 9, 3) := by decide +kernel
theorem dX9_holders_28 : decode cX9_holders 28 = .ok (.iconst 1, 1) := by decide +kernel
theorem dX9_holders_29 : decode cX9_holders 29 = .ok (.iload_n 3, 1) := by decide +kernel
theorem dX9_holders_30 : decode cX9_holders 30 = .ok (.ishl, 1) := by decide +kernel
theorem dX9_holders_31 : decode cX9_holders 31 = .ok (.goto 4, 3) := by decide +kernel
theorem dX9_holders_34 : decode cX9_holders 34 = .ok (.iconst 0, 1) := by decide +kernel
theorem dX9_holders_35 : decode cX9_holders 35 = .ok (.ior, 1) := by decide +kernel
theorem dX9_holders_36 : decode cX9_holders 36 = .ok (.istore_n 2, 1) := by decide +kernel
theorem dX9_holders_37 : decode cX9_holders 37 = .ok (.iinc 3 1, 3) := by decide +kernel
theorem dX9_holders_40 : decode cX9_holders 40 = .ok (.goto (-36), 3) := by decide +kernel
theorem dX9_holders_43 : decode cX9_holders 43 = .ok (.iload_n 2, 1) := by decide +kernel
theorem dX9_holders_44 : decode cX9_holders 44 = .ok (.ireturn, 1) := by decide +kernel
theorem dX9_rentOf_0 : decode cX9_rentOf 0 = .ok (.aload_n 0, 1) := by decide +kernel
theorem dX9_rentOf_1 : decode cX9_rentOf 1 = .ok (.iconst 1, 1) := by decide +kernel
theorem dX9_rentOf_2 : decode cX9_rentOf 2 = .ok (.iload_n 1, 1) := by decide +kernel
theorem dX9_rentOf_3 : decode cX9_rentOf 3 = .ok (.bipush 8, 2) := by decide +kernel
theorem dX9_rentOf_5 : decode cX9_rentOf 5 = .ok (.idiv, 1) := by decide +kernel
theorem dX9_rentOf_6 : decode cX9_rentOf 6 = .ok (.iload_n 1, 1) := by decide +kernel
theorem dX9_rentOf_7 : decode cX9_rentOf 7 = .ok (.bipush 8, 2) := by decide +kernel
theorem dX9_rentOf_9 : decode cX9_rentOf 9 = .ok (.irem, 1) := by decide +kernel
theorem dX9_rentOf_10 : decode cX9_rentOf 10 = .ok (.aload_n 0, 1) := by decide +kernel
theorem dX9_rentOf_11 : decode cX9_rentOf 11 = .ok (.iload_n 1, 1) := by decide +kernel
theorem dX9_rentOf_12 : decode cX9_rentOf 12 = .ok (.invokevirtual 186, 3) := by decide +kernel
theorem dX9_rentOf_15 : decode cX9_rentOf 15 = .ok (.invokestatic 189, 3) := by decide +kernel
theorem dX9_rentOf_18 : decode cX9_rentOf 18 = .ok (.invokevirtual 158, 3) := by decide +kernel
theorem dX9_rentOf_21 : decode cX9_rentOf 21 = .ok (.ireturn, 1) := by decide +kernel
theorem dX9_ofCell_0 : decode cX9_ofCell 0 = .ok (.iload_n 1, 1) := by decide +kernel
theorem dX9_ofCell_1 : decode cX9_ofCell 1 = .ok (.invokestatic 192, 3) := by decide +kernel
theorem dX9_ofCell_4 : decode cX9_ofCell 4 = .ok (.ifCond .eq 12, 3) := by decide +kernel
theorem dX9_ofCell_7 : decode cX9_ofCell 7 = .ok (.iload_n 2, 1) := by decide +kernel
theorem dX9_ofCell_8 : decode cX9_ofCell 8 = .ok (.iconst 0, 1) := by decide +kernel
theorem dX9_ofCell_9 : decode cX9_ofCell 9 = .ok (.iconst 3, 1) := by decide +kernel
theorem dX9_ofCell_10 : decode cX9_ofCell 10 = .ok (.invokestatic 76, 3) := by decide +kernel
theorem dX9_ofCell_13 : decode cX9_ofCell 13 = .ok (.ifCond .ne 10, 3) := by decide +kernel
theorem dX9_ofCell_16 : decode cX9_ofCell 16 = .ok (.aload_n 0, 1) := by decide +kernel
theorem dX9_ofCell_17 : decode cX9_ofCell 17 = .ok (.ldc 80, 2) := by decide +kernel
theorem dX9_ofCell_19 : decode cX9_ofCell 19 = .ok (.invokevirtual 81, 3) := by decide +kernel
theorem dX9_ofCell_22 : decode cX9_ofCell 22 = .ok (.ireturn, 1) := by decide +kernel
theorem dX9_ofCell_23 : decode cX9_ofCell 23 = .ok (.iload_n 2, 1) := by decide +kernel
theorem dX9_ofCell_24 : decode cX9_ofCell 24 = .ok (.tableswitch 52 0 2 #[28, 37, 46], 28) := by decide +kernel
theorem dX9_ofCell_52 : decode cX9_ofCell 52 = .ok (.aload_n 0, 1) := by decide +kernel
theorem dX9_ofCell_53 : decode cX9_ofCell 53 = .ok (.invokevirtual 176, 3) := by decide +kernel
theorem dX9_ofCell_56 : decode cX9_ofCell 56 = .ok (.iload_n 1, 1) := by decide +kernel
theorem dX9_ofCell_57 : decode cX9_ofCell 57 = .ok (.ishr, 1) := by decide +kernel
theorem dX9_ofCell_58 : decode cX9_ofCell 58 = .ok (.iconst 1, 1) := by decide +kernel
theorem dX9_ofCell_59 : decode cX9_ofCell 59 = .ok (.iand, 1) := by decide +kernel
theorem dX9_ofCell_60 : decode cX9_ofCell 60 = .ok (.ireturn, 1) := by decide +kernel
theorem dX9_ofCell_61 : decode cX9_ofCell 61 = .ok (.aload_n 0, 1) := by decide +kernel
theorem dX9_ofCell_62 : decode cX9_ofCell 62 = .ok (.invokevirtual 195, 3) := by decide +kernel
theorem dX9_ofCell_65 : decode cX9_ofCell 65 = .ok (.iload_n 1, 1) := by decide +kernel
theorem dX9_ofCell_66 : decode cX9_ofCell 66 = .ok (.ishr, 1) := by decide +kernel
theorem dX9_ofCell_67 : decode cX9_ofCell 67 = .ok (.iconst 1, 1) := by decide +kernel
theorem dX9_ofCell_68 : decode cX9_ofCell 68 = .ok (.iand, 1) := by decide +kernel
theorem dX9_ofCell_69 : decode cX9_ofCell 69 = .ok (.ireturn, 1) := by decide +kernel
theorem dX9_ofCell_70 : decode cX9_ofCell 70 = .ok (.aload_n 0, 1) := by decide +kernel
theorem dX9_ofCell_71 : decode cX9_ofCell 71 = .ok (.iload_n 1, 1) := by decide +kernel
theorem dX9_ofCell_72 : decode cX9_ofCell 72 = .ok (.invokevirtual 198, 3) := by decide +kernel
theorem dX9_ofCell_75 : decode cX9_ofCell 75 = .ok (.ireturn, 1) := by decide +kernel
theorem dX9_ofCell_76 : decode cX9_ofCell 76 = .ok (.aload_n 0, 1) := by decide +kernel
theorem dX9_ofCell_77 : decode cX9_ofCell 77 = .ok (.iload_n 1, 1) := by decide +kernel
theorem dX9_ofCell_78 : decode cX9_ofCell 78 = .ok (.invokevirtual 186, 3) := by decide +kernel
theorem dX9_ofCell_81 : decode cX9_ofCell 81 = .ok (.ireturn, 1) := by decide +kernel
theorem dX9_lit_0 : decode cX9_lit 0 = .ok (.iload_n 1, 1) := by decide +kernel
theorem dX9_lit_1 : decode cX9_lit 1 = .ok (.iconst 0, 1) := by decide +kernel
theorem dX9_lit_2 : decode cX9_lit 2 = .ok (.bipush 15, 2) := by decide +kernel
theorem dX9_lit_4 : decode cX9_lit 4 = .ok (.invokestatic 76, 3) := by decide +kernel
theorem dX9_lit_7 : decode cX9_lit 7 = .ok (.ifCond .eq 10, 3) := by decide +kernel
theorem dX9_lit_10 : decode cX9_lit 10 = .ok (.iload_n 1, 1) := by decide +kernel
theorem dX9_lit_11 : decode cX9_lit 11 = .ok (.invokestatic 169, 3) := by decide +kernel
theorem dX9_lit_14 : decode cX9_lit 14 = .ok (.goto 9, 3) := by decide +kernel
theorem dX9_lit_17 : decode cX9_lit 17 = .ok (.aload_n 0, 1) := by decide +kernel
theorem dX9_lit_18 : decode cX9_lit 18 = .ok (.ldc 80, 2) := by decide +kernel
theorem dX9_lit_20 : decode cX9_lit 20 = .ok (.invokevirtual 81, 3) := by decide +kernel
theorem dX9_lit_23 : decode cX9_lit 23 = .ok (.ireturn, 1) := by decide +kernel
theorem dX9_weather_0 : decode cX9_weather 0 = .ok (.iload_n 1, 1) := by decide +kernel
theorem dX9_weather_1 : decode cX9_weather 1 = .ok (.iconst 0, 1) := by decide +kernel
theorem dX9_weather_2 : decode cX9_weather 2 = .ok (.bipush 9, 2) := by decide +kernel
theorem dX9_weather_4 : decode cX9_weather 4 = .ok (.invokestatic 76, 3) := by decide +kernel
theorem dX9_weather_7 : decode cX9_weather 7 = .ok (.ifCond .eq 12, 3) := by decide +kernel
theorem dX9_weather_10 : decode cX9_weather 10 = .ok (.aload_n 0, 1) := by decide +kernel
theorem dX9_weather_11 : decode cX9_weather 11 = .ok (.iconst 2, 1) := by decide +kernel
theorem dX9_weather_12 : decode cX9_weather 12 = .ok (.iload_n 1, 1) := by decide +kernel
theorem dX9_weather_13 : decode cX9_weather 13 = .ok (.invokevirtual 201, 3) := by decide +kernel
theorem dX9_weather_16 : decode cX9_weather 16 = .ok (.goto 9, 3) := by decide +kernel
theorem dX9_weather_19 : decode cX9_weather 19 = .ok (.aload_n 0, 1) := by decide +kernel
theorem dX9_weather_20 : decode cX9_weather 20 = .ok (.ldc 80, 2) := by decide +kernel
theorem dX9_weather_22 : decode cX9_weather 22 = .ok (.invokevirtual 81, 3) := by decide +kernel
theorem dX9_weather_25 : decode cX9_weather 25 = .ok (.ireturn, 1) := by decide +kernel
theorem dX9_isTenant_0 : decode cX9_isTenant 0 = .ok (.iload_n 1, 1) := by decide +kernel
theorem dX9_isTenant_1 : decode cX9_isTenant 1 = .ok (.iconst 0, 1) := by decide +kernel
theorem dX9_isTenant_2 : decode cX9_isTenant 2 = .ok (.aload_n 0, 1) := by decide +kernel
theorem dX9_isTenant_3 : decode cX9_isTenant 3 = .ok (.getfield 9, 3) := by decide +kernel
theorem dX9_isTenant_6 : decode cX9_isTenant 6 = .ok (.iconst 1, 1) := by decide +kernel
theorem dX9_isTenant_7 : decode cX9_isTenant 7 = .ok (.iaload, 1) := by decide +kernel
theorem dX9_isTenant_8 : decode cX9_isTenant 8 = .ok (.iconst 1, 1) := by decide +kernel
theorem dX9_isTenant_9 : decode cX9_isTenant 9 = .ok (.isub, 1) := by decide +kernel
theorem dX9_isTenant_10 : decode cX9_isTenant 10 = .ok (.invokestatic 76, 3) := by decide +kernel
theorem dX9_isTenant_13 : decode cX9_isTenant 13 = .ok (.ireturn, 1) := by decide +kernel
theorem dX9_at_0 : decode cX9_at 0 = .ok (.bipush 6, 2) := by decide +kernel
theorem dX9_at_2 : decode cX9_at 2 = .ok (.iconst 5, 1) := by decide +kernel
theorem dX9_at_3 : decode cX9_at 3 = .ok (.iload_n 0, 1) := by decide +kernel
theorem dX9_at_4 : decode cX9_at 4 = .ok (.imul, 1) := by decide +kernel
theorem dX9_at_5 : decode cX9_at 5 = .ok (.iadd, 1) := by decide +kernel
theorem dX9_at_6 : decode cX9_at 6 = .ok (.iload_n 1, 1) := by decide +kernel
theorem dX9_at_7 : decode cX9_at 7 = .ok (.iadd, 1) := by decide +kernel
theorem dX9_at_8 : decode cX9_at 8 = .ok (.ireturn, 1) := by decide +kernel
theorem dX9_tenantIs_0 : decode cX9_tenantIs 0 = .ok (.aload_n 0, 1) := by decide +kernel
theorem dX9_tenantIs_1 : decode cX9_tenantIs 1 = .ok (.getfield 9, 3) := by decide +kernel
theorem dX9_tenantIs_4 : decode cX9_tenantIs 4 = .ok (.iload_n 1, 1) := by decide +kernel
theorem dX9_tenantIs_5 : decode cX9_tenantIs 5 = .ok (.iload_n 2, 1) := by decide +kernel
theorem dX9_tenantIs_6 : decode cX9_tenantIs 6 = .ok (.invokestatic 204, 3) := by decide +kernel
theorem dX9_tenantIs_9 : decode cX9_tenantIs 9 = .ok (.iaload, 1) := by decide +kernel
theorem dX9_tenantIs_10 : decode cX9_tenantIs 10 = .ok (.ireturn, 1) := by decide +kernel
theorem dX9_isOut_0 : decode cX9_isOut 0 = .ok (.aload_n 0, 1) := by decide +kernel
theorem dX9_isOut_1 : decode cX9_isOut 1 = .ok (.iload_n 1, 1) := by decide +kernel
theorem dX9_isOut_2 : decode cX9_isOut 2 = .ok (.iconst 4, 1) := by decide +kernel
theorem dX9_isOut_3 : decode cX9_isOut 3 = .ok (.invokevirtual 179, 3) := by decide +kernel
theorem dX9_isOut_6 : decode cX9_isOut 6 = .ok (.iconst 1, 1) := by decide +kernel
theorem dX9_isOut_7 : decode cX9_isOut 7 = .ok (.if_icmp .ne 7, 3) := by decide +kernel
theorem dX9_isOut_10 : decode cX9_isOut 10 = .ok (.iconst 1, 1) := by decide +kernel
theorem dX9_isOut_11 : decode cX9_isOut 11 = .ok (.goto 4, 3) := by decide +kernel
theorem dX9_isOut_14 : decode cX9_isOut 14 = .ok (.iconst 0, 1) := by decide +kernel
theorem dX9_isOut_15 : decode cX9_isOut 15 = .ok (.ireturn, 1) := by decide +kernel
theorem dX9_isKindM_0 : decode cX9_isKindM 0 = .ok (.iload_n 0, 1) := by decide +kernel
theorem dX9_isKindM_1 : decode cX9_isKindM 1 = .ok (.iconst 0, 1) := by decide +kernel
theorem dX9_isKindM_2 : decode cX9_isKindM 2 = .ok (.bipush 69, 2) := by decide +kernel
theorem dX9_isKindM_4 : decode cX9_isKindM 4 = .ok (.invokestatic 76, 3) := by decide +kernel
theorem dX9_isKindM_7 : decode cX9_isKindM 7 = .ok (.ireturn, 1) := by decide +kernel
theorem dX9_comes_0 : decode cX9_comes 0 = .ok (.aload_n 0, 1) := by decide +kernel
theorem dX9_comes_1 : decode cX9_comes 1 = .ok (.getfield 9, 3) := by decide +kernel
theorem dX9_comes_4 : decode cX9_comes 4 = .ok (.iconst 1, 1) := by decide +kernel
theorem dX9_comes_5 : decode cX9_comes 5 = .ok (.iaload, 1) := by decide +kernel
theorem dX9_comes_6 : decode cX9_comes 6 = .ok (.istore_n 2, 1) := by decide +kernel
theorem dX9_comes_7 : decode cX9_comes 7 = .ok (.aload_n 0, 1) := by decide +kernel
theorem dX9_comes_8 : decode cX9_comes 8 = .ok (.getfield 9, 3) := by decide +kernel
theorem dX9_comes_11 : decode cX9_comes 11 = .ok (.iload_n 2, 1) := by decide +kernel
theorem dX9_comes_12 : decode cX9_comes 12 = .ok (.iconst 0, 1) := by decide +kernel
theorem dX9_comes_13 : decode cX9_comes 13 = .ok (.invokestatic 204, 3) := by decide +kernel
theorem dX9_comes_16 : decode cX9_comes 16 = .ok (.iload_n 1, 1) := by decide +kernel
theorem dX9_comes_17 : decode cX9_comes 17 = .ok (.bipush 10, 2) := by decide +kernel
theorem dX9_comes_19 : decode cX9_comes 19 = .ok (.idiv, 1) := by decide +kernel
theorem dX9_comes_20 : decode cX9_comes 20 = .ok (.iastore, 1) := by decide +kernel
theorem dX9_comes_21 : decode cX9_comes 21 = .ok (.aload_n 0, 1) := by decide +kernel
theorem dX9_comes_22 : decode cX9_comes 22 = .ok (.getfield 9, 3) := by decide +kernel
theorem dX9_comes_25 : decode cX9_comes 25 = .ok (.iload_n 2, 1) := by decide +kernel
theorem dX9_comes_26 : decode cX9_comes 26 = .ok (.iconst 1, 1) := by decide +kernel
theorem dX9_comes_27 : decode cX9_comes 27 = .ok (.invokestatic 204, 3) := by decide +kernel
theorem dX9_comes_30 : decode cX9_comes 30 = .ok (.iload_n 1, 1) := by decide +kernel
theorem dX9_comes_31 : decode cX9_comes 31 = .ok (.bipush 10, 2) := by decide +kernel
theorem dX9_comes_33 : decode cX9_comes 33 = .ok (.irem, 1) := by decide +kernel
theorem dX9_comes_34 : decode cX9_comes 34 = .ok (.iastore, 1) := by decide +kernel
theorem dX9_comes_35 : decode cX9_comes 35 = .ok (.aload_n 0, 1) := by decide +kernel
theorem dX9_comes_36 : decode cX9_comes 36 = .ok (.getfield 9, 3) := by decide +kernel
theorem dX9_comes_39 : decode cX9_comes 39 = .ok (.iload_n 2, 1) := by decide +kernel
theorem dX9_comes_40 : decode cX9_comes 40 = .ok (.iconst 2, 1) := by decide +kernel
theorem dX9_comes_41 : decode cX9_comes 41 = .ok (.invokestatic 204, 3) := by decide +kernel
theorem dX9_comes_44 : decode cX9_comes 44 = .ok (.iconst 0, 1) := by decide +kernel
theorem dX9_comes_45 : decode cX9_comes 45 = .ok (.iastore, 1) := by decide +kernel
theorem dX9_comes_46 : decode cX9_comes 46 = .ok (.aload_n 0, 1) := by decide +kernel
theorem dX9_comes_47 : decode cX9_comes 47 = .ok (.getfield 9, 3) := by decide +kernel
theorem dX9_comes_50 : decode cX9_comes 50 = .ok (.iload_n 2, 1) := by decide +kernel
theorem dX9_comes_51 : decode cX9_comes 51 = .ok (.iconst 3, 1) := by decide +kernel
theorem dX9_comes_52 : decode cX9_comes 52 = .ok (.invokestatic 204, 3) := by decide +kernel
theorem dX9_comes_55 : decode cX9_comes 55 = .ok (.iconst 0, 1) := by decide +kernel
theorem dX9_comes_56 : decode cX9_comes 56 = .ok (.iastore, 1) := by decide +kernel
theorem dX9_comes_57 : decode cX9_comes 57 = .ok (.aload_n 0, 1) := by decide +kernel
theorem dX9_comes_58 : decode cX9_comes 58 = .ok (.getfield 9, 3) := by decide +kernel
theorem dX9_comes_61 : decode cX9_comes 61 = .ok (.iload_n 2, 1) := by decide +kernel
theorem dX9_comes_62 : decode cX9_comes 62 = .ok (.iconst 4, 1) := by decide +kernel
theorem dX9_comes_63 : decode cX9_comes 63 = .ok (.invokestatic 204, 3) := by decide +kernel
theorem dX9_comes_66 : decode cX9_comes 66 = .ok (.iconst 0, 1) := by decide +kernel
theorem dX9_comes_67 : decode cX9_comes 67 = .ok (.iastore, 1) := by decide +kernel
theorem dX9_comes_68 : decode cX9_comes 68 = .ok (.aload_n 0, 1) := by decide +kernel
theorem dX9_comes_69 : decode cX9_comes 69 = .ok (.getfield 9, 3) := by decide +kernel
theorem dX9_comes_72 : decode cX9_comes 72 = .ok (.iconst 1, 1) := by decide +kernel
theorem dX9_comes_73 : decode cX9_comes 73 = .ok (.dup2, 1) := by decide +kernel
theorem dX9_comes_74 : decode cX9_comes 74 = .ok (.iaload, 1) := by decide +kernel
theorem dX9_comes_75 : decode cX9_comes 75 = .ok (.iconst 1, 1) := by decide +kernel
theorem dX9_comes_76 : decode cX9_comes 76 = .ok (.iadd, 1) := by decide +kernel
theorem dX9_comes_77 : decode cX9_comes 77 = .ok (.iastore, 1) := by decide +kernel
theorem dX9_comes_78 : decode cX9_comes 78 = .ok (.iload_n 2, 1) := by decide +kernel
theorem dX9_comes_79 : decode cX9_comes 79 = .ok (.ireturn, 1) := by decide +kernel
theorem dX9_tenant_0 : decode cX9_tenant 0 = .ok (.iload_n 1, 1) := by decide +kernel
theorem dX9_tenant_1 : decode cX9_tenant 1 = .ok (.invokestatic 206, 3) := by decide +kernel
theorem dX9_tenant_4 : decode cX9_tenant 4 = .ok (.ifCond .ne 10, 3) := by decide +kernel
theorem dX9_tenant_7 : decode cX9_tenant 7 = .ok (.aload_n 0, 1) := by decide +kernel
theorem dX9_tenant_8 : decode cX9_tenant 8 = .ok (.ldc 80, 2) := by decide +kernel
theorem dX9_tenant_10 : decode cX9_tenant 10 = .ok (.invokevirtual 81, 3) := by decide +kernel
theorem dX9_tenant_13 : decode cX9_tenant 13 = .ok (.ireturn, 1) := by decide +kernel
theorem dX9_tenant_14 : decode cX9_tenant 14 = .ok (.aload_n 0, 1) := by decide +kernel
theorem dX9_tenant_15 : decode cX9_tenant 15 = .ok (.getfield 9, 3) := by decide +kernel
theorem dX9_tenant_18 : decode cX9_tenant 18 = .ok (.iconst 1, 1) := by decide +kernel
theorem dX9_tenant_19 : decode cX9_tenant 19 = .ok (.iaload, 1) := by decide +kernel
theorem dX9_tenant_20 : decode cX9_tenant 20 = .ok (.bipush 6, 2) := by decide +kernel
theorem dX9_tenant_22 : decode cX9_tenant 22 = .ok (.if_icmp .ne 12, 3) := by decide +kernel
theorem dX9_tenant_25 : decode cX9_tenant 25 = .ok (.aload_n 0, 1) := by decide +kernel
theorem dX9_tenant_26 : decode cX9_tenant 26 = .ok (.ldc 85, 2) := by decide +kernel
theorem dX9_tenant_28 : decode cX9_tenant 28 = .ok (.invokevirtual 81, 3) := by decide +kernel
theorem dX9_tenant_31 : decode cX9_tenant 31 = .ok (.goto 8, 3) := by decide +kernel
theorem dX9_tenant_34 : decode cX9_tenant 34 = .ok (.aload_n 0, 1) := by decide +kernel
theorem dX9_tenant_35 : decode cX9_tenant 35 = .ok (.iload_n 1, 1) := by decide +kernel
theorem dX9_tenant_36 : decode cX9_tenant 36 = .ok (.invokevirtual 209, 3) := by decide +kernel
theorem dX9_tenant_39 : decode cX9_tenant 39 = .ok (.ireturn, 1) := by decide +kernel
theorem dX9_above_0 : decode cX9_above 0 = .ok (.iload_n 0, 1) := by decide +kernel
theorem dX9_above_1 : decode cX9_above 1 = .ok (.ifCond .ne 7, 3) := by decide +kernel
theorem dX9_above_4 : decode cX9_above 4 = .ok (.iconst (-1), 1) := by decide +kernel
theorem dX9_above_5 : decode cX9_above 5 = .ok (.goto 32, 3) := by decide +kernel
theorem dX9_above_8 : decode cX9_above 8 = .ok (.iload_n 0, 1) := by decide +kernel
theorem dX9_above_9 : decode cX9_above 9 = .ok (.iconst 4, 1) := by decide +kernel
theorem dX9_above_10 : decode cX9_above 10 = .ok (.if_icmp .ne 7, 3) := by decide +kernel
theorem dX9_above_13 : decode cX9_above 13 = .ok (.iconst 1, 1) := by decide +kernel
theorem dX9_above_14 : decode cX9_above 14 = .ok (.goto 23, 3) := by decide +kernel
theorem dX9_above_17 : decode cX9_above 17 = .ok (.iload_n 0, 1) := by decide +kernel
theorem dX9_above_18 : decode cX9_above 18 = .ok (.iconst 5, 1) := by decide +kernel
theorem dX9_above_19 : decode cX9_above 19 = .ok (.if_icmp .ne 7, 3) := by decide +kernel
theorem dX9_above_22 : decode cX9_above 22 = .ok (.iconst 2, 1) := by decide +kernel
theorem dX9_above_23 : decode cX9_above 23 = .ok (.goto 14, 3) := by decide +kernel
theorem dX9_above_26 : decode cX9_above 26 = .ok (.iload_n 0, 1) := by decide +kernel
theorem dX9_above_27 : decode cX9_above 27 = .ok (.bipush 6, 2) := by decide +kernel
theorem dX9_above_29 : decode cX9_above 29 = .ok (.if_icmp .ne 7, 3) := by decide +kernel
theorem dX9_above_32 : decode cX9_above 32 = .ok (.iconst 3, 1) := by decide +kernel
theorem dX9_above_33 : decode cX9_above 33 = .ok (.goto 4, 3) := by decide +kernel
theorem dX9_above_36 : decode cX9_above 36 = .ok (.iconst 0, 1) := by decide +kernel
theorem dX9_above_37 : decode cX9_above 37 = .ok (.ireturn, 1) := by decide +kernel
theorem dX9_isUnder_0 : decode cX9_isUnder 0 = .ok (.iload_n 0, 1) := by decide +kernel
theorem dX9_isUnder_1 : decode cX9_isUnder 1 = .ok (.istore_n 2, 1) := by decide +kernel
theorem dX9_isUnder_2 : decode cX9_isUnder 2 = .ok (.iload_n 2, 1) := by decide +kernel
theorem dX9_isUnder_3 : decode cX9_isUnder 3 = .ok (.ifCond .lt 16, 3) := by decide +kernel
theorem dX9_isUnder_6 : decode cX9_isUnder 6 = .ok (.iload_n 2, 1) := by decide +kernel
theorem dX9_isUnder_7 : decode cX9_isUnder 7 = .ok (.iload_n 1, 1) := by decide +kernel
theorem dX9_isUnder_8 : decode cX9_isUnder 8 = .ok (.if_icmp .eq 11, 3) := by decide +kernel
theorem dX9_isUnder_11 : decode cX9_isUnder 11 = .ok (.iload_n 2, 1) := by decide +kernel
theorem dX9_isUnder_12 : decode cX9_isUnder 12 = .ok (.invokestatic 212, 3) := by decide +kernel
theorem dX9_isUnder_15 : decode cX9_isUnder 15 = .ok (.istore_n 2, 1) := by decide +kernel
theorem dX9_isUnder_16 : decode cX9_isUnder 16 = .ok (.goto (-14), 3) := by decide +kernel
theorem dX9_isUnder_19 : decode cX9_isUnder 19 = .ok (.iload_n 2, 1) := by decide +kernel
theorem dX9_isUnder_20 : decode cX9_isUnder 20 = .ok (.ifCond .lt 7, 3) := by decide +kernel
theorem dX9_isUnder_23 : decode cX9_isUnder 23 = .ok (.iconst 1, 1) := by decide +kernel
theorem dX9_isUnder_24 : decode cX9_isUnder 24 = .ok (.goto 4, 3) := by decide +kernel
theorem dX9_isUnder_27 : decode cX9_isUnder 27 = .ok (.iconst 0, 1) := by decide +kernel
theorem dX9_isUnder_28 : decode cX9_isUnder 28 = .ok (.ireturn, 1) := by decide +kernel
theorem dX9_isOf_0 : decode cX9_isOf 0 = .ok (.aload_n 0, 1) := by decide +kernel
theorem dX9_isOf_1 : decode cX9_isOf 1 = .ok (.iload_n 1, 1) := by decide +kernel
theorem dX9_isOf_2 : decode cX9_isOf 2 = .ok (.iconst 0, 1) := by decide +kernel
theorem dX9_isOf_3 : decode cX9_isOf 3 = .ok (.invokevirtual 179, 3) := by decide +kernel
theorem dX9_isOf_6 : decode cX9_isOf 6 = .ok (.iload_n 2, 1) := by decide +kernel
theorem dX9_isOf_7 : decode cX9_isOf 7 = .ok (.invokestatic 215, 3) := by decide +kernel
theorem dX9_isOf_10 : decode cX9_isOf 10 = .ok (.ireturn, 1) := by decide +kernel
theorem dX9_looks_0 : decode cX9_looks 0 = .ok (.aload_n 0, 1) := by decide +kernel
theorem dX9_looks_1 : decode cX9_looks 1 = .ok (.iload_n 1, 1) := by decide +kernel
theorem dX9_looks_2 : decode cX9_looks 2 = .ok (.iconst 1, 1) := by decide +kernel
theorem dX9_looks_3 : decode cX9_looks 3 = .ok (.invokevirtual 179, 3) := by decide +kernel
theorem dX9_looks_6 : decode cX9_looks 6 = .ok (.istore_n 2, 1) := by decide +kernel
theorem dX9_looks_7 : decode cX9_looks 7 = .ok (.aload_n 0, 1) := by decide +kernel
theorem dX9_looks_8 : decode cX9_looks 8 = .ok (.iload_n 1, 1) := by decide +kernel
theorem dX9_looks_9 : decode cX9_looks 9 = .ok (.iconst 0, 1) := by decide +kernel
theorem dX9_looks_10 : decode cX9_looks 10 = .ok (.invokevirtual 179, 3) := by decide +kernel
theorem dX9_looks_13 : decode cX9_looks 13 = .ok (.iconst 5, 1) := by decide +kernel
theorem dX9_looks_14 : decode cX9_looks 14 = .ok (.if_icmp .ne 5, 3) := by decide +kernel
theorem dX9_looks_17 : decode cX9_looks 17 = .ok (.iconst 0, 1) := by decide +kernel
theorem dX9_looks_18 : decode cX9_looks 18 = .ok (.ireturn, 1) := by decide +kernel
theorem dX9_looks_19 : decode cX9_looks 19 = .ok (.aload_n 0, 1) := by decide +kernel
theorem dX9_looks_20 : decode cX9_looks 20 = .ok (.iload_n 1, 1) := by decide +kernel
theorem dX9_looks_21 : decode cX9_looks 21 = .ok (.iconst 1, 1) := by decide +kernel
theorem dX9_looks_22 : decode cX9_looks 22 = .ok (.invokevirtual 218, 3) := by decide +kernel
theorem dX9_looks_25 : decode cX9_looks 25 = .ok (.ifCond .eq 26, 3) := by decide +kernel
theorem dX9_looks_28 : decode cX9_looks 28 = .ok (.iload_n 2, 1) := by decide +kernel
theorem dX9_looks_29 : decode cX9_looks 29 = .ok (.iconst 2, 1) := by decide +kernel
theorem dX9_looks_30 : decode cX9_looks 30 = .ok (.if_icmp .gt 15, 3) := by decide +kernel
theorem dX9_looks_33 : decode cX9_looks 33 = .ok (.aload_n 0, 1) := by decide +kernel
theorem dX9_looks_34 : decode cX9_looks 34 = .ok (.getfield 9, 3) := by decide +kernel
theorem dX9_looks_37 : decode cX9_looks 37 = .ok (.iconst 0, 1) := by decide +kernel
theorem dX9_looks_38 : decode cX9_looks 38 = .ok (.iaload, 1) := by decide +kernel
theorem dX9_looks_39 : decode cX9_looks 39 = .ok (.iconst 3, 1) := by decide +kernel
theorem dX9_looks_40 : decode cX9_looks 40 = .ok (.irem, 1) := by decide +kernel
theorem dX9_looks_41 : decode cX9_looks 41 = .ok (.iload_n 2, 1) := by decide +kernel
theorem dX9_looks_42 : decode cX9_looks 42 = .ok (.if_icmp .ne 7, 3) := by decide +kernel
theorem dX9_looks_45 : decode cX9_looks 45 = .ok (.iconst 1, 1) := by decide +kernel
theorem dX9_looks_46 : decode cX9_looks 46 = .ok (.goto 4, 3) := by decide +kernel
theorem dX9_looks_49 : decode cX9_looks 49 = .ok (.iconst 0, 1) := by decide +kernel
theorem dX9_looks_50 : decode cX9_looks 50 = .ok (.ireturn, 1) := by decide +kernel
theorem dX9_looks_51 : decode cX9_looks 51 = .ok (.aload_n 0, 1) := by decide +kernel
theorem dX9_looks_52 : decode cX9_looks 52 = .ok (.iload_n 1, 1) := by decide +kernel
theorem dX9_looks_53 : decode cX9_looks 53 = .ok (.iconst 2, 1) := by decide +kernel
theorem dX9_looks_54 : decode cX9_looks 54 = .ok (.invokevirtual 218, 3) := by decide +kernel
theorem dX9_looks_57 : decode cX9_looks 57 = .ok (.ifCond .eq 23, 3) := by decide +kernel
theorem dX9_looks_60 : decode cX9_looks 60 = .ok (.aload_n 0, 1) := by decide +kernel
theorem dX9_looks_61 : decode cX9_looks 61 = .ok (.iload_n 1, 1) := by decide +kernel
theorem dX9_looks_62 : decode cX9_looks 62 = .ok (.iconst 2, 1) := by decide +kernel
theorem dX9_looks_63 : decode cX9_looks 63 = .ok (.invokevirtual 179, 3) := by decide +kernel
theorem dX9_looks_66 : decode cX9_looks 66 = .ok (.aload_n 0, 1) := by decide +kernel
theorem dX9_looks_67 : decode cX9_looks 67 = .ok (.invokevirtual 176, 3) := by decide +kernel
theorem dX9_looks_70 : decode cX9_looks 70 = .ok (.iand, 1) := by decide +kernel
theorem dX9_looks_71 : decode cX9_looks 71 = .ok (.ifCond .eq 7, 3) := by decide +kernel
theorem dX9_looks_74 : decode cX9_looks 74 = .ok (.iconst 1, 1) := by decide +kernel
theorem dX9_looks_75 : decode cX9_looks 75 = .ok (.goto 4, 3) := by decide +kernel
theorem dX9_looks_78 : decode cX9_looks 78 = .ok (.iconst 0, 1) := by decide +kernel
theorem dX9_looks_79 : decode cX9_looks 79 = .ok (.ireturn, 1) := by decide +kernel
theorem dX9_looks_80 : decode cX9_looks 80 = .ok (.aload_n 0, 1) := by decide +kernel
theorem dX9_looks_81 : decode cX9_looks 81 = .ok (.iload_n 1, 1) := by decide +kernel
theorem dX9_looks_82 : decode cX9_looks 82 = .ok (.iconst 3, 1) := by decide +kernel
theorem dX9_looks_83 : decode cX9_looks 83 = .ok (.invokevirtual 218, 3) := by decide +kernel
theorem dX9_looks_86 : decode cX9_looks 86 = .ok (.ifCond .eq 14, 3) := by decide +kernel
theorem dX9_looks_89 : decode cX9_looks 89 = .ok (.aload_n 0, 1) := by decide +kernel
theorem dX9_looks_90 : decode cX9_looks 90 = .ok (.getfield 9, 3) := by decide +kernel
theorem dX9_looks_93 : decode cX9_looks 93 = .ok (.iconst 0, 1) := by decide +kernel
theorem dX9_looks_94 : decode cX9_looks 94 = .ok (.iaload, 1) := by decide +kernel
theorem dX9_looks_95 : decode cX9_looks 95 = .ok (.iconst 2, 1) := by decide +kernel
theorem dX9_looks_96 : decode cX9_looks 96 = .ok (.irem, 1) := by decide +kernel
theorem dX9_looks_97 : decode cX9_looks 97 = .ok (.ifCond .ne 7, 3) := by decide +kernel
theorem dX9_looks_100 : decode cX9_looks 100 = .ok (.iconst 1, 1) := by decide +kernel
theorem dX9_looks_101 : decode cX9_looks 101 = .ok (.goto 4, 3) := by decide +kernel
theorem dX9_looks_104 : decode cX9_looks 104 = .ok (.iconst 0, 1) := by decide +kernel
theorem dX9_looks_105 : decode cX9_looks 105 = .ok (.ireturn, 1) := by decide +kernel
theorem dX9_othersIn_0 : decode cX9_othersIn 0 = .ok (.iconst 0, 1) := by decide +kernel
theorem dX9_othersIn_1 : decode cX9_othersIn 1 = .ok (.istore_n 2, 1) := by decide +kernel
theorem dX9_othersIn_2 : decode cX9_othersIn 2 = .ok (.iconst 0, 1) := by decide +kernel
theorem dX9_othersIn_3 : decode cX9_othersIn 3 = .ok (.istore_n 3, 1) := by decide +kernel
theorem dX9_othersIn_4 : decode cX9_othersIn 4 = .ok (.iload_n 3, 1) := by decide +kernel
theorem dX9_othersIn_5 : decode cX9_othersIn 5 = .ok (.aload_n 0, 1) := by decide +kernel
theorem dX9_othersIn_6 : decode cX9_othersIn 6 = .ok (.getfield 9, 3) := by decide +kernel
theorem dX9_othersIn_9 : decode cX9_othersIn 9 = .ok (.iconst 1, 1) := by decide +kernel
theorem dX9_othersIn_10 : decode cX9_othersIn 10 = .ok (.iaload, 1) := by decide +kernel
theorem dX9_othersIn_11 : decode cX9_othersIn 11 = .ok (.if_icmp .ge 38, 3) := by decide +kernel
theorem dX9_othersIn_14 : decode cX9_othersIn 14 = .ok (.iload_n 2, 1) := by decide +kernel
theorem dX9_othersIn_15 : decode cX9_othersIn 15 = .ok (.iload_n 3, 1) := by decide +kernel
theorem dX9_othersIn_16 : decode cX9_othersIn 16 = .ok (.iload_n 1, 1) := by decide +kernel
theorem dX9_othersIn_17 : decode cX9_othersIn 17 = .ok (.if_icmp .eq 23, 3) := by decide +kernel
theorem dX9_othersIn_20 : decode cX9_othersIn 20 = .ok (.aload_n 0, 1) := by decide +kernel
theorem dX9_othersIn_21 : decode cX9_othersIn 21 = .ok (.iload_n 3, 1) := by decide +kernel
theorem dX9_othersIn_22 : decode cX9_othersIn 22 = .ok (.iconst 2, 1) := by decide +kernel
theorem dX9_othersIn_23 : decode cX9_othersIn 23 = .ok (.invokevirtual 179, 3) := by decide +kernel
theorem dX9_othersIn_26 : decode cX9_othersIn 26 = .ok (.aload_n 0, 1) := by decide +kernel
theorem dX9_othersIn_27 : decode cX9_othersIn 27 = .ok (.iload_n 1, 1) := by decide +kernel
theorem dX9_othersIn_28 : decode cX9_othersIn 28 = .ok (.iconst 2, 1) := by decide +kernel
theorem dX9_othersIn_29 : decode cX9_othersIn 29 = .ok (.invokevirtual 179, 3) := by decide +kernel
theorem dX9_othersIn_32 : decode cX9_othersIn 32 = .ok (.iand, 1) := by decide +kernel
theorem dX9_othersIn_33 : decode cX9_othersIn 33 = .ok (.ifCond .eq 7, 3) := by decide +kernel
theorem dX9_othersIn_36 : decode cX9_othersIn 36 = .ok (.iconst 1, 1) := by decide +kernel
theorem dX9_othersIn_37 : decode cX9_othersIn 37 = .ok (.goto 4, 3) := by decide +kernel
theorem dX9_othersIn_40 : decode cX9_othersIn 40 = .ok (.iconst 0, 1) := by decide +kernel
theorem dX9_othersIn_41 : decode cX9_othersIn 41 = .ok (.iadd, 1) := by decide +kernel
theorem dX9_othersIn_42 : decode cX9_othersIn 42 = .ok (.istore_n 2, 1) := by decide +kernel
theorem dX9_othersIn_43 : decode cX9_othersIn 43 = .ok (.iinc 3 1, 3) := by decide +kernel
theorem dX9_othersIn_46 : decode cX9_othersIn 46 = .ok (.goto (-42), 3) := by decide +kernel
theorem dX9_othersIn_49 : decode cX9_othersIn 49 = .ok (.iload_n 2, 1) := by decide +kernel
theorem dX9_othersIn_50 : decode cX9_othersIn 50 = .ok (.ireturn, 1) := by decide +kernel
theorem dX9_owes_0 : decode cX9_owes 0 = .ok (.iconst 0, 1) := by decide +kernel
theorem dX9_owes_1 : decode cX9_owes 1 = .ok (.istore_n 2, 1) := by decide +kernel
theorem dX9_owes_2 : decode cX9_owes 2 = .ok (.iconst 0, 1) := by decide +kernel
theorem dX9_owes_3 : decode cX9_owes 3 = .ok (.istore_n 3, 1) := by decide +kernel
theorem dX9_owes_4 : decode cX9_owes 4 = .ok (.iload_n 3, 1) := by decide +kernel
theorem dX9_owes_5 : decode cX9_owes 5 = .ok (.bipush 24, 2) := by decide +kernel
theorem dX9_owes_7 : decode cX9_owes 7 = .ok (.if_icmp .ge 34, 3) := by decide +kernel
theorem dX9_owes_10 : decode cX9_owes 10 = .ok (.iload_n 2, 1) := by decide +kernel
theorem dX9_owes_11 : decode cX9_owes 11 = .ok (.aload_n 0, 1) := by decide +kernel
theorem dX9_owes_12 : decode cX9_owes 12 = .ok (.iload_n 1, 1) := by decide +kernel
theorem dX9_owes_13 : decode cX9_owes 13 = .ok (.iconst 2, 1) := by decide +kernel
theorem dX9_owes_14 : decode cX9_owes 14 = .ok (.invokevirtual 179, 3) := by decide +kernel
theorem dX9_owes_17 : decode cX9_owes 17 = .ok (.iload_n 3, 1) := by decide +kernel
theorem dX9_owes_18 : decode cX9_owes 18 = .ok (.invokestatic 182, 3) := by decide +kernel
theorem dX9_owes_21 : decode cX9_owes 21 = .ok (.ifCond .eq 11, 3) := by decide +kernel
theorem dX9_owes_24 : decode cX9_owes 24 = .ok (.aload_n 0, 1) := by decide +kernel
theorem dX9_owes_25 : decode cX9_owes 25 = .ok (.iload_n 3, 1) := by decide +kernel
theorem dX9_owes_26 : decode cX9_owes 26 = .ok (.invokevirtual 198, 3) := by decide +kernel
theorem dX9_owes_29 : decode cX9_owes 29 = .ok (.goto 4, 3) := by decide +kernel
theorem dX9_owes_32 : decode cX9_owes 32 = .ok (.iconst 0, 1) := by decide +kernel
theorem dX9_owes_33 : decode cX9_owes 33 = .ok (.iadd, 1) := by decide +kernel
theorem dX9_owes_34 : decode cX9_owes 34 = .ok (.istore_n 2, 1) := by decide +kernel
theorem dX9_owes_35 : decode cX9_owes 35 = .ok (.iinc 3 1, 3) := by decide +kernel
theorem dX9_owes_38 : decode cX9_owes 38 = .ok (.goto (-34), 3) := by decide +kernel
theorem dX9_owes_41 : decode cX9_owes 41 = .ok (.aload_n 0, 1) := by decide +kernel
theorem dX9_owes_42 : decode cX9_owes 42 = .ok (.iload_n 1, 1) := by decide +kernel
theorem dX9_owes_43 : decode cX9_owes 43 = .ok (.iconst 1, 1) := by decide +kernel
theorem dX9_owes_44 : decode cX9_owes 44 = .ok (.invokevirtual 179, 3) := by decide +kernel
theorem dX9_owes_47 : decode cX9_owes 47 = .ok (.istore_n 3, 1) := by decide +kernel
theorem dX9_owes_48 : decode cX9_owes 48 = .ok (.aload_n 0, 1) := by decide +kernel
theorem dX9_owes_49 : decode cX9_owes 49 = .ok (.iload_n 1, 1) := by decide +kernel
theorem dX9_owes_50 : decode cX9_owes 50 = .ok (.iconst 0, 1) := by decide +kernel
theorem dX9_owes_51 : decode cX9_owes 51 = .ok (.invokevirtual 179, 3) := by decide +kernel
theorem dX9_owes_54 : decode cX9_owes 54 = .ok (.tableswitch 78 1 6 #[38, 54, 58, 42, 54, 65], 38) := by decide +kernel
theorem dX9_owes_92 : decode cX9_owes 92 = .ok (.iload_n 2, 1) := by decide +kernel
theorem dX9_owes_93 : decode cX9_owes 93 = .ok (.iconst 2, 1) := by decide +kernel
theorem dX9_owes_94 : decode cX9_owes 94 = .ok (.idiv, 1) := by decide +kernel
theorem dX9_owes_95 : decode cX9_owes 95 = .ok (.ireturn, 1) := by decide +kernel
theorem dX9_owes_96 : decode cX9_owes 96 = .ok (.iload_n 2, 1) := by decide +kernel
theorem dX9_owes_97 : decode cX9_owes 97 = .ok (.iconst 2, 1) := by decide +kernel
theorem dX9_owes_98 : decode cX9_owes 98 = .ok (.idiv, 1) := by decide +kernel
theorem dX9_owes_99 : decode cX9_owes 99 = .ok (.iconst 1, 1) := by decide +kernel
theorem dX9_owes_100 : decode cX9_owes 100 = .ok (.aload_n 0, 1) := by decide +kernel
theorem dX9_owes_101 : decode cX9_owes 101 = .ok (.iload_n 1, 1) := by decide +kernel
theorem dX9_owes_102 : decode cX9_owes 102 = .ok (.invokevirtual 221, 3) := by decide +kernel
theorem dX9_owes_105 : decode cX9_owes 105 = .ok (.iadd, 1) := by decide +kernel
theorem dX9_owes_106 : decode cX9_owes 106 = .ok (.idiv, 1) := by decide +kernel
theorem dX9_owes_107 : decode cX9_owes 107 = .ok (.ireturn, 1) := by decide +kernel
theorem dX9_owes_108 : decode cX9_owes 108 = .ok (.iload_n 2, 1) := by decide +kernel
theorem dX9_owes_109 : decode cX9_owes 109 = .ok (.iload_n 3, 1) := by decide +kernel
theorem dX9_owes_110 : decode cX9_owes 110 = .ok (.iadd, 1) := by decide +kernel
theorem dX9_owes_111 : decode cX9_owes 111 = .ok (.ireturn, 1) := by decide +kernel
theorem dX9_owes_112 : decode cX9_owes 112 = .ok (.iload_n 2, 1) := by decide +kernel
theorem dX9_owes_113 : decode cX9_owes 113 = .ok (.iload_n 2, 1) := by decide +kernel
theorem dX9_owes_114 : decode cX9_owes 114 = .ok (.bipush 10, 2) := by decide +kernel
theorem dX9_owes_116 : decode cX9_owes 116 = .ok (.idiv, 1) := by decide +kernel
theorem dX9_owes_117 : decode cX9_owes 117 = .ok (.isub, 1) := by decide +kernel
theorem dX9_owes_118 : decode cX9_owes 118 = .ok (.ireturn, 1) := by decide +kernel
theorem dX9_owes_119 : decode cX9_owes 119 = .ok (.iconst 0, 1) := by decide +kernel
theorem dX9_owes_120 : decode cX9_owes 120 = .ok (.iload_n 2, 1) := by decide +kernel
theorem dX9_owes_121 : decode cX9_owes 121 = .ok (.iload_n 2, 1) := by decide +kernel
theorem dX9_owes_122 : decode cX9_owes 122 = .ok (.bipush 10, 2) := by decide +kernel
theorem dX9_owes_124 : decode cX9_owes 124 = .ok (.idiv, 1) := by decide +kernel
theorem dX9_owes_125 : decode cX9_owes 125 = .ok (.isub, 1) := by decide +kernel
theorem dX9_owes_126 : decode cX9_owes 126 = .ok (.iload_n 3, 1) := by decide +kernel
theorem dX9_owes_127 : decode cX9_owes 127 = .ok (.isub, 1) := by decide +kernel
theorem dX9_owes_128 : decode cX9_owes 128 = .ok (.invokestatic 69, 3) := by decide +kernel
theorem dX9_owes_131 : decode cX9_owes 131 = .ok (.ireturn, 1) := by decide +kernel
theorem dX9_owes_132 : decode cX9_owes 132 = .ok (.iload_n 2, 1) := by decide +kernel
theorem dX9_owes_133 : decode cX9_owes 133 = .ok (.ireturn, 1) := by decide +kernel
theorem dX9_earns_0 : decode cX9_earns 0 = .ok (.aload_n 0, 1) := by decide +kernel
theorem dX9_earns_1 : decode cX9_earns 1 = .ok (.iload_n 1, 1) := by decide +kernel
theorem dX9_earns_2 : decode cX9_earns 2 = .ok (.iconst 2, 1) := by decide +kernel
theorem dX9_earns_3 : decode cX9_earns 3 = .ok (.invokevirtual 179, 3) := by decide +kernel
theorem dX9_earns_6 : decode cX9_earns 6 = .ok (.aload_n 0, 1) := by decide +kernel
theorem dX9_earns_7 : decode cX9_earns 7 = .ok (.invokevirtual 195, 3) := by decide +kernel
theorem dX9_earns_10 : decode cX9_earns 10 = .ok (.iand, 1) := by decide +kernel
theorem dX9_earns_11 : decode cX9_earns 11 = .ok (.istore_n 2, 1) := by decide +kernel
theorem dX9_earns_12 : decode cX9_earns 12 = .ok (.iload_n 2, 1) := by decide +kernel
theorem dX9_earns_13 : decode cX9_earns 13 = .ok (.ifCond .eq 11, 3) := by decide +kernel
theorem dX9_earns_16 : decode cX9_earns 16 = .ok (.aload_n 0, 1) := by decide +kernel
theorem dX9_earns_17 : decode cX9_earns 17 = .ok (.iload_n 1, 1) := by decide +kernel
theorem dX9_earns_18 : decode cX9_earns 18 = .ok (.invokevirtual 224, 3) := by decide +kernel
theorem dX9_earns_21 : decode cX9_earns 21 = .ok (.ifCond .ne 5, 3) := by decide +kernel
theorem dX9_earns_24 : decode cX9_earns 24 = .ok (.iconst 0, 1) := by decide +kernel
theorem dX9_earns_25 : decode cX9_earns 25 = .ok (.ireturn, 1) := by decide +kernel
theorem dX9_earns_26 : decode cX9_earns 26 = .ok (.aload_n 0, 1) := by decide +kernel
theorem dX9_earns_27 : decode cX9_earns 27 = .ok (.iload_n 1, 1) := by decide +kernel
theorem dX9_earns_28 : decode cX9_earns 28 = .ok (.iconst 1, 1) := by decide +kernel
theorem dX9_earns_29 : decode cX9_earns 29 = .ok (.invokevirtual 218, 3) := by decide +kernel
theorem dX9_earns_32 : decode cX9_earns 32 = .ok (.ifCond .eq 8, 3) := by decide +kernel
theorem dX9_earns_35 : decode cX9_earns 35 = .ok (.bipush 9, 2) := by decide +kernel
theorem dX9_earns_37 : decode cX9_earns 37 = .ok (.goto 22, 3) := by decide +kernel
theorem dX9_earns_40 : decode cX9_earns 40 = .ok (.aload_n 0, 1) := by decide +kernel
theorem dX9_earns_41 : decode cX9_earns 41 = .ok (.iload_n 1, 1) := by decide +kernel
theorem dX9_earns_42 : decode cX9_earns 42 = .ok (.iconst 3, 1) := by decide +kernel
theorem dX9_earns_43 : decode cX9_earns 43 = .ok (.invokevirtual 218, 3) := by decide +kernel
theorem dX9_earns_46 : decode cX9_earns 46 = .ok (.ifCond .eq 12, 3) := by decide +kernel
theorem dX9_earns_49 : decode cX9_earns 49 = .ok (.iconst 2, 1) := by decide +kernel
theorem dX9_earns_50 : decode cX9_earns 50 = .ok (.iload_n 2, 1) := by decide +kernel
theorem dX9_earns_51 : decode cX9_earns 51 = .ok (.invokestatic 189, 3) := by decide +kernel
theorem dX9_earns_54 : decode cX9_earns 54 = .ok (.imul, 1) := by decide +kernel
theorem dX9_earns_55 : decode cX9_earns 55 = .ok (.goto 4, 3) := by decide +kernel
theorem dX9_earns_58 : decode cX9_earns 58 = .ok (.iconst 5, 1) := by decide +kernel
theorem dX9_earns_59 : decode cX9_earns 59 = .ok (.ireturn, 1) := by decide +kernel
theorem dX9_ofTenant_0 : decode cX9_ofTenant 0 = .ok (.aload_n 0, 1) := by decide +kernel
theorem dX9_ofTenant_1 : decode cX9_ofTenant 1 = .ok (.iload_n 1, 1) := by decide +kernel
theorem dX9_ofTenant_2 : decode cX9_ofTenant 2 = .ok (.invokevirtual 227, 3) := by decide +kernel
theorem dX9_ofTenant_5 : decode cX9_ofTenant 5 = .ok (.ifCond .eq 13, 3) := by decide +kernel
theorem dX9_ofTenant_8 : decode cX9_ofTenant 8 = .ok (.iload_n 2, 1) := by decide +kernel
theorem dX9_ofTenant_9 : decode cX9_ofTenant 9 = .ok (.iconst 0, 1) := by decide +kernel
theorem dX9_ofTenant_10 : decode cX9_ofTenant 10 = .ok (.bipush 7, 2) := by decide +kernel
theorem dX9_ofTenant_12 : decode cX9_ofTenant 12 = .ok (.invokestatic 76, 3) := by decide +kernel
theorem dX9_ofTenant_15 : decode cX9_ofTenant 15 = .ok (.ifCond .ne 10, 3) := by decide +kernel
theorem dX9_ofTenant_18 : decode cX9_ofTenant 18 = .ok (.aload_n 0, 1) := by decide +kernel
theorem dX9_ofTenant_19 : decode cX9_ofTenant 19 = .ok (.ldc 80, 2) := by decide +kernel
theorem dX9_ofTenant_21 : decode cX9_ofTenant 21 = .ok (.invokevirtual 81, 3) := by decide +kernel
theorem dX9_ofTenant_24 : decode cX9_ofTenant 24 = .ok (.ireturn, 1) := by decide +kernel
theorem dX9_ofTenant_25 : decode cX9_ofTenant 25 = .ok (.iload_n 2, 1) := by decide +kernel
theorem dX9_ofTenant_26 : decode cX9_ofTenant 26 = .ok (.tableswitch 76 3 7 #[34, 76, 44, 58, 70], 34) := by decide +kernel
theorem dX9_ofTenant_60 : decode cX9_ofTenant 60 = .ok (.aload_n 0, 1) := by decide +kernel
theorem dX9_ofTenant_61 : decode cX9_ofTenant 61 = .ok (.iload_n 1, 1) := by decide +kernel
theorem dX9_ofTenant_62 : decode cX9_ofTenant 62 = .ok (.iconst 3, 1) := by decide +kernel
theorem dX9_ofTenant_63 : decode cX9_ofTenant 63 = .ok (.invokevirtual 179, 3) := by decide +kernel
theorem dX9_ofTenant_66 : decode cX9_ofTenant 66 = .ok (.ldc 230, 2) := by decide +kernel
theorem dX9_ofTenant_68 : decode cX9_ofTenant 68 = .ok (.iadd, 1) := by decide +kernel
theorem dX9_ofTenant_69 : decode cX9_ofTenant 69 = .ok (.ireturn, 1) := by decide +kernel
theorem dX9_ofTenant_70 : decode cX9_ofTenant 70 = .ok (.aload_n 0, 1) := by decide +kernel
theorem dX9_ofTenant_71 : decode cX9_ofTenant 71 = .ok (.iload_n 1, 1) := by decide +kernel
theorem dX9_ofTenant_72 : decode cX9_ofTenant 72 = .ok (.invokevirtual 224, 3) := by decide +kernel
theorem dX9_ofTenant_75 : decode cX9_ofTenant 75 = .ok (.ifCond .eq 7, 3) := by decide +kernel
theorem dX9_ofTenant_78 : decode cX9_ofTenant 78 = .ok (.iconst 1, 1) := by decide +kernel
theorem dX9_ofTenant_79 : decode cX9_ofTenant 79 = .ok (.goto 4, 3) := by decide +kernel
theorem dX9_ofTenant_82 : decode cX9_ofTenant 82 = .ok (.iconst 0, 1) := by decide +kernel
theorem dX9_ofTenant_83 : decode cX9_ofTenant 83 = .ok (.ireturn, 1) := by decide +kernel
theorem dX9_ofTenant_84 : decode cX9_ofTenant 84 = .ok (.aload_n 0, 1) := by decide +kernel
theorem dX9_ofTenant_85 : decode cX9_ofTenant 85 = .ok (.iload_n 1, 1) := by decide +kernel
theorem dX9_ofTenant_86 : decode cX9_ofTenant 86 = .ok (.iconst 2, 1) := by decide +kernel
theorem dX9_ofTenant_87 : decode cX9_ofTenant 87 = .ok (.invokevirtual 179, 3) := by decide +kernel
theorem dX9_ofTenant_90 : decode cX9_ofTenant 90 = .ok (.aload_n 0, 1) := by decide +kernel
theorem dX9_ofTenant_91 : decode cX9_ofTenant 91 = .ok (.invokevirtual 195, 3) := by decide +kernel
theorem dX9_ofTenant_94 : decode cX9_ofTenant 94 = .ok (.iand, 1) := by decide +kernel
theorem dX9_ofTenant_95 : decode cX9_ofTenant 95 = .ok (.ireturn, 1) := by decide +kernel
theorem dX9_ofTenant_96 : decode cX9_ofTenant 96 = .ok (.aload_n 0, 1) := by decide +kernel
theorem dX9_ofTenant_97 : decode cX9_ofTenant 97 = .ok (.iload_n 1, 1) := by decide +kernel
theorem dX9_ofTenant_98 : decode cX9_ofTenant 98 = .ok (.invokevirtual 231, 3) := by decide +kernel
theorem dX9_ofTenant_101 : decode cX9_ofTenant 101 = .ok (.ireturn, 1) := by decide +kernel
theorem dX9_ofTenant_102 : decode cX9_ofTenant 102 = .ok (.aload_n 0, 1) := by decide +kernel
theorem dX9_ofTenant_103 : decode cX9_ofTenant 103 = .ok (.iload_n 1, 1) := by decide +kernel
theorem dX9_ofTenant_104 : decode cX9_ofTenant 104 = .ok (.iload_n 2, 1) := by decide +kernel
theorem dX9_ofTenant_105 : decode cX9_ofTenant 105 = .ok (.invokevirtual 179, 3) := by decide +kernel
theorem dX9_ofTenant_108 : decode cX9_ofTenant 108 = .ok (.ireturn, 1) := by decide +kernel
theorem dX9_become_0 : decode cX9_become 0 = .ok (.aload_n 0, 1) := by decide +kernel
theorem dX9_become_1 : decode cX9_become 1 = .ok (.iload_n 1, 1) := by decide +kernel
theorem dX9_become_2 : decode cX9_become 2 = .ok (.invokevirtual 227, 3) := by decide +kernel
theorem dX9_become_5 : decode cX9_become 5 = .ok (.ifCond .eq 10, 3) := by decide +kernel
theorem dX9_become_8 : decode cX9_become 8 = .ok (.iload_n 2, 1) := by decide +kernel
theorem dX9_become_9 : decode cX9_become 9 = .ok (.invokestatic 206, 3) := by decide +kernel
theorem dX9_become_12 : decode cX9_become 12 = .ok (.ifCond .ne 10, 3) := by decide +kernel
theorem dX9_become_15 : decode cX9_become 15 = .ok (.aload_n 0, 1) := by decide +kernel
theorem dX9_become_16 : decode cX9_become 16 = .ok (.ldc 80, 2) := by decide +kernel
theorem dX9_become_18 : decode cX9_become 18 = .ok (.invokevirtual 81, 3) := by decide +kernel
theorem dX9_become_21 : decode cX9_become 21 = .ok (.ireturn, 1) := by decide +kernel
theorem dX9_become_22 : decode cX9_become 22 = .ok (.aload_n 0, 1) := by decide +kernel
theorem dX9_become_23 : decode cX9_become 23 = .ok (.getfield 9, 3) := by decide +kernel
theorem dX9_become_26 : decode cX9_become 26 = .ok (.iload_n 1, 1) := by decide +kernel
theorem dX9_become_27 : decode cX9_become 27 = .ok (.iconst 1, 1) := by decide +kernel
theorem dX9_become_28 : decode cX9_become 28 = .ok (.invokestatic 204, 3) := by decide +kernel
theorem dX9_become_31 : decode cX9_become 31 = .ok (.iload_n 2, 1) := by decide +kernel
theorem dX9_become_32 : decode cX9_become 32 = .ok (.bipush 10, 2) := by decide +kernel
theorem dX9_become_34 : decode cX9_become 34 = .ok (.irem, 1) := by decide +kernel
theorem dX9_become_35 : decode cX9_become 35 = .ok (.iastore, 1) := by decide +kernel
theorem dX9_become_36 : decode cX9_become 36 = .ok (.aload_n 0, 1) := by decide +kernel
theorem dX9_become_37 : decode cX9_become 37 = .ok (.iload_n 1, 1) := by decide +kernel
theorem dX9_become_38 : decode cX9_become 38 = .ok (.iconst 0, 1) := by decide +kernel
theorem dX9_become_39 : decode cX9_become 39 = .ok (.invokestatic 204, 3) := by decide +kernel
theorem dX9_become_42 : decode cX9_become 42 = .ok (.iload_n 2, 1) := by decide +kernel
theorem dX9_become_43 : decode cX9_become 43 = .ok (.bipush 10, 2) := by decide +kernel
theorem dX9_become_45 : decode cX9_become 45 = .ok (.idiv, 1) := by decide +kernel
theorem dX9_become_46 : decode cX9_become 46 = .ok (.invokevirtual 201, 3) := by decide +kernel
theorem dX9_become_49 : decode cX9_become 49 = .ok (.ireturn, 1) := by decide +kernel
theorem dX9_as_0 : decode cX9_as 0 = .ok (.aload_n 0, 1) := by decide +kernel
theorem dX9_as_1 : decode cX9_as 1 = .ok (.iload_n 1, 1) := by decide +kernel
theorem dX9_as_2 : decode cX9_as 2 = .ok (.invokevirtual 227, 3) := by decide +kernel
theorem dX9_as_5 : decode cX9_as 5 = .ok (.ifCond .eq 13, 3) := by decide +kernel
theorem dX9_as_8 : decode cX9_as 8 = .ok (.iload_n 2, 1) := by decide +kernel
theorem dX9_as_9 : decode cX9_as 9 = .ok (.iconst 0, 1) := by decide +kernel
theorem dX9_as_10 : decode cX9_as 10 = .ok (.bipush 6, 2) := by decide +kernel
theorem dX9_as_12 : decode cX9_as 12 = .ok (.invokestatic 76, 3) := by decide +kernel
theorem dX9_as_15 : decode cX9_as 15 = .ok (.ifCond .ne 10, 3) := by decide +kernel
theorem dX9_as_18 : decode cX9_as 18 = .ok (.aload_n 0, 1) := by decide +kernel
theorem dX9_as_19 : decode cX9_as 19 = .ok (.ldc 80, 2) := by decide +kernel
theorem dX9_as_21 : decode cX9_as 21 = .ok (.invokevirtual 81, 3) := by decide +kernel
theorem dX9_as_24 : decode cX9_as 24 = .ok (.ireturn, 1) := by decide +kernel
theorem dX9_as_25 : decode cX9_as 25 = .ok (.aload_n 0, 1) := by decide +kernel
theorem dX9_as_26 : decode cX9_as 26 = .ok (.iload_n 1, 1) := by decide +kernel
theorem dX9_as_27 : decode cX9_as 27 = .ok (.iload_n 2, 1) := by decide +kernel
theorem dX9_as_28 : decode cX9_as 28 = .ok (.invokevirtual 218, 3) := by decide +kernel
theorem dX9_as_31 : decode cX9_as 31 = .ok (.ifCond .eq 12, 3) := by decide +kernel
theorem dX9_as_34 : decode cX9_as 34 = .ok (.aload_n 0, 1) := by decide +kernel
theorem dX9_as_35 : decode cX9_as 35 = .ok (.iload_n 1, 1) := by decide +kernel
theorem dX9_as_36 : decode cX9_as 36 = .ok (.iconst 1, 1) := by decide +kernel
theorem dX9_as_37 : decode cX9_as 37 = .ok (.invokevirtual 179, 3) := by decide +kernel
theorem dX9_as_40 : decode cX9_as 40 = .ok (.goto 9, 3) := by decide +kernel
theorem dX9_as_43 : decode cX9_as 43 = .ok (.aload_n 0, 1) := by decide +kernel
theorem dX9_as_44 : decode cX9_as 44 = .ok (.ldc 234, 2) := by decide +kernel
theorem dX9_as_46 : decode cX9_as 46 = .ok (.invokevirtual 81, 3) := by decide +kernel
theorem dX9_as_49 : decode cX9_as 49 = .ok (.ireturn, 1) := by decide +kernel
theorem dX9_isSet_0 : decode cX9_isSet 0 = .ok (.iload_n 0, 1) := by decide +kernel
theorem dX9_isSet_1 : decode cX9_isSet 1 = .ok (.iconst 0, 1) := by decide +kernel
theorem dX9_isSet_2 : decode cX9_isSet 2 = .ok (.ldc 235, 2) := by decide +kernel
theorem dX9_isSet_4 : decode cX9_isSet 4 = .ok (.invokestatic 76, 3) := by decide +kernel
theorem dX9_isSet_7 : decode cX9_isSet 7 = .ok (.ireturn, 1) := by decide +kernel
theorem dX9_lease_0 : decode cX9_lease 0 = .ok (.aload_n 0, 1) := by decide +kernel
theorem dX9_lease_1 : decode cX9_lease 1 = .ok (.iload_n 1, 1) := by decide +kernel
theorem dX9_lease_2 : decode cX9_lease 2 = .ok (.invokevirtual 227, 3) := by decide +kernel
theorem dX9_lease_5 : decode cX9_lease 5 = .ok (.ifCond .eq 10, 3) := by decide +kernel
theorem dX9_lease_8 : decode cX9_lease 8 = .ok (.iload_n 2, 1) := by decide +kernel
theorem dX9_lease_9 : decode cX9_lease 9 = .ok (.invokestatic 236, 3) := by decide +kernel
theorem dX9_lease_12 : decode cX9_lease 12 = .ok (.ifCond .ne 10, 3) := by decide +kernel
theorem dX9_lease_15 : decode cX9_lease 15 = .ok (.aload_n 0, 1) := by decide +kernel
theorem dX9_lease_16 : decode cX9_lease 16 = .ok (.ldc 80, 2) := by decide +kernel
theorem dX9_lease_18 : decode cX9_lease 18 = .ok (.invokevirtual 81, 3) := by decide +kernel
theorem dX9_lease_21 : decode cX9_lease 21 = .ok (.ireturn, 1) := by decide +kernel
theorem dX9_lease_22 : decode cX9_lease 22 = .ok (.aload_n 0, 1) := by decide +kernel
theorem dX9_lease_23 : decode cX9_lease 23 = .ok (.iload_n 1, 1) := by decide +kernel
theorem dX9_lease_24 : decode cX9_lease 24 = .ok (.invokevirtual 239, 3) := by decide +kernel
theorem dX9_lease_27 : decode cX9_lease 27 = .ok (.ifCond .eq 12, 3) := by decide +kernel
theorem dX9_lease_30 : decode cX9_lease 30 = .ok (.aload_n 0, 1) := by decide +kernel
theorem dX9_lease_31 : decode cX9_lease 31 = .ok (.ldc 242, 2) := by decide +kernel
theorem dX9_lease_33 : decode cX9_lease 33 = .ok (.invokevirtual 81, 3) := by decide +kernel
theorem dX9_lease_36 : decode cX9_lease 36 = .ok (.goto 13, 3) := by decide +kernel
theorem dX9_lease_39 : decode cX9_lease 39 = .ok (.aload_n 0, 1) := by decide +kernel
theorem dX9_lease_40 : decode cX9_lease 40 = .ok (.iload_n 1, 1) := by decide +kernel
theorem dX9_lease_41 : decode cX9_lease 41 = .ok (.iconst 2, 1) := by decide +kernel
theorem dX9_lease_42 : decode cX9_lease 42 = .ok (.invokestatic 204, 3) := by decide +kernel
theorem dX9_lease_45 : decode cX9_lease 45 = .ok (.iload_n 2, 1) := by decide +kernel
theorem dX9_lease_46 : decode cX9_lease 46 = .ok (.invokevirtual 201, 3) := by decide +kernel
theorem dX9_lease_49 : decode cX9_lease 49 = .ok (.ireturn, 1) := by decide +kernel
theorem dX9_purse_0 : decode cX9_purse 0 = .ok (.aload_n 0, 1) := by decide +kernel
theorem dX9_purse_1 : decode cX9_purse 1 = .ok (.iload_n 1, 1) := by decide +kernel
theorem dX9_purse_2 : decode cX9_purse 2 = .ok (.invokevirtual 227, 3) := by decide +kernel
theorem dX9_purse_5 : decode cX9_purse 5 = .ok (.ifCond .eq 16, 3) := by decide +kernel
theorem dX9_purse_8 : decode cX9_purse 8 = .ok (.iload_n 2, 1) := by decide +kernel
theorem dX9_purse_9 : decode cX9_purse 9 = .ok (.sipush (-9999), 3) := by decide +kernel
theorem dX9_purse_12 : decode cX9_purse 12 = .ok (.sipush 9999, 3) := by decide +kernel
theorem dX9_purse_15 : decode cX9_purse 15 = .ok (.invokestatic 76, 3) := by decide +kernel
theorem dX9_purse_18 : decode cX9_purse 18 = .ok (.ifCond .ne 10, 3) := by decide +kernel
theorem dX9_purse_21 : decode cX9_purse 21 = .ok (.aload_n 0, 1) := by decide +kernel
theorem dX9_purse_22 : decode cX9_purse 22 = .ok (.ldc 80, 2) := by decide +kernel
theorem dX9_purse_24 : decode cX9_purse 24 = .ok (.invokevirtual 81, 3) := by decide +kernel
theorem dX9_purse_27 : decode cX9_purse 27 = .ok (.ireturn, 1) := by decide +kernel
theorem dX9_purse_28 : decode cX9_purse 28 = .ok (.aload_n 0, 1) := by decide +kernel
theorem dX9_purse_29 : decode cX9_purse 29 = .ok (.iload_n 1, 1) := by decide +kernel
theorem dX9_purse_30 : decode cX9_purse 30 = .ok (.iconst 3, 1) := by decide +kernel
theorem dX9_purse_31 : decode cX9_purse 31 = .ok (.invokestatic 204, 3) := by decide +kernel
theorem dX9_purse_34 : decode cX9_purse 34 = .ok (.iload_n 2, 1) := by decide +kernel
theorem dX9_purse_35 : decode cX9_purse 35 = .ok (.invokevirtual 201, 3) := by decide +kernel
theorem dX9_purse_38 : decode cX9_purse 38 = .ok (.ldc 230, 2) := by decide +kernel
theorem dX9_purse_40 : decode cX9_purse 40 = .ok (.iadd, 1) := by decide +kernel
theorem dX9_purse_41 : decode cX9_purse 41 = .ok (.ireturn, 1) := by decide +kernel
theorem dX9_manyOut_0 : decode cX9_manyOut 0 = .ok (.iconst 0, 1) := by decide +kernel
theorem dX9_manyOut_1 : decode cX9_manyOut 1 = .ok (.istore_n 1, 1) := by decide +kernel
theorem dX9_manyOut_2 : decode cX9_manyOut 2 = .ok (.iconst 0, 1) := by decide +kernel
theorem dX9_manyOut_3 : decode cX9_manyOut 3 = .ok (.istore_n 2, 1) := by decide +kernel
theorem dX9_manyOut_4 : decode cX9_manyOut 4 = .ok (.iload_n 2, 1) := by decide +kernel
theorem dX9_manyOut_5 : decode cX9_manyOut 5 = .ok (.aload_n 0, 1) := by decide +kernel
theorem dX9_manyOut_6 : decode cX9_manyOut 6 = .ok (.getfield 9, 3) := by decide +kernel
theorem dX9_manyOut_9 : decode cX9_manyOut 9 = .ok (.iconst 1, 1) := by decide +kernel
theorem dX9_manyOut_10 : decode cX9_manyOut 10 = .ok (.iaload, 1) := by decide +kernel
theorem dX9_manyOut_11 : decode cX9_manyOut 11 = .ok (.if_icmp .ge 18, 3) := by decide +kernel
theorem dX9_manyOut_14 : decode cX9_manyOut 14 = .ok (.iload_n 1, 1) := by decide +kernel
theorem dX9_manyOut_15 : decode cX9_manyOut 15 = .ok (.aload_n 0, 1) := by decide +kernel
theorem dX9_manyOut_16 : decode cX9_manyOut 16 = .ok (.iload_n 2, 1) := by decide +kernel
theorem dX9_manyOut_17 : decode cX9_manyOut 17 = .ok (.iconst 4, 1) := by decide +kernel
theorem dX9_manyOut_18 : decode cX9_manyOut 18 = .ok (.invokevirtual 179, 3) := by decide +kernel
theorem dX9_manyOut_21 : decode cX9_manyOut 21 = .ok (.iadd, 1) := by decide +kernel
theorem dX9_manyOut_22 : decode cX9_manyOut 22 = .ok (.istore_n 1, 1) := by decide +kernel
theorem dX9_manyOut_23 : decode cX9_manyOut 23 = .ok (.iinc 2 1, 3) := by decide +kernel
theorem dX9_manyOut_26 : decode cX9_manyOut 26 = .ok (.goto (-22), 3) := by decide +kernel
theorem dX9_manyOut_29 : decode cX9_manyOut 29 = .ok (.iload_n 1, 1) := by decide +kernel
theorem dX9_manyOut_30 : decode cX9_manyOut 30 = .ok (.ireturn, 1) := by decide +kernel
theorem dX9_pardon_0 : decode cX9_pardon 0 = .ok (.aload_n 0, 1) := by decide +kernel
theorem dX9_pardon_1 : decode cX9_pardon 1 = .ok (.iload_n 1, 1) := by decide +kernel
theorem dX9_pardon_2 : decode cX9_pardon 2 = .ok (.invokevirtual 227, 3) := by decide +kernel
theorem dX9_pardon_5 : decode cX9_pardon 5 = .ok (.ifCond .ne 10, 3) := by decide +kernel
theorem dX9_pardon_8 : decode cX9_pardon 8 = .ok (.aload_n 0, 1) := by decide +kernel
theorem dX9_pardon_9 : decode cX9_pardon 9 = .ok (.ldc 80, 2) := by decide +kernel
theorem dX9_pardon_11 : decode cX9_pardon 11 = .ok (.invokevirtual 81, 3) := by decide +kernel
theorem dX9_pardon_14 : decode cX9_pardon 14 = .ok (.ireturn, 1) := by decide +kernel
theorem dX9_pardon_15 : decode cX9_pardon 15 = .ok (.aload_n 0, 1) := by decide +kernel
theorem dX9_pardon_16 : decode cX9_pardon 16 = .ok (.iload_n 1, 1) := by decide +kernel
theorem dX9_pardon_17 : decode cX9_pardon 17 = .ok (.invokevirtual 239, 3) := by decide +kernel
theorem dX9_pardon_20 : decode cX9_pardon 20 = .ok (.ifCond .ne 10, 3) := by decide +kernel
theorem dX9_pardon_23 : decode cX9_pardon 23 = .ok (.aload_n 0, 1) := by decide +kernel
theorem dX9_pardon_24 : decode cX9_pardon 24 = .ok (.ldc 242, 2) := by decide +kernel
theorem dX9_pardon_26 : decode cX9_pardon 26 = .ok (.invokevirtual 81, 3) := by decide +kernel
theorem dX9_pardon_29 : decode cX9_pardon 29 = .ok (.ireturn, 1) := by decide +kernel
theorem dX9_pardon_30 : decode cX9_pardon 30 = .ok (.aload_n 0, 1) := by decide +kernel
theorem dX9_pardon_31 : decode cX9_pardon 31 = .ok (.getfield 9, 3) := by decide +kernel
theorem dX9_pardon_34 : decode cX9_pardon 34 = .ok (.iload_n 1, 1) := by decide +kernel
theorem dX9_pardon_35 : decode cX9_pardon 35 = .ok (.iconst 4, 1) := by decide +kernel
theorem dX9_pardon_36 : decode cX9_pardon 36 = .ok (.invokestatic 204, 3) := by decide +kernel
theorem dX9_pardon_39 : decode cX9_pardon 39 = .ok (.iconst 0, 1) := by decide +kernel
theorem dX9_pardon_40 : decode cX9_pardon 40 = .ok (.iastore, 1) := by decide +kernel
theorem dX9_pardon_41 : decode cX9_pardon 41 = .ok (.aload_n 0, 1) := by decide +kernel
theorem dX9_pardon_42 : decode cX9_pardon 42 = .ok (.getfield 9, 3) := by decide +kernel
theorem dX9_pardon_45 : decode cX9_pardon 45 = .ok (.iload_n 1, 1) := by decide +kernel
theorem dX9_pardon_46 : decode cX9_pardon 46 = .ok (.iconst 3, 1) := by decide +kernel
theorem dX9_pardon_47 : decode cX9_pardon 47 = .ok (.invokestatic 204, 3) := by decide +kernel
theorem dX9_pardon_50 : decode cX9_pardon 50 = .ok (.iconst 0, 1) := by decide +kernel
theorem dX9_pardon_51 : decode cX9_pardon 51 = .ok (.iastore, 1) := by decide +kernel
theorem dX9_pardon_52 : decode cX9_pardon 52 = .ok (.aload_n 0, 1) := by decide +kernel
theorem dX9_pardon_53 : decode cX9_pardon 53 = .ok (.invokevirtual 243, 3) := by decide +kernel
theorem dX9_pardon_56 : decode cX9_pardon 56 = .ok (.ireturn, 1) := by decide +kernel
theorem dX9_pays_0 : decode cX9_pays 0 = .ok (.aload_n 0, 1) := by decide +kernel
theorem dX9_pays_1 : decode cX9_pays 1 = .ok (.getfield 9, 3) := by decide +kernel
theorem dX9_pays_4 : decode cX9_pays 4 = .ok (.iload_n 1, 1) := by decide +kernel
theorem dX9_pays_5 : decode cX9_pays 5 = .ok (.iconst 3, 1) := by decide +kernel
theorem dX9_pays_6 : decode cX9_pays 6 = .ok (.invokestatic 204, 3) := by decide +kernel
theorem dX9_pays_9 : decode cX9_pays 9 = .ok (.sipush (-9999), 3) := by decide +kernel
theorem dX9_pays_12 : decode cX9_pays 12 = .ok (.aload_n 0, 1) := by decide +kernel
theorem dX9_pays_13 : decode cX9_pays 13 = .ok (.iload_n 1, 1) := by decide +kernel
theorem dX9_pays_14 : decode cX9_pays 14 = .ok (.iconst 3, 1) := by decide +kernel
theorem dX9_pays_15 : decode cX9_pays 15 = .ok (.invokevirtual 179, 3) := by decide +kernel
theorem dX9_pays_18 : decode cX9_pays 18 = .ok (.aload_n 0, 1) := by decide +kernel
theorem dX9_pays_19 : decode cX9_pays 19 = .ok (.iload_n 1, 1) := by decide +kernel
theorem dX9_pays_20 : decode cX9_pays 20 = .ok (.invokevirtual 231, 3) := by decide +kernel
theorem dX9_pays_23 : decode cX9_pays 23 = .ok (.isub, 1) := by decide +kernel
theorem dX9_pays_24 : decode cX9_pays 24 = .ok (.invokestatic 69, 3) := by decide +kernel
theorem dX9_pays_27 : decode cX9_pays 27 = .ok (.iastore, 1) := by decide +kernel
theorem dX9_pays_28 : decode cX9_pays 28 = .ok (.aload_n 0, 1) := by decide +kernel
theorem dX9_pays_29 : decode cX9_pays 29 = .ok (.iload_n 1, 1) := by decide +kernel
theorem dX9_pays_30 : decode cX9_pays 30 = .ok (.iconst 3, 1) := by decide +kernel
theorem dX9_pays_31 : decode cX9_pays 31 = .ok (.invokevirtual 179, 3) := by decide +kernel
theorem dX9_pays_34 : decode cX9_pays 34 = .ok (.ifCond .ge 25, 3) := by decide +kernel
theorem dX9_pays_37 : decode cX9_pays 37 = .ok (.aload_n 0, 1) := by decide +kernel
theorem dX9_pays_38 : decode cX9_pays 38 = .ok (.getfield 9, 3) := by decide +kernel
theorem dX9_pays_41 : decode cX9_pays 41 = .ok (.iload_n 1, 1) := by decide +kernel
theorem dX9_pays_42 : decode cX9_pays 42 = .ok (.iconst 4, 1) := by decide +kernel
theorem dX9_pays_43 : decode cX9_pays 43 = .ok (.invokestatic 204, 3) := by decide +kernel
theorem dX9_pays_46 : decode cX9_pays 46 = .ok (.iconst 1, 1) := by decide +kernel
theorem dX9_pays_47 : decode cX9_pays 47 = .ok (.iastore, 1) := by decide +kernel
theorem dX9_pays_48 : decode cX9_pays 48 = .ok (.aload_n 0, 1) := by decide +kernel
theorem dX9_pays_49 : decode cX9_pays 49 = .ok (.getfield 9, 3) := by decide +kernel
theorem dX9_pays_52 : decode cX9_pays 52 = .ok (.iload_n 1, 1) := by decide +kernel
theorem dX9_pays_53 : decode cX9_pays 53 = .ok (.iconst 2, 1) := by decide +kernel
theorem dX9_pays_54 : decode cX9_pays 54 = .ok (.invokestatic 204, 3) := by decide +kernel
theorem dX9_pays_57 : decode cX9_pays 57 = .ok (.iconst 0, 1) := by decide +kernel
theorem dX9_pays_58 : decode cX9_pays 58 = .ok (.iastore, 1) := by decide +kernel
theorem dX9_pays_59 : decode cX9_pays 59 = .ok (.return_, 1) := by decide +kernel
theorem dX9_night_0 : decode cX9_night 0 = .ok (.iconst 0, 1) := by decide +kernel
theorem dX9_night_1 : decode cX9_night 1 = .ok (.istore_n 1, 1) := by decide +kernel
theorem dX9_night_2 : decode cX9_night 2 = .ok (.iload_n 1, 1) := by decide +kernel
theorem dX9_night_3 : decode cX9_night 3 = .ok (.aload_n 0, 1) := by decide +kernel
theorem dX9_night_4 : decode cX9_night 4 = .ok (.getfield 9, 3) := by decide +kernel
theorem dX9_night_7 : decode cX9_night 7 = .ok (.iconst 1, 1) := by decide +kernel
theorem dX9_night_8 : decode cX9_night 8 = .ok (.iaload, 1) := by decide +kernel
theorem dX9_night_9 : decode cX9_night 9 = .ok (.if_icmp .ge 54, 3) := by decide +kernel
theorem dX9_night_12 : decode cX9_night 12 = .ok (.aload_n 0, 1) := by decide +kernel
theorem dX9_night_13 : decode cX9_night 13 = .ok (.getfield 9, 3) := by decide +kernel
theorem dX9_night_16 : decode cX9_night 16 = .ok (.iload_n 1, 1) := by decide +kernel
theorem dX9_night_17 : decode cX9_night 17 = .ok (.iconst 3, 1) := by decide +kernel
theorem dX9_night_18 : decode cX9_night 18 = .ok (.invokestatic 204, 3) := by decide +kernel
theorem dX9_night_21 : decode cX9_night 21 = .ok (.aload_n 0, 1) := by decide +kernel
theorem dX9_night_22 : decode cX9_night 22 = .ok (.iload_n 1, 1) := by decide +kernel
theorem dX9_night_23 : decode cX9_night 23 = .ok (.invokevirtual 239, 3) := by decide +kernel
theorem dX9_night_26 : decode cX9_night 26 = .ok (.ifCond .eq 12, 3) := by decide +kernel
theorem dX9_night_29 : decode cX9_night 29 = .ok (.aload_n 0, 1) := by decide +kernel
theorem dX9_night_30 : decode cX9_night 30 = .ok (.iload_n 1, 1) := by decide +kernel
theorem dX9_night_31 : decode cX9_night 31 = .ok (.iconst 3, 1) := by decide +kernel
theorem dX9_night_32 : decode cX9_night 32 = .ok (.invokevirtual 179, 3) := by decide +kernel
theorem dX9_night_35 : decode cX9_night 35 = .ok (.goto 21, 3) := by decide +kernel
theorem dX9_night_38 : decode cX9_night 38 = .ok (.sipush 9999, 3) := by decide +kernel
theorem dX9_night_41 : decode cX9_night 41 = .ok (.aload_n 0, 1) := by decide +kernel
theorem dX9_night_42 : decode cX9_night 42 = .ok (.iload_n 1, 1) := by decide +kernel
theorem dX9_night_43 : decode cX9_night 43 = .ok (.iconst 3, 1) := by decide +kernel
theorem dX9_night_44 : decode cX9_night 44 = .ok (.invokevirtual 179, 3) := by decide +kernel
theorem dX9_night_47 : decode cX9_night 47 = .ok (.aload_n 0, 1) := by decide +kernel
theorem dX9_night_48 : decode cX9_night 48 = .ok (.iload_n 1, 1) := by decide +kernel
theorem dX9_night_49 : decode cX9_night 49 = .ok (.invokevirtual 246, 3) := by decide +kernel
theorem dX9_night_52 : decode cX9_night 52 = .ok (.iadd, 1) := by decide +kernel
theorem dX9_night_53 : decode cX9_night 53 = .ok (.invokestatic 63, 3) := by decide +kernel
theorem dX9_night_56 : decode cX9_night 56 = .ok (.iastore, 1) := by decide +kernel
theorem dX9_night_57 : decode cX9_night 57 = .ok (.iinc 1 1, 3) := by decide +kernel
theorem dX9_night_60 : decode cX9_night 60 = .ok (.goto (-58), 3) := by decide +kernel
theorem dX9_night_63 : decode cX9_night 63 = .ok (.aload_n 0, 1) := by decide +kernel
theorem dX9_night_64 : decode cX9_night 64 = .ok (.getfield 9, 3) := by decide +kernel
theorem dX9_night_67 : decode cX9_night 67 = .ok (.iconst 0, 1) := by decide +kernel
theorem dX9_night_68 : decode cX9_night 68 = .ok (.dup2, 1) := by decide +kernel
theorem dX9_night_69 : decode cX9_night 69 = .ok (.iaload, 1) := by decide +kernel
theorem dX9_night_70 : decode cX9_night 70 = .ok (.iconst 1, 1) := by decide +kernel
theorem dX9_night_71 : decode cX9_night 71 = .ok (.iadd, 1) := by decide +kernel
theorem dX9_night_72 : decode cX9_night 72 = .ok (.iastore, 1) := by decide +kernel
theorem dX9_night_73 : decode cX9_night 73 = .ok (.iconst 0, 1) := by decide +kernel
theorem dX9_night_74 : decode cX9_night 74 = .ok (.istore_n 1, 1) := by decide +kernel
theorem dX9_night_75 : decode cX9_night 75 = .ok (.iload_n 1, 1) := by decide +kernel
theorem dX9_night_76 : decode cX9_night 76 = .ok (.aload_n 0, 1) := by decide +kernel
theorem dX9_night_77 : decode cX9_night 77 = .ok (.getfield 9, 3) := by decide +kernel
theorem dX9_night_80 : decode cX9_night 80 = .ok (.iconst 1, 1) := by decide +kernel
theorem dX9_night_81 : decode cX9_night 81 = .ok (.iaload, 1) := by decide +kernel
theorem dX9_night_82 : decode cX9_night 82 = .ok (.if_icmp .ge 33, 3) := by decide +kernel
theorem dX9_night_85 : decode cX9_night 85 = .ok (.aload_n 0, 1) := by decide +kernel
theorem dX9_night_86 : decode cX9_night 86 = .ok (.getfield 9, 3) := by decide +kernel
theorem dX9_night_89 : decode cX9_night 89 = .ok (.iconst 0, 1) := by decide +kernel
theorem dX9_night_90 : decode cX9_night 90 = .ok (.iaload, 1) := by decide +kernel
theorem dX9_night_91 : decode cX9_night 91 = .ok (.iconst 4, 1) := by decide +kernel
theorem dX9_night_92 : decode cX9_night 92 = .ok (.irem, 1) := by decide +kernel
theorem dX9_night_93 : decode cX9_night 93 = .ok (.ifCond .ne 22, 3) := by decide +kernel
theorem dX9_night_96 : decode cX9_night 96 = .ok (.aload_n 0, 1) := by decide +kernel
theorem dX9_night_97 : decode cX9_night 97 = .ok (.iload_n 1, 1) := by decide +kernel
theorem dX9_night_98 : decode cX9_night 98 = .ok (.invokevirtual 239, 3) := by decide +kernel
theorem dX9_night_101 : decode cX9_night 101 = .ok (.ifCond .ne 8, 3) := by decide +kernel
theorem dX9_night_104 : decode cX9_night 104 = .ok (.aload_n 0, 1) := by decide +kernel
theorem dX9_night_105 : decode cX9_night 105 = .ok (.iload_n 1, 1) := by decide +kernel
theorem dX9_night_106 : decode cX9_night 106 = .ok (.invokevirtual 249, 3) := by decide +kernel
theorem dX9_night_109 : decode cX9_night 109 = .ok (.iinc 1 1, 3) := by decide +kernel
theorem dX9_night_112 : decode cX9_night 112 = .ok (.goto (-37), 3) := by decide +kernel
theorem dX9_night_115 : decode cX9_night 115 = .ok (.return_, 1) := by decide +kernel
theorem dX9_pass_0 : decode cX9_pass 0 = .ok (.iconst 0, 1) := by decide +kernel
theorem dX9_pass_1 : decode cX9_pass 1 = .ok (.istore_n 2, 1) := by decide +kernel
theorem dX9_pass_2 : decode cX9_pass 2 = .ok (.iload_n 2, 1) := by decide +kernel
theorem dX9_pass_3 : decode cX9_pass 3 = .ok (.iload_n 1, 1) := by decide +kernel
theorem dX9_pass_4 : decode cX9_pass 4 = .ok (.if_icmp .ge 13, 3) := by decide +kernel
theorem dX9_pass_7 : decode cX9_pass 7 = .ok (.aload_n 0, 1) := by decide +kernel
theorem dX9_pass_8 : decode cX9_pass 8 = .ok (.invokevirtual 252, 3) := by decide +kernel
theorem dX9_pass_11 : decode cX9_pass 11 = .ok (.iinc 2 1, 3) := by decide +kernel
theorem dX9_pass_14 : decode cX9_pass 14 = .ok (.goto (-12), 3) := by decide +kernel
theorem dX9_pass_17 : decode cX9_pass 17 = .ok (.return_, 1) := by decide +kernel
theorem dX9_nights_0 : decode cX9_nights 0 = .ok (.iload_n 1, 1) := by decide +kernel
theorem dX9_nights_1 : decode cX9_nights 1 = .ok (.iconst 1, 1) := by decide +kernel
theorem dX9_nights_2 : decode cX9_nights 2 = .ok (.bipush 100, 2) := by decide +kernel
theorem dX9_nights_4 : decode cX9_nights 4 = .ok (.invokestatic 76, 3) := by decide +kernel
theorem dX9_nights_7 : decode cX9_nights 7 = .ok (.ifCond .ne 10, 3) := by decide +kernel
theorem dX9_nights_10 : decode cX9_nights 10 = .ok (.aload_n 0, 1) := by decide +kernel
theorem dX9_nights_11 : decode cX9_nights 11 = .ok (.ldc 80, 2) := by decide +kernel
theorem dX9_nights_13 : decode cX9_nights 13 = .ok (.invokevirtual 81, 3) := by decide +kernel
theorem dX9_nights_16 : decode cX9_nights 16 = .ok (.ireturn, 1) := by decide +kernel
theorem dX9_nights_17 : decode cX9_nights 17 = .ok (.aload_n 0, 1) := by decide +kernel
theorem dX9_nights_18 : decode cX9_nights 18 = .ok (.getfield 9, 3) := by decide +kernel
theorem dX9_nights_21 : decode cX9_nights 21 = .ok (.iconst 0, 1) := by decide +kernel
theorem dX9_nights_22 : decode cX9_nights 22 = .ok (.iaload, 1) := by decide +kernel
theorem dX9_nights_23 : decode cX9_nights 23 = .ok (.iload_n 1, 1) := by decide +kernel
theorem dX9_nights_24 : decode cX9_nights 24 = .ok (.iadd, 1) := by decide +kernel
theorem dX9_nights_25 : decode cX9_nights 25 = .ok (.sipush 9999, 3) := by decide +kernel
theorem dX9_nights_28 : decode cX9_nights 28 = .ok (.if_icmp .le 10, 3) := by decide +kernel
theorem dX9_nights_31 : decode cX9_nights 31 = .ok (.aload_n 0, 1) := by decide +kernel
theorem dX9_nights_32 : decode cX9_nights 32 = .ok (.ldc 242, 2) := by decide +kernel
theorem dX9_nights_34 : decode cX9_nights 34 = .ok (.invokevirtual 81, 3) := by decide +kernel
theorem dX9_nights_37 : decode cX9_nights 37 = .ok (.ireturn, 1) := by decide +kernel
theorem dX9_nights_38 : decode cX9_nights 38 = .ok (.aload_n 0, 1) := by decide +kernel
theorem dX9_nights_39 : decode cX9_nights 39 = .ok (.iload_n 1, 1) := by decide +kernel
theorem dX9_nights_40 : decode cX9_nights 40 = .ok (.invokevirtual 255, 3) := by decide +kernel
theorem dX9_nights_43 : decode cX9_nights 43 = .ok (.aload_n 0, 1) := by decide +kernel
theorem dX9_nights_44 : decode cX9_nights 44 = .ok (.invokevirtual 243, 3) := by decide +kernel
theorem dX9_nights_47 : decode cX9_nights 47 = .ok (.ireturn, 1) := by decide +kernel
theorem dX9_drawn_0 : decode cX9_drawn 0 = .ok (.aload_n 0, 1) := by decide +kernel
theorem dX9_drawn_1 : decode cX9_drawn 1 = .ok (.getfield 9, 3) := by decide +kernel
theorem dX9_drawn_4 : decode cX9_drawn 4 = .ok (.iconst 5, 1) := by decide +kernel
theorem dX9_drawn_5 : decode cX9_drawn 5 = .ok (.aload_n 0, 1) := by decide +kernel
theorem dX9_drawn_6 : decode cX9_drawn 6 = .ok (.getfield 9, 3) := by decide +kernel
theorem dX9_drawn_9 : decode cX9_drawn 9 = .ok (.iconst 5, 1) := by decide +kernel
theorem dX9_drawn_10 : decode cX9_drawn 10 = .ok (.iaload, 1) := by decide +kernel
theorem dX9_drawn_11 : decode cX9_drawn 11 = .ok (.ldc_w 258, 3) := by decide +kernel
theorem dX9_drawn_14 : decode cX9_drawn 14 = .ok (.imul, 1) := by decide +kernel
theorem dX9_drawn_15 : decode cX9_drawn 15 = .ok (.sipush 12345, 3) := by decide +kernel
theorem dX9_drawn_18 : decode cX9_drawn 18 = .ok (.iadd, 1) := by decide +kernel
theorem dX9_drawn_19 : decode cX9_drawn 19 = .ok (.iastore, 1) := by decide +kernel
theorem dX9_drawn_20 : decode cX9_drawn 20 = .ok (.aload_n 0, 1) := by decide +kernel
theorem dX9_drawn_21 : decode cX9_drawn 21 = .ok (.getfield 9, 3) := by decide +kernel
theorem dX9_drawn_24 : decode cX9_drawn 24 = .ok (.iconst 5, 1) := by decide +kernel
theorem dX9_drawn_25 : decode cX9_drawn 25 = .ok (.iaload, 1) := by decide +kernel
theorem dX9_drawn_26 : decode cX9_drawn 26 = .ok (.bipush 8, 2) := by decide +kernel
theorem dX9_drawn_28 : decode cX9_drawn 28 = .ok (.iushr, 1) := by decide +kernel
theorem dX9_drawn_29 : decode cX9_drawn 29 = .ok (.ireturn, 1) := by decide +kernel
theorem dX9_takesByDraws_0 : decode cX9_takesByDraws 0 = .ok (.aload_n 0, 1) := by decide +kernel
theorem dX9_takesByDraws_1 : decode cX9_takesByDraws 1 = .ok (.invokevirtual 259, 3) := by decide +kernel
theorem dX9_takesByDraws_4 : decode cX9_takesByDraws 4 = .ok (.aload_n 0, 1) := by decide +kernel
theorem dX9_takesByDraws_5 : decode cX9_takesByDraws 5 = .ok (.getfield 9, 3) := by decide +kernel
theorem dX9_takesByDraws_8 : decode cX9_takesByDraws 8 = .ok (.iconst 1, 1) := by decide +kernel
theorem dX9_takesByDraws_9 : decode cX9_takesByDraws 9 = .ok (.iaload, 1) := by decide +kernel
theorem dX9_takesByDraws_10 : decode cX9_takesByDraws 10 = .ok (.irem, 1) := by decide +kernel
theorem dX9_takesByDraws_11 : decode cX9_takesByDraws 11 = .ok (.istore_n 1, 1) := by decide +kernel
theorem dX9_takesByDraws_12 : decode cX9_takesByDraws 12 = .ok (.aload_n 0, 1) := by decide +kernel
theorem dX9_takesByDraws_13 : decode cX9_takesByDraws 13 = .ok (.invokevirtual 259, 3) := by decide +kernel
theorem dX9_takesByDraws_16 : decode cX9_takesByDraws 16 = .ok (.bipush 24, 2) := by decide +kernel
theorem dX9_takesByDraws_18 : decode cX9_takesByDraws 18 = .ok (.irem, 1) := by decide +kernel
theorem dX9_takesByDraws_19 : decode cX9_takesByDraws 19 = .ok (.istore_n 2, 1) := by decide +kernel
theorem dX9_takesByDraws_20 : decode cX9_takesByDraws 20 = .ok (.aload_n 0, 1) := by decide +kernel
theorem dX9_takesByDraws_21 : decode cX9_takesByDraws 21 = .ok (.getfield 9, 3) := by decide +kernel
theorem dX9_takesByDraws_24 : decode cX9_takesByDraws 24 = .ok (.iload_n 1, 1) := by decide +kernel
theorem dX9_takesByDraws_25 : decode cX9_takesByDraws 25 = .ok (.iconst 2, 1) := by decide +kernel
theorem dX9_takesByDraws_26 : decode cX9_takesByDraws 26 = .ok (.invokestatic 204, 3) := by decide +kernel
theorem dX9_takesByDraws_29 : decode cX9_takesByDraws 29 = .ok (.dup2, 1) := by decide +kernel
theorem dX9_takesByDraws_30 : decode cX9_takesByDraws 30 = .ok (.iaload, 1) := by decide +kernel
theorem dX9_takesByDraws_31 : decode cX9_takesByDraws 31 = .ok (.aload_n 0, 1) := by decide +kernel
theorem dX9_takesByDraws_32 : decode cX9_takesByDraws 32 = .ok (.iload_n 1, 1) := by decide +kernel
theorem dX9_takesByDraws_33 : decode cX9_takesByDraws 33 = .ok (.invokevirtual 239, 3) := by decide +kernel
theorem dX9_takesByDraws_36 : decode cX9_takesByDraws 36 = .ok (.ifCond .eq 7, 3) := by decide +kernel
theorem dX9_takesByDraws_39 : decode cX9_takesByDraws 39 = .ok (.iconst 0, 1) := by decide +kernel
theorem dX9_takesByDraws_40 : decode cX9_takesByDraws 40 = .ok (.goto 6, 3) := by decide +kernel
theorem dX9_takesByDraws_43 : decode cX9_takesByDraws 43 = .ok (.iconst 1, 1) := by decide +kernel
theorem dX9_takesByDraws_44 : decode cX9_takesByDraws 44 = .ok (.iload_n 2, 1) := by decide +kernel
theorem dX9_takesByDraws_45 : decode cX9_takesByDraws 45 = .ok (.ishl, 1) := by decide +kernel
theorem dX9_takesByDraws_46 : decode cX9_takesByDraws 46 = .ok (.ior, 1) := by decide +kernel
theorem dX9_takesByDraws_47 : decode cX9_takesByDraws 47 = .ok (.iastore, 1) := by decide +kernel
theorem dX9_takesByDraws_48 : decode cX9_takesByDraws 48 = .ok (.return_, 1) := by decide +kernel
theorem dX9_loose_0 : decode cX9_loose 0 = .ok (.iload_n 1, 1) := by decide +kernel
theorem dX9_loose_1 : decode cX9_loose 1 = .ok (.iconst 1, 1) := by decide +kernel
theorem dX9_loose_2 : decode cX9_loose 2 = .ok (.bipush 40, 2) := by decide +kernel
theorem dX9_loose_4 : decode cX9_loose 4 = .ok (.invokestatic 76, 3) := by decide +kernel
theorem dX9_loose_7 : decode cX9_loose 7 = .ok (.ifCond .ne 10, 3) := by decide +kernel
theorem dX9_loose_10 : decode cX9_loose 10 = .ok (.aload_n 0, 1) := by decide +kernel
theorem dX9_loose_11 : decode cX9_loose 11 = .ok (.ldc 80, 2) := by decide +kernel
theorem dX9_loose_13 : decode cX9_loose 13 = .ok (.invokevirtual 81, 3) := by decide +kernel
theorem dX9_loose_16 : decode cX9_loose 16 = .ok (.ireturn, 1) := by decide +kernel
theorem dX9_loose_17 : decode cX9_loose 17 = .ok (.aload_n 0, 1) := by decide +kernel
theorem dX9_loose_18 : decode cX9_loose 18 = .ok (.getfield 9, 3) := by decide +kernel
theorem dX9_loose_21 : decode cX9_loose 21 = .ok (.iconst 0, 1) := by decide +kernel
theorem dX9_loose_22 : decode cX9_loose 22 = .ok (.iaload, 1) := by decide +kernel
theorem dX9_loose_23 : decode cX9_loose 23 = .ok (.iload_n 1, 1) := by decide +kernel
theorem dX9_loose_24 : decode cX9_loose 24 = .ok (.iadd, 1) := by decide +kernel
theorem dX9_loose_25 : decode cX9_loose 25 = .ok (.sipush 9999, 3) := by decide +kernel
theorem dX9_loose_28 : decode cX9_loose 28 = .ok (.if_icmp .le 10, 3) := by decide +kernel
theorem dX9_loose_31 : decode cX9_loose 31 = .ok (.aload_n 0, 1) := by decide +kernel
theorem dX9_loose_32 : decode cX9_loose 32 = .ok (.ldc 242, 2) := by decide +kernel
theorem dX9_loose_34 : decode cX9_loose 34 = .ok (.invokevirtual 81, 3) := by decide +kernel
theorem dX9_loose_37 : decode cX9_loose 37 = .ok (.ireturn, 1) := by decide +kernel
theorem dX9_loose_38 : decode cX9_loose 38 = .ok (.iconst 0, 1) := by decide +kernel
theorem dX9_loose_39 : decode cX9_loose 39 = .ok (.istore_n 2, 1) := by decide +kernel
theorem dX9_loose_40 : decode cX9_loose 40 = .ok (.iload_n 2, 1) := by decide +kernel
theorem dX9_loose_41 : decode cX9_loose 41 = .ok (.iload_n 1, 1) := by decide +kernel
theorem dX9_loose_42 : decode cX9_loose 42 = .ok (.if_icmp .ge 39, 3) := by decide +kernel
theorem dX9_loose_45 : decode cX9_loose 45 = .ok (.aload_n 0, 1) := by decide +kernel
theorem dX9_loose_46 : decode cX9_loose 46 = .ok (.getfield 9, 3) := by decide +kernel
theorem dX9_loose_49 : decode cX9_loose 49 = .ok (.iconst 2, 1) := by decide +kernel
theorem dX9_loose_50 : decode cX9_loose 50 = .ok (.aload_n 0, 1) := by decide +kernel
theorem dX9_loose_51 : decode cX9_loose 51 = .ok (.invokevirtual 259, 3) := by decide +kernel
theorem dX9_loose_54 : decode cX9_loose 54 = .ok (.bipush 10, 2) := by decide +kernel
theorem dX9_loose_56 : decode cX9_loose 56 = .ok (.irem, 1) := by decide +kernel
theorem dX9_loose_57 : decode cX9_loose 57 = .ok (.iastore, 1) := by decide +kernel
theorem dX9_loose_58 : decode cX9_loose 58 = .ok (.aload_n 0, 1) := by decide +kernel
theorem dX9_loose_59 : decode cX9_loose 59 = .ok (.getfield 9, 3) := by decide +kernel
theorem dX9_loose_62 : decode cX9_loose 62 = .ok (.iconst 1, 1) := by decide +kernel
theorem dX9_loose_63 : decode cX9_loose 63 = .ok (.iaload, 1) := by decide +kernel
theorem dX9_loose_64 : decode cX9_loose 64 = .ok (.ifCond .le 7, 3) := by decide +kernel
theorem dX9_loose_67 : decode cX9_loose 67 = .ok (.aload_n 0, 1) := by decide +kernel
theorem dX9_loose_68 : decode cX9_loose 68 = .ok (.invokevirtual 262, 3) := by decide +kernel
theorem dX9_loose_71 : decode cX9_loose 71 = .ok (.aload_n 0, 1) := by decide +kernel
theorem dX9_loose_72 : decode cX9_loose 72 = .ok (.invokevirtual 252, 3) := by decide +kernel
theorem dX9_loose_75 : decode cX9_loose 75 = .ok (.iinc 2 1, 3) := by decide +kernel
theorem dX9_loose_78 : decode cX9_loose 78 = .ok (.goto (-38), 3) := by decide +kernel
theorem dX9_loose_81 : decode cX9_loose 81 = .ok (.aload_n 0, 1) := by decide +kernel
theorem dX9_loose_82 : decode cX9_loose 82 = .ok (.invokevirtual 243, 3) := by decide +kernel
theorem dX9_loose_85 : decode cX9_loose 85 = .ok (.ireturn, 1) := by decide +kernel
theorem dX9_then_0 : decode cX9_then 0 = .ok (.iload_n 1, 1) := by decide +kernel
theorem dX9_then_1 : decode cX9_then 1 = .ok (.iconst 0, 1) := by decide +kernel
theorem dX9_then_2 : decode cX9_then 2 = .ok (.bipush 100, 2) := by decide +kernel
theorem dX9_then_4 : decode cX9_then 4 = .ok (.invokestatic 76, 3) := by decide +kernel
theorem dX9_then_7 : decode cX9_then 7 = .ok (.ifCond .eq 20, 3) := by decide +kernel
theorem dX9_then_10 : decode cX9_then 10 = .ok (.aload_n 0, 1) := by decide +kernel
theorem dX9_then_11 : decode cX9_then 11 = .ok (.iload_n 2, 1) := by decide +kernel
theorem dX9_then_12 : decode cX9_then 12 = .ok (.invokevirtual 227, 3) := by decide +kernel
theorem dX9_then_15 : decode cX9_then 15 = .ok (.ifCond .eq 12, 3) := by decide +kernel
theorem dX9_then_18 : decode cX9_then 18 = .ok (.iload_n 3, 1) := by decide +kernel
theorem dX9_then_19 : decode cX9_then 19 = .ok (.iconst 0, 1) := by decide +kernel
theorem dX9_then_20 : decode cX9_then 20 = .ok (.iconst 1, 1) := by decide +kernel
theorem dX9_then_21 : decode cX9_then 21 = .ok (.invokestatic 76, 3) := by decide +kernel
theorem dX9_then_24 : decode cX9_then 24 = .ok (.ifCond .ne 10, 3) := by decide +kernel
theorem dX9_then_27 : decode cX9_then 27 = .ok (.aload_n 0, 1) := by decide +kernel
theorem dX9_then_28 : decode cX9_then 28 = .ok (.ldc 80, 2) := by decide +kernel
theorem dX9_then_30 : decode cX9_then 30 = .ok (.invokevirtual 81, 3) := by decide +kernel
theorem dX9_then_33 : decode cX9_then 33 = .ok (.ireturn, 1) := by decide +kernel
theorem dX9_then_34 : decode cX9_then 34 = .ok (.aload_n 0, 1) := by decide +kernel
theorem dX9_then_35 : decode cX9_then 35 = .ok (.getfield 9, 3) := by decide +kernel
theorem dX9_then_38 : decode cX9_then 38 = .ok (.aload_n 0, 1) := by decide +kernel
theorem dX9_then_39 : decode cX9_then 39 = .ok (.getfield 16, 3) := by decide +kernel
theorem dX9_then_42 : decode cX9_then 42 = .ok (.invokestatic 72, 3) := by decide +kernel
theorem dX9_then_45 : decode cX9_then 45 = .ok (.aload_n 0, 1) := by decide +kernel
theorem dX9_then_46 : decode cX9_then 46 = .ok (.iload_n 1, 1) := by decide +kernel
theorem dX9_then_47 : decode cX9_then 47 = .ok (.invokevirtual 255, 3) := by decide +kernel
theorem dX9_then_50 : decode cX9_then 50 = .ok (.aload_n 0, 1) := by decide +kernel
theorem dX9_then_51 : decode cX9_then 51 = .ok (.iload_n 3, 1) := by decide +kernel
theorem dX9_then_52 : decode cX9_then 52 = .ok (.ifCond .ne 15, 3) := by decide +kernel
theorem dX9_then_55 : decode cX9_then 55 = .ok (.aload_n 0, 1) := by decide +kernel
theorem dX9_then_56 : decode cX9_then 56 = .ok (.iload_n 2, 1) := by decide +kernel
theorem dX9_then_57 : decode cX9_then 57 = .ok (.iconst 3, 1) := by decide +kernel
theorem dX9_then_58 : decode cX9_then 58 = .ok (.invokevirtual 179, 3) := by decide +kernel
theorem dX9_then_61 : decode cX9_then 61 = .ok (.ldc 230, 2) := by decide +kernel
theorem dX9_then_63 : decode cX9_then 63 = .ok (.iadd, 1) := by decide +kernel
theorem dX9_then_64 : decode cX9_then 64 = .ok (.goto 9, 3) := by decide +kernel
theorem dX9_then_67 : decode cX9_then 67 = .ok (.aload_n 0, 1) := by decide +kernel
theorem dX9_then_68 : decode cX9_then 68 = .ok (.iload_n 2, 1) := by decide +kernel
theorem dX9_then_69 : decode cX9_then 69 = .ok (.iconst 2, 1) := by decide +kernel
theorem dX9_then_70 : decode cX9_then 70 = .ok (.invokevirtual 179, 3) := by decide +kernel
theorem dX9_then_73 : decode cX9_then 73 = .ok (.invokevirtual 265, 3) := by decide +kernel
theorem dX9_then_76 : decode cX9_then 76 = .ok (.ireturn, 1) := by decide +kernel
theorem dX9_often_0 : decode cX9_often 0 = .ok (.aload_n 0, 1) := by decide +kernel
theorem dX9_often_1 : decode cX9_often 1 = .ok (.iload_n 1, 1) := by decide +kernel
theorem dX9_often_2 : decode cX9_often 2 = .ok (.invokevirtual 227, 3) := by decide +kernel
theorem dX9_often_5 : decode cX9_often 5 = .ok (.ifCond .eq 13, 3) := by decide +kernel
theorem dX9_often_8 : decode cX9_often 8 = .ok (.iload_n 2, 1) := by decide +kernel
theorem dX9_often_9 : decode cX9_often 9 = .ok (.iconst 1, 1) := by decide +kernel
theorem dX9_often_10 : decode cX9_often 10 = .ok (.bipush 100, 2) := by decide +kernel
theorem dX9_often_12 : decode cX9_often 12 = .ok (.invokestatic 76, 3) := by decide +kernel
theorem dX9_often_15 : decode cX9_often 15 = .ok (.ifCond .ne 10, 3) := by decide +kernel
theorem dX9_often_18 : decode cX9_often 18 = .ok (.aload_n 0, 1) := by decide +kernel
theorem dX9_often_19 : decode cX9_often 19 = .ok (.ldc 80, 2) := by decide +kernel
theorem dX9_often_21 : decode cX9_often 21 = .ok (.invokevirtual 81, 3) := by decide +kernel
theorem dX9_often_24 : decode cX9_often 24 = .ok (.ireturn, 1) := by decide +kernel
theorem dX9_often_25 : decode cX9_often 25 = .ok (.aload_n 0, 1) := by decide +kernel
theorem dX9_often_26 : decode cX9_often 26 = .ok (.getfield 9, 3) := by decide +kernel
theorem dX9_often_29 : decode cX9_often 29 = .ok (.iconst 0, 1) := by decide +kernel
theorem dX9_often_30 : decode cX9_often 30 = .ok (.iaload, 1) := by decide +kernel
theorem dX9_often_31 : decode cX9_often 31 = .ok (.istore_n 3, 1) := by decide +kernel
theorem dX9_often_32 : decode cX9_often 32 = .ok (.iconst 0, 1) := by decide +kernel
theorem dX9_often_33 : decode cX9_often 33 = .ok (.istore 4, 2) := by decide +kernel
theorem dX9_often_35 : decode cX9_often 35 = .ok (.iconst 0, 1) := by decide +kernel
theorem dX9_often_36 : decode cX9_often 36 = .ok (.istore 5, 2) := by decide +kernel
theorem dX9_often_38 : decode cX9_often 38 = .ok (.iload 5, 2) := by decide +kernel
theorem dX9_often_40 : decode cX9_often 40 = .ok (.iload_n 2, 1) := by decide +kernel
theorem dX9_often_41 : decode cX9_often 41 = .ok (.if_icmp .ge 51, 3) := by decide +kernel
theorem dX9_often_44 : decode cX9_often 44 = .ok (.iload 4, 2) := by decide +kernel
theorem dX9_often_46 : decode cX9_often 46 = .ok (.aload_n 0, 1) := by decide +kernel
theorem dX9_often_47 : decode cX9_often 47 = .ok (.iload_n 1, 1) := by decide +kernel
theorem dX9_often_48 : decode cX9_often 48 = .ok (.iconst 2, 1) := by decide +kernel
theorem dX9_often_49 : decode cX9_often 49 = .ok (.invokevirtual 179, 3) := by decide +kernel
theorem dX9_often_52 : decode cX9_often 52 = .ok (.aload_n 0, 1) := by decide +kernel
theorem dX9_often_53 : decode cX9_often 53 = .ok (.invokevirtual 195, 3) := by decide +kernel
theorem dX9_often_56 : decode cX9_often 56 = .ok (.iand, 1) := by decide +kernel
theorem dX9_often_57 : decode cX9_often 57 = .ok (.ifCond .eq 15, 3) := by decide +kernel
theorem dX9_often_60 : decode cX9_often 60 = .ok (.aload_n 0, 1) := by decide +kernel
theorem dX9_often_61 : decode cX9_often 61 = .ok (.iload_n 1, 1) := by decide +kernel
theorem dX9_often_62 : decode cX9_often 62 = .ok (.invokevirtual 224, 3) := by decide +kernel
theorem dX9_often_65 : decode cX9_often 65 = .ok (.ifCond .eq 7, 3) := by decide +kernel
theorem dX9_often_68 : decode cX9_often 68 = .ok (.iconst 1, 1) := by decide +kernel
theorem dX9_often_69 : decode cX9_often 69 = .ok (.goto 4, 3) := by decide +kernel
theorem dX9_often_72 : decode cX9_often 72 = .ok (.iconst 0, 1) := by decide +kernel
theorem dX9_often_73 : decode cX9_often 73 = .ok (.iadd, 1) := by decide +kernel
theorem dX9_often_74 : decode cX9_often 74 = .ok (.istore 4, 2) := by decide +kernel
theorem dX9_often_76 : decode cX9_often 76 = .ok (.aload_n 0, 1) := by decide +kernel
theorem dX9_often_77 : decode cX9_often 77 = .ok (.getfield 9, 3) := by decide +kernel
theorem dX9_often_80 : decode cX9_often 80 = .ok (.iconst 0, 1) := by decide +kernel
theorem dX9_often_81 : decode cX9_often 81 = .ok (.dup2, 1) := by decide +kernel
theorem dX9_often_82 : decode cX9_often 82 = .ok (.iaload, 1) := by decide +kernel
theorem dX9_often_83 : decode cX9_often 83 = .ok (.iconst 1, 1) := by decide +kernel
theorem dX9_often_84 : decode cX9_often 84 = .ok (.iadd, 1) := by decide +kernel
theorem dX9_often_85 : decode cX9_often 85 = .ok (.iastore, 1) := by decide +kernel
theorem dX9_often_86 : decode cX9_often 86 = .ok (.iinc 5 1, 3) := by decide +kernel
theorem dX9_often_89 : decode cX9_often 89 = .ok (.goto (-51), 3) := by decide +kernel
theorem dX9_often_92 : decode cX9_often 92 = .ok (.aload_n 0, 1) := by decide +kernel
theorem dX9_often_93 : decode cX9_often 93 = .ok (.getfield 9, 3) := by decide +kernel
theorem dX9_often_96 : decode cX9_often 96 = .ok (.iconst 0, 1) := by decide +kernel
theorem dX9_often_97 : decode cX9_often 97 = .ok (.iload_n 3, 1) := by decide +kernel
theorem dX9_often_98 : decode cX9_often 98 = .ok (.iastore, 1) := by decide +kernel
theorem dX9_often_99 : decode cX9_often 99 = .ok (.iload 4, 2) := by decide +kernel
theorem dX9_often_101 : decode cX9_often 101 = .ok (.ireturn, 1) := by decide +kernel
theorem dX9_whole_0 : decode cX9_whole 0 = .ok (.aload_n 0, 1) := by decide +kernel
theorem dX9_whole_1 : decode cX9_whole 1 = .ok (.iload_n 1, 1) := by decide +kernel
theorem dX9_whole_2 : decode cX9_whole 2 = .ok (.invokevirtual 227, 3) := by decide +kernel
theorem dX9_whole_5 : decode cX9_whole 5 = .ok (.ifCond .ne 10, 3) := by decide +kernel
theorem dX9_whole_8 : decode cX9_whole 8 = .ok (.aload_n 0, 1) := by decide +kernel
theorem dX9_whole_9 : decode cX9_whole 9 = .ok (.ldc 80, 2) := by decide +kernel
theorem dX9_whole_11 : decode cX9_whole 11 = .ok (.invokevirtual 81, 3) := by decide +kernel
theorem dX9_whole_14 : decode cX9_whole 14 = .ok (.ireturn, 1) := by decide +kernel
theorem dX9_whole_15 : decode cX9_whole 15 = .ok (.aload_n 0, 1) := by decide +kernel
theorem dX9_whole_16 : decode cX9_whole 16 = .ok (.iload_n 1, 1) := by decide +kernel
theorem dX9_whole_17 : decode cX9_whole 17 = .ok (.iconst 2, 1) := by decide +kernel
theorem dX9_whole_18 : decode cX9_whole 18 = .ok (.invokevirtual 179, 3) := by decide +kernel
theorem dX9_whole_21 : decode cX9_whole 21 = .ok (.istore_n 2, 1) := by decide +kernel
theorem dX9_whole_22 : decode cX9_whole 22 = .ok (.iload_n 2, 1) := by decide +kernel
theorem dX9_whole_23 : decode cX9_whole 23 = .ok (.ifCond .ne 10, 3) := by decide +kernel
theorem dX9_whole_26 : decode cX9_whole 26 = .ok (.aload_n 0, 1) := by decide +kernel
theorem dX9_whole_27 : decode cX9_whole 27 = .ok (.ldc 242, 2) := by decide +kernel
theorem dX9_whole_29 : decode cX9_whole 29 = .ok (.invokevirtual 81, 3) := by decide +kernel
theorem dX9_whole_32 : decode cX9_whole 32 = .ok (.ireturn, 1) := by decide +kernel
theorem dX9_whole_33 : decode cX9_whole 33 = .ok (.aload_n 0, 1) := by decide +kernel
theorem dX9_whole_34 : decode cX9_whole 34 = .ok (.getfield 9, 3) := by decide +kernel
theorem dX9_whole_37 : decode cX9_whole 37 = .ok (.iconst 0, 1) := by decide +kernel
theorem dX9_whole_38 : decode cX9_whole 38 = .ok (.iaload, 1) := by decide +kernel
theorem dX9_whole_39 : decode cX9_whole 39 = .ok (.istore_n 3, 1) := by decide +kernel
theorem dX9_whole_40 : decode cX9_whole 40 = .ok (.iconst (-1), 1) := by decide +kernel
theorem dX9_whole_41 : decode cX9_whole 41 = .ok (.istore 4, 2) := by decide +kernel
theorem dX9_whole_43 : decode cX9_whole 43 = .ok (.iconst 0, 1) := by decide +kernel
theorem dX9_whole_44 : decode cX9_whole 44 = .ok (.istore 5, 2) := by decide +kernel
theorem dX9_whole_46 : decode cX9_whole 46 = .ok (.iload 5, 2) := by decide +kernel
theorem dX9_whole_48 : decode cX9_whole 48 = .ok (.bipush 100, 2) := by decide +kernel
theorem dX9_whole_50 : decode cX9_whole 50 = .ok (.if_icmp .gt 42, 3) := by decide +kernel
theorem dX9_whole_53 : decode cX9_whole 53 = .ok (.iload 4, 2) := by decide +kernel
theorem dX9_whole_55 : decode cX9_whole 55 = .ok (.ifCond .ge 37, 3) := by decide +kernel
theorem dX9_whole_58 : decode cX9_whole 58 = .ok (.iload_n 2, 1) := by decide +kernel
theorem dX9_whole_59 : decode cX9_whole 59 = .ok (.aload_n 0, 1) := by decide +kernel
theorem dX9_whole_60 : decode cX9_whole 60 = .ok (.invokevirtual 195, 3) := by decide +kernel
theorem dX9_whole_63 : decode cX9_whole 63 = .ok (.iand, 1) := by decide +kernel
theorem dX9_whole_64 : decode cX9_whole 64 = .ok (.iload_n 2, 1) := by decide +kernel
theorem dX9_whole_65 : decode cX9_whole 65 = .ok (.if_icmp .ne 8, 3) := by decide +kernel
theorem dX9_whole_68 : decode cX9_whole 68 = .ok (.iload 5, 2) := by decide +kernel
theorem dX9_whole_70 : decode cX9_whole 70 = .ok (.goto 4, 3) := by decide +kernel
theorem dX9_whole_73 : decode cX9_whole 73 = .ok (.iconst (-1), 1) := by decide +kernel
theorem dX9_whole_74 : decode cX9_whole 74 = .ok (.istore 4, 2) := by decide +kernel
theorem dX9_whole_76 : decode cX9_whole 76 = .ok (.aload_n 0, 1) := by decide +kernel
theorem dX9_whole_77 : decode cX9_whole 77 = .ok (.getfield 9, 3) := by decide +kernel
theorem dX9_whole_80 : decode cX9_whole 80 = .ok (.iconst 0, 1) := by decide +kernel
theorem dX9_whole_81 : decode cX9_whole 81 = .ok (.dup2, 1) := by decide +kernel
theorem dX9_whole_82 : decode cX9_whole 82 = .ok (.iaload, 1) := by decide +kernel
theorem dX9_whole_83 : decode cX9_whole 83 = .ok (.iconst 1, 1) := by decide +kernel
theorem dX9_whole_84 : decode cX9_whole 84 = .ok (.iadd, 1) := by decide +kernel
theorem dX9_whole_85 : decode cX9_whole 85 = .ok (.iastore, 1) := by decide +kernel
theorem dX9_whole_86 : decode cX9_whole 86 = .ok (.iinc 5 1, 3) := by decide +kernel
theorem dX9_whole_89 : decode cX9_whole 89 = .ok (.goto (-43), 3) := by decide +kernel
theorem dX9_whole_92 : decode cX9_whole 92 = .ok (.aload_n 0, 1) := by decide +kernel
theorem dX9_whole_93 : decode cX9_whole 93 = .ok (.getfield 9, 3) := by decide +kernel
theorem dX9_whole_96 : decode cX9_whole 96 = .ok (.iconst 0, 1) := by decide +kernel
theorem dX9_whole_97 : decode cX9_whole 97 = .ok (.iload_n 3, 1) := by decide +kernel
theorem dX9_whole_98 : decode cX9_whole 98 = .ok (.iastore, 1) := by decide +kernel
theorem dX9_whole_99 : decode cX9_whole 99 = .ok (.iload 4, 2) := by decide +kernel
theorem dX9_whole_101 : decode cX9_whole 101 = .ok (.ifCond .ge 13, 3) := by decide +kernel
theorem dX9_whole_104 : decode cX9_whole 104 = .ok (.aload_n 0, 1) := by decide +kernel
theorem dX9_whole_105 : decode cX9_whole 105 = .ok (.ldc_w 268, 3) := by decide +kernel
theorem dX9_whole_108 : decode cX9_whole 108 = .ok (.invokevirtual 81, 3) := by decide +kernel
theorem dX9_whole_111 : decode cX9_whole 111 = .ok (.goto 5, 3) := by decide +kernel
theorem dX9_whole_114 : decode cX9_whole 114 = .ok (.iload 4, 2) := by decide +kernel
theorem dX9_whole_116 : decode cX9_whole 116 = .ok (.ireturn, 1) := by decide +kernel
theorem dX9_stays_0 : decode cX9_stays 0 = .ok (.aload_n 0, 1) := by decide +kernel
theorem dX9_stays_1 : decode cX9_stays 1 = .ok (.iload_n 1, 1) := by decide +kernel
theorem dX9_stays_2 : decode cX9_stays 2 = .ok (.invokevirtual 227, 3) := by decide +kernel
theorem dX9_stays_5 : decode cX9_stays 5 = .ok (.ifCond .ne 10, 3) := by decide +kernel
theorem dX9_stays_8 : decode cX9_stays 8 = .ok (.aload_n 0, 1) := by decide +kernel
theorem dX9_stays_9 : decode cX9_stays 9 = .ok (.ldc 80, 2) := by decide +kernel
theorem dX9_stays_11 : decode cX9_stays 11 = .ok (.invokevirtual 81, 3) := by decide +kernel
theorem dX9_stays_14 : decode cX9_stays 14 = .ok (.ireturn, 1) := by decide +kernel
theorem dX9_stays_15 : decode cX9_stays 15 = .ok (.aload_n 0, 1) := by decide +kernel
theorem dX9_stays_16 : decode cX9_stays 16 = .ok (.iload_n 1, 1) := by decide +kernel
theorem dX9_stays_17 : decode cX9_stays 17 = .ok (.invokevirtual 239, 3) := by decide +kernel
theorem dX9_stays_20 : decode cX9_stays 20 = .ok (.ifCond .eq 10, 3) := by decide +kernel
theorem dX9_stays_23 : decode cX9_stays 23 = .ok (.aload_n 0, 1) := by decide +kernel
theorem dX9_stays_24 : decode cX9_stays 24 = .ok (.ldc 242, 2) := by decide +kernel
theorem dX9_stays_26 : decode cX9_stays 26 = .ok (.invokevirtual 81, 3) := by decide +kernel
theorem dX9_stays_29 : decode cX9_stays 29 = .ok (.ireturn, 1) := by decide +kernel
theorem dX9_stays_30 : decode cX9_stays 30 = .ok (.aload_n 0, 1) := by decide +kernel
theorem dX9_stays_31 : decode cX9_stays 31 = .ok (.getfield 9, 3) := by decide +kernel
theorem dX9_stays_34 : decode cX9_stays 34 = .ok (.aload_n 0, 1) := by decide +kernel
theorem dX9_stays_35 : decode cX9_stays 35 = .ok (.getfield 16, 3) := by decide +kernel
theorem dX9_stays_38 : decode cX9_stays 38 = .ok (.invokestatic 72, 3) := by decide +kernel
theorem dX9_stays_41 : decode cX9_stays 41 = .ok (.iconst 0, 1) := by decide +kernel
theorem dX9_stays_42 : decode cX9_stays 42 = .ok (.istore_n 2, 1) := by decide +kernel
theorem dX9_stays_43 : decode cX9_stays 43 = .ok (.iload_n 2, 1) := by decide +kernel
theorem dX9_stays_44 : decode cX9_stays 44 = .ok (.bipush 100, 2) := by decide +kernel
theorem dX9_stays_46 : decode cX9_stays 46 = .ok (.if_icmp .ge 21, 3) := by decide +kernel
theorem dX9_stays_49 : decode cX9_stays 49 = .ok (.aload_n 0, 1) := by decide +kernel
theorem dX9_stays_50 : decode cX9_stays 50 = .ok (.iload_n 1, 1) := by decide +kernel
theorem dX9_stays_51 : decode cX9_stays 51 = .ok (.invokevirtual 239, 3) := by decide +kernel
theorem dX9_stays_54 : decode cX9_stays 54 = .ok (.ifCond .ne 13, 3) := by decide +kernel
theorem dX9_stays_57 : decode cX9_stays 57 = .ok (.aload_n 0, 1) := by decide +kernel
theorem dX9_stays_58 : decode cX9_stays 58 = .ok (.invokevirtual 252, 3) := by decide +kernel
theorem dX9_stays_61 : decode cX9_stays 61 = .ok (.iinc 2 1, 3) := by decide +kernel
theorem dX9_stays_64 : decode cX9_stays 64 = .ok (.goto (-21), 3) := by decide +kernel
theorem dX9_stays_67 : decode cX9_stays 67 = .ok (.aload_n 0, 1) := by decide +kernel
theorem dX9_stays_68 : decode cX9_stays 68 = .ok (.iload_n 1, 1) := by decide +kernel
theorem dX9_stays_69 : decode cX9_stays 69 = .ok (.invokevirtual 239, 3) := by decide +kernel
theorem dX9_stays_72 : decode cX9_stays 72 = .ok (.istore_n 3, 1) := by decide +kernel
theorem dX9_stays_73 : decode cX9_stays 73 = .ok (.aload_n 0, 1) := by decide +kernel
theorem dX9_stays_74 : decode cX9_stays 74 = .ok (.getfield 16, 3) := by decide +kernel
theorem dX9_stays_77 : decode cX9_stays 77 = .ok (.aload_n 0, 1) := by decide +kernel
theorem dX9_stays_78 : decode cX9_stays 78 = .ok (.getfield 9, 3) := by decide +kernel
theorem dX9_stays_81 : decode cX9_stays 81 = .ok (.invokestatic 72, 3) := by decide +kernel
theorem dX9_stays_84 : decode cX9_stays 84 = .ok (.iload_n 3, 1) := by decide +kernel
theorem dX9_stays_85 : decode cX9_stays 85 = .ok (.ifCond .eq 7, 3) := by decide +kernel
theorem dX9_stays_88 : decode cX9_stays 88 = .ok (.iload_n 2, 1) := by decide +kernel
theorem dX9_stays_89 : decode cX9_stays 89 = .ok (.goto 10, 3) := by decide +kernel
theorem dX9_stays_92 : decode cX9_stays 92 = .ok (.aload_n 0, 1) := by decide +kernel
theorem dX9_stays_93 : decode cX9_stays 93 = .ok (.ldc_w 268, 3) := by decide +kernel
theorem dX9_stays_96 : decode cX9_stays 96 = .ok (.invokevirtual 81, 3) := by decide +kernel
theorem dX9_stays_99 : decode cX9_stays 99 = .ok (.ireturn, 1) := by decide +kernel
theorem dX9_clashes_0 : decode cX9_clashes 0 = .ok (.aload_n 0, 1) := by decide +kernel
theorem dX9_clashes_1 : decode cX9_clashes 1 = .ok (.iload_n 1, 1) := by decide +kernel
theorem dX9_clashes_2 : decode cX9_clashes 2 = .ok (.iconst 0, 1) := by decide +kernel
theorem dX9_clashes_3 : decode cX9_clashes 3 = .ok (.invokevirtual 179, 3) := by decide +kernel
theorem dX9_clashes_6 : decode cX9_clashes 6 = .ok (.iconst 4, 1) := by decide +kernel
theorem dX9_clashes_7 : decode cX9_clashes 7 = .ok (.if_icmp .ne 17, 3) := by decide +kernel
theorem dX9_clashes_10 : decode cX9_clashes 10 = .ok (.aload_n 0, 1) := by decide +kernel
theorem dX9_clashes_11 : decode cX9_clashes 11 = .ok (.iload_n 2, 1) := by decide +kernel
theorem dX9_clashes_12 : decode cX9_clashes 12 = .ok (.iconst 0, 1) := by decide +kernel
theorem dX9_clashes_13 : decode cX9_clashes 13 = .ok (.invokevirtual 179, 3) := by decide +kernel
theorem dX9_clashes_16 : decode cX9_clashes 16 = .ok (.iconst 4, 1) := by decide +kernel
theorem dX9_clashes_17 : decode cX9_clashes 17 = .ok (.if_icmp .ne 7, 3) := by decide +kernel
theorem dX9_clashes_20 : decode cX9_clashes 20 = .ok (.iconst 1, 1) := by decide +kernel
theorem dX9_clashes_21 : decode cX9_clashes 21 = .ok (.goto 4, 3) := by decide +kernel
theorem dX9_clashes_24 : decode cX9_clashes 24 = .ok (.iconst 0, 1) := by decide +kernel
theorem dX9_clashes_25 : decode cX9_clashes 25 = .ok (.istore_n 3, 1) := by decide +kernel
theorem dX9_clashes_26 : decode cX9_clashes 26 = .ok (.iload_n 3, 1) := by decide +kernel
theorem dX9_clashes_27 : decode cX9_clashes 27 = .ok (.ifCond .ne 23, 3) := by decide +kernel
theorem dX9_clashes_30 : decode cX9_clashes 30 = .ok (.aload_n 0, 1) := by decide +kernel
theorem dX9_clashes_31 : decode cX9_clashes 31 = .ok (.iload_n 1, 1) := by decide +kernel
theorem dX9_clashes_32 : decode cX9_clashes 32 = .ok (.iconst 2, 1) := by decide +kernel
theorem dX9_clashes_33 : decode cX9_clashes 33 = .ok (.invokevirtual 179, 3) := by decide +kernel
theorem dX9_clashes_36 : decode cX9_clashes 36 = .ok (.aload_n 0, 1) := by decide +kernel
theorem dX9_clashes_37 : decode cX9_clashes 37 = .ok (.iload_n 2, 1) := by decide +kernel
theorem dX9_clashes_38 : decode cX9_clashes 38 = .ok (.iconst 2, 1) := by decide +kernel
theorem dX9_clashes_39 : decode cX9_clashes 39 = .ok (.invokevirtual 179, 3) := by decide +kernel
theorem dX9_clashes_42 : decode cX9_clashes 42 = .ok (.iand, 1) := by decide +kernel
theorem dX9_clashes_43 : decode cX9_clashes 43 = .ok (.ifCond .eq 7, 3) := by decide +kernel
theorem dX9_clashes_46 : decode cX9_clashes 46 = .ok (.iconst 1, 1) := by decide +kernel
theorem dX9_clashes_47 : decode cX9_clashes 47 = .ok (.goto 4, 3) := by decide +kernel
theorem dX9_clashes_50 : decode cX9_clashes 50 = .ok (.iconst 0, 1) := by decide +kernel
theorem dX9_clashes_51 : decode cX9_clashes 51 = .ok (.ireturn, 1) := by decide +kernel
theorem dX9_clashBut_0 : decode cX9_clashBut 0 = .ok (.iconst 0, 1) := by decide +kernel
theorem dX9_clashBut_1 : decode cX9_clashBut 1 = .ok (.istore_n 2, 1) := by decide +kernel
theorem dX9_clashBut_2 : decode cX9_clashBut 2 = .ok (.iconst 0, 1) := by decide +kernel
theorem dX9_clashBut_3 : decode cX9_clashBut 3 = .ok (.istore_n 3, 1) := by decide +kernel
theorem dX9_clashBut_4 : decode cX9_clashBut 4 = .ok (.iload_n 3, 1) := by decide +kernel
theorem dX9_clashBut_5 : decode cX9_clashBut 5 = .ok (.aload_n 0, 1) := by decide +kernel
theorem dX9_clashBut_6 : decode cX9_clashBut 6 = .ok (.getfield 9, 3) := by decide +kernel
theorem dX9_clashBut_9 : decode cX9_clashBut 9 = .ok (.iconst 1, 1) := by decide +kernel
theorem dX9_clashBut_10 : decode cX9_clashBut 10 = .ok (.iaload, 1) := by decide +kernel
theorem dX9_clashBut_11 : decode cX9_clashBut 11 = .ok (.if_icmp .ge 59, 3) := by decide +kernel
theorem dX9_clashBut_14 : decode cX9_clashBut 14 = .ok (.iconst 0, 1) := by decide +kernel
theorem dX9_clashBut_15 : decode cX9_clashBut 15 = .ok (.istore 4, 2) := by decide +kernel
theorem dX9_clashBut_17 : decode cX9_clashBut 17 = .ok (.iload 4, 2) := by decide +kernel
theorem dX9_clashBut_19 : decode cX9_clashBut 19 = .ok (.iload_n 3, 1) := by decide +kernel
theorem dX9_clashBut_20 : decode cX9_clashBut 20 = .ok (.if_icmp .ge 44, 3) := by decide +kernel
theorem dX9_clashBut_23 : decode cX9_clashBut 23 = .ok (.iload_n 2, 1) := by decide +kernel
theorem dX9_clashBut_24 : decode cX9_clashBut 24 = .ok (.iload_n 1, 1) := by decide +kernel
theorem dX9_clashBut_25 : decode cX9_clashBut 25 = .ok (.iload_n 3, 1) := by decide +kernel
theorem dX9_clashBut_26 : decode cX9_clashBut 26 = .ok (.invokestatic 182, 3) := by decide +kernel
theorem dX9_clashBut_29 : decode cX9_clashBut 29 = .ok (.ifCond .ne 26, 3) := by decide +kernel
theorem dX9_clashBut_32 : decode cX9_clashBut 32 = .ok (.iload_n 1, 1) := by decide +kernel
theorem dX9_clashBut_33 : decode cX9_clashBut 33 = .ok (.iload 4, 2) := by decide +kernel
theorem dX9_clashBut_35 : decode cX9_clashBut 35 = .ok (.invokestatic 182, 3) := by decide +kernel
theorem dX9_clashBut_38 : decode cX9_clashBut 38 = .ok (.ifCond .ne 17, 3) := by decide +kernel
theorem dX9_clashBut_41 : decode cX9_clashBut 41 = .ok (.aload_n 0, 1) := by decide +kernel
theorem dX9_clashBut_42 : decode cX9_clashBut 42 = .ok (.iload_n 3, 1) := by decide +kernel
theorem dX9_clashBut_43 : decode cX9_clashBut 43 = .ok (.iload 4, 2) := by decide +kernel
theorem dX9_clashBut_45 : decode cX9_clashBut 45 = .ok (.invokevirtual 269, 3) := by decide +kernel
theorem dX9_clashBut_48 : decode cX9_clashBut 48 = .ok (.ifCond .eq 7, 3) := by decide +kernel
theorem dX9_clashBut_51 : decode cX9_clashBut 51 = .ok (.iconst 1, 1) := by decide +kernel
theorem dX9_clashBut_52 : decode cX9_clashBut 52 = .ok (.goto 4, 3) := by decide +kernel
theorem dX9_clashBut_55 : decode cX9_clashBut 55 = .ok (.iconst 0, 1) := by decide +kernel
theorem dX9_clashBut_56 : decode cX9_clashBut 56 = .ok (.iadd, 1) := by decide +kernel
theorem dX9_clashBut_57 : decode cX9_clashBut 57 = .ok (.istore_n 2, 1) := by decide +kernel
theorem dX9_clashBut_58 : decode cX9_clashBut 58 = .ok (.iinc 4 1, 3) := by decide +kernel
theorem dX9_clashBut_61 : decode cX9_clashBut 61 = .ok (.goto (-44), 3) := by decide +kernel
theorem dX9_clashBut_64 : decode cX9_clashBut 64 = .ok (.iinc 3 1, 3) := by decide +kernel
theorem dX9_clashBut_67 : decode cX9_clashBut 67 = .ok (.goto (-63), 3) := by decide +kernel
theorem dX9_clashBut_70 : decode cX9_clashBut 70 = .ok (.iload_n 2, 1) := by decide +kernel
theorem dX9_clashBut_71 : decode cX9_clashBut 71 = .ok (.ireturn, 1) := by decide +kernel
theorem dX9_clash_0 : decode cX9_clash 0 = .ok (.aload_n 0, 1) := by decide +kernel
theorem dX9_clash_1 : decode cX9_clash 1 = .ok (.iconst 0, 1) := by decide +kernel
theorem dX9_clash_2 : decode cX9_clash 2 = .ok (.invokevirtual 272, 3) := by decide +kernel
theorem dX9_clash_5 : decode cX9_clash 5 = .ok (.ireturn, 1) := by decide +kernel
theorem dX9_least_0 : decode cX9_least 0 = .ok (.iload_n 1, 1) := by decide +kernel
theorem dX9_least_1 : decode cX9_least 1 = .ok (.iconst 0, 1) := by decide +kernel
theorem dX9_least_2 : decode cX9_least 2 = .ok (.iconst 1, 1) := by decide +kernel
theorem dX9_least_3 : decode cX9_least 3 = .ok (.invokestatic 76, 3) := by decide +kernel
theorem dX9_least_6 : decode cX9_least 6 = .ok (.ifCond .ne 10, 3) := by decide +kernel
theorem dX9_least_9 : decode cX9_least 9 = .ok (.aload_n 0, 1) := by decide +kernel
theorem dX9_least_10 : decode cX9_least 10 = .ok (.ldc 80, 2) := by decide +kernel
theorem dX9_least_12 : decode cX9_least 12 = .ok (.invokevirtual 81, 3) := by decide +kernel
theorem dX9_least_15 : decode cX9_least 15 = .ok (.ireturn, 1) := by decide +kernel
theorem dX9_least_16 : decode cX9_least 16 = .ok (.iconst (-1), 1) := by decide +kernel
theorem dX9_least_17 : decode cX9_least 17 = .ok (.istore_n 2, 1) := by decide +kernel
theorem dX9_least_18 : decode cX9_least 18 = .ok (.iconst 0, 1) := by decide +kernel
theorem dX9_least_19 : decode cX9_least 19 = .ok (.istore_n 3, 1) := by decide +kernel
theorem dX9_least_20 : decode cX9_least 20 = .ok (.iload_n 3, 1) := by decide +kernel
theorem dX9_least_21 : decode cX9_least 21 = .ok (.iconst 1, 1) := by decide +kernel
theorem dX9_least_22 : decode cX9_least 22 = .ok (.aload_n 0, 1) := by decide +kernel
theorem dX9_least_23 : decode cX9_least 23 = .ok (.getfield 9, 3) := by decide +kernel
theorem dX9_least_26 : decode cX9_least 26 = .ok (.iconst 1, 1) := by decide +kernel
theorem dX9_least_27 : decode cX9_least 27 = .ok (.iaload, 1) := by decide +kernel
theorem dX9_least_28 : decode cX9_least 28 = .ok (.ishl, 1) := by decide +kernel
theorem dX9_least_29 : decode cX9_least 29 = .ok (.if_icmp .ge 38, 3) := by decide +kernel
theorem dX9_least_32 : decode cX9_least 32 = .ok (.iload_n 2, 1) := by decide +kernel
theorem dX9_least_33 : decode cX9_least 33 = .ok (.ifCond .lt 14, 3) := by decide +kernel
theorem dX9_least_36 : decode cX9_least 36 = .ok (.iload_n 3, 1) := by decide +kernel
theorem dX9_least_37 : decode cX9_least 37 = .ok (.invokestatic 189, 3) := by decide +kernel
theorem dX9_least_40 : decode cX9_least 40 = .ok (.iload_n 2, 1) := by decide +kernel
theorem dX9_least_41 : decode cX9_least 41 = .ok (.invokestatic 189, 3) := by decide +kernel
theorem dX9_least_44 : decode cX9_least 44 = .ok (.if_icmp .ge 15, 3) := by decide +kernel
theorem dX9_least_47 : decode cX9_least 47 = .ok (.aload_n 0, 1) := by decide +kernel
theorem dX9_least_48 : decode cX9_least 48 = .ok (.iload_n 3, 1) := by decide +kernel
theorem dX9_least_49 : decode cX9_least 49 = .ok (.invokevirtual 272, 3) := by decide +kernel
theorem dX9_least_52 : decode cX9_least 52 = .ok (.ifCond .ne 7, 3) := by decide +kernel
theorem dX9_least_55 : decode cX9_least 55 = .ok (.iload_n 3, 1) := by decide +kernel
theorem dX9_least_56 : decode cX9_least 56 = .ok (.goto 4, 3) := by decide +kernel
theorem dX9_least_59 : decode cX9_least 59 = .ok (.iload_n 2, 1) := by decide +kernel
theorem dX9_least_60 : decode cX9_least 60 = .ok (.istore_n 2, 1) := by decide +kernel
theorem dX9_least_61 : decode cX9_least 61 = .ok (.iinc 3 1, 3) := by decide +kernel
theorem dX9_least_64 : decode cX9_least 64 = .ok (.goto (-44), 3) := by decide +kernel
theorem dX9_least_67 : decode cX9_least 67 = .ok (.iload_n 1, 1) := by decide +kernel
theorem dX9_least_68 : decode cX9_least 68 = .ok (.ifCond .ne 10, 3) := by decide +kernel
theorem dX9_least_71 : decode cX9_least 71 = .ok (.iload_n 2, 1) := by decide +kernel
theorem dX9_least_72 : decode cX9_least 72 = .ok (.invokestatic 189, 3) := by decide +kernel
theorem dX9_least_75 : decode cX9_least 75 = .ok (.goto 4, 3) := by decide +kernel
theorem dX9_least_78 : decode cX9_least 78 = .ok (.iload_n 2, 1) := by decide +kernel
theorem dX9_least_79 : decode cX9_least 79 = .ok (.ireturn, 1) := by decide +kernel
theorem dX9_beside_0 : decode cX9_beside 0 = .ok (.aload_n 0, 1) := by decide +kernel
theorem dX9_beside_1 : decode cX9_beside 1 = .ok (.iload_n 1, 1) := by decide +kernel
theorem dX9_beside_2 : decode cX9_beside 2 = .ok (.invokevirtual 227, 3) := by decide +kernel
theorem dX9_beside_5 : decode cX9_beside 5 = .ok (.ifCond .ne 10, 3) := by decide +kernel
theorem dX9_beside_8 : decode cX9_beside 8 = .ok (.aload_n 0, 1) := by decide +kernel
theorem dX9_beside_9 : decode cX9_beside 9 = .ok (.ldc 80, 2) := by decide +kernel
theorem dX9_beside_11 : decode cX9_beside 11 = .ok (.invokevirtual 81, 3) := by decide +kernel
theorem dX9_beside_14 : decode cX9_beside 14 = .ok (.ireturn, 1) := by decide +kernel
theorem dX9_beside_15 : decode cX9_beside 15 = .ok (.aload_n 0, 1) := by decide +kernel
theorem dX9_beside_16 : decode cX9_beside 16 = .ok (.iload_n 1, 1) := by decide +kernel
theorem dX9_beside_17 : decode cX9_beside 17 = .ok (.iconst 2, 1) := by decide +kernel
theorem dX9_beside_18 : decode cX9_beside 18 = .ok (.invokevirtual 179, 3) := by decide +kernel
theorem dX9_beside_21 : decode cX9_beside 21 = .ok (.istore_n 2, 1) := by decide +kernel
theorem dX9_beside_22 : decode cX9_beside 22 = .ok (.iconst 0, 1) := by decide +kernel
theorem dX9_beside_23 : decode cX9_beside 23 = .ok (.istore_n 3, 1) := by decide +kernel
theorem dX9_beside_24 : decode cX9_beside 24 = .ok (.iconst 0, 1) := by decide +kernel
theorem dX9_beside_25 : decode cX9_beside 25 = .ok (.istore 4, 2) := by decide +kernel
theorem dX9_beside_27 : decode cX9_beside 27 = .ok (.iload 4, 2) := by decide +kernel
theorem dX9_beside_29 : decode cX9_beside 29 = .ok (.aload_n 0, 1) := by decide +kernel
theorem dX9_beside_30 : decode cX9_beside 30 = .ok (.getfield 9, 3) := by decide +kernel
theorem dX9_beside_33 : decode cX9_beside 33 = .ok (.iconst 1, 1) := by decide +kernel
theorem dX9_beside_34 : decode cX9_beside 34 = .ok (.iaload, 1) := by decide +kernel
theorem dX9_beside_35 : decode cX9_beside 35 = .ok (.if_icmp .ge 29, 3) := by decide +kernel
theorem dX9_beside_38 : decode cX9_beside 38 = .ok (.iload_n 3, 1) := by decide +kernel
theorem dX9_beside_39 : decode cX9_beside 39 = .ok (.iload 4, 2) := by decide +kernel
theorem dX9_beside_41 : decode cX9_beside 41 = .ok (.iload_n 1, 1) := by decide +kernel
theorem dX9_beside_42 : decode cX9_beside 42 = .ok (.if_icmp .ne 7, 3) := by decide +kernel
theorem dX9_beside_45 : decode cX9_beside 45 = .ok (.iconst 0, 1) := by decide +kernel
theorem dX9_beside_46 : decode cX9_beside 46 = .ok (.goto 10, 3) := by decide +kernel
theorem dX9_beside_49 : decode cX9_beside 49 = .ok (.aload_n 0, 1) := by decide +kernel
theorem dX9_beside_50 : decode cX9_beside 50 = .ok (.iload 4, 2) := by decide +kernel
theorem dX9_beside_52 : decode cX9_beside 52 = .ok (.iconst 2, 1) := by decide +kernel
theorem dX9_beside_53 : decode cX9_beside 53 = .ok (.invokevirtual 179, 3) := by decide +kernel
theorem dX9_beside_56 : decode cX9_beside 56 = .ok (.ior, 1) := by decide +kernel
theorem dX9_beside_57 : decode cX9_beside 57 = .ok (.istore_n 3, 1) := by decide +kernel
theorem dX9_beside_58 : decode cX9_beside 58 = .ok (.iinc 4 1, 3) := by decide +kernel
theorem dX9_beside_61 : decode cX9_beside 61 = .ok (.goto (-34), 3) := by decide +kernel
theorem dX9_beside_64 : decode cX9_beside 64 = .ok (.iconst 0, 1) := by decide +kernel
theorem dX9_beside_65 : decode cX9_beside 65 = .ok (.istore 4, 2) := by decide +kernel
theorem dX9_beside_67 : decode cX9_beside 67 = .ok (.iconst 0, 1) := by decide +kernel
theorem dX9_beside_68 : decode cX9_beside 68 = .ok (.istore 5, 2) := by decide +kernel
theorem dX9_beside_70 : decode cX9_beside 70 = .ok (.iload 5, 2) := by decide +kernel
theorem dX9_beside_72 : decode cX9_beside 72 = .ok (.bipush 24, 2) := by decide +kernel
theorem dX9_beside_74 : decode cX9_beside 74 = .ok (.if_icmp .ge 130, 3) := by decide +kernel
theorem dX9_beside_77 : decode cX9_beside 77 = .ok (.iload 5, 2) := by decide +kernel
theorem dX9_beside_79 : decode cX9_beside 79 = .ok (.bipush 8, 2) := by decide +kernel
theorem dX9_beside_81 : decode cX9_beside 81 = .ok (.if_icmp .lt 15, 3) := by decide +kernel
theorem dX9_beside_84 : decode cX9_beside 84 = .ok (.iload_n 2, 1) := by decide +kernel
theorem dX9_beside_85 : decode cX9_beside 85 = .ok (.iload 5, 2) := by decide +kernel
theorem dX9_beside_87 : decode cX9_beside 87 = .ok (.bipush 8, 2) := by decide +kernel
theorem dX9_beside_89 : decode cX9_beside 89 = .ok (.isub, 1) := by decide +kernel
theorem dX9_beside_90 : decode cX9_beside 90 = .ok (.invokestatic 182, 3) := by decide +kernel
theorem dX9_beside_93 : decode cX9_beside 93 = .ok (.ifCond .ne 62, 3) := by decide +kernel
theorem dX9_beside_96 : decode cX9_beside 96 = .ok (.iload 5, 2) := by decide +kernel
theorem dX9_beside_98 : decode cX9_beside 98 = .ok (.bipush 16, 2) := by decide +kernel
theorem dX9_beside_100 : decode cX9_beside 100 = .ok (.if_icmp .ge 15, 3) := by decide +kernel
theorem dX9_beside_103 : decode cX9_beside 103 = .ok (.iload_n 2, 1) := by decide +kernel
theorem dX9_beside_104 : decode cX9_beside 104 = .ok (.iload 5, 2) := by decide +kernel
theorem dX9_beside_106 : decode cX9_beside 106 = .ok (.bipush 8, 2) := by decide +kernel
theorem dX9_beside_108 : decode cX9_beside 108 = .ok (.iadd, 1) := by decide +kernel
theorem dX9_beside_109 : decode cX9_beside 109 = .ok (.invokestatic 182, 3) := by decide +kernel
theorem dX9_beside_112 : decode cX9_beside 112 = .ok (.ifCond .ne 43, 3) := by decide +kernel
theorem dX9_beside_115 : decode cX9_beside 115 = .ok (.iload 5, 2) := by decide +kernel
theorem dX9_beside_117 : decode cX9_beside 117 = .ok (.bipush 8, 2) := by decide +kernel
theorem dX9_beside_119 : decode cX9_beside 119 = .ok (.irem, 1) := by decide +kernel
theorem dX9_beside_120 : decode cX9_beside 120 = .ok (.ifCond .le 14, 3) := by decide +kernel
theorem dX9_beside_123 : decode cX9_beside 123 = .ok (.iload_n 2, 1) := by decide +kernel
theorem dX9_beside_124 : decode cX9_beside 124 = .ok (.iload 5, 2) := by decide +kernel
theorem dX9_beside_126 : decode cX9_beside 126 = .ok (.iconst 1, 1) := by decide +kernel
theorem dX9_beside_127 : decode cX9_beside 127 = .ok (.isub, 1) := by decide +kernel
theorem dX9_beside_128 : decode cX9_beside 128 = .ok (.invokestatic 182, 3) := by decide +kernel
theorem dX9_beside_131 : decode cX9_beside 131 = .ok (.ifCond .ne 24, 3) := by decide +kernel
theorem dX9_beside_134 : decode cX9_beside 134 = .ok (.iload 5, 2) := by decide +kernel
theorem dX9_beside_136 : decode cX9_beside 136 = .ok (.bipush 8, 2) := by decide +kernel
theorem dX9_beside_138 : decode cX9_beside 138 = .ok (.irem, 1) := by decide +kernel
theorem dX9_beside_139 : decode cX9_beside 139 = .ok (.bipush 7, 2) := by decide +kernel
theorem dX9_beside_141 : decode cX9_beside 141 = .ok (.if_icmp .ge 18, 3) := by decide +kernel
theorem dX9_beside_144 : decode cX9_beside 144 = .ok (.iload_n 2, 1) := by decide +kernel
theorem dX9_beside_145 : decode cX9_beside 145 = .ok (.iload 5, 2) := by decide +kernel
theorem dX9_beside_147 : decode cX9_beside 147 = .ok (.iconst 1, 1) := by decide +kernel
theorem dX9_beside_148 : decode cX9_beside 148 = .ok (.iadd, 1) := by decide +kernel
theorem dX9_beside_149 : decode cX9_beside 149 = .ok (.invokestatic 182, 3) := by decide +kernel
theorem dX9_beside_152 : decode cX9_beside 152 = .ok (.ifCond .eq 7, 3) := by decide +kernel
theorem dX9_beside_155 : decode cX9_beside 155 = .ok (.iconst 1, 1) := by decide +kernel
theorem dX9_beside_156 : decode cX9_beside 156 = .ok (.goto 4, 3) := by decide +kernel
theorem dX9_beside_159 : decode cX9_beside 159 = .ok (.iconst 0, 1) := by decide +kernel
theorem dX9_beside_160 : decode cX9_beside 160 = .ok (.istore 6, 2) := by decide +kernel
theorem dX9_beside_162 : decode cX9_beside 162 = .ok (.iload 4, 2) := by decide +kernel
theorem dX9_beside_164 : decode cX9_beside 164 = .ok (.iload 6, 2) := by decide +kernel
theorem dX9_beside_166 : decode cX9_beside 166 = .ok (.ifCond .eq 28, 3) := by decide +kernel
theorem dX9_beside_169 : decode cX9_beside 169 = .ok (.iload_n 3, 1) := by decide +kernel
theorem dX9_beside_170 : decode cX9_beside 170 = .ok (.iload 5, 2) := by decide +kernel
theorem dX9_beside_172 : decode cX9_beside 172 = .ok (.invokestatic 182, 3) := by decide +kernel
theorem dX9_beside_175 : decode cX9_beside 175 = .ok (.ifCond .eq 19, 3) := by decide +kernel
theorem dX9_beside_178 : decode cX9_beside 178 = .ok (.iload_n 2, 1) := by decide +kernel
theorem dX9_beside_179 : decode cX9_beside 179 = .ok (.iload 5, 2) := by decide +kernel
theorem dX9_beside_181 : decode cX9_beside 181 = .ok (.invokestatic 182, 3) := by decide +kernel
theorem dX9_beside_184 : decode cX9_beside 184 = .ok (.ifCond .ne 10, 3) := by decide +kernel
theorem dX9_beside_187 : decode cX9_beside 187 = .ok (.iconst 1, 1) := by decide +kernel
theorem dX9_beside_188 : decode cX9_beside 188 = .ok (.iload 5, 2) := by decide +kernel
theorem dX9_beside_190 : decode cX9_beside 190 = .ok (.ishl, 1) := by decide +kernel
theorem dX9_beside_191 : decode cX9_beside 191 = .ok (.goto 4, 3) := by decide +kernel
theorem dX9_beside_194 : decode cX9_beside 194 = .ok (.iconst 0, 1) := by decide +kernel
theorem dX9_beside_195 : decode cX9_beside 195 = .ok (.ior, 1) := by decide +kernel
theorem dX9_beside_196 : decode cX9_beside 196 = .ok (.istore 4, 2) := by decide +kernel
theorem dX9_beside_198 : decode cX9_beside 198 = .ok (.iinc 5 1, 3) := by decide +kernel
theorem dX9_beside_201 : decode cX9_beside 201 = .ok (.goto (-131), 3) := by decide +kernel
theorem dX9_beside_204 : decode cX9_beside 204 = .ok (.iload 4, 2) := by decide +kernel
theorem dX9_beside_206 : decode cX9_beside 206 = .ok (.ireturn, 1) := by decide +kernel
theorem dX9_gets_0 : decode cX9_gets 0 = .ok (.iconst 0, 1) := by decide +kernel
theorem dX9_gets_1 : decode cX9_gets 1 = .ok (.istore_n 2, 1) := by decide +kernel
theorem dX9_gets_2 : decode cX9_gets 2 = .ok (.iload_n 2, 1) := by decide +kernel
theorem dX9_gets_3 : decode cX9_gets 3 = .ok (.bipush 24, 2) := by decide +kernel
theorem dX9_gets_5 : decode cX9_gets 5 = .ok (.if_icmp .ge 76, 3) := by decide +kernel
theorem dX9_gets_8 : decode cX9_gets 8 = .ok (.aload_n 0, 1) := by decide +kernel
theorem dX9_gets_9 : decode cX9_gets 9 = .ok (.getfield 41, 3) := by decide +kernel
theorem dX9_gets_12 : decode cX9_gets 12 = .ok (.iload_n 1, 1) := by decide +kernel
theorem dX9_gets_13 : decode cX9_gets 13 = .ok (.iaload, 1) := by decide +kernel
theorem dX9_gets_14 : decode cX9_gets 14 = .ok (.iload_n 2, 1) := by decide +kernel
theorem dX9_gets_15 : decode cX9_gets 15 = .ok (.invokestatic 182, 3) := by decide +kernel
theorem dX9_gets_18 : decode cX9_gets 18 = .ok (.ifCond .eq 57, 3) := by decide +kernel
theorem dX9_gets_21 : decode cX9_gets 21 = .ok (.aload_n 0, 1) := by decide +kernel
theorem dX9_gets_22 : decode cX9_gets 22 = .ok (.getfield 275, 3) := by decide +kernel
theorem dX9_gets_25 : decode cX9_gets 25 = .ok (.iload_n 2, 1) := by decide +kernel
theorem dX9_gets_26 : decode cX9_gets 26 = .ok (.invokestatic 182, 3) := by decide +kernel
theorem dX9_gets_29 : decode cX9_gets 29 = .ok (.ifCond .ne 46, 3) := by decide +kernel
theorem dX9_gets_32 : decode cX9_gets 32 = .ok (.aload_n 0, 1) := by decide +kernel
theorem dX9_gets_33 : decode cX9_gets 33 = .ok (.dup, 1) := by decide +kernel
theorem dX9_gets_34 : decode cX9_gets 34 = .ok (.getfield 275, 3) := by decide +kernel
theorem dX9_gets_37 : decode cX9_gets 37 = .ok (.iconst 1, 1) := by decide +kernel
theorem dX9_gets_38 : decode cX9_gets 38 = .ok (.iload_n 2, 1) := by decide +kernel
theorem dX9_gets_39 : decode cX9_gets 39 = .ok (.ishl, 1) := by decide +kernel
theorem dX9_gets_40 : decode cX9_gets 40 = .ok (.ior, 1) := by decide +kernel
theorem dX9_gets_41 : decode cX9_gets 41 = .ok (.putfield 275, 3) := by decide +kernel
theorem dX9_gets_44 : decode cX9_gets 44 = .ok (.aload_n 0, 1) := by decide +kernel
theorem dX9_gets_45 : decode cX9_gets 45 = .ok (.getfield 44, 3) := by decide +kernel
theorem dX9_gets_48 : decode cX9_gets 48 = .ok (.iload_n 2, 1) := by decide +kernel
theorem dX9_gets_49 : decode cX9_gets 49 = .ok (.iaload, 1) := by decide +kernel
theorem dX9_gets_50 : decode cX9_gets 50 = .ok (.ifCond .lt 16, 3) := by decide +kernel
theorem dX9_gets_53 : decode cX9_gets 53 = .ok (.aload_n 0, 1) := by decide +kernel
theorem dX9_gets_54 : decode cX9_gets 54 = .ok (.aload_n 0, 1) := by decide +kernel
theorem dX9_gets_55 : decode cX9_gets 55 = .ok (.getfield 44, 3) := by decide +kernel
theorem dX9_gets_58 : decode cX9_gets 58 = .ok (.iload_n 2, 1) := by decide +kernel
theorem dX9_gets_59 : decode cX9_gets 59 = .ok (.iaload, 1) := by decide +kernel
theorem dX9_gets_60 : decode cX9_gets 60 = .ok (.invokevirtual 278, 3) := by decide +kernel
theorem dX9_gets_63 : decode cX9_gets 63 = .ok (.ifCond .eq 12, 3) := by decide +kernel
theorem dX9_gets_66 : decode cX9_gets 66 = .ok (.aload_n 0, 1) := by decide +kernel
theorem dX9_gets_67 : decode cX9_gets 67 = .ok (.getfield 44, 3) := by decide +kernel
theorem dX9_gets_70 : decode cX9_gets 70 = .ok (.iload_n 2, 1) := by decide +kernel
theorem dX9_gets_71 : decode cX9_gets 71 = .ok (.iload_n 1, 1) := by decide +kernel
theorem dX9_gets_72 : decode cX9_gets 72 = .ok (.iastore, 1) := by decide +kernel
theorem dX9_gets_73 : decode cX9_gets 73 = .ok (.iconst 1, 1) := by decide +kernel
theorem dX9_gets_74 : decode cX9_gets 74 = .ok (.ireturn, 1) := by decide +kernel
theorem dX9_gets_75 : decode cX9_gets 75 = .ok (.iinc 2 1, 3) := by decide +kernel
theorem dX9_gets_78 : decode cX9_gets 78 = .ok (.goto (-76), 3) := by decide +kernel
theorem dX9_gets_81 : decode cX9_gets 81 = .ok (.iconst 0, 1) := by decide +kernel
theorem dX9_gets_82 : decode cX9_gets 82 = .ok (.ireturn, 1) := by decide +kernel
theorem dX9_mostRooms_0 : decode cX9_mostRooms 0 = .ok (.iconst 0, 1) := by decide +kernel
theorem dX9_mostRooms_1 : decode cX9_mostRooms 1 = .ok (.istore_n 1, 1) := by decide +kernel
theorem dX9_mostRooms_2 : decode cX9_mostRooms 2 = .ok (.iload_n 1, 1) := by decide +kernel
theorem dX9_mostRooms_3 : decode cX9_mostRooms 3 = .ok (.bipush 24, 2) := by decide +kernel
theorem dX9_mostRooms_5 : decode cX9_mostRooms 5 = .ok (.if_icmp .ge 16, 3) := by decide +kernel
theorem dX9_mostRooms_8 : decode cX9_mostRooms 8 = .ok (.aload_n 0, 1) := by decide +kernel
theorem dX9_mostRooms_9 : decode cX9_mostRooms 9 = .ok (.getfield 44, 3) := by decide +kernel
theorem dX9_mostRooms_12 : decode cX9_mostRooms 12 = .ok (.iload_n 1, 1) := by decide +kernel
theorem dX9_mostRooms_13 : decode cX9_mostRooms 13 = .ok (.iconst (-1), 1) := by decide +kernel
theorem dX9_mostRooms_14 : decode cX9_mostRooms 14 = .ok (.iastore, 1) := by decide +kernel
theorem dX9_mostRooms_15 : decode cX9_mostRooms 15 = .ok (.iinc 1 1, 3) := by decide +kernel
theorem dX9_mostRooms_18 : decode cX9_mostRooms 18 = .ok (.goto (-16), 3) := by decide +kernel
theorem dX9_mostRooms_21 : decode cX9_mostRooms 21 = .ok (.iconst 0, 1) := by decide +kernel
theorem dX9_mostRooms_22 : decode cX9_mostRooms 22 = .ok (.istore_n 1, 1) := by decide +kernel
theorem dX9_mostRooms_23 : decode cX9_mostRooms 23 = .ok (.iconst 0, 1) := by decide +kernel
theorem dX9_mostRooms_24 : decode cX9_mostRooms 24 = .ok (.istore_n 2, 1) := by decide +kernel
