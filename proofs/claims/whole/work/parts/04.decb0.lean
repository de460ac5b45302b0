theorem dX8_init_0 : decode cX8_init 0 = .ok (.aload_n 0, 1) := by decide +kernel
theorem dX8_init_1 : decode cX8_init 1 = .ok (.invokespecial 3, 3) := by decide +kernel
theorem dX8_init_4 : decode cX8_init 4 = .ok (.aload_n 0, 1) := by decide +kernel
theorem dX8_init_5 : decode cX8_init 5 = .ok (.new 9, 3) := by decide +kernel
theorem dX8_init_8 : decode cX8_init 8 = .ok (.dup, 1) := by decide +kernel
theorem dX8_init_9 : decode cX8_init 9 = .ok (.invokespecial 11, 3) := by decide +kernel
theorem dX8_init_12 : decode cX8_init 12 = .ok (.putfield 12, 3) := by decide +kernel
theorem dX8_init_15 : decode cX8_init 15 = .ok (.aload_n 0, 1) := by decide +kernel
theorem dX8_init_16 : decode cX8_init 16 = .ok (.new 9, 3) := by decide +kernel
theorem dX8_init_19 : decode cX8_init 19 = .ok (.dup, 1) := by decide +kernel
theorem dX8_init_20 : decode cX8_init 20 = .ok (.invokespecial 11, 3) := by decide +kernel
theorem dX8_init_23 : decode cX8_init 23 = .ok (.putfield 16, 3) := by decide +kernel
theorem dX8_init_26 : decode cX8_init 26 = .ok (.aload_n 0, 1) := by decide +kernel
theorem dX8_init_27 : decode cX8_init 27 = .ok (.new 9, 3) := by decide +kernel
theorem dX8_init_30 : decode cX8_init 30 = .ok (.dup, 1) := by decide +kernel
theorem dX8_init_31 : decode cX8_init 31 = .ok (.invokespecial 11, 3) := by decide +kernel
theorem dX8_init_34 : decode cX8_init 34 = .ok (.putfield 19, 3) := by decide +kernel
theorem dX8_init_37 : decode cX8_init 37 = .ok (.aload_n 0, 1) := by decide +kernel
theorem dX8_init_38 : decode cX8_init 38 = .ok (.new 22, 3) := by decide +kernel
theorem dX8_init_41 : decode cX8_init 41 = .ok (.dup, 1) := by decide +kernel
theorem dX8_init_42 : decode cX8_init 42 = .ok (.invokespecial 24, 3) := by decide +kernel
theorem dX8_init_45 : decode cX8_init 45 = .ok (.putfield 25, 3) := by decide +kernel
theorem dX8_init_48 : decode cX8_init 48 = .ok (.aload_n 0, 1) := by decide +kernel
theorem dX8_init_49 : decode cX8_init 49 = .ok (.new 29, 3) := by decide +kernel
theorem dX8_init_52 : decode cX8_init 52 = .ok (.dup, 1) := by decide +kernel
theorem dX8_init_53 : decode cX8_init 53 = .ok (.invokespecial 31, 3) := by decide +kernel
theorem dX8_init_56 : decode cX8_init 56 = .ok (.putfield 32, 3) := by decide +kernel
theorem dX8_init_59 : decode cX8_init 59 = .ok (.aload_n 0, 1) := by decide +kernel
theorem dX8_init_60 : decode cX8_init 60 = .ok (.new 36, 3) := by decide +kernel
theorem dX8_init_63 : decode cX8_init 63 = .ok (.dup, 1) := by decide +kernel
theorem dX8_init_64 : decode cX8_init 64 = .ok (.invokespecial 38, 3) := by decide +kernel
theorem dX8_init_67 : decode cX8_init 67 = .ok (.putfield 39, 3) := by decide +kernel
theorem dX8_init_70 : decode cX8_init 70 = .ok (.aload_n 0, 1) := by decide +kernel
theorem dX8_init_71 : decode cX8_init 71 = .ok (.iconst 4, 1) := by decide +kernel
theorem dX8_init_72 : decode cX8_init 72 = .ok (.anewarray 43, 3) := by decide +kernel
theorem dX8_init_75 : decode cX8_init 75 = .ok (.putfield 45, 3) := by decide +kernel
theorem dX8_init_78 : decode cX8_init 78 = .ok (.aload_n 0, 1) := by decide +kernel
theorem dX8_init_79 : decode cX8_init 79 = .ok (.bipush 6, 2) := by decide +kernel
theorem dX8_init_81 : decode cX8_init 81 = .ok (.newarray .int, 2) := by decide +kernel
theorem dX8_init_83 : decode cX8_init 83 = .ok (.putfield 49, 3) := by decide +kernel
theorem dX8_init_86 : decode cX8_init 86 = .ok (.iconst 0, 1) := by decide +kernel
theorem dX8_init_87 : decode cX8_init 87 = .ok (.istore_n 1, 1) := by decide +kernel
theorem dX8_init_88 : decode cX8_init 88 = .ok (.iload_n 1, 1) := by decide +kernel
theorem dX8_init_89 : decode cX8_init 89 = .ok (.aload_n 0, 1) := by decide +kernel
theorem dX8_init_90 : decode cX8_init 90 = .ok (.getfield 45, 3) := by decide +kernel
theorem dX8_init_93 : decode cX8_init 93 = .ok (.arraylength, 1) := by decide +kernel
theorem dX8_init_94 : decode cX8_init 94 = .ok (.if_icmp .ge 22, 3) := by decide +kernel
theorem dX8_init_97 : decode cX8_init 97 = .ok (.aload_n 0, 1) := by decide +kernel
theorem dX8_init_98 : decode cX8_init 98 = .ok (.getfield 45, 3) := by decide +kernel
theorem dX8_init_101 : decode cX8_init 101 = .ok (.iload_n 1, 1) := by decide +kernel
theorem dX8_init_102 : decode cX8_init 102 = .ok (.new 43, 3) := by decide +kernel
theorem dX8_init_105 : decode cX8_init 105 = .ok (.dup, 1) := by decide +kernel
theorem dX8_init_106 : decode cX8_init 106 = .ok (.invokespecial 53, 3) := by decide +kernel
theorem dX8_init_109 : decode cX8_init 109 = .ok (.aastore, 1) := by decide +kernel
theorem dX8_init_110 : decode cX8_init 110 = .ok (.iinc 1 1, 3) := by decide +kernel
theorem dX8_init_113 : decode cX8_init 113 = .ok (.goto (-25), 3) := by decide +kernel
theorem dX8_init_116 : decode cX8_init 116 = .ok (.return_, 1) := by decide +kernel
theorem dX8_ofCell_0 : decode cX8_ofCell 0 = .ok (.iload_n 1, 1) := by decide +kernel
theorem dX8_ofCell_1 : decode cX8_ofCell 1 = .ok (.iconst 0, 1) := by decide +kernel
theorem dX8_ofCell_2 : decode cX8_ofCell 2 = .ok (.bipush 23, 2) := by decide +kernel
theorem dX8_ofCell_4 : decode cX8_ofCell 4 = .ok (.invokestatic 54, 3) := by decide +kernel
theorem dX8_ofCell_7 : decode cX8_ofCell 7 = .ok (.ifCond .eq 10, 3) := by decide +kernel
theorem dX8_ofCell_10 : decode cX8_ofCell 10 = .ok (.aload_n 0, 1) := by decide +kernel
theorem dX8_ofCell_11 : decode cX8_ofCell 11 = .ok (.ldc 58, 2) := by decide +kernel
theorem dX8_ofCell_13 : decode cX8_ofCell 13 = .ok (.invokevirtual 59, 3) := by decide +kernel
theorem dX8_ofCell_16 : decode cX8_ofCell 16 = .ok (.ireturn, 1) := by decide +kernel
theorem dX8_ofCell_17 : decode cX8_ofCell 17 = .ok (.iload_n 2, 1) := by decide +kernel
theorem dX8_ofCell_18 : decode cX8_ofCell 18 = .ok (.tableswitch 89 0 3 #[30, 48, 67, 78], 30) := by decide +kernel
theorem dX8_ofCell_48 : decode cX8_ofCell 48 = .ok (.aload_n 0, 1) := by decide +kernel
theorem dX8_ofCell_49 : decode cX8_ofCell 49 = .ok (.getfield 12, 3) := by decide +kernel
theorem dX8_ofCell_52 : decode cX8_ofCell 52 = .ok (.getfield 63, 3) := by decide +kernel
theorem dX8_ofCell_55 : decode cX8_ofCell 55 = .ok (.bipush 16, 2) := by decide +kernel
theorem dX8_ofCell_57 : decode cX8_ofCell 57 = .ok (.irem, 1) := by decide +kernel
theorem dX8_ofCell_58 : decode cX8_ofCell 58 = .ok (.invokestatic 67, 3) := by decide +kernel
theorem dX8_ofCell_61 : decode cX8_ofCell 61 = .ok (.iload_n 1, 1) := by decide +kernel
theorem dX8_ofCell_62 : decode cX8_ofCell 62 = .ok (.ishr, 1) := by decide +kernel
theorem dX8_ofCell_63 : decode cX8_ofCell 63 = .ok (.iconst 1, 1) := by decide +kernel
theorem dX8_ofCell_64 : decode cX8_ofCell 64 = .ok (.iand, 1) := by decide +kernel
theorem dX8_ofCell_65 : decode cX8_ofCell 65 = .ok (.ireturn, 1) := by decide +kernel
theorem dX8_ofCell_66 : decode cX8_ofCell 66 = .ok (.aload_n 0, 1) := by decide +kernel
theorem dX8_ofCell_67 : decode cX8_ofCell 67 = .ok (.getfield 12, 3) := by decide +kernel
theorem dX8_ofCell_70 : decode cX8_ofCell 70 = .ok (.aload_n 0, 1) := by decide +kernel
theorem dX8_ofCell_71 : decode cX8_ofCell 71 = .ok (.getfield 12, 3) := by decide +kernel
theorem dX8_ofCell_74 : decode cX8_ofCell 74 = .ok (.getfield 63, 3) := by decide +kernel
theorem dX8_ofCell_77 : decode cX8_ofCell 77 = .ok (.invokevirtual 70, 3) := by decide +kernel
theorem dX8_ofCell_80 : decode cX8_ofCell 80 = .ok (.iload_n 1, 1) := by decide +kernel
theorem dX8_ofCell_81 : decode cX8_ofCell 81 = .ok (.ishr, 1) := by decide +kernel
theorem dX8_ofCell_82 : decode cX8_ofCell 82 = .ok (.iconst 1, 1) := by decide +kernel
theorem dX8_ofCell_83 : decode cX8_ofCell 83 = .ok (.iand, 1) := by decide +kernel
theorem dX8_ofCell_84 : decode cX8_ofCell 84 = .ok (.ireturn, 1) := by decide +kernel
theorem dX8_ofCell_85 : decode cX8_ofCell 85 = .ok (.aload_n 0, 1) := by decide +kernel
theorem dX8_ofCell_86 : decode cX8_ofCell 86 = .ok (.getfield 12, 3) := by decide +kernel
theorem dX8_ofCell_89 : decode cX8_ofCell 89 = .ok (.iconst 1, 1) := by decide +kernel
theorem dX8_ofCell_90 : decode cX8_ofCell 90 = .ok (.iload_n 1, 1) := by decide +kernel
theorem dX8_ofCell_91 : decode cX8_ofCell 91 = .ok (.ishl, 1) := by decide +kernel
theorem dX8_ofCell_92 : decode cX8_ofCell 92 = .ok (.invokevirtual 73, 3) := by decide +kernel
theorem dX8_ofCell_95 : decode cX8_ofCell 95 = .ok (.ireturn, 1) := by decide +kernel
theorem dX8_ofCell_96 : decode cX8_ofCell 96 = .ok (.aload_n 0, 1) := by decide +kernel
theorem dX8_ofCell_97 : decode cX8_ofCell 97 = .ok (.getfield 12, 3) := by decide +kernel
theorem dX8_ofCell_100 : decode cX8_ofCell 100 = .ok (.iconst 1, 1) := by decide +kernel
theorem dX8_ofCell_101 : decode cX8_ofCell 101 = .ok (.iload_n 1, 1) := by decide +kernel
theorem dX8_ofCell_102 : decode cX8_ofCell 102 = .ok (.ishl, 1) := by decide +kernel
theorem dX8_ofCell_103 : decode cX8_ofCell 103 = .ok (.invokevirtual 76, 3) := by decide +kernel
theorem dX8_ofCell_106 : decode cX8_ofCell 106 = .ok (.ireturn, 1) := by decide +kernel
theorem dX8_ofCell_107 : decode cX8_ofCell 107 = .ok (.aload_n 0, 1) := by decide +kernel
theorem dX8_ofCell_108 : decode cX8_ofCell 108 = .ok (.ldc 58, 2) := by decide +kernel
theorem dX8_ofCell_110 : decode cX8_ofCell 110 = .ok (.invokevirtual 59, 3) := by decide +kernel
theorem dX8_ofCell_113 : decode cX8_ofCell 113 = .ok (.ireturn, 1) := by decide +kernel
theorem dX8_lit_0 : decode cX8_lit 0 = .ok (.iload_n 1, 1) := by decide +kernel
theorem dX8_lit_1 : decode cX8_lit 1 = .ok (.iconst 0, 1) := by decide +kernel
theorem dX8_lit_2 : decode cX8_lit 2 = .ok (.bipush 15, 2) := by decide +kernel
theorem dX8_lit_4 : decode cX8_lit 4 = .ok (.invokestatic 54, 3) := by decide +kernel
theorem dX8_lit_7 : decode cX8_lit 7 = .ok (.ifCond .eq 12, 3) := by decide +kernel
theorem dX8_lit_10 : decode cX8_lit 10 = .ok (.aload_n 0, 1) := by decide +kernel
theorem dX8_lit_11 : decode cX8_lit 11 = .ok (.ldc 58, 2) := by decide +kernel
theorem dX8_lit_13 : decode cX8_lit 13 = .ok (.invokevirtual 59, 3) := by decide +kernel
theorem dX8_lit_16 : decode cX8_lit 16 = .ok (.goto 7, 3) := by decide +kernel
theorem dX8_lit_19 : decode cX8_lit 19 = .ok (.iload_n 1, 1) := by decide +kernel
theorem dX8_lit_20 : decode cX8_lit 20 = .ok (.invokestatic 67, 3) := by decide +kernel
theorem dX8_lit_23 : decode cX8_lit 23 = .ok (.ireturn, 1) := by decide +kernel
theorem dX8_weather_0 : decode cX8_weather 0 = .ok (.iload_n 1, 1) := by decide +kernel
theorem dX8_weather_1 : decode cX8_weather 1 = .ok (.iconst 0, 1) := by decide +kernel
theorem dX8_weather_2 : decode cX8_weather 2 = .ok (.bipush 9, 2) := by decide +kernel
theorem dX8_weather_4 : decode cX8_weather 4 = .ok (.invokestatic 54, 3) := by decide +kernel
theorem dX8_weather_7 : decode cX8_weather 7 = .ok (.ifCond .eq 10, 3) := by decide +kernel
theorem dX8_weather_10 : decode cX8_weather 10 = .ok (.aload_n 0, 1) := by decide +kernel
theorem dX8_weather_11 : decode cX8_weather 11 = .ok (.ldc 58, 2) := by decide +kernel
theorem dX8_weather_13 : decode cX8_weather 13 = .ok (.invokevirtual 59, 3) := by decide +kernel
theorem dX8_weather_16 : decode cX8_weather 16 = .ok (.ireturn, 1) := by decide +kernel
theorem dX8_weather_17 : decode cX8_weather 17 = .ok (.aload_n 0, 1) := by decide +kernel
theorem dX8_weather_18 : decode cX8_weather 18 = .ok (.getfield 12, 3) := by decide +kernel
theorem dX8_weather_21 : decode cX8_weather 21 = .ok (.getfield 79, 3) := by decide +kernel
theorem dX8_weather_24 : decode cX8_weather 24 = .ok (.istore_n 2, 1) := by decide +kernel
theorem dX8_weather_25 : decode cX8_weather 25 = .ok (.aload_n 0, 1) := by decide +kernel
theorem dX8_weather_26 : decode cX8_weather 26 = .ok (.getfield 12, 3) := by decide +kernel
theorem dX8_weather_29 : decode cX8_weather 29 = .ok (.iload_n 1, 1) := by decide +kernel
theorem dX8_weather_30 : decode cX8_weather 30 = .ok (.putfield 79, 3) := by decide +kernel
theorem dX8_weather_33 : decode cX8_weather 33 = .ok (.iload_n 2, 1) := by decide +kernel
theorem dX8_weather_34 : decode cX8_weather 34 = .ok (.ireturn, 1) := by decide +kernel
theorem dX8_tenant_0 : decode cX8_tenant 0 = .ok (.iload_n 1, 1) := by decide +kernel
theorem dX8_tenant_1 : decode cX8_tenant 1 = .ok (.invokestatic 82, 3) := by decide +kernel
theorem dX8_tenant_4 : decode cX8_tenant 4 = .ok (.ifCond .eq 10, 3) := by decide +kernel
theorem dX8_tenant_7 : decode cX8_tenant 7 = .ok (.aload_n 0, 1) := by decide +kernel
theorem dX8_tenant_8 : decode cX8_tenant 8 = .ok (.ldc 58, 2) := by decide +kernel
theorem dX8_tenant_10 : decode cX8_tenant 10 = .ok (.invokevirtual 59, 3) := by decide +kernel
theorem dX8_tenant_13 : decode cX8_tenant 13 = .ok (.ireturn, 1) := by decide +kernel
theorem dX8_tenant_14 : decode cX8_tenant 14 = .ok (.aload_n 0, 1) := by decide +kernel
theorem dX8_tenant_15 : decode cX8_tenant 15 = .ok (.getfield 12, 3) := by decide +kernel
theorem dX8_tenant_18 : decode cX8_tenant 18 = .ok (.iload_n 1, 1) := by decide +kernel
theorem dX8_tenant_19 : decode cX8_tenant 19 = .ok (.bipush 10, 2) := by decide +kernel
theorem dX8_tenant_21 : decode cX8_tenant 21 = .ok (.idiv, 1) := by decide +kernel
theorem dX8_tenant_22 : decode cX8_tenant 22 = .ok (.iload_n 1, 1) := by decide +kernel
theorem dX8_tenant_23 : decode cX8_tenant 23 = .ok (.bipush 10, 2) := by decide +kernel
theorem dX8_tenant_25 : decode cX8_tenant 25 = .ok (.irem, 1) := by decide +kernel
theorem dX8_tenant_26 : decode cX8_tenant 26 = .ok (.invokevirtual 86, 3) := by decide +kernel
theorem dX8_tenant_29 : decode cX8_tenant 29 = .ok (.istore_n 2, 1) := by decide +kernel
theorem dX8_tenant_30 : decode cX8_tenant 30 = .ok (.iload_n 2, 1) := by decide +kernel
theorem dX8_tenant_31 : decode cX8_tenant 31 = .ok (.ifCond .ge 12, 3) := by decide +kernel
theorem dX8_tenant_34 : decode cX8_tenant 34 = .ok (.aload_n 0, 1) := by decide +kernel
theorem dX8_tenant_35 : decode cX8_tenant 35 = .ok (.ldc 90, 2) := by decide +kernel
theorem dX8_tenant_37 : decode cX8_tenant 37 = .ok (.invokevirtual 59, 3) := by decide +kernel
theorem dX8_tenant_40 : decode cX8_tenant 40 = .ok (.goto 4, 3) := by decide +kernel
theorem dX8_tenant_43 : decode cX8_tenant 43 = .ok (.iload_n 2, 1) := by decide +kernel
theorem dX8_tenant_44 : decode cX8_tenant 44 = .ok (.ireturn, 1) := by decide +kernel
theorem dX8_ofTenant_0 : decode cX8_ofTenant 0 = .ok (.aload_n 0, 1) := by decide +kernel
theorem dX8_ofTenant_1 : decode cX8_ofTenant 1 = .ok (.getfield 12, 3) := by decide +kernel
theorem dX8_ofTenant_4 : decode cX8_ofTenant 4 = .ok (.iload_n 1, 1) := by decide +kernel
theorem dX8_ofTenant_5 : decode cX8_ofTenant 5 = .ok (.invokevirtual 91, 3) := by decide +kernel
theorem dX8_ofTenant_8 : decode cX8_ofTenant 8 = .ok (.astore_n 3, 1) := by decide +kernel
theorem dX8_ofTenant_9 : decode cX8_ofTenant 9 = .ok (.aload_n 3, 1) := by decide +kernel
theorem dX8_ofTenant_10 : decode cX8_ofTenant 10 = .ok (.ifnonnull 10, 3) := by decide +kernel
theorem dX8_ofTenant_13 : decode cX8_ofTenant 13 = .ok (.aload_n 0, 1) := by decide +kernel
theorem dX8_ofTenant_14 : decode cX8_ofTenant 14 = .ok (.ldc 58, 2) := by decide +kernel
theorem dX8_ofTenant_16 : decode cX8_ofTenant 16 = .ok (.invokevirtual 59, 3) := by decide +kernel
theorem dX8_ofTenant_19 : decode cX8_ofTenant 19 = .ok (.ireturn, 1) := by decide +kernel
theorem dX8_ofTenant_20 : decode cX8_ofTenant 20 = .ok (.iload_n 2, 1) := by decide +kernel
theorem dX8_ofTenant_21 : decode cX8_ofTenant 21 = .ok (.tableswitch 147 0 7 #[47, 52, 57, 62, 70, 83, 103, 123], 47) := by decide +kernel
theorem dX8_ofTenant_68 : decode cX8_ofTenant 68 = .ok (.aload_n 3, 1) := by decide +kernel
theorem dX8_ofTenant_69 : decode cX8_ofTenant 69 = .ok (.getfield 95, 3) := by decide +kernel
theorem dX8_ofTenant_72 : decode cX8_ofTenant 72 = .ok (.ireturn, 1) := by decide +kernel
theorem dX8_ofTenant_73 : decode cX8_ofTenant 73 = .ok (.aload_n 3, 1) := by decide +kernel
theorem dX8_ofTenant_74 : decode cX8_ofTenant 74 = .ok (.getfield 100, 3) := by decide +kernel
theorem dX8_ofTenant_77 : decode cX8_ofTenant 77 = .ok (.ireturn, 1) := by decide +kernel
theorem dX8_ofTenant_78 : decode cX8_ofTenant 78 = .ok (.aload_n 3, 1) := by decide +kernel
theorem dX8_ofTenant_79 : decode cX8_ofTenant 79 = .ok (.getfield 103, 3) := by decide +kernel
theorem dX8_ofTenant_82 : decode cX8_ofTenant 82 = .ok (.ireturn, 1) := by decide +kernel
theorem dX8_ofTenant_83 : decode cX8_ofTenant 83 = .ok (.aload_n 3, 1) := by decide +kernel
theorem dX8_ofTenant_84 : decode cX8_ofTenant 84 = .ok (.getfield 106, 3) := by decide +kernel
theorem dX8_ofTenant_87 : decode cX8_ofTenant 87 = .ok (.ldc 109, 2) := by decide +kernel
theorem dX8_ofTenant_89 : decode cX8_ofTenant 89 = .ok (.iadd, 1) := by decide +kernel
theorem dX8_ofTenant_90 : decode cX8_ofTenant 90 = .ok (.ireturn, 1) := by decide +kernel
theorem dX8_ofTenant_91 : decode cX8_ofTenant 91 = .ok (.aload_n 3, 1) := by decide +kernel
theorem dX8_ofTenant_92 : decode cX8_ofTenant 92 = .ok (.getfield 110, 3) := by decide +kernel
theorem dX8_ofTenant_95 : decode cX8_ofTenant 95 = .ok (.ifCond .eq 7, 3) := by decide +kernel
theorem dX8_ofTenant_98 : decode cX8_ofTenant 98 = .ok (.iconst 1, 1) := by decide +kernel
theorem dX8_ofTenant_99 : decode cX8_ofTenant 99 = .ok (.goto 4, 3) := by decide +kernel
theorem dX8_ofTenant_102 : decode cX8_ofTenant 102 = .ok (.iconst 0, 1) := by decide +kernel
theorem dX8_ofTenant_103 : decode cX8_ofTenant 103 = .ok (.ireturn, 1) := by decide +kernel
theorem dX8_ofTenant_104 : decode cX8_ofTenant 104 = .ok (.aload_n 3, 1) := by decide +kernel
theorem dX8_ofTenant_105 : decode cX8_ofTenant 105 = .ok (.aload_n 0, 1) := by decide +kernel
theorem dX8_ofTenant_106 : decode cX8_ofTenant 106 = .ok (.getfield 12, 3) := by decide +kernel
theorem dX8_ofTenant_109 : decode cX8_ofTenant 109 = .ok (.getfield 63, 3) := by decide +kernel
theorem dX8_ofTenant_112 : decode cX8_ofTenant 112 = .ok (.invokevirtual 114, 3) := by decide +kernel
theorem dX8_ofTenant_115 : decode cX8_ofTenant 115 = .ok (.ifCond .eq 7, 3) := by decide +kernel
theorem dX8_ofTenant_118 : decode cX8_ofTenant 118 = .ok (.iconst 1, 1) := by decide +kernel
theorem dX8_ofTenant_119 : decode cX8_ofTenant 119 = .ok (.goto 4, 3) := by decide +kernel
theorem dX8_ofTenant_122 : decode cX8_ofTenant 122 = .ok (.iconst 0, 1) := by decide +kernel
theorem dX8_ofTenant_123 : decode cX8_ofTenant 123 = .ok (.ireturn, 1) := by decide +kernel
theorem dX8_ofTenant_124 : decode cX8_ofTenant 124 = .ok (.aload_n 3, 1) := by decide +kernel
theorem dX8_ofTenant_125 : decode cX8_ofTenant 125 = .ok (.getfield 103, 3) := by decide +kernel
theorem dX8_ofTenant_128 : decode cX8_ofTenant 128 = .ok (.aload_n 0, 1) := by decide +kernel
theorem dX8_ofTenant_129 : decode cX8_ofTenant 129 = .ok (.getfield 12, 3) := by decide +kernel
theorem dX8_ofTenant_132 : decode cX8_ofTenant 132 = .ok (.aload_n 0, 1) := by decide +kernel
theorem dX8_ofTenant_133 : decode cX8_ofTenant 133 = .ok (.getfield 12, 3) := by decide +kernel
theorem dX8_ofTenant_136 : decode cX8_ofTenant 136 = .ok (.getfield 63, 3) := by decide +kernel
theorem dX8_ofTenant_139 : decode cX8_ofTenant 139 = .ok (.invokevirtual 70, 3) := by decide +kernel
theorem dX8_ofTenant_142 : decode cX8_ofTenant 142 = .ok (.iand, 1) := by decide +kernel
theorem dX8_ofTenant_143 : decode cX8_ofTenant 143 = .ok (.ireturn, 1) := by decide +kernel
theorem dX8_ofTenant_144 : decode cX8_ofTenant 144 = .ok (.aload_n 3, 1) := by decide +kernel
theorem dX8_ofTenant_145 : decode cX8_ofTenant 145 = .ok (.aload_n 0, 1) := by decide +kernel
theorem dX8_ofTenant_146 : decode cX8_ofTenant 146 = .ok (.getfield 12, 3) := by decide +kernel
theorem dX8_ofTenant_149 : decode cX8_ofTenant 149 = .ok (.aload_n 3, 1) := by decide +kernel
theorem dX8_ofTenant_150 : decode cX8_ofTenant 150 = .ok (.getfield 103, 3) := by decide +kernel
theorem dX8_ofTenant_153 : decode cX8_ofTenant 153 = .ok (.invokevirtual 73, 3) := by decide +kernel
theorem dX8_ofTenant_156 : decode cX8_ofTenant 156 = .ok (.aload_n 0, 1) := by decide +kernel
theorem dX8_ofTenant_157 : decode cX8_ofTenant 157 = .ok (.getfield 12, 3) := by decide +kernel
theorem dX8_ofTenant_160 : decode cX8_ofTenant 160 = .ok (.iload_n 1, 1) := by decide +kernel
theorem dX8_ofTenant_161 : decode cX8_ofTenant 161 = .ok (.invokevirtual 117, 3) := by decide +kernel
theorem dX8_ofTenant_164 : decode cX8_ofTenant 164 = .ok (.invokevirtual 120, 3) := by decide +kernel
theorem dX8_ofTenant_167 : decode cX8_ofTenant 167 = .ok (.ireturn, 1) := by decide +kernel
theorem dX8_ofTenant_168 : decode cX8_ofTenant 168 = .ok (.aload_n 0, 1) := by decide +kernel
theorem dX8_ofTenant_169 : decode cX8_ofTenant 169 = .ok (.ldc 58, 2) := by decide +kernel
theorem dX8_ofTenant_171 : decode cX8_ofTenant 171 = .ok (.invokevirtual 59, 3) := by decide +kernel
theorem dX8_ofTenant_174 : decode cX8_ofTenant 174 = .ok (.ireturn, 1) := by decide +kernel
theorem dX8_become_0 : decode cX8_become 0 = .ok (.aload_n 0, 1) := by decide +kernel
theorem dX8_become_1 : decode cX8_become 1 = .ok (.getfield 12, 3) := by decide +kernel
theorem dX8_become_4 : decode cX8_become 4 = .ok (.iload_n 1, 1) := by decide +kernel
theorem dX8_become_5 : decode cX8_become 5 = .ok (.invokevirtual 91, 3) := by decide +kernel
theorem dX8_become_8 : decode cX8_become 8 = .ok (.astore_n 3, 1) := by decide +kernel
theorem dX8_become_9 : decode cX8_become 9 = .ok (.aload_n 3, 1) := by decide +kernel
theorem dX8_become_10 : decode cX8_become 10 = .ok (.ifnull 10, 3) := by decide +kernel
theorem dX8_become_13 : decode cX8_become 13 = .ok (.iload_n 2, 1) := by decide +kernel
theorem dX8_become_14 : decode cX8_become 14 = .ok (.invokestatic 82, 3) := by decide +kernel
theorem dX8_become_17 : decode cX8_become 17 = .ok (.ifCond .eq 10, 3) := by decide +kernel
theorem dX8_become_20 : decode cX8_become 20 = .ok (.aload_n 0, 1) := by decide +kernel
theorem dX8_become_21 : decode cX8_become 21 = .ok (.ldc 58, 2) := by decide +kernel
theorem dX8_become_23 : decode cX8_become 23 = .ok (.invokevirtual 59, 3) := by decide +kernel
theorem dX8_become_26 : decode cX8_become 26 = .ok (.ireturn, 1) := by decide +kernel
theorem dX8_become_27 : decode cX8_become 27 = .ok (.aload_n 3, 1) := by decide +kernel
theorem dX8_become_28 : decode cX8_become 28 = .ok (.getfield 95, 3) := by decide +kernel
theorem dX8_become_31 : decode cX8_become 31 = .ok (.istore 4, 2) := by decide +kernel
theorem dX8_become_33 : decode cX8_become 33 = .ok (.aload_n 3, 1) := by decide +kernel
theorem dX8_become_34 : decode cX8_become 34 = .ok (.iload_n 2, 1) := by decide +kernel
theorem dX8_become_35 : decode cX8_become 35 = .ok (.bipush 10, 2) := by decide +kernel
theorem dX8_become_37 : decode cX8_become 37 = .ok (.idiv, 1) := by decide +kernel
theorem dX8_become_38 : decode cX8_become 38 = .ok (.putfield 95, 3) := by decide +kernel
theorem dX8_become_41 : decode cX8_become 41 = .ok (.aload_n 3, 1) := by decide +kernel
theorem dX8_become_42 : decode cX8_become 42 = .ok (.iload_n 2, 1) := by decide +kernel
theorem dX8_become_43 : decode cX8_become 43 = .ok (.bipush 10, 2) := by decide +kernel
theorem dX8_become_45 : decode cX8_become 45 = .ok (.irem, 1) := by decide +kernel
theorem dX8_become_46 : decode cX8_become 46 = .ok (.putfield 100, 3) := by decide +kernel
theorem dX8_become_49 : decode cX8_become 49 = .ok (.iload 4, 2) := by decide +kernel
theorem dX8_become_51 : decode cX8_become 51 = .ok (.ireturn, 1) := by decide +kernel
theorem dX8_as_0 : decode cX8_as 0 = .ok (.aload_n 0, 1) := by decide +kernel
theorem dX8_as_1 : decode cX8_as 1 = .ok (.getfield 12, 3) := by decide +kernel
theorem dX8_as_4 : decode cX8_as 4 = .ok (.iload_n 1, 1) := by decide +kernel
theorem dX8_as_5 : decode cX8_as 5 = .ok (.invokevirtual 91, 3) := by decide +kernel
theorem dX8_as_8 : decode cX8_as 8 = .ok (.astore_n 3, 1) := by decide +kernel
theorem dX8_as_9 : decode cX8_as 9 = .ok (.aload_n 3, 1) := by decide +kernel
theorem dX8_as_10 : decode cX8_as 10 = .ok (.ifnull 17, 3) := by decide +kernel
theorem dX8_as_13 : decode cX8_as 13 = .ok (.iload_n 2, 1) := by decide +kernel
theorem dX8_as_14 : decode cX8_as 14 = .ok (.iconst 0, 1) := by decide +kernel
theorem dX8_as_15 : decode cX8_as 15 = .ok (.getstatic 123, 3) := by decide +kernel
theorem dX8_as_18 : decode cX8_as 18 = .ok (.arraylength, 1) := by decide +kernel
theorem dX8_as_19 : decode cX8_as 19 = .ok (.iconst 1, 1) := by decide +kernel
theorem dX8_as_20 : decode cX8_as 20 = .ok (.isub, 1) := by decide +kernel
theorem dX8_as_21 : decode cX8_as 21 = .ok (.invokestatic 54, 3) := by decide +kernel
theorem dX8_as_24 : decode cX8_as 24 = .ok (.ifCond .eq 10, 3) := by decide +kernel
theorem dX8_as_27 : decode cX8_as 27 = .ok (.aload_n 0, 1) := by decide +kernel
theorem dX8_as_28 : decode cX8_as 28 = .ok (.ldc 58, 2) := by decide +kernel
theorem dX8_as_30 : decode cX8_as 30 = .ok (.invokevirtual 59, 3) := by decide +kernel
theorem dX8_as_33 : decode cX8_as 33 = .ok (.ireturn, 1) := by decide +kernel
theorem dX8_as_34 : decode cX8_as 34 = .ok (.aload_n 3, 1) := by decide +kernel
theorem dX8_as_35 : decode cX8_as 35 = .ok (.getfield 95, 3) := by decide +kernel
theorem dX8_as_38 : decode cX8_as 38 = .ok (.iload_n 2, 1) := by decide +kernel
theorem dX8_as_39 : decode cX8_as 39 = .ok (.invokestatic 126, 3) := by decide +kernel
theorem dX8_as_42 : decode cX8_as 42 = .ok (.ifCond .eq 10, 3) := by decide +kernel
theorem dX8_as_45 : decode cX8_as 45 = .ok (.aload_n 3, 1) := by decide +kernel
theorem dX8_as_46 : decode cX8_as 46 = .ok (.getfield 100, 3) := by decide +kernel
theorem dX8_as_49 : decode cX8_as 49 = .ok (.goto 9, 3) := by decide +kernel
theorem dX8_as_52 : decode cX8_as 52 = .ok (.aload_n 0, 1) := by decide +kernel
theorem dX8_as_53 : decode cX8_as 53 = .ok (.ldc 130, 2) := by decide +kernel
theorem dX8_as_55 : decode cX8_as 55 = .ok (.invokevirtual 59, 3) := by decide +kernel
theorem dX8_as_58 : decode cX8_as 58 = .ok (.ireturn, 1) := by decide +kernel
theorem dX8_lease_0 : decode cX8_lease 0 = .ok (.aload_n 0, 1) := by decide +kernel
theorem dX8_lease_1 : decode cX8_lease 1 = .ok (.getfield 12, 3) := by decide +kernel
theorem dX8_lease_4 : decode cX8_lease 4 = .ok (.iload_n 1, 1) := by decide +kernel
theorem dX8_lease_5 : decode cX8_lease 5 = .ok (.invokevirtual 91, 3) := by decide +kernel
theorem dX8_lease_8 : decode cX8_lease 8 = .ok (.astore_n 3, 1) := by decide +kernel
theorem dX8_lease_9 : decode cX8_lease 9 = .ok (.aload_n 3, 1) := by decide +kernel
theorem dX8_lease_10 : decode cX8_lease 10 = .ok (.ifnull 10, 3) := by decide +kernel
theorem dX8_lease_13 : decode cX8_lease 13 = .ok (.iload_n 2, 1) := by decide +kernel
theorem dX8_lease_14 : decode cX8_lease 14 = .ok (.invokestatic 131, 3) := by decide +kernel
theorem dX8_lease_17 : decode cX8_lease 17 = .ok (.ifCond .eq 10, 3) := by decide +kernel
theorem dX8_lease_20 : decode cX8_lease 20 = .ok (.aload_n 0, 1) := by decide +kernel
theorem dX8_lease_21 : decode cX8_lease 21 = .ok (.ldc 58, 2) := by decide +kernel
theorem dX8_lease_23 : decode cX8_lease 23 = .ok (.invokevirtual 59, 3) := by decide +kernel
theorem dX8_lease_26 : decode cX8_lease 26 = .ok (.ireturn, 1) := by decide +kernel
theorem dX8_lease_27 : decode cX8_lease 27 = .ok (.aload_n 3, 1) := by decide +kernel
theorem dX8_lease_28 : decode cX8_lease 28 = .ok (.getfield 110, 3) := by decide +kernel
theorem dX8_lease_31 : decode cX8_lease 31 = .ok (.ifCond .eq 10, 3) := by decide +kernel
theorem dX8_lease_34 : decode cX8_lease 34 = .ok (.aload_n 0, 1) := by decide +kernel
theorem dX8_lease_35 : decode cX8_lease 35 = .ok (.ldc 134, 2) := by decide +kernel
theorem dX8_lease_37 : decode cX8_lease 37 = .ok (.invokevirtual 59, 3) := by decide +kernel
theorem dX8_lease_40 : decode cX8_lease 40 = .ok (.ireturn, 1) := by decide +kernel
theorem dX8_lease_41 : decode cX8_lease 41 = .ok (.aload_n 3, 1) := by decide +kernel
theorem dX8_lease_42 : decode cX8_lease 42 = .ok (.getfield 103, 3) := by decide +kernel
theorem dX8_lease_45 : decode cX8_lease 45 = .ok (.istore 4, 2) := by decide +kernel
theorem dX8_lease_47 : decode cX8_lease 47 = .ok (.aload_n 3, 1) := by decide +kernel
theorem dX8_lease_48 : decode cX8_lease 48 = .ok (.iload_n 2, 1) := by decide +kernel
theorem dX8_lease_49 : decode cX8_lease 49 = .ok (.putfield 103, 3) := by decide +kernel
theorem dX8_lease_52 : decode cX8_lease 52 = .ok (.iload 4, 2) := by decide +kernel
theorem dX8_lease_54 : decode cX8_lease 54 = .ok (.ireturn, 1) := by decide +kernel
theorem dX8_purse_0 : decode cX8_purse 0 = .ok (.aload_n 0, 1) := by decide +kernel
theorem dX8_purse_1 : decode cX8_purse 1 = .ok (.getfield 12, 3) := by decide +kernel
theorem dX8_purse_4 : decode cX8_purse 4 = .ok (.iload_n 1, 1) := by decide +kernel
theorem dX8_purse_5 : decode cX8_purse 5 = .ok (.invokevirtual 91, 3) := by decide +kernel
theorem dX8_purse_8 : decode cX8_purse 8 = .ok (.astore_n 3, 1) := by decide +kernel
theorem dX8_purse_9 : decode cX8_purse 9 = .ok (.aload_n 3, 1) := by decide +kernel
theorem dX8_purse_10 : decode cX8_purse 10 = .ok (.ifnull 16, 3) := by decide +kernel
theorem dX8_purse_13 : decode cX8_purse 13 = .ok (.iload_n 2, 1) := by decide +kernel
theorem dX8_purse_14 : decode cX8_purse 14 = .ok (.sipush (-9999), 3) := by decide +kernel
theorem dX8_purse_17 : decode cX8_purse 17 = .ok (.sipush 9999, 3) := by decide +kernel
theorem dX8_purse_20 : decode cX8_purse 20 = .ok (.invokestatic 54, 3) := by decide +kernel
theorem dX8_purse_23 : decode cX8_purse 23 = .ok (.ifCond .eq 10, 3) := by decide +kernel
theorem dX8_purse_26 : decode cX8_purse 26 = .ok (.aload_n 0, 1) := by decide +kernel
theorem dX8_purse_27 : decode cX8_purse 27 = .ok (.ldc 58, 2) := by decide +kernel
theorem dX8_purse_29 : decode cX8_purse 29 = .ok (.invokevirtual 59, 3) := by decide +kernel
theorem dX8_purse_32 : decode cX8_purse 32 = .ok (.ireturn, 1) := by decide +kernel
theorem dX8_purse_33 : decode cX8_purse 33 = .ok (.aload_n 3, 1) := by decide +kernel
theorem dX8_purse_34 : decode cX8_purse 34 = .ok (.getfield 106, 3) := by decide +kernel
theorem dX8_purse_37 : decode cX8_purse 37 = .ok (.istore 4, 2) := by decide +kernel
theorem dX8_purse_39 : decode cX8_purse 39 = .ok (.aload_n 3, 1) := by decide +kernel
theorem dX8_purse_40 : decode cX8_purse 40 = .ok (.iload_n 2, 1) := by decide +kernel
theorem dX8_purse_41 : decode cX8_purse 41 = .ok (.putfield 106, 3) := by decide +kernel
theorem dX8_purse_44 : decode cX8_purse 44 = .ok (.iload 4, 2) := by decide +kernel
theorem dX8_purse_46 : decode cX8_purse 46 = .ok (.ldc 109, 2) := by decide +kernel
theorem dX8_purse_48 : decode cX8_purse 48 = .ok (.iadd, 1) := by decide +kernel
theorem dX8_purse_49 : decode cX8_purse 49 = .ok (.ireturn, 1) := by decide +kernel
theorem dX8_pardon_0 : decode cX8_pardon 0 = .ok (.aload_n 0, 1) := by decide +kernel
theorem dX8_pardon_1 : decode cX8_pardon 1 = .ok (.getfield 12, 3) := by decide +kernel
theorem dX8_pardon_4 : decode cX8_pardon 4 = .ok (.iload_n 1, 1) := by decide +kernel
theorem dX8_pardon_5 : decode cX8_pardon 5 = .ok (.invokevirtual 91, 3) := by decide +kernel
theorem dX8_pardon_8 : decode cX8_pardon 8 = .ok (.astore_n 2, 1) := by decide +kernel
theorem dX8_pardon_9 : decode cX8_pardon 9 = .ok (.aload_n 2, 1) := by decide +kernel
theorem dX8_pardon_10 : decode cX8_pardon 10 = .ok (.ifnonnull 10, 3) := by decide +kernel
theorem dX8_pardon_13 : decode cX8_pardon 13 = .ok (.aload_n 0, 1) := by decide +kernel
theorem dX8_pardon_14 : decode cX8_pardon 14 = .ok (.ldc 58, 2) := by decide +kernel
theorem dX8_pardon_16 : decode cX8_pardon 16 = .ok (.invokevirtual 59, 3) := by decide +kernel
theorem dX8_pardon_19 : decode cX8_pardon 19 = .ok (.ireturn, 1) := by decide +kernel
theorem dX8_pardon_20 : decode cX8_pardon 20 = .ok (.aload_n 2, 1) := by decide +kernel
theorem dX8_pardon_21 : decode cX8_pardon 21 = .ok (.getfield 110, 3) := by decide +kernel
theorem dX8_pardon_24 : decode cX8_pardon 24 = .ok (.ifCond .ne 10, 3) := by decide +kernel
theorem dX8_pardon_27 : decode cX8_pardon 27 = .ok (.aload_n 0, 1) := by decide +kernel
theorem dX8_pardon_28 : decode cX8_pardon 28 = .ok (.ldc 134, 2) := by decide +kernel
theorem dX8_pardon_30 : decode cX8_pardon 30 = .ok (.invokevirtual 59, 3) := by decide +kernel
theorem dX8_pardon_33 : decode cX8_pardon 33 = .ok (.ireturn, 1) := by decide +kernel
theorem dX8_pardon_34 : decode cX8_pardon 34 = .ok (.aload_n 2, 1) := by decide +kernel
theorem dX8_pardon_35 : decode cX8_pardon 35 = .ok (.iconst 0, 1) := by decide +kernel
theorem dX8_pardon_36 : decode cX8_pardon 36 = .ok (.putfield 110, 3) := by decide +kernel
theorem dX8_pardon_39 : decode cX8_pardon 39 = .ok (.aload_n 2, 1) := by decide +kernel
theorem dX8_pardon_40 : decode cX8_pardon 40 = .ok (.iconst 0, 1) := by decide +kernel
theorem dX8_pardon_41 : decode cX8_pardon 41 = .ok (.putfield 106, 3) := by decide +kernel
theorem dX8_pardon_44 : decode cX8_pardon 44 = .ok (.aload_n 0, 1) := by decide +kernel
theorem dX8_pardon_45 : decode cX8_pardon 45 = .ok (.getfield 12, 3) := by decide +kernel
theorem dX8_pardon_48 : decode cX8_pardon 48 = .ok (.invokevirtual 135, 3) := by decide +kernel
theorem dX8_pardon_51 : decode cX8_pardon 51 = .ok (.ireturn, 1) := by decide +kernel
theorem dX8_feed_0 : decode cX8_feed 0 = .ok (.iload_n 3, 1) := by decide +kernel
theorem dX8_feed_1 : decode cX8_feed 1 = .ok (.iconst 1, 1) := by decide +kernel
theorem dX8_feed_2 : decode cX8_feed 2 = .ok (.bipush 8, 2) := by decide +kernel
theorem dX8_feed_4 : decode cX8_feed 4 = .ok (.invokestatic 54, 3) := by decide +kernel
theorem dX8_feed_7 : decode cX8_feed 7 = .ok (.ifCond .eq 10, 3) := by decide +kernel
theorem dX8_feed_10 : decode cX8_feed 10 = .ok (.aload_n 0, 1) := by decide +kernel
theorem dX8_feed_11 : decode cX8_feed 11 = .ok (.ldc 58, 2) := by decide +kernel
theorem dX8_feed_13 : decode cX8_feed 13 = .ok (.invokevirtual 59, 3) := by decide +kernel
theorem dX8_feed_16 : decode cX8_feed 16 = .ok (.ireturn, 1) := by decide +kernel
theorem dX8_feed_17 : decode cX8_feed 17 = .ok (.aload_n 0, 1) := by decide +kernel
theorem dX8_feed_18 : decode cX8_feed 18 = .ok (.getfield 12, 3) := by decide +kernel
theorem dX8_feed_21 : decode cX8_feed 21 = .ok (.getfield 139, 3) := by decide +kernel
theorem dX8_feed_24 : decode cX8_feed 24 = .ok (.getfield 143, 3) := by decide +kernel
theorem dX8_feed_27 : decode cX8_feed 27 = .ok (.iload_n 3, 1) := by decide +kernel
theorem dX8_feed_28 : decode cX8_feed 28 = .ok (.iadd, 1) := by decide +kernel
theorem dX8_feed_29 : decode cX8_feed 29 = .ok (.bipush 50, 2) := by decide +kernel
theorem dX8_feed_31 : decode cX8_feed 31 = .ok (.if_icmp .le 10, 3) := by decide +kernel
theorem dX8_feed_34 : decode cX8_feed 34 = .ok (.aload_n 0, 1) := by decide +kernel
theorem dX8_feed_35 : decode cX8_feed 35 = .ok (.ldc 90, 2) := by decide +kernel
theorem dX8_feed_37 : decode cX8_feed 37 = .ok (.invokevirtual 59, 3) := by decide +kernel
theorem dX8_feed_40 : decode cX8_feed 40 = .ok (.ireturn, 1) := by decide +kernel
theorem dX8_feed_41 : decode cX8_feed 41 = .ok (.iconst 0, 1) := by decide +kernel
theorem dX8_feed_42 : decode cX8_feed 42 = .ok (.istore 4, 2) := by decide +kernel
theorem dX8_feed_44 : decode cX8_feed 44 = .ok (.iload 4, 2) := by decide +kernel
theorem dX8_feed_46 : decode cX8_feed 46 = .ok (.iload_n 3, 1) := by decide +kernel
theorem dX8_feed_47 : decode cX8_feed 47 = .ok (.if_icmp .ge 32, 3) := by decide +kernel
theorem dX8_feed_50 : decode cX8_feed 50 = .ok (.aload_n 0, 1) := by decide +kernel
theorem dX8_feed_51 : decode cX8_feed 51 = .ok (.getfield 12, 3) := by decide +kernel
theorem dX8_feed_54 : decode cX8_feed 54 = .ok (.getfield 139, 3) := by decide +kernel
theorem dX8_feed_57 : decode cX8_feed 57 = .ok (.lload_n 1, 1) := by decide +kernel
theorem dX8_feed_58 : decode cX8_feed 58 = .ok (.bipush 8, 2) := by decide +kernel
theorem dX8_feed_60 : decode cX8_feed 60 = .ok (.iload 4, 2) := by decide +kernel
theorem dX8_feed_62 : decode cX8_feed 62 = .ok (.imul, 1) := by decide +kernel
theorem dX8_feed_63 : decode cX8_feed 63 = .ok (.lshr, 1) := by decide +kernel
theorem dX8_feed_64 : decode cX8_feed 64 = .ok (.ldc2_w 148, 3) := by decide +kernel
theorem dX8_feed_67 : decode cX8_feed 67 = .ok (.land, 1) := by decide +kernel
theorem dX8_feed_68 : decode cX8_feed 68 = .ok (.l2i, 1) := by decide +kernel
theorem dX8_feed_69 : decode cX8_feed 69 = .ok (.invokevirtual 150, 3) := by decide +kernel
theorem dX8_feed_72 : decode cX8_feed 72 = .ok (.pop, 1) := by decide +kernel
theorem dX8_feed_73 : decode cX8_feed 73 = .ok (.iinc 4 1, 3) := by decide +kernel
theorem dX8_feed_76 : decode cX8_feed 76 = .ok (.goto (-32), 3) := by decide +kernel
theorem dX8_feed_79 : decode cX8_feed 79 = .ok (.aload_n 0, 1) := by decide +kernel
theorem dX8_feed_80 : decode cX8_feed 80 = .ok (.getfield 12, 3) := by decide +kernel
theorem dX8_feed_83 : decode cX8_feed 83 = .ok (.getfield 139, 3) := by decide +kernel
theorem dX8_feed_86 : decode cX8_feed 86 = .ok (.getfield 143, 3) := by decide +kernel
theorem dX8_feed_89 : decode cX8_feed 89 = .ok (.ireturn, 1) := by decide +kernel
theorem dX8_text_0 : decode cX8_text 0 = .ok (.iload_n 1, 1) := by decide +kernel
theorem dX8_text_1 : decode cX8_text 1 = .ok (.invokestatic 153, 3) := by decide +kernel
theorem dX8_text_4 : decode cX8_text 4 = .ok (.ifCond .eq 10, 3) := by decide +kernel
theorem dX8_text_7 : decode cX8_text 7 = .ok (.aload_n 0, 1) := by decide +kernel
theorem dX8_text_8 : decode cX8_text 8 = .ok (.ldc 58, 2) := by decide +kernel
theorem dX8_text_10 : decode cX8_text 10 = .ok (.invokevirtual 59, 3) := by decide +kernel
theorem dX8_text_13 : decode cX8_text 13 = .ok (.ireturn, 1) := by decide +kernel
theorem dX8_text_14 : decode cX8_text 14 = .ok (.aload_n 0, 1) := by decide +kernel
theorem dX8_text_15 : decode cX8_text 15 = .ok (.getfield 25, 3) := by decide +kernel
theorem dX8_text_18 : decode cX8_text 18 = .ok (.aload_n 0, 1) := by decide +kernel
theorem dX8_text_19 : decode cX8_text 19 = .ok (.getfield 12, 3) := by decide +kernel
theorem dX8_text_22 : decode cX8_text 22 = .ok (.getfield 139, 3) := by decide +kernel
theorem dX8_text_25 : decode cX8_text 25 = .ok (.iload_n 1, 1) := by decide +kernel
theorem dX8_text_26 : decode cX8_text 26 = .ok (.invokevirtual 156, 3) := by decide +kernel
theorem dX8_text_29 : decode cX8_text 29 = .ok (.istore_n 2, 1) := by decide +kernel
theorem dX8_text_30 : decode cX8_text 30 = .ok (.aload_n 0, 1) := by decide +kernel
theorem dX8_text_31 : decode cX8_text 31 = .ok (.getfield 12, 3) := by decide +kernel
theorem dX8_text_34 : decode cX8_text 34 = .ok (.getfield 139, 3) := by decide +kernel
theorem dX8_text_37 : decode cX8_text 37 = .ok (.invokevirtual 160, 3) := by decide +kernel
theorem dX8_text_40 : decode cX8_text 40 = .ok (.iload_n 2, 1) := by decide +kernel
theorem dX8_text_41 : decode cX8_text 41 = .ok (.ifCond .lt 8, 3) := by decide +kernel
theorem dX8_text_44 : decode cX8_text 44 = .ok (.bipush (-10), 2) := by decide +kernel
theorem dX8_text_46 : decode cX8_text 46 = .ok (.iload_n 2, 1) := by decide +kernel
theorem dX8_text_47 : decode cX8_text 47 = .ok (.isub, 1) := by decide +kernel
theorem dX8_text_48 : decode cX8_text 48 = .ok (.ireturn, 1) := by decide +kernel
theorem dX8_text_49 : decode cX8_text 49 = .ok (.aload_n 0, 1) := by decide +kernel
theorem dX8_text_50 : decode cX8_text 50 = .ok (.getfield 12, 3) := by decide +kernel
theorem dX8_text_53 : decode cX8_text 53 = .ok (.iload_n 1, 1) := by decide +kernel
theorem dX8_text_54 : decode cX8_text 54 = .ok (.invokevirtual 163, 3) := by decide +kernel
theorem dX8_text_57 : decode cX8_text 57 = .ok (.aload_n 0, 1) := by decide +kernel
theorem dX8_text_58 : decode cX8_text 58 = .ok (.getfield 25, 3) := by decide +kernel
theorem dX8_text_61 : decode cX8_text 61 = .ok (.getfield 167, 3) := by decide +kernel
theorem dX8_text_64 : decode cX8_text 64 = .ok (.invokevirtual 170, 3) := by decide +kernel
theorem dX8_text_67 : decode cX8_text 67 = .ok (.iconst 1, 1) := by decide +kernel
theorem dX8_text_68 : decode cX8_text 68 = .ok (.ireturn, 1) := by decide +kernel
theorem dX8_law_0 : decode cX8_law 0 = .ok (.iload_n 1, 1) := by decide +kernel
theorem dX8_law_1 : decode cX8_law 1 = .ok (.invokestatic 153, 3) := by decide +kernel
theorem dX8_law_4 : decode cX8_law 4 = .ok (.ifCond .eq 10, 3) := by decide +kernel
theorem dX8_law_7 : decode cX8_law 7 = .ok (.aload_n 0, 1) := by decide +kernel
theorem dX8_law_8 : decode cX8_law 8 = .ok (.ldc 58, 2) := by decide +kernel
theorem dX8_law_10 : decode cX8_law 10 = .ok (.invokevirtual 59, 3) := by decide +kernel
theorem dX8_law_13 : decode cX8_law 13 = .ok (.ireturn, 1) := by decide +kernel
theorem dX8_law_14 : decode cX8_law 14 = .ok (.aload_n 0, 1) := by decide +kernel
theorem dX8_law_15 : decode cX8_law 15 = .ok (.getfield 12, 3) := by decide +kernel
theorem dX8_law_18 : decode cX8_law 18 = .ok (.iload_n 1, 1) := by decide +kernel
theorem dX8_law_19 : decode cX8_law 19 = .ok (.invokevirtual 163, 3) := by decide +kernel
theorem dX8_law_22 : decode cX8_law 22 = .ok (.iload_n 2, 1) := by decide +kernel
theorem dX8_law_23 : decode cX8_law 23 = .ok (.iload_n 3, 1) := by decide +kernel
theorem dX8_law_24 : decode cX8_law 24 = .ok (.iload 4, 2) := by decide +kernel
theorem dX8_law_26 : decode cX8_law 26 = .ok (.invokevirtual 176, 3) := by decide +kernel
theorem dX8_law_29 : decode cX8_law 29 = .ok (.ireturn, 1) := by decide +kernel
theorem dX8_nights_0 : decode cX8_nights 0 = .ok (.iload_n 1, 1) := by decide +kernel
theorem dX8_nights_1 : decode cX8_nights 1 = .ok (.iconst 1, 1) := by decide +kernel
theorem dX8_nights_2 : decode cX8_nights 2 = .ok (.bipush 100, 2) := by decide +kernel
theorem dX8_nights_4 : decode cX8_nights 4 = .ok (.invokestatic 54, 3) := by decide +kernel
theorem dX8_nights_7 : decode cX8_nights 7 = .ok (.ifCond .eq 10, 3) := by decide +kernel
theorem dX8_nights_10 : decode cX8_nights 10 = .ok (.aload_n 0, 1) := by decide +kernel
theorem dX8_nights_11 : decode cX8_nights 11 = .ok (.ldc 58, 2) := by decide +kernel
theorem dX8_nights_13 : decode cX8_nights 13 = .ok (.invokevirtual 59, 3) := by decide +kernel
theorem dX8_nights_16 : decode cX8_nights 16 = .ok (.ireturn, 1) := by decide +kernel
theorem dX8_nights_17 : decode cX8_nights 17 = .ok (.aload_n 0, 1) := by decide +kernel
theorem dX8_nights_18 : decode cX8_nights 18 = .ok (.getfield 12, 3) := by decide +kernel
theorem dX8_nights_21 : decode cX8_nights 21 = .ok (.getfield 63, 3) := by decide +kernel
theorem dX8_nights_24 : decode cX8_nights 24 = .ok (.iload_n 1, 1) := by decide +kernel
theorem dX8_nights_25 : decode cX8_nights 25 = .ok (.iadd, 1) := by decide +kernel
theorem dX8_nights_26 : decode cX8_nights 26 = .ok (.sipush 9999, 3) := by decide +kernel
theorem dX8_nights_29 : decode cX8_nights 29 = .ok (.if_icmp .le 10, 3) := by decide +kernel
theorem dX8_nights_32 : decode cX8_nights 32 = .ok (.aload_n 0, 1) := by decide +kernel
theorem dX8_nights_33 : decode cX8_nights 33 = .ok (.ldc 134, 2) := by decide +kernel
theorem dX8_nights_35 : decode cX8_nights 35 = .ok (.invokevirtual 59, 3) := by decide +kernel
theorem dX8_nights_38 : decode cX8_nights 38 = .ok (.ireturn, 1) := by decide +kernel
theorem dX8_nights_39 : decode cX8_nights 39 = .ok (.aload_n 0, 1) := by decide +kernel
theorem dX8_nights_40 : decode cX8_nights 40 = .ok (.getfield 12, 3) := by decide +kernel
theorem dX8_nights_43 : decode cX8_nights 43 = .ok (.iload_n 1, 1) := by decide +kernel
theorem dX8_nights_44 : decode cX8_nights 44 = .ok (.invokevirtual 180, 3) := by decide +kernel
theorem dX8_nights_47 : decode cX8_nights 47 = .ok (.aload_n 0, 1) := by decide +kernel
theorem dX8_nights_48 : decode cX8_nights 48 = .ok (.getfield 12, 3) := by decide +kernel
theorem dX8_nights_51 : decode cX8_nights 51 = .ok (.invokevirtual 135, 3) := by decide +kernel
theorem dX8_nights_54 : decode cX8_nights 54 = .ok (.ireturn, 1) := by decide +kernel
theorem dX8_loose_0 : decode cX8_loose 0 = .ok (.iload_n 1, 1) := by decide +kernel
theorem dX8_loose_1 : decode cX8_loose 1 = .ok (.iconst 1, 1) := by decide +kernel
theorem dX8_loose_2 : decode cX8_loose 2 = .ok (.bipush 40, 2) := by decide +kernel
theorem dX8_loose_4 : decode cX8_loose 4 = .ok (.invokestatic 54, 3) := by decide +kernel
theorem dX8_loose_7 : decode cX8_loose 7 = .ok (.ifCond .eq 10, 3) := by decide +kernel
theorem dX8_loose_10 : decode cX8_loose 10 = .ok (.aload_n 0, 1) := by decide +kernel
theorem dX8_loose_11 : decode cX8_loose 11 = .ok (.ldc 58, 2) := by decide +kernel
theorem dX8_loose_13 : decode cX8_loose 13 = .ok (.invokevirtual 59, 3) := by decide +kernel
theorem dX8_loose_16 : decode cX8_loose 16 = .ok (.ireturn, 1) := by decide +kernel
theorem dX8_loose_17 : decode cX8_loose 17 = .ok (.aload_n 0, 1) := by decide +kernel
theorem dX8_loose_18 : decode cX8_loose 18 = .ok (.getfield 12, 3) := by decide +kernel
theorem dX8_loose_21 : decode cX8_loose 21 = .ok (.getfield 63, 3) := by decide +kernel
theorem dX8_loose_24 : decode cX8_loose 24 = .ok (.iload_n 1, 1) := by decide +kernel
theorem dX8_loose_25 : decode cX8_loose 25 = .ok (.iadd, 1) := by decide +kernel
theorem dX8_loose_26 : decode cX8_loose 26 = .ok (.sipush 9999, 3) := by decide +kernel
theorem dX8_loose_29 : decode cX8_loose 29 = .ok (.if_icmp .le 10, 3) := by decide +kernel
theorem dX8_loose_32 : decode cX8_loose 32 = .ok (.aload_n 0, 1) := by decide +kernel
theorem dX8_loose_33 : decode cX8_loose 33 = .ok (.ldc 134, 2) := by decide +kernel
theorem dX8_loose_35 : decode cX8_loose 35 = .ok (.invokevirtual 59, 3) := by decide +kernel
theorem dX8_loose_38 : decode cX8_loose 38 = .ok (.ireturn, 1) := by decide +kernel
theorem dX8_loose_39 : decode cX8_loose 39 = .ok (.iconst 0, 1) := by decide +kernel
theorem dX8_loose_40 : decode cX8_loose 40 = .ok (.istore_n 2, 1) := by decide +kernel
theorem dX8_loose_41 : decode cX8_loose 41 = .ok (.iload_n 2, 1) := by decide +kernel
theorem dX8_loose_42 : decode cX8_loose 42 = .ok (.iload_n 1, 1) := by decide +kernel
theorem dX8_loose_43 : decode cX8_loose 43 = .ok (.if_icmp .ge 24, 3) := by decide +kernel
theorem dX8_loose_46 : decode cX8_loose 46 = .ok (.aload_n 0, 1) := by decide +kernel
theorem dX8_loose_47 : decode cX8_loose 47 = .ok (.getfield 12, 3) := by decide +kernel
theorem dX8_loose_50 : decode cX8_loose 50 = .ok (.invokevirtual 184, 3) := by decide +kernel
theorem dX8_loose_53 : decode cX8_loose 53 = .ok (.aload_n 0, 1) := by decide +kernel
theorem dX8_loose_54 : decode cX8_loose 54 = .ok (.getfield 12, 3) := by decide +kernel
theorem dX8_loose_57 : decode cX8_loose 57 = .ok (.iconst 1, 1) := by decide +kernel
theorem dX8_loose_58 : decode cX8_loose 58 = .ok (.invokevirtual 180, 3) := by decide +kernel
theorem dX8_loose_61 : decode cX8_loose 61 = .ok (.iinc 2 1, 3) := by decide +kernel
theorem dX8_loose_64 : decode cX8_loose 64 = .ok (.goto (-23), 3) := by decide +kernel
theorem dX8_loose_67 : decode cX8_loose 67 = .ok (.aload_n 0, 1) := by decide +kernel
theorem dX8_loose_68 : decode cX8_loose 68 = .ok (.getfield 12, 3) := by decide +kernel
theorem dX8_loose_71 : decode cX8_loose 71 = .ok (.invokevirtual 135, 3) := by decide +kernel
theorem dX8_loose_74 : decode cX8_loose 74 = .ok (.ireturn, 1) := by decide +kernel
theorem dX8_then_0 : decode cX8_then 0 = .ok (.iload_n 1, 1) := by decide +kernel
theorem dX8_then_1 : decode cX8_then 1 = .ok (.iconst 0, 1) := by decide +kernel
theorem dX8_then_2 : decode cX8_then 2 = .ok (.bipush 100, 2) := by decide +kernel
theorem dX8_then_4 : decode cX8_then 4 = .ok (.invokestatic 54, 3) := by decide +kernel
theorem dX8_then_7 : decode cX8_then 7 = .ok (.ifCond .ne 23, 3) := by decide +kernel
theorem dX8_then_10 : decode cX8_then 10 = .ok (.iload_n 3, 1) := by decide +kernel
theorem dX8_then_11 : decode cX8_then 11 = .ok (.iconst 0, 1) := by decide +kernel
theorem dX8_then_12 : decode cX8_then 12 = .ok (.iconst 1, 1) := by decide +kernel
theorem dX8_then_13 : decode cX8_then 13 = .ok (.invokestatic 54, 3) := by decide +kernel
theorem dX8_then_16 : decode cX8_then 16 = .ok (.ifCond .ne 14, 3) := by decide +kernel
theorem dX8_then_19 : decode cX8_then 19 = .ok (.aload_n 0, 1) := by decide +kernel
theorem dX8_then_20 : decode cX8_then 20 = .ok (.getfield 12, 3) := by decide +kernel
theorem dX8_then_23 : decode cX8_then 23 = .ok (.iload_n 2, 1) := by decide +kernel
theorem dX8_then_24 : decode cX8_then 24 = .ok (.invokevirtual 91, 3) := by decide +kernel
theorem dX8_then_27 : decode cX8_then 27 = .ok (.ifnonnull 10, 3) := by decide +kernel
theorem dX8_then_30 : decode cX8_then 30 = .ok (.aload_n 0, 1) := by decide +kernel
theorem dX8_then_31 : decode cX8_then 31 = .ok (.ldc 58, 2) := by decide +kernel
theorem dX8_then_33 : decode cX8_then 33 = .ok (.invokevirtual 59, 3) := by decide +kernel
theorem dX8_then_36 : decode cX8_then 36 = .ok (.ireturn, 1) := by decide +kernel
theorem dX8_then_37 : decode cX8_then 37 = .ok (.aload_n 0, 1) := by decide +kernel
theorem dX8_then_38 : decode cX8_then 38 = .ok (.getfield 19, 3) := by decide +kernel
theorem dX8_then_41 : decode cX8_then 41 = .ok (.aload_n 0, 1) := by decide +kernel
theorem dX8_then_42 : decode cX8_then 42 = .ok (.getfield 12, 3) := by decide +kernel
theorem dX8_then_45 : decode cX8_then 45 = .ok (.invokevirtual 187, 3) := by decide +kernel
theorem dX8_then_48 : decode cX8_then 48 = .ok (.aload_n 0, 1) := by decide +kernel
theorem dX8_then_49 : decode cX8_then 49 = .ok (.getfield 19, 3) := by decide +kernel
theorem dX8_then_52 : decode cX8_then 52 = .ok (.iload_n 1, 1) := by decide +kernel
theorem dX8_then_53 : decode cX8_then 53 = .ok (.invokevirtual 180, 3) := by decide +kernel
theorem dX8_then_56 : decode cX8_then 56 = .ok (.aload_n 0, 1) := by decide +kernel
theorem dX8_then_57 : decode cX8_then 57 = .ok (.getfield 19, 3) := by decide +kernel
theorem dX8_then_60 : decode cX8_then 60 = .ok (.iload_n 2, 1) := by decide +kernel
theorem dX8_then_61 : decode cX8_then 61 = .ok (.invokevirtual 91, 3) := by decide +kernel
theorem dX8_then_64 : decode cX8_then 64 = .ok (.astore 4, 2) := by decide +kernel
theorem dX8_then_66 : decode cX8_then 66 = .ok (.aload 4, 2) := by decide +kernel
theorem dX8_then_68 : decode cX8_then 68 = .ok (.ifnonnull 10, 3) := by decide +kernel
theorem dX8_then_71 : decode cX8_then 71 = .ok (.aload_n 0, 1) := by decide +kernel
theorem dX8_then_72 : decode cX8_then 72 = .ok (.ldc 58, 2) := by decide +kernel
theorem dX8_then_74 : decode cX8_then 74 = .ok (.invokevirtual 59, 3) := by decide +kernel
theorem dX8_then_77 : decode cX8_then 77 = .ok (.ireturn, 1) := by decide +kernel
theorem dX8_then_78 : decode cX8_then 78 = .ok (.iload_n 3, 1) := by decide +kernel
theorem dX8_then_79 : decode cX8_then 79 = .ok (.ifCond .ne 14, 3) := by decide +kernel
theorem dX8_then_82 : decode cX8_then 82 = .ok (.aload 4, 2) := by decide +kernel
theorem dX8_then_84 : decode cX8_then 84 = .ok (.getfield 106, 3) := by decide +kernel
theorem dX8_then_87 : decode cX8_then 87 = .ok (.ldc 109, 2) := by decide +kernel
theorem dX8_then_89 : decode cX8_then 89 = .ok (.iadd, 1) := by decide +kernel
theorem dX8_then_90 : decode cX8_then 90 = .ok (.goto 8, 3) := by decide +kernel
theorem dX8_then_93 : decode cX8_then 93 = .ok (.aload 4, 2) := by decide +kernel
theorem dX8_then_95 : decode cX8_then 95 = .ok (.getfield 103, 3) := by decide +kernel
theorem dX8_then_98 : decode cX8_then 98 = .ok (.ireturn, 1) := by decide +kernel
theorem dX8_often_0 : decode cX8_often 0 = .ok (.aload_n 0, 1) := by decide +kernel
theorem dX8_often_1 : decode cX8_often 1 = .ok (.getfield 12, 3) := by decide +kernel
theorem dX8_often_4 : decode cX8_often 4 = .ok (.iload_n 1, 1) := by decide +kernel
theorem dX8_often_5 : decode cX8_often 5 = .ok (.invokevirtual 91, 3) := by decide +kernel
theorem dX8_often_8 : decode cX8_often 8 = .ok (.astore_n 3, 1) := by decide +kernel
theorem dX8_often_9 : decode cX8_often 9 = .ok (.aload_n 3, 1) := by decide +kernel
theorem dX8_often_10 : decode cX8_often 10 = .ok (.ifnull 13, 3) := by decide +kernel
theorem dX8_often_13 : decode cX8_often 13 = .ok (.iload_n 2, 1) := by decide +kernel
theorem dX8_often_14 : decode cX8_often 14 = .ok (.iconst 1, 1) := by decide +kernel
theorem dX8_often_15 : decode cX8_often 15 = .ok (.bipush 100, 2) := by decide +kernel
theorem dX8_often_17 : decode cX8_often 17 = .ok (.invokestatic 54, 3) := by decide +kernel
theorem dX8_often_20 : decode cX8_often 20 = .ok (.ifCond .eq 10, 3) := by decide +kernel
theorem dX8_often_23 : decode cX8_often 23 = .ok (.aload_n 0, 1) := by decide +kernel
theorem dX8_often_24 : decode cX8_often 24 = .ok (.ldc 58, 2) := by decide +kernel
theorem dX8_often_26 : decode cX8_often 26 = .ok (.invokevirtual 59, 3) := by decide +kernel
theorem dX8_often_29 : decode cX8_often 29 = .ok (.ireturn, 1) := by decide +kernel
theorem dX8_often_30 : decode cX8_often 30 = .ok (.iconst 0, 1) := by decide +kernel
theorem dX8_often_31 : decode cX8_often 31 = .ok (.istore 4, 2) := by decide +kernel
theorem dX8_often_33 : decode cX8_often 33 = .ok (.iconst 0, 1) := by decide +kernel
theorem dX8_often_34 : decode cX8_often 34 = .ok (.istore 5, 2) := by decide +kernel
theorem dX8_often_36 : decode cX8_often 36 = .ok (.iload 5, 2) := by decide +kernel
theorem dX8_often_38 : decode cX8_often 38 = .ok (.iload_n 2, 1) := by decide +kernel
theorem dX8_often_39 : decode cX8_often 39 = .ok (.if_icmp .ge 50, 3) := by decide +kernel
theorem dX8_often_42 : decode cX8_often 42 = .ok (.aload_n 0, 1) := by decide +kernel
theorem dX8_often_43 : decode cX8_often 43 = .ok (.getfield 12, 3) := by decide +kernel
theorem dX8_often_46 : decode cX8_often 46 = .ok (.getfield 63, 3) := by decide +kernel
theorem dX8_often_49 : decode cX8_often 49 = .ok (.iload 5, 2) := by decide +kernel
theorem dX8_often_51 : decode cX8_often 51 = .ok (.iadd, 1) := by decide +kernel
theorem dX8_often_52 : decode cX8_often 52 = .ok (.istore 6, 2) := by decide +kernel
theorem dX8_often_54 : decode cX8_often 54 = .ok (.aload_n 3, 1) := by decide +kernel
theorem dX8_often_55 : decode cX8_often 55 = .ok (.iload 6, 2) := by decide +kernel
theorem dX8_often_57 : decode cX8_often 57 = .ok (.invokevirtual 114, 3) := by decide +kernel
theorem dX8_often_60 : decode cX8_often 60 = .ok (.ifCond .eq 23, 3) := by decide +kernel
theorem dX8_often_63 : decode cX8_often 63 = .ok (.aload_n 3, 1) := by decide +kernel
theorem dX8_often_64 : decode cX8_often 64 = .ok (.getfield 103, 3) := by decide +kernel
theorem dX8_often_67 : decode cX8_often 67 = .ok (.aload_n 0, 1) := by decide +kernel
theorem dX8_often_68 : decode cX8_often 68 = .ok (.getfield 12, 3) := by decide +kernel
theorem dX8_often_71 : decode cX8_often 71 = .ok (.iload 6, 2) := by decide +kernel
theorem dX8_often_73 : decode cX8_often 73 = .ok (.invokevirtual 70, 3) := by decide +kernel
theorem dX8_often_76 : decode cX8_often 76 = .ok (.iand, 1) := by decide +kernel
theorem dX8_often_77 : decode cX8_often 77 = .ok (.ifCond .eq 6, 3) := by decide +kernel
theorem dX8_often_80 : decode cX8_often 80 = .ok (.iinc 4 1, 3) := by decide +kernel
theorem dX8_often_83 : decode cX8_often 83 = .ok (.iinc 5 1, 3) := by decide +kernel
theorem dX8_often_86 : decode cX8_often 86 = .ok (.goto (-50), 3) := by decide +kernel
theorem dX8_often_89 : decode cX8_often 89 = .ok (.iload 4, 2) := by decide +kernel
theorem dX8_often_91 : decode cX8_often 91 = .ok (.ireturn, 1) := by decide +kernel
theorem dX8_whole_0 : decode cX8_whole 0 = .ok (.aload_n 0, 1) := by decide +kernel
theorem dX8_whole_1 : decode cX8_whole 1 = .ok (.getfield 12, 3) := by decide +kernel
theorem dX8_whole_4 : decode cX8_whole 4 = .ok (.iload_n 1, 1) := by decide +kernel
theorem dX8_whole_5 : decode cX8_whole 5 = .ok (.invokevirtual 91, 3) := by decide +kernel
theorem dX8_whole_8 : decode cX8_whole 8 = .ok (.astore_n 2, 1) := by decide +kernel
theorem dX8_whole_9 : decode cX8_whole 9 = .ok (.aload_n 2, 1) := by decide +kernel
theorem dX8_whole_10 : decode cX8_whole 10 = .ok (.ifnonnull 10, 3) := by decide +kernel
theorem dX8_whole_13 : decode cX8_whole 13 = .ok (.aload_n 0, 1) := by decide +kernel
theorem dX8_whole_14 : decode cX8_whole 14 = .ok (.ldc 58, 2) := by decide +kernel
theorem dX8_whole_16 : decode cX8_whole 16 = .ok (.invokevirtual 59, 3) := by decide +kernel
theorem dX8_whole_19 : decode cX8_whole 19 = .ok (.ireturn, 1) := by decide +kernel
theorem dX8_whole_20 : decode cX8_whole 20 = .ok (.aload_n 2, 1) := by decide +kernel
theorem dX8_whole_21 : decode cX8_whole 21 = .ok (.getfield 103, 3) := by decide +kernel
theorem dX8_whole_24 : decode cX8_whole 24 = .ok (.ifCond .ne 10, 3) := by decide +kernel
theorem dX8_whole_27 : decode cX8_whole 27 = .ok (.aload_n 0, 1) := by decide +kernel
theorem dX8_whole_28 : decode cX8_whole 28 = .ok (.ldc 134, 2) := by decide +kernel
theorem dX8_whole_30 : decode cX8_whole 30 = .ok (.invokevirtual 59, 3) := by decide +kernel
theorem dX8_whole_33 : decode cX8_whole 33 = .ok (.ireturn, 1) := by decide +kernel
theorem dX8_whole_34 : decode cX8_whole 34 = .ok (.iconst 0, 1) := by decide +kernel
theorem dX8_whole_35 : decode cX8_whole 35 = .ok (.istore_n 3, 1) := by decide +kernel
theorem dX8_whole_36 : decode cX8_whole 36 = .ok (.iload_n 3, 1) := by decide +kernel
theorem dX8_whole_37 : decode cX8_whole 37 = .ok (.bipush 100, 2) := by decide +kernel
theorem dX8_whole_39 : decode cX8_whole 39 = .ok (.if_icmp .gt 37, 3) := by decide +kernel
theorem dX8_whole_42 : decode cX8_whole 42 = .ok (.aload_n 2, 1) := by decide +kernel
theorem dX8_whole_43 : decode cX8_whole 43 = .ok (.getfield 103, 3) := by decide +kernel
theorem dX8_whole_46 : decode cX8_whole 46 = .ok (.aload_n 0, 1) := by decide +kernel
theorem dX8_whole_47 : decode cX8_whole 47 = .ok (.getfield 12, 3) := by decide +kernel
theorem dX8_whole_50 : decode cX8_whole 50 = .ok (.aload_n 0, 1) := by decide +kernel
theorem dX8_whole_51 : decode cX8_whole 51 = .ok (.getfield 12, 3) := by decide +kernel
theorem dX8_whole_54 : decode cX8_whole 54 = .ok (.getfield 63, 3) := by decide +kernel
theorem dX8_whole_57 : decode cX8_whole 57 = .ok (.iload_n 3, 1) := by decide +kernel
theorem dX8_whole_58 : decode cX8_whole 58 = .ok (.iadd, 1) := by decide +kernel
theorem dX8_whole_59 : decode cX8_whole 59 = .ok (.invokevirtual 70, 3) := by decide +kernel
theorem dX8_whole_62 : decode cX8_whole 62 = .ok (.iconst (-1), 1) := by decide +kernel
theorem dX8_whole_63 : decode cX8_whole 63 = .ok (.ixor, 1) := by decide +kernel
theorem dX8_whole_64 : decode cX8_whole 64 = .ok (.iand, 1) := by decide +kernel
theorem dX8_whole_65 : decode cX8_whole 65 = .ok (.ifCond .ne 5, 3) := by decide +kernel
theorem dX8_whole_68 : decode cX8_whole 68 = .ok (.iload_n 3, 1) := by decide +kernel
theorem dX8_whole_69 : decode cX8_whole 69 = .ok (.ireturn, 1) := by decide +kernel
theorem dX8_whole_70 : decode cX8_whole 70 = .ok (.iinc 3 1, 3) := by decide +kernel
theorem dX8_whole_73 : decode cX8_whole 73 = .ok (.goto (-37), 3) := by decide +kernel
theorem dX8_whole_76 : decode cX8_whole 76 = .ok (.aload_n 0, 1) := by decide +kernel
theorem dX8_whole_77 : decode cX8_whole 77 = .ok (.ldc 190, 2) := by decide +kernel
theorem dX8_whole_79 : decode cX8_whole 79 = .ok (.invokevirtual 59, 3) := by decide +kernel
theorem dX8_whole_82 : decode cX8_whole 82 = .ok (.ireturn, 1) := by decide +kernel
theorem dX8_stays_0 : decode cX8_stays 0 = .ok (.aload_n 0, 1) := by decide +kernel
theorem dX8_stays_1 : decode cX8_stays 1 = .ok (.getfield 12, 3) := by decide +kernel
theorem dX8_stays_4 : decode cX8_stays 4 = .ok (.iload_n 1, 1) := by decide +kernel
theorem dX8_stays_5 : decode cX8_stays 5 = .ok (.invokevirtual 91, 3) := by decide +kernel
theorem dX8_stays_8 : decode cX8_stays 8 = .ok (.astore_n 2, 1) := by decide +kernel
theorem dX8_stays_9 : decode cX8_stays 9 = .ok (.aload_n 2, 1) := by decide +kernel
theorem dX8_stays_10 : decode cX8_stays 10 = .ok (.ifnonnull 10, 3) := by decide +kernel
theorem dX8_stays_13 : decode cX8_stays 13 = .ok (.aload_n 0, 1) := by decide +kernel
theorem dX8_stays_14 : decode cX8_stays 14 = .ok (.ldc 58, 2) := by decide +kernel
theorem dX8_stays_16 : decode cX8_stays 16 = .ok (.invokevirtual 59, 3) := by decide +kernel
theorem dX8_stays_19 : decode cX8_stays 19 = .ok (.ireturn, 1) := by decide +kernel
theorem dX8_stays_20 : decode cX8_stays 20 = .ok (.aload_n 2, 1) := by decide +kernel
theorem dX8_stays_21 : decode cX8_stays 21 = .ok (.getfield 110, 3) := by decide +kernel
theorem dX8_stays_24 : decode cX8_stays 24 = .ok (.ifCond .eq 10, 3) := by decide +kernel
theorem dX8_stays_27 : decode cX8_stays 27 = .ok (.aload_n 0, 1) := by decide +kernel
theorem dX8_stays_28 : decode cX8_stays 28 = .ok (.ldc 134, 2) := by decide +kernel
theorem dX8_stays_30 : decode cX8_stays 30 = .ok (.invokevirtual 59, 3) := by decide +kernel
theorem dX8_stays_33 : decode cX8_stays 33 = .ok (.ireturn, 1) := by decide +kernel
theorem dX8_stays_34 : decode cX8_stays 34 = .ok (.aload_n 0, 1) := by decide +kernel
theorem dX8_stays_35 : decode cX8_stays 35 = .ok (.getfield 19, 3) := by decide +kernel
theorem dX8_stays_38 : decode cX8_stays 38 = .ok (.aload_n 0, 1) := by decide +kernel
theorem dX8_stays_39 : decode cX8_stays 39 = .ok (.getfield 12, 3) := by decide +kernel
theorem dX8_stays_42 : decode cX8_stays 42 = .ok (.invokevirtual 187, 3) := by decide +kernel
theorem dX8_stays_45 : decode cX8_stays 45 = .ok (.iconst 1, 1) := by decide +kernel
theorem dX8_stays_46 : decode cX8_stays 46 = .ok (.istore_n 3, 1) := by decide +kernel
theorem dX8_stays_47 : decode cX8_stays 47 = .ok (.iload_n 3, 1) := by decide +kernel
theorem dX8_stays_48 : decode cX8_stays 48 = .ok (.bipush 100, 2) := by decide +kernel
theorem dX8_stays_50 : decode cX8_stays 50 = .ok (.if_icmp .gt 42, 3) := by decide +kernel
theorem dX8_stays_53 : decode cX8_stays 53 = .ok (.aload_n 0, 1) := by decide +kernel
theorem dX8_stays_54 : decode cX8_stays 54 = .ok (.getfield 19, 3) := by decide +kernel
theorem dX8_stays_57 : decode cX8_stays 57 = .ok (.iconst 1, 1) := by decide +kernel
theorem dX8_stays_58 : decode cX8_stays 58 = .ok (.invokevirtual 180, 3) := by decide +kernel
theorem dX8_stays_61 : decode cX8_stays 61 = .ok (.aload_n 0, 1) := by decide +kernel
theorem dX8_stays_62 : decode cX8_stays 62 = .ok (.getfield 19, 3) := by decide +kernel
theorem dX8_stays_65 : decode cX8_stays 65 = .ok (.iload_n 1, 1) := by decide +kernel
theorem dX8_stays_66 : decode cX8_stays 66 = .ok (.invokevirtual 91, 3) := by decide +kernel
theorem dX8_stays_69 : decode cX8_stays 69 = .ok (.astore 4, 2) := by decide +kernel
theorem dX8_stays_71 : decode cX8_stays 71 = .ok (.aload 4, 2) := by decide +kernel
theorem dX8_stays_73 : decode cX8_stays 73 = .ok (.ifnull 13, 3) := by decide +kernel
theorem dX8_stays_76 : decode cX8_stays 76 = .ok (.aload 4, 2) := by decide +kernel
theorem dX8_stays_78 : decode cX8_stays 78 = .ok (.getfield 110, 3) := by decide +kernel
theorem dX8_stays_81 : decode cX8_stays 81 = .ok (.ifCond .eq 5, 3) := by decide +kernel
theorem dX8_stays_84 : decode cX8_stays 84 = .ok (.iload_n 3, 1) := by decide +kernel
theorem dX8_stays_85 : decode cX8_stays 85 = .ok (.ireturn, 1) := by decide +kernel
theorem dX8_stays_86 : decode cX8_stays 86 = .ok (.iinc 3 1, 3) := by decide +kernel
theorem dX8_stays_89 : decode cX8_stays 89 = .ok (.goto (-42), 3) := by decide +kernel
theorem dX8_stays_92 : decode cX8_stays 92 = .ok (.aload_n 0, 1) := by decide +kernel
theorem dX8_stays_93 : decode cX8_stays 93 = .ok (.ldc 190, 2) := by decide +kernel
theorem dX8_stays_95 : decode cX8_stays 95 = .ok (.invokevirtual 59, 3) := by decide +kernel
theorem dX8_stays_98 : decode cX8_stays 98 = .ok (.ireturn, 1) := by decide +kernel
theorem dX8_clash_0 : decode cX8_clash 0 = .ok (.iconst 0, 1) := by decide +kernel
theorem dX8_clash_1 : decode cX8_clash 1 = .ok (.istore_n 1, 1) := by decide +kernel
theorem dX8_clash_2 : decode cX8_clash 2 = .ok (.iconst 0, 1) := by decide +kernel
theorem dX8_clash_3 : decode cX8_clash 3 = .ok (.istore_n 2, 1) := by decide +kernel
theorem dX8_clash_4 : decode cX8_clash 4 = .ok (.iload_n 2, 1) := by decide +kernel
theorem dX8_clash_5 : decode cX8_clash 5 = .ok (.aload_n 0, 1) := by decide +kernel
theorem dX8_clash_6 : decode cX8_clash 6 = .ok (.getfield 12, 3) := by decide +kernel
theorem dX8_clash_9 : decode cX8_clash 9 = .ok (.getfield 191, 3) := by decide +kernel
theorem dX8_clash_12 : decode cX8_clash 12 = .ok (.if_icmp .ge 23, 3) := by decide +kernel
theorem dX8_clash_15 : decode cX8_clash 15 = .ok (.iload_n 1, 1) := by decide +kernel
theorem dX8_clash_16 : decode cX8_clash 16 = .ok (.aload_n 0, 1) := by decide +kernel
theorem dX8_clash_17 : decode cX8_clash 17 = .ok (.getfield 12, 3) := by decide +kernel
theorem dX8_clash_20 : decode cX8_clash 20 = .ok (.iload_n 2, 1) := by decide +kernel
theorem dX8_clash_21 : decode cX8_clash 21 = .ok (.invokevirtual 194, 3) := by decide +kernel
theorem dX8_clash_24 : decode cX8_clash 24 = .ok (.invokestatic 197, 3) := by decide +kernel
theorem dX8_clash_27 : decode cX8_clash 27 = .ok (.iadd, 1) := by decide +kernel
theorem dX8_clash_28 : decode cX8_clash 28 = .ok (.istore_n 1, 1) := by decide +kernel
theorem dX8_clash_29 : decode cX8_clash 29 = .ok (.iinc 2 1, 3) := by decide +kernel
theorem dX8_clash_32 : decode cX8_clash 32 = .ok (.goto (-28), 3) := by decide +kernel
theorem dX8_clash_35 : decode cX8_clash 35 = .ok (.iload_n 1, 1) := by decide +kernel
theorem dX8_clash_36 : decode cX8_clash 36 = .ok (.iconst 2, 1) := by decide +kernel
theorem dX8_clash_37 : decode cX8_clash 37 = .ok (.idiv, 1) := by decide +kernel
theorem dX8_clash_38 : decode cX8_clash 38 = .ok (.ireturn, 1) := by decide +kernel
theorem dX8_least_0 : decode cX8_least 0 = .ok (.iload_n 1, 1) := by decide +kernel
theorem dX8_least_1 : decode cX8_least 1 = .ok (.iconst 0, 1) := by decide +kernel
theorem dX8_least_2 : decode cX8_least 2 = .ok (.iconst 1, 1) := by decide +kernel
theorem dX8_least_3 : decode cX8_least 3 = .ok (.invokestatic 54, 3) := by decide +kernel
theorem dX8_least_6 : decode cX8_least 6 = .ok (.ifCond .eq 10, 3) := by decide +kernel
theorem dX8_least_9 : decode cX8_least 9 = .ok (.aload_n 0, 1) := by decide +kernel
theorem dX8_least_10 : decode cX8_least 10 = .ok (.ldc 58, 2) := by decide +kernel
theorem dX8_least_12 : decode cX8_least 12 = .ok (.invokevirtual 59, 3) := by decide +kernel
theorem dX8_least_15 : decode cX8_least 15 = .ok (.ireturn, 1) := by decide +kernel
theorem dX8_least_16 : decode cX8_least 16 = .ok (.aload_n 0, 1) := by decide +kernel
theorem dX8_least_17 : decode cX8_least 17 = .ok (.getfield 12, 3) := by decide +kernel
theorem dX8_least_20 : decode cX8_least 20 = .ok (.invokevirtual 202, 3) := by decide +kernel
theorem dX8_least_23 : decode cX8_least 23 = .ok (.istore_n 2, 1) := by decide +kernel
theorem dX8_least_24 : decode cX8_least 24 = .ok (.iload_n 1, 1) := by decide +kernel
theorem dX8_least_25 : decode cX8_least 25 = .ok (.ifCond .ne 10, 3) := by decide +kernel
theorem dX8_least_28 : decode cX8_least 28 = .ok (.iload_n 2, 1) := by decide +kernel
theorem dX8_least_29 : decode cX8_least 29 = .ok (.invokestatic 197, 3) := by decide +kernel
theorem dX8_least_32 : decode cX8_least 32 = .ok (.goto 4, 3) := by decide +kernel
theorem dX8_least_35 : decode cX8_least 35 = .ok (.iload_n 2, 1) := by decide +kernel
theorem dX8_least_36 : decode cX8_least 36 = .ok (.ireturn, 1) := by decide +kernel
theorem dX8_beside_0 : decode cX8_beside 0 = .ok (.aload_n 0, 1) := by decide +kernel
theorem dX8_beside_1 : decode cX8_beside 1 = .ok (.getfield 12, 3) := by decide +kernel
theorem dX8_beside_4 : decode cX8_beside 4 = .ok (.iload_n 1, 1) := by decide +kernel
theorem dX8_beside_5 : decode cX8_beside 5 = .ok (.invokevirtual 91, 3) := by decide +kernel
theorem dX8_beside_8 : decode cX8_beside 8 = .ok (.astore_n 2, 1) := by decide +kernel
theorem dX8_beside_9 : decode cX8_beside 9 = .ok (.aload_n 2, 1) := by decide +kernel
theorem dX8_beside_10 : decode cX8_beside 10 = .ok (.ifnonnull 10, 3) := by decide +kernel
theorem dX8_beside_13 : decode cX8_beside 13 = .ok (.aload_n 0, 1) := by decide +kernel
theorem dX8_beside_14 : decode cX8_beside 14 = .ok (.ldc 58, 2) := by decide +kernel
theorem dX8_beside_16 : decode cX8_beside 16 = .ok (.invokevirtual 59, 3) := by decide +kernel
theorem dX8_beside_19 : decode cX8_beside 19 = .ok (.ireturn, 1) := by decide +kernel
theorem dX8_beside_20 : decode cX8_beside 20 = .ok (.aload_n 2, 1) := by decide +kernel
theorem dX8_beside_21 : decode cX8_beside 21 = .ok (.getfield 103, 3) := by decide +kernel
theorem dX8_beside_24 : decode cX8_beside 24 = .ok (.invokestatic 205, 3) := by decide +kernel
theorem dX8_beside_27 : decode cX8_beside 27 = .ok (.aload_n 0, 1) := by decide +kernel
theorem dX8_beside_28 : decode cX8_beside 28 = .ok (.getfield 12, 3) := by decide +kernel
theorem dX8_beside_31 : decode cX8_beside 31 = .ok (.iload_n 1, 1) := by decide +kernel
theorem dX8_beside_32 : decode cX8_beside 32 = .ok (.invokevirtual 208, 3) := by decide +kernel
theorem dX8_beside_35 : decode cX8_beside 35 = .ok (.iand, 1) := by decide +kernel
theorem dX8_beside_36 : decode cX8_beside 36 = .ok (.aload_n 2, 1) := by decide +kernel
theorem dX8_beside_37 : decode cX8_beside 37 = .ok (.getfield 103, 3) := by decide +kernel
theorem dX8_beside_40 : decode cX8_beside 40 = .ok (.iconst (-1), 1) := by decide +kernel
theorem dX8_beside_41 : decode cX8_beside 41 = .ok (.ixor, 1) := by decide +kernel
theorem dX8_beside_42 : decode cX8_beside 42 = .ok (.iand, 1) := by decide +kernel
theorem dX8_beside_43 : decode cX8_beside 43 = .ok (.ireturn, 1) := by decide +kernel
theorem dX8_rooms_0 : decode cX8_rooms 0 = .ok (.aload_n 0, 1) := by decide +kernel
theorem dX8_rooms_1 : decode cX8_rooms 1 = .ok (.iload_n 1, 1) := by decide +kernel
theorem dX8_rooms_2 : decode cX8_rooms 2 = .ok (.invokevirtual 211, 3) := by decide +kernel
theorem dX8_rooms_5 : decode cX8_rooms 5 = .ok (.astore_n 3, 1) := by decide +kernel
theorem dX8_rooms_6 : decode cX8_rooms 6 = .ok (.aload_n 3, 1) := by decide +kernel
theorem dX8_rooms_7 : decode cX8_rooms 7 = .ok (.ifnull 20, 3) := by decide +kernel
theorem dX8_rooms_10 : decode cX8_rooms 10 = .ok (.iload_n 2, 1) := by decide +kernel
theorem dX8_rooms_11 : decode cX8_rooms 11 = .ok (.iconst (-1), 1) := by decide +kernel
theorem dX8_rooms_12 : decode cX8_rooms 12 = .ok (.aload_n 0, 1) := by decide +kernel
theorem dX8_rooms_13 : decode cX8_rooms 13 = .ok (.getfield 12, 3) := by decide +kernel
theorem dX8_rooms_16 : decode cX8_rooms 16 = .ok (.getfield 191, 3) := by decide +kernel
theorem dX8_rooms_19 : decode cX8_rooms 19 = .ok (.iconst 1, 1) := by decide +kernel
theorem dX8_rooms_20 : decode cX8_rooms 20 = .ok (.isub, 1) := by decide +kernel
theorem dX8_rooms_21 : decode cX8_rooms 21 = .ok (.invokestatic 54, 3) := by decide +kernel
theorem dX8_rooms_24 : decode cX8_rooms 24 = .ok (.ifCond .eq 10, 3) := by decide +kernel
theorem dX8_rooms_27 : decode cX8_rooms 27 = .ok (.aload_n 0, 1) := by decide +kernel
theorem dX8_rooms_28 : decode cX8_rooms 28 = .ok (.ldc 58, 2) := by decide +kernel
theorem dX8_rooms_30 : decode cX8_rooms 30 = .ok (.invokevirtual 59, 3) := by decide +kernel
theorem dX8_rooms_33 : decode cX8_rooms 33 = .ok (.ireturn, 1) := by decide +kernel
theorem dX8_rooms_34 : decode cX8_rooms 34 = .ok (.aload_n 3, 1) := by decide +kernel
theorem dX8_rooms_35 : decode cX8_rooms 35 = .ok (.getfield 215, 3) := by decide +kernel
theorem dX8_rooms_38 : decode cX8_rooms 38 = .ok (.ifCond .eq 20, 3) := by decide +kernel
theorem dX8_rooms_41 : decode cX8_rooms 41 = .ok (.aload_n 3, 1) := by decide +kernel
theorem dX8_rooms_42 : decode cX8_rooms 42 = .ok (.getfield 218, 3) := by decide +kernel
theorem dX8_rooms_45 : decode cX8_rooms 45 = .ok (.getfield 143, 3) := by decide +kernel
theorem dX8_rooms_48 : decode cX8_rooms 48 = .ok (.aload_n 0, 1) := by decide +kernel
theorem dX8_rooms_49 : decode cX8_rooms 49 = .ok (.getfield 12, 3) := by decide +kernel
theorem dX8_rooms_52 : decode cX8_rooms 52 = .ok (.getfield 191, 3) := by decide +kernel
theorem dX8_rooms_55 : decode cX8_rooms 55 = .ok (.if_icmp .eq 10, 3) := by decide +kernel
theorem dX8_rooms_58 : decode cX8_rooms 58 = .ok (.aload_n 0, 1) := by decide +kernel
theorem dX8_rooms_59 : decode cX8_rooms 59 = .ok (.ldc 190, 2) := by decide +kernel
theorem dX8_rooms_61 : decode cX8_rooms 61 = .ok (.invokevirtual 59, 3) := by decide +kernel
theorem dX8_rooms_64 : decode cX8_rooms 64 = .ok (.ireturn, 1) := by decide +kernel
theorem dX8_rooms_65 : decode cX8_rooms 65 = .ok (.iconst 0, 1) := by decide +kernel
theorem dX8_rooms_66 : decode cX8_rooms 66 = .ok (.istore 4, 2) := by decide +kernel
theorem dX8_rooms_68 : decode cX8_rooms 68 = .ok (.iload 4, 2) := by decide +kernel
theorem dX8_rooms_70 : decode cX8_rooms 70 = .ok (.aload_n 3, 1) := by decide +kernel
theorem dX8_rooms_71 : decode cX8_rooms 71 = .ok (.getfield 218, 3) := by decide +kernel
theorem dX8_rooms_74 : decode cX8_rooms 74 = .ok (.getfield 143, 3) := by decide +kernel
theorem dX8_rooms_77 : decode cX8_rooms 77 = .ok (.if_icmp .ge 31, 3) := by decide +kernel
theorem dX8_rooms_80 : decode cX8_rooms 80 = .ok (.aload_n 3, 1) := by decide +kernel
theorem dX8_rooms_81 : decode cX8_rooms 81 = .ok (.getfield 218, 3) := by decide +kernel
theorem dX8_rooms_84 : decode cX8_rooms 84 = .ok (.iload 4, 2) := by decide +kernel
theorem dX8_rooms_86 : decode cX8_rooms 86 = .ok (.invokevirtual 221, 3) := by decide +kernel
theorem dX8_rooms_89 : decode cX8_rooms 89 = .ok (.invokestatic 131, 3) := by decide +kernel
theorem dX8_rooms_92 : decode cX8_rooms 92 = .ok (.ifCond .eq 10, 3) := by decide +kernel
theorem dX8_rooms_95 : decode cX8_rooms 95 = .ok (.aload_n 0, 1) := by decide +kernel
theorem dX8_rooms_96 : decode cX8_rooms 96 = .ok (.ldc 190, 2) := by decide +kernel
theorem dX8_rooms_98 : decode cX8_rooms 98 = .ok (.invokevirtual 59, 3) := by decide +kernel
theorem dX8_rooms_101 : decode cX8_rooms 101 = .ok (.ireturn, 1) := by decide +kernel
theorem dX8_rooms_102 : decode cX8_rooms 102 = .ok (.iinc 4 1, 3) := by decide +kernel
theorem dX8_rooms_105 : decode cX8_rooms 105 = .ok (.goto (-37), 3) := by decide +kernel
theorem dX8_rooms_108 : decode cX8_rooms 108 = .ok (.aload_n 0, 1) := by decide +kernel
theorem dX8_rooms_109 : decode cX8_rooms 109 = .ok (.getfield 39, 3) := by decide +kernel
theorem dX8_rooms_112 : decode cX8_rooms 112 = .ok (.getfield 224, 3) := by decide +kernel
theorem dX8_rooms_115 : decode cX8_rooms 115 = .ok (.aload_n 3, 1) := by decide +kernel
theorem dX8_rooms_116 : decode cX8_rooms 116 = .ok (.getfield 218, 3) := by decide +kernel
theorem dX8_rooms_119 : decode cX8_rooms 119 = .ok (.invokevirtual 227, 3) := by decide +kernel
theorem dX8_rooms_122 : decode cX8_rooms 122 = .ok (.iload_n 2, 1) := by decide +kernel
theorem dX8_rooms_123 : decode cX8_rooms 123 = .ok (.ifCond .ge 15, 3) := by decide +kernel
theorem dX8_rooms_126 : decode cX8_rooms 126 = .ok (.aload_n 0, 1) := by decide +kernel
theorem dX8_rooms_127 : decode cX8_rooms 127 = .ok (.getfield 39, 3) := by decide +kernel
theorem dX8_rooms_130 : decode cX8_rooms 130 = .ok (.iconst 0, 1) := by decide +kernel
theorem dX8_rooms_131 : decode cX8_rooms 131 = .ok (.iconst 0, 1) := by decide +kernel
theorem dX8_rooms_132 : decode cX8_rooms 132 = .ok (.invokevirtual 228, 3) := by decide +kernel
theorem dX8_rooms_135 : decode cX8_rooms 135 = .ok (.goto 11, 3) := by decide +kernel
theorem dX8_rooms_138 : decode cX8_rooms 138 = .ok (.aload_n 0, 1) := by decide +kernel
theorem dX8_rooms_139 : decode cX8_rooms 139 = .ok (.getfield 39, 3) := by decide +kernel
theorem dX8_rooms_142 : decode cX8_rooms 142 = .ok (.iload_n 2, 1) := by decide +kernel
theorem dX8_rooms_143 : decode cX8_rooms 143 = .ok (.invokevirtual 231, 3) := by decide +kernel
theorem dX8_rooms_146 : decode cX8_rooms 146 = .ok (.ireturn, 1) := by decide +kernel
theorem dX8_falls_0 : decode cX8_falls 0 = .ok (.iload_n 1, 1) := by decide +kernel
theorem dX8_falls_1 : decode cX8_falls 1 = .ok (.iconst 0, 1) := by decide +kernel
theorem dX8_falls_2 : decode cX8_falls 2 = .ok (.bipush 15, 2) := by decide +kernel
theorem dX8_falls_4 : decode cX8_falls 4 = .ok (.invokestatic 54, 3) := by decide +kernel
theorem dX8_falls_7 : decode cX8_falls 7 = .ok (.ifCond .ne 13, 3) := by decide +kernel
theorem dX8_falls_10 : decode cX8_falls 10 = .ok (.iload_n 2, 1) := by decide +kernel
theorem dX8_falls_11 : decode cX8_falls 11 = .ok (.iconst 0, 1) := by decide +kernel
theorem dX8_falls_12 : decode cX8_falls 12 = .ok (.bipush 6, 2) := by decide +kernel
theorem dX8_falls_14 : decode cX8_falls 14 = .ok (.invokestatic 54, 3) := by decide +kernel
theorem dX8_falls_17 : decode cX8_falls 17 = .ok (.ifCond .eq 10, 3) := by decide +kernel
theorem dX8_falls_20 : decode cX8_falls 20 = .ok (.aload_n 0, 1) := by decide +kernel
theorem dX8_falls_21 : decode cX8_falls 21 = .ok (.ldc 58, 2) := by decide +kernel
theorem dX8_falls_23 : decode cX8_falls 23 = .ok (.invokevirtual 59, 3) := by decide +kernel
theorem dX8_falls_26 : decode cX8_falls 26 = .ok (.ireturn, 1) := by decide +kernel
theorem dX8_falls_27 : decode cX8_falls 27 = .ok (.iconst 0, 1) := by decide +kernel
theorem dX8_falls_28 : decode cX8_falls 28 = .ok (.istore_n 3, 1) := by decide +kernel
theorem dX8_falls_29 : decode cX8_falls 29 = .ok (.iload_n 3, 1) := by decide +kernel
theorem dX8_falls_30 : decode cX8_falls 30 = .ok (.bipush 111, 2) := by decide +kernel
theorem dX8_falls_32 : decode cX8_falls 32 = .ok (.if_icmp .ge 41, 3) := by decide +kernel
theorem dX8_falls_35 : decode cX8_falls 35 = .ok (.aload_n 0, 1) := by decide +kernel
theorem dX8_falls_36 : decode cX8_falls 36 = .ok (.getfield 12, 3) := by decide +kernel
theorem dX8_falls_39 : decode cX8_falls 39 = .ok (.getfield 63, 3) := by decide +kernel
theorem dX8_falls_42 : decode cX8_falls 42 = .ok (.iload_n 3, 1) := by decide +kernel
theorem dX8_falls_43 : decode cX8_falls 43 = .ok (.iadd, 1) := by decide +kernel
theorem dX8_falls_44 : decode cX8_falls 44 = .ok (.bipush 16, 2) := by decide +kernel
theorem dX8_falls_46 : decode cX8_falls 46 = .ok (.irem, 1) := by decide +kernel
theorem dX8_falls_47 : decode cX8_falls 47 = .ok (.iload_n 1, 1) := by decide +kernel
theorem dX8_falls_48 : decode cX8_falls 48 = .ok (.if_icmp .ne 19, 3) := by decide +kernel
theorem dX8_falls_51 : decode cX8_falls 51 = .ok (.aload_n 0, 1) := by decide +kernel
theorem dX8_falls_52 : decode cX8_falls 52 = .ok (.getfield 12, 3) := by decide +kernel
theorem dX8_falls_55 : decode cX8_falls 55 = .ok (.getfield 63, 3) := by decide +kernel
theorem dX8_falls_58 : decode cX8_falls 58 = .ok (.iload_n 3, 1) := by decide +kernel
theorem dX8_falls_59 : decode cX8_falls 59 = .ok (.iadd, 1) := by decide +kernel
theorem dX8_falls_60 : decode cX8_falls 60 = .ok (.bipush 7, 2) := by decide +kernel
theorem dX8_falls_62 : decode cX8_falls 62 = .ok (.irem, 1) := by decide +kernel
theorem dX8_falls_63 : decode cX8_falls 63 = .ok (.iload_n 2, 1) := by decide +kernel
theorem dX8_falls_64 : decode cX8_falls 64 = .ok (.if_icmp .eq 9, 3) := by decide +kernel
theorem dX8_falls_67 : decode cX8_falls 67 = .ok (.iinc 3 1, 3) := by decide +kernel
theorem dX8_falls_70 : decode cX8_falls 70 = .ok (.goto (-41), 3) := by decide +kernel
theorem dX8_falls_73 : decode cX8_falls 73 = .ok (.iload_n 3, 1) := by decide +kernel
theorem dX8_falls_74 : decode cX8_falls 74 = .ok (.ireturn, 1) := by decide +kernel
theorem dX8_was_0 : decode cX8_was 0 = .ok (.aload_n 0, 1) := by decide +kernel
theorem dX8_was_1 : decode cX8_was 1 = .ok (.iload_n 1, 1) := by decide +kernel
theorem dX8_was_2 : decode cX8_was 2 = .ok (.invokevirtual 211, 3) := by decide +kernel
theorem dX8_was_5 : decode cX8_was 5 = .ok (.astore_n 2, 1) := by decide +kernel
theorem dX8_was_6 : decode cX8_was 6 = .ok (.aload_n 2, 1) := by decide +kernel
theorem dX8_was_7 : decode cX8_was 7 = .ok (.ifnonnull 10, 3) := by decide +kernel
theorem dX8_was_10 : decode cX8_was 10 = .ok (.aload_n 0, 1) := by decide +kernel
theorem dX8_was_11 : decode cX8_was 11 = .ok (.ldc 58, 2) := by decide +kernel
theorem dX8_was_13 : decode cX8_was 13 = .ok (.invokevirtual 59, 3) := by decide +kernel
theorem dX8_was_16 : decode cX8_was 16 = .ok (.ireturn, 1) := by decide +kernel
theorem dX8_was_17 : decode cX8_was 17 = .ok (.aload_n 2, 1) := by decide +kernel
theorem dX8_was_18 : decode cX8_was 18 = .ok (.getfield 215, 3) := by decide +kernel
theorem dX8_was_21 : decode cX8_was 21 = .ok (.ifCond .ne 10, 3) := by decide +kernel
theorem dX8_was_24 : decode cX8_was 24 = .ok (.aload_n 0, 1) := by decide +kernel
theorem dX8_was_25 : decode cX8_was 25 = .ok (.ldc 190, 2) := by decide +kernel
theorem dX8_was_27 : decode cX8_was 27 = .ok (.invokevirtual 59, 3) := by decide +kernel
theorem dX8_was_30 : decode cX8_was 30 = .ok (.ireturn, 1) := by decide +kernel
theorem dX8_was_31 : decode cX8_was 31 = .ok (.ldc 234, 2) := by decide +kernel
theorem dX8_was_33 : decode cX8_was 33 = .ok (.istore_n 3, 1) := by decide +kernel
theorem dX8_was_34 : decode cX8_was 34 = .ok (.iconst 0, 1) := by decide +kernel
theorem dX8_was_35 : decode cX8_was 35 = .ok (.istore 4, 2) := by decide +kernel
theorem dX8_was_37 : decode cX8_was 37 = .ok (.iload 4, 2) := by decide +kernel
theorem dX8_was_39 : decode cX8_was 39 = .ok (.aload_n 2, 1) := by decide +kernel
theorem dX8_was_40 : decode cX8_was 40 = .ok (.getfield 218, 3) := by decide +kernel
theorem dX8_was_43 : decode cX8_was 43 = .ok (.getfield 143, 3) := by decide +kernel
theorem dX8_was_46 : decode cX8_was 46 = .ok (.if_icmp .ge 74, 3) := by decide +kernel
theorem dX8_was_49 : decode cX8_was 49 = .ok (.aload_n 2, 1) := by decide +kernel
theorem dX8_was_50 : decode cX8_was 50 = .ok (.getfield 218, 3) := by decide +kernel
theorem dX8_was_53 : decode cX8_was 53 = .ok (.iload 4, 2) := by decide +kernel
theorem dX8_was_55 : decode cX8_was 55 = .ok (.invokevirtual 221, 3) := by decide +kernel
theorem dX8_was_58 : decode cX8_was 58 = .ok (.istore 5, 2) := by decide +kernel
theorem dX8_was_60 : decode cX8_was 60 = .ok (.iload 5, 2) := by decide +kernel
theorem dX8_was_62 : decode cX8_was 62 = .ok (.iconst 0, 1) := by decide +kernel
theorem dX8_was_63 : decode cX8_was 63 = .ok (.iconst 1, 1) := by decide +kernel
theorem dX8_was_64 : decode cX8_was 64 = .ok (.invokestatic 54, 3) := by decide +kernel
theorem dX8_was_67 : decode cX8_was 67 = .ok (.ifCond .eq 10, 3) := by decide +kernel
theorem dX8_was_70 : decode cX8_was 70 = .ok (.aload_n 0, 1) := by decide +kernel
theorem dX8_was_71 : decode cX8_was 71 = .ok (.ldc 190, 2) := by decide +kernel
theorem dX8_was_73 : decode cX8_was 73 = .ok (.invokevirtual 59, 3) := by decide +kernel
theorem dX8_was_76 : decode cX8_was 76 = .ok (.ireturn, 1) := by decide +kernel
theorem dX8_was_77 : decode cX8_was 77 = .ok (.aload_n 0, 1) := by decide +kernel
theorem dX8_was_78 : decode cX8_was 78 = .ok (.getfield 12, 3) := by decide +kernel
theorem dX8_was_81 : decode cX8_was 81 = .ok (.aload_n 0, 1) := by decide +kernel
theorem dX8_was_82 : decode cX8_was 82 = .ok (.getfield 12, 3) := by decide +kernel
theorem dX8_was_85 : decode cX8_was 85 = .ok (.getfield 63, 3) := by decide +kernel
theorem dX8_was_88 : decode cX8_was 88 = .ok (.iload 4, 2) := by decide +kernel
theorem dX8_was_90 : decode cX8_was 90 = .ok (.iadd, 1) := by decide +kernel
theorem dX8_was_91 : decode cX8_was 91 = .ok (.invokevirtual 70, 3) := by decide +kernel
theorem dX8_was_94 : decode cX8_was 94 = .ok (.istore 6, 2) := by decide +kernel
theorem dX8_was_96 : decode cX8_was 96 = .ok (.iload_n 3, 1) := by decide +kernel
theorem dX8_was_97 : decode cX8_was 97 = .ok (.iload 5, 2) := by decide +kernel
theorem dX8_was_99 : decode cX8_was 99 = .ok (.iconst 1, 1) := by decide +kernel
theorem dX8_was_100 : decode cX8_was 100 = .ok (.if_icmp .ne 8, 3) := by decide +kernel
theorem dX8_was_103 : decode cX8_was 103 = .ok (.iload 6, 2) := by decide +kernel
theorem dX8_was_105 : decode cX8_was 105 = .ok (.goto 7, 3) := by decide +kernel
theorem dX8_was_108 : decode cX8_was 108 = .ok (.iload 6, 2) := by decide +kernel
theorem dX8_was_110 : decode cX8_was 110 = .ok (.iconst (-1), 1) := by decide +kernel
theorem dX8_was_111 : decode cX8_was 111 = .ok (.ixor, 1) := by decide +kernel
theorem dX8_was_112 : decode cX8_was 112 = .ok (.iand, 1) := by decide +kernel
theorem dX8_was_113 : decode cX8_was 113 = .ok (.istore_n 3, 1) := by decide +kernel
theorem dX8_was_114 : decode cX8_was 114 = .ok (.iinc 4 1, 3) := by decide +kernel
theorem dX8_was_117 : decode cX8_was 117 = .ok (.goto (-80), 3) := by decide +kernel
theorem dX8_was_120 : decode cX8_was 120 = .ok (.iload_n 3, 1) := by decide +kernel
theorem dX8_was_121 : decode cX8_was 121 = .ok (.ireturn, 1) := by decide +kernel
theorem dX8_dear_0 : decode cX8_dear 0 = .ok (.iload_n 1, 1) := by decide +kernel
theorem dX8_dear_1 : decode cX8_dear 1 = .ok (.iconst 0, 1) := by decide +kernel
theorem dX8_dear_2 : decode cX8_dear 2 = .ok (.bipush 99, 2) := by decide +kernel
theorem dX8_dear_4 : decode cX8_dear 4 = .ok (.invokestatic 54, 3) := by decide +kernel
theorem dX8_dear_7 : decode cX8_dear 7 = .ok (.ifCond .eq 10, 3) := by decide +kernel
theorem dX8_dear_10 : decode cX8_dear 10 = .ok (.aload_n 0, 1) := by decide +kernel
theorem dX8_dear_11 : decode cX8_dear 11 = .ok (.ldc 58, 2) := by decide +kernel
theorem dX8_dear_13 : decode cX8_dear 13 = .ok (.invokevirtual 59, 3) := by decide +kernel
theorem dX8_dear_16 : decode cX8_dear 16 = .ok (.ireturn, 1) := by decide +kernel
theorem dX8_dear_17 : decode cX8_dear 17 = .ok (.aload_n 0, 1) := by decide +kernel
theorem dX8_dear_18 : decode cX8_dear 18 = .ok (.getfield 12, 3) := by decide +kernel
theorem dX8_dear_21 : decode cX8_dear 21 = .ok (.iconst (-1), 1) := by decide +kernel
theorem dX8_dear_22 : decode cX8_dear 22 = .ok (.invokevirtual 208, 3) := by decide +kernel
theorem dX8_dear_25 : decode cX8_dear 25 = .ok (.istore_n 2, 1) := by decide +kernel
theorem dX8_dear_26 : decode cX8_dear 26 = .ok (.iconst (-1), 1) := by decide +kernel
theorem dX8_dear_27 : decode cX8_dear 27 = .ok (.istore_n 3, 1) := by decide +kernel
theorem dX8_dear_28 : decode cX8_dear 28 = .ok (.iconst (-1), 1) := by decide +kernel
theorem dX8_dear_29 : decode cX8_dear 29 = .ok (.istore 4, 2) := by decide +kernel
theorem dX8_dear_31 : decode cX8_dear 31 = .ok (.iconst 0, 1) := by decide +kernel
theorem dX8_dear_32 : decode cX8_dear 32 = .ok (.istore 5, 2) := by decide +kernel
theorem dX8_dear_34 : decode cX8_dear 34 = .ok (.iload 5, 2) := by decide +kernel
theorem dX8_dear_36 : decode cX8_dear 36 = .ok (.bipush 24, 2) := by decide +kernel
theorem dX8_dear_38 : decode cX8_dear 38 = .ok (.if_icmp .ge 50, 3) := by decide +kernel
theorem dX8_dear_41 : decode cX8_dear 41 = .ok (.aload_n 0, 1) := by decide +kernel
theorem dX8_dear_42 : decode cX8_dear 42 = .ok (.getfield 12, 3) := by decide +kernel
theorem dX8_dear_45 : decode cX8_dear 45 = .ok (.iconst 1, 1) := by decide +kernel
theorem dX8_dear_46 : decode cX8_dear 46 = .ok (.iload 5, 2) := by decide +kernel
theorem dX8_dear_48 : decode cX8_dear 48 = .ok (.ishl, 1) := by decide +kernel
theorem dX8_dear_49 : decode cX8_dear 49 = .ok (.invokevirtual 73, 3) := by decide +kernel
theorem dX8_dear_52 : decode cX8_dear 52 = .ok (.istore 6, 2) := by decide +kernel
theorem dX8_dear_54 : decode cX8_dear 54 = .ok (.iload_n 2, 1) := by decide +kernel
theorem dX8_dear_55 : decode cX8_dear 55 = .ok (.iload 5, 2) := by decide +kernel
theorem dX8_dear_57 : decode cX8_dear 57 = .ok (.ishr, 1) := by decide +kernel
theorem dX8_dear_58 : decode cX8_dear 58 = .ok (.iconst 1, 1) := by decide +kernel
theorem dX8_dear_59 : decode cX8_dear 59 = .ok (.iand, 1) := by decide +kernel
theorem dX8_dear_60 : decode cX8_dear 60 = .ok (.ifCond .ne 22, 3) := by decide +kernel
theorem dX8_dear_63 : decode cX8_dear 63 = .ok (.iload 6, 2) := by decide +kernel
theorem dX8_dear_65 : decode cX8_dear 65 = .ok (.iload_n 1, 1) := by decide +kernel
theorem dX8_dear_66 : decode cX8_dear 66 = .ok (.if_icmp .gt 16, 3) := by decide +kernel
theorem dX8_dear_69 : decode cX8_dear 69 = .ok (.iload 6, 2) := by decide +kernel
theorem dX8_dear_71 : decode cX8_dear 71 = .ok (.iload_n 3, 1) := by decide +kernel
theorem dX8_dear_72 : decode cX8_dear 72 = .ok (.if_icmp .le 10, 3) := by decide +kernel
theorem dX8_dear_75 : decode cX8_dear 75 = .ok (.iload 6, 2) := by decide +kernel
theorem dX8_dear_77 : decode cX8_dear 77 = .ok (.istore_n 3, 1) := by decide +kernel
theorem dX8_dear_78 : decode cX8_dear 78 = .ok (.iload 5, 2) := by decide +kernel
theorem dX8_dear_80 : decode cX8_dear 80 = .ok (.istore 4, 2) := by decide +kernel
theorem dX8_dear_82 : decode cX8_dear 82 = .ok (.iinc 5 1, 3) := by decide +kernel
theorem dX8_dear_85 : decode cX8_dear 85 = .ok (.goto (-51), 3) := by decide +kernel
theorem dX8_dear_88 : decode cX8_dear 88 = .ok (.iload 4, 2) := by decide +kernel
theorem dX8_dear_90 : decode cX8_dear 90 = .ok (.ifCond .ge 12, 3) := by decide +kernel
theorem dX8_dear_93 : decode cX8_dear 93 = .ok (.aload_n 0, 1) := by decide +kernel
theorem dX8_dear_94 : decode cX8_dear 94 = .ok (.ldc 190, 2) := by decide +kernel
theorem dX8_dear_96 : decode cX8_dear 96 = .ok (.invokevirtual 59, 3) := by decide +kernel
theorem dX8_dear_99 : decode cX8_dear 99 = .ok (.goto 5, 3) := by decide +kernel
theorem dX8_dear_102 : decode cX8_dear 102 = .ok (.iload 4, 2) := by decide +kernel
theorem dX8_dear_104 : decode cX8_dear 104 = .ok (.ireturn, 1) := by decide +kernel
theorem dX8_seed_0 : decode cX8_seed 0 = .ok (.aload_n 0, 1) := by decide +kernel
theorem dX8_seed_1 : decode cX8_seed 1 = .ok (.getfield 12, 3) := by decide +kernel
theorem dX8_seed_4 : decode cX8_seed 4 = .ok (.getfield 235, 3) := by decide +kernel
theorem dX8_seed_7 : decode cX8_seed 7 = .ok (.istore_n 2, 1) := by decide +kernel
theorem dX8_seed_8 : decode cX8_seed 8 = .ok (.aload_n 0, 1) := by decide +kernel
theorem dX8_seed_9 : decode cX8_seed 9 = .ok (.getfield 12, 3) := by decide +kernel
theorem dX8_seed_12 : decode cX8_seed 12 = .ok (.iload_n 1, 1) := by decide +kernel
theorem dX8_seed_13 : decode cX8_seed 13 = .ok (.putfield 235, 3) := by decide +kernel
theorem dX8_seed_16 : decode cX8_seed 16 = .ok (.iload_n 2, 1) := by decide +kernel
theorem dX8_seed_17 : decode cX8_seed 17 = .ok (.ireturn, 1) := by decide +kernel
theorem dX8_voice_0 : decode cX8_voice 0 = .ok (.aload_n 0, 1) := by decide +kernel
theorem dX8_voice_1 : decode cX8_voice 1 = .ok (.getfield 12, 3) := by decide +kernel
theorem dX8_voice_4 : decode cX8_voice 4 = .ok (.iload_n 1, 1) := by decide +kernel
theorem dX8_voice_5 : decode cX8_voice 5 = .ok (.invokevirtual 91, 3) := by decide +kernel
theorem dX8_voice_8 : decode cX8_voice 8 = .ok (.astore 4, 2) := by decide +kernel
theorem dX8_voice_10 : decode cX8_voice 10 = .ok (.aload 4, 2) := by decide +kernel
theorem dX8_voice_12 : decode cX8_voice 12 = .ok (.ifnull 12, 3) := by decide +kernel
theorem dX8_voice_15 : decode cX8_voice 15 = .ok (.iload_n 2, 1) := by decide +kernel
theorem dX8_voice_16 : decode cX8_voice 16 = .ok (.iconst 0, 1) := by decide +kernel
theorem dX8_voice_17 : decode cX8_voice 17 = .ok (.iconst 3, 1) := by decide +kernel
theorem dX8_voice_18 : decode cX8_voice 18 = .ok (.invokestatic 54, 3) := by decide +kernel
theorem dX8_voice_21 : decode cX8_voice 21 = .ok (.ifCond .eq 10, 3) := by decide +kernel
theorem dX8_voice_24 : decode cX8_voice 24 = .ok (.aload_n 0, 1) := by decide +kernel
theorem dX8_voice_25 : decode cX8_voice 25 = .ok (.ldc 58, 2) := by decide +kernel
theorem dX8_voice_27 : decode cX8_voice 27 = .ok (.invokevirtual 59, 3) := by decide +kernel
theorem dX8_voice_30 : decode cX8_voice 30 = .ok (.ireturn, 1) := by decide +kernel
theorem dX8_voice_31 : decode cX8_voice 31 = .ok (.aload_n 0, 1) := by decide +kernel
theorem dX8_voice_32 : decode cX8_voice 32 = .ok (.getfield 32, 3) := by decide +kernel
theorem dX8_voice_35 : decode cX8_voice 35 = .ok (.aload 4, 2) := by decide +kernel
theorem dX8_voice_37 : decode cX8_voice 37 = .ok (.iload_n 1, 1) := by decide +kernel
theorem dX8_voice_38 : decode cX8_voice 38 = .ok (.iload_n 2, 1) := by decide +kernel
theorem dX8_voice_39 : decode cX8_voice 39 = .ok (.iload_n 3, 1) := by decide +kernel
theorem dX8_voice_40 : decode cX8_voice 40 = .ok (.invokevirtual 238, 3) := by decide +kernel
theorem dX8_voice_43 : decode cX8_voice 43 = .ok (.ireturn, 1) := by decide +kernel
theorem dX8_trace_0 : decode cX8_trace 0 = .ok (.aload_n 0, 1) := by decide +kernel
theorem dX8_trace_1 : decode cX8_trace 1 = .ok (.getfield 32, 3) := by decide +kernel
theorem dX8_trace_4 : decode cX8_trace 4 = .ok (.getfield 242, 3) := by decide +kernel
theorem dX8_trace_7 : decode cX8_trace 7 = .ok (.iload_n 1, 1) := by decide +kernel
theorem dX8_trace_8 : decode cX8_trace 8 = .ok (.invokevirtual 245, 3) := by decide +kernel
theorem dX8_trace_11 : decode cX8_trace 11 = .ok (.ifCond .eq 17, 3) := by decide +kernel
theorem dX8_trace_14 : decode cX8_trace 14 = .ok (.aload_n 0, 1) := by decide +kernel
theorem dX8_trace_15 : decode cX8_trace 15 = .ok (.getfield 32, 3) := by decide +kernel
theorem dX8_trace_18 : decode cX8_trace 18 = .ok (.getfield 242, 3) := by decide +kernel
theorem dX8_trace_21 : decode cX8_trace 21 = .ok (.iload_n 1, 1) := by decide +kernel
theorem dX8_trace_22 : decode cX8_trace 22 = .ok (.invokevirtual 221, 3) := by decide +kernel
theorem dX8_trace_25 : decode cX8_trace 25 = .ok (.goto 9, 3) := by decide +kernel
theorem dX8_trace_28 : decode cX8_trace 28 = .ok (.aload_n 0, 1) := by decide +kernel
theorem dX8_trace_29 : decode cX8_trace 29 = .ok (.ldc 190, 2) := by decide +kernel
theorem dX8_trace_31 : decode cX8_trace 31 = .ok (.invokevirtual 59, 3) := by decide +kernel
theorem dX8_trace_34 : decode cX8_trace 34 = .ok (.ireturn, 1) := by decide +kernel
theorem dX8_sheet_0 : decode cX8_sheet 0 = .ok (.aload_n 0, 1) := by decide +kernel
theorem dX8_sheet_1 : decode cX8_sheet 1 = .ok (.iload_n 1, 1) := by decide +kernel
theorem dX8_sheet_2 : decode cX8_sheet 2 = .ok (.invokevirtual 211, 3) := by decide +kernel
theorem dX8_sheet_5 : decode cX8_sheet 5 = .ok (.astore 4, 2) := by decide +kernel
theorem dX8_sheet_7 : decode cX8_sheet 7 = .ok (.aload 4, 2) := by decide +kernel
theorem dX8_sheet_9 : decode cX8_sheet 9 = .ok (.ifnull 25, 3) := by decide +kernel
theorem dX8_sheet_12 : decode cX8_sheet 12 = .ok (.iload_n 2, 1) := by decide +kernel
theorem dX8_sheet_13 : decode cX8_sheet 13 = .ok (.ifCond .eq 28, 3) := by decide +kernel
theorem dX8_sheet_16 : decode cX8_sheet 16 = .ok (.iload_n 2, 1) := by decide +kernel
theorem dX8_sheet_17 : decode cX8_sheet 17 = .ok (.bipush 8, 2) := by decide +kernel
theorem dX8_sheet_19 : decode cX8_sheet 19 = .ok (.if_icmp .eq 22, 3) := by decide +kernel
theorem dX8_sheet_22 : decode cX8_sheet 22 = .ok (.iload_n 2, 1) := by decide +kernel
theorem dX8_sheet_23 : decode cX8_sheet 23 = .ok (.bipush 16, 2) := by decide +kernel
theorem dX8_sheet_25 : decode cX8_sheet 25 = .ok (.if_icmp .eq 16, 3) := by decide +kernel
theorem dX8_sheet_28 : decode cX8_sheet 28 = .ok (.iload_n 2, 1) := by decide +kernel
theorem dX8_sheet_29 : decode cX8_sheet 29 = .ok (.bipush 32, 2) := by decide +kernel
theorem dX8_sheet_31 : decode cX8_sheet 31 = .ok (.if_icmp .eq 10, 3) := by decide +kernel
theorem dX8_sheet_34 : decode cX8_sheet 34 = .ok (.aload_n 0, 1) := by decide +kernel
theorem dX8_sheet_35 : decode cX8_sheet 35 = .ok (.ldc 58, 2) := by decide +kernel
theorem dX8_sheet_37 : decode cX8_sheet 37 = .ok (.invokevirtual 59, 3) := by decide +kernel
theorem dX8_sheet_40 : decode cX8_sheet 40 = .ok (.ireturn, 1) := by decide +kernel
theorem dX8_sheet_41 : decode cX8_sheet 41 = .ok (.iload_n 2, 1) := by decide +kernel
theorem dX8_sheet_42 : decode cX8_sheet 42 = .ok (.ifCond .eq 14, 3) := by decide +kernel
theorem dX8_sheet_45 : decode cX8_sheet 45 = .ok (.iload_n 3, 1) := by decide +kernel
theorem dX8_sheet_46 : decode cX8_sheet 46 = .ok (.ifCond .ge 10, 3) := by decide +kernel
theorem dX8_sheet_49 : decode cX8_sheet 49 = .ok (.aload_n 0, 1) := by decide +kernel
theorem dX8_sheet_50 : decode cX8_sheet 50 = .ok (.ldc 134, 2) := by decide +kernel
theorem dX8_sheet_52 : decode cX8_sheet 52 = .ok (.invokevirtual 59, 3) := by decide +kernel
theorem dX8_sheet_55 : decode cX8_sheet 55 = .ok (.ireturn, 1) := by decide +kernel
theorem dX8_sheet_56 : decode cX8_sheet 56 = .ok (.iload_n 2, 1) := by decide +kernel
theorem dX8_sheet_57 : decode cX8_sheet 57 = .ok (.ifCond .eq 16, 3) := by decide +kernel
theorem dX8_sheet_60 : decode cX8_sheet 60 = .ok (.iload_n 3, 1) := by decide +kernel
theorem dX8_sheet_61 : decode cX8_sheet 61 = .ok (.bipush 40, 2) := by decide +kernel
theorem dX8_sheet_63 : decode cX8_sheet 63 = .ok (.if_icmp .le 10, 3) := by decide +kernel
theorem dX8_sheet_66 : decode cX8_sheet 66 = .ok (.aload_n 0, 1) := by decide +kernel
theorem dX8_sheet_67 : decode cX8_sheet 67 = .ok (.ldc 58, 2) := by decide +kernel
theorem dX8_sheet_69 : decode cX8_sheet 69 = .ok (.invokevirtual 59, 3) := by decide +kernel
theorem dX8_sheet_72 : decode cX8_sheet 72 = .ok (.ireturn, 1) := by decide +kernel
theorem dX8_sheet_73 : decode cX8_sheet 73 = .ok (.aload 4, 2) := by decide +kernel
theorem dX8_sheet_75 : decode cX8_sheet 75 = .ok (.iload_n 2, 1) := by decide +kernel
theorem dX8_sheet_76 : decode cX8_sheet 76 = .ok (.putfield 215, 3) := by decide +kernel
theorem dX8_sheet_79 : decode cX8_sheet 79 = .ok (.aload 4, 2) := by decide +kernel
theorem dX8_sheet_81 : decode cX8_sheet 81 = .ok (.getfield 218, 3) := by decide +kernel
theorem dX8_sheet_84 : decode cX8_sheet 84 = .ok (.iload_n 2, 1) := by decide +kernel
theorem dX8_sheet_85 : decode cX8_sheet 85 = .ok (.ifCond .ne 7, 3) := by decide +kernel
theorem dX8_sheet_88 : decode cX8_sheet 88 = .ok (.iconst 0, 1) := by decide +kernel
theorem dX8_sheet_89 : decode cX8_sheet 89 = .ok (.goto 4, 3) := by decide +kernel
theorem dX8_sheet_92 : decode cX8_sheet 92 = .ok (.iload_n 3, 1) := by decide +kernel
theorem dX8_sheet_93 : decode cX8_sheet 93 = .ok (.invokevirtual 248, 3) := by decide +kernel
theorem dX8_sheet_96 : decode cX8_sheet 96 = .ok (.iconst 1, 1) := by decide +kernel
theorem dX8_sheet_97 : decode cX8_sheet 97 = .ok (.ireturn, 1) := by decide +kernel
theorem dX8_put_0 : decode cX8_put 0 = .ok (.aload_n 0, 1) := by decide +kernel
theorem dX8_put_1 : decode cX8_put 1 = .ok (.iload_n 1, 1) := by decide +kernel
theorem dX8_put_2 : decode cX8_put 2 = .ok (.invokevirtual 211, 3) := by decide +kernel
theorem dX8_put_5 : decode cX8_put 5 = .ok (.astore 4, 2) := by decide +kernel
theorem dX8_put_7 : decode cX8_put 7 = .ok (.aload 4, 2) := by decide +kernel
theorem dX8_put_9 : decode cX8_put 9 = .ok (.ifnonnull 10, 3) := by decide +kernel
theorem dX8_put_12 : decode cX8_put 12 = .ok (.aload_n 0, 1) := by decide +kernel
theorem dX8_put_13 : decode cX8_put 13 = .ok (.ldc 58, 2) := by decide +kernel
theorem dX8_put_15 : decode cX8_put 15 = .ok (.invokevirtual 59, 3) := by decide +kernel
theorem dX8_put_18 : decode cX8_put 18 = .ok (.ireturn, 1) := by decide +kernel
theorem dX8_put_19 : decode cX8_put 19 = .ok (.aload 4, 2) := by decide +kernel
theorem dX8_put_21 : decode cX8_put 21 = .ok (.getfield 215, 3) := by decide +kernel
theorem dX8_put_24 : decode cX8_put 24 = .ok (.ifCond .ne 10, 3) := by decide +kernel
theorem dX8_put_27 : decode cX8_put 27 = .ok (.aload_n 0, 1) := by decide +kernel
theorem dX8_put_28 : decode cX8_put 28 = .ok (.ldc 190, 2) := by decide +kernel
theorem dX8_put_30 : decode cX8_put 30 = .ok (.invokevirtual 59, 3) := by decide +kernel
theorem dX8_put_33 : decode cX8_put 33 = .ok (.ireturn, 1) := by decide +kernel
theorem dX8_put_34 : decode cX8_put 34 = .ok (.aload 4, 2) := by decide +kernel
theorem dX8_put_36 : decode cX8_put 36 = .ok (.getfield 218, 3) := by decide +kernel
theorem dX8_put_39 : decode cX8_put 39 = .ok (.iload_n 2, 1) := by decide +kernel
theorem dX8_put_40 : decode cX8_put 40 = .ok (.invokevirtual 245, 3) := by decide +kernel
theorem dX8_put_43 : decode cX8_put 43 = .ok (.ifCond .ne 10, 3) := by decide +kernel
theorem dX8_put_46 : decode cX8_put 46 = .ok (.aload_n 0, 1) := by decide +kernel
theorem dX8_put_47 : decode cX8_put 47 = .ok (.ldc 58, 2) := by decide +kernel
theorem dX8_put_49 : decode cX8_put 49 = .ok (.invokevirtual 59, 3) := by decide +kernel
theorem dX8_put_52 : decode cX8_put 52 = .ok (.ireturn, 1) := by decide +kernel
theorem dX8_put_53 : decode cX8_put 53 = .ok (.aload 4, 2) := by decide +kernel
theorem dX8_put_55 : decode cX8_put 55 = .ok (.getfield 218, 3) := by decide +kernel
theorem dX8_put_58 : decode cX8_put 58 = .ok (.iload_n 2, 1) := by decide +kernel
theorem dX8_put_59 : decode cX8_put 59 = .ok (.aload 4, 2) := by decide +kernel
theorem dX8_put_61 : decode cX8_put 61 = .ok (.iload_n 3, 1) := by decide +kernel
theorem dX8_put_62 : decode cX8_put 62 = .ok (.invokevirtual 251, 3) := by decide +kernel
theorem dX8_put_65 : decode cX8_put 65 = .ok (.invokevirtual 254, 3) := by decide +kernel
theorem dX8_put_68 : decode cX8_put 68 = .ok (.iconst 1, 1) := by decide +kernel
theorem dX8_put_69 : decode cX8_put 69 = .ok (.ireturn, 1) := by decide +kernel
theorem dX8_move_0 : decode cX8_move 0 = .ok (.aload_n 0, 1) := by decide +kernel
theorem dX8_move_1 : decode cX8_move 1 = .ok (.iload_n 1, 1) := by decide +kernel
theorem dX8_move_2 : decode cX8_move 2 = .ok (.invokevirtual 211, 3) := by decide +kernel
theorem dX8_move_5 : decode cX8_move 5 = .ok (.astore 6, 2) := by decide +kernel
theorem dX8_move_7 : decode cX8_move 7 = .ok (.aload_n 0, 1) := by decide +kernel
theorem dX8_move_8 : decode cX8_move 8 = .ok (.iload_n 3, 1) := by decide +kernel
theorem dX8_move_9 : decode cX8_move 9 = .ok (.invokevirtual 211, 3) := by decide +kernel
theorem dX8_move_12 : decode cX8_move 12 = .ok (.astore 7, 2) := by decide +kernel
theorem dX8_move_14 : decode cX8_move 14 = .ok (.aload 6, 2) := by decide +kernel
theorem dX8_move_16 : decode cX8_move 16 = .ok (.ifnull 8, 3) := by decide +kernel
theorem dX8_move_19 : decode cX8_move 19 = .ok (.aload 7, 2) := by decide +kernel
theorem dX8_move_21 : decode cX8_move 21 = .ok (.ifnonnull 10, 3) := by decide +kernel
theorem dX8_move_24 : decode cX8_move 24 = .ok (.aload_n 0, 1) := by decide +kernel
theorem dX8_move_25 : decode cX8_move 25 = .ok (.ldc 58, 2) := by decide +kernel
theorem dX8_move_27 : decode cX8_move 27 = .ok (.invokevirtual 59, 3) := by decide +kernel
theorem dX8_move_30 : decode cX8_move 30 = .ok (.ireturn, 1) := by decide +kernel
theorem dX8_move_31 : decode cX8_move 31 = .ok (.aload 6, 2) := by decide +kernel
theorem dX8_move_33 : decode cX8_move 33 = .ok (.getfield 215, 3) := by decide +kernel
theorem dX8_move_36 : decode cX8_move 36 = .ok (.ifCond .eq 11, 3) := by decide +kernel
theorem dX8_move_39 : decode cX8_move 39 = .ok (.aload 7, 2) := by decide +kernel
theorem dX8_move_41 : decode cX8_move 41 = .ok (.getfield 215, 3) := by decide +kernel
theorem dX8_move_44 : decode cX8_move 44 = .ok (.ifCond .ne 10, 3) := by decide +kernel
theorem dX8_move_47 : decode cX8_move 47 = .ok (.aload_n 0, 1) := by decide +kernel
theorem dX8_move_48 : decode cX8_move 48 = .ok (.ldc 190, 2) := by decide +kernel
theorem dX8_move_50 : decode cX8_move 50 = .ok (.invokevirtual 59, 3) := by decide +kernel
theorem dX8_move_53 : decode cX8_move 53 = .ok (.ireturn, 1) := by decide +kernel
theorem dX8_move_54 : decode cX8_move 54 = .ok (.aload 6, 2) := by decide +kernel
theorem dX8_move_56 : decode cX8_move 56 = .ok (.getfield 215, 3) := by decide +kernel
theorem dX8_move_59 : decode cX8_move 59 = .ok (.aload 7, 2) := by decide +kernel
theorem dX8_move_61 : decode cX8_move 61 = .ok (.getfield 215, 3) := by decide +kernel
theorem dX8_move_64 : decode cX8_move 64 = .ok (.if_icmp .eq 10, 3) := by decide +kernel
theorem dX8_move_67 : decode cX8_move 67 = .ok (.aload_n 0, 1) := by decide +kernel
theorem dX8_move_68 : decode cX8_move 68 = .ok (.ldc 130, 2) := by decide +kernel
theorem dX8_move_70 : decode cX8_move 70 = .ok (.invokevirtual 59, 3) := by decide +kernel
theorem dX8_move_73 : decode cX8_move 73 = .ok (.ireturn, 1) := by decide +kernel
theorem dX8_move_74 : decode cX8_move 74 = .ok (.aload 7, 2) := by decide +kernel
theorem dX8_move_76 : decode cX8_move 76 = .ok (.getfield 218, 3) := by decide +kernel
theorem dX8_move_79 : decode cX8_move 79 = .ok (.aload 6, 2) := by decide +kernel
theorem dX8_move_81 : decode cX8_move 81 = .ok (.getfield 218, 3) := by decide +kernel
theorem dX8_move_84 : decode cX8_move 84 = .ok (.iload_n 2, 1) := by decide +kernel
theorem dX8_move_85 : decode cX8_move 85 = .ok (.iload 4, 2) := by decide +kernel
theorem dX8_move_87 : decode cX8_move 87 = .ok (.iload 5, 2) := by decide +kernel
theorem dX8_move_89 : decode cX8_move 89 = .ok (.invokevirtual 258, 3) := by decide +kernel
theorem dX8_move_92 : decode cX8_move 92 = .ok (.ifCond .eq 8, 3) := by decide +kernel
theorem dX8_move_95 : decode cX8_move 95 = .ok (.iload 5, 2) := by decide +kernel
theorem dX8_move_97 : decode cX8_move 97 = .ok (.goto 9, 3) := by decide +kernel
theorem dX8_move_100 : decode cX8_move 100 = .ok (.aload_n 0, 1) := by decide +kernel
theorem dX8_move_101 : decode cX8_move 101 = .ok (.ldc 58, 2) := by decide +kernel
theorem dX8_move_103 : decode cX8_move 103 = .ok (.invokevirtual 59, 3) := by decide +kernel
theorem dX8_move_106 : decode cX8_move 106 = .ok (.ireturn, 1) := by decide +kernel
theorem dX8_leases_0 : decode cX8_leases 0 = .ok (.aload_n 0, 1) := by decide +kernel
theorem dX8_leases_1 : decode cX8_leases 1 = .ok (.iload_n 1, 1) := by decide +kernel
theorem dX8_leases_2 : decode cX8_leases 2 = .ok (.invokevirtual 211, 3) := by decide +kernel
theorem dX8_leases_5 : decode cX8_leases 5 = .ok (.astore_n 2, 1) := by decide +kernel
theorem dX8_leases_6 : decode cX8_leases 6 = .ok (.aload_n 2, 1) := by decide +kernel
theorem dX8_leases_7 : decode cX8_leases 7 = .ok (.ifnonnull 10, 3) := by decide +kernel
theorem dX8_leases_10 : decode cX8_leases 10 = .ok (.aload_n 0, 1) := by decide +kernel
theorem dX8_leases_11 : decode cX8_leases 11 = .ok (.ldc 58, 2) := by decide +kernel
theorem dX8_leases_13 : decode cX8_leases 13 = .ok (.invokevirtual 59, 3) := by decide +kernel
theorem dX8_leases_16 : decode cX8_leases 16 = .ok (.ireturn, 1) := by decide +kernel
theorem dX8_leases_17 : decode cX8_leases 17 = .ok (.aload_n 2, 1) := by decide +kernel
theorem dX8_leases_18 : decode cX8_leases 18 = .ok (.getfield 215, 3) := by decide +kernel
theorem dX8_leases_21 : decode cX8_leases 21 = .ok (.ifCond .ne 10, 3) := by decide +kernel
theorem dX8_leases_24 : decode cX8_leases 24 = .ok (.aload_n 0, 1) := by decide +kernel
theorem dX8_leases_25 : decode cX8_leases 25 = .ok (.ldc 190, 2) := by decide +kernel
theorem dX8_leases_27 : decode cX8_leases 27 = .ok (.invokevirtual 59, 3) := by decide +kernel
theorem dX8_leases_30 : decode cX8_leases 30 = .ok (.ireturn, 1) := by decide +kernel
theorem dX8_leases_31 : decode cX8_leases 31 = .ok (.iconst 0, 1) := by decide +kernel
theorem dX8_leases_32 : decode cX8_leases 32 = .ok (.istore_n 3, 1) := by decide +kernel
theorem dX8_leases_33 : decode cX8_leases 33 = .ok (.iload_n 3, 1) := by decide +kernel
theorem dX8_leases_34 : decode cX8_leases 34 = .ok (.aload_n 2, 1) := by decide +kernel
theorem dX8_leases_35 : decode cX8_leases 35 = .ok (.getfield 218, 3) := by decide +kernel
theorem dX8_leases_38 : decode cX8_leases 38 = .ok (.getfield 143, 3) := by decide +kernel
theorem dX8_leases_41 : decode cX8_leases 41 = .ok (.if_icmp .ge 59, 3) := by decide +kernel
theorem dX8_leases_44 : decode cX8_leases 44 = .ok (.aload_n 0, 1) := by decide +kernel
theorem dX8_leases_45 : decode cX8_leases 45 = .ok (.getfield 12, 3) := by decide +kernel
theorem dX8_leases_48 : decode cX8_leases 48 = .ok (.iload_n 3, 1) := by decide +kernel
theorem dX8_leases_49 : decode cX8_leases 49 = .ok (.invokevirtual 91, 3) := by decide +kernel
theorem dX8_leases_52 : decode cX8_leases 52 = .ok (.astore 4, 2) := by decide +kernel
theorem dX8_leases_54 : decode cX8_leases 54 = .ok (.aload_n 2, 1) := by decide +kernel
theorem dX8_leases_55 : decode cX8_leases 55 = .ok (.getfield 218, 3) := by decide +kernel
theorem dX8_leases_58 : decode cX8_leases 58 = .ok (.iload_n 3, 1) := by decide +kernel
theorem dX8_leases_59 : decode cX8_leases 59 = .ok (.invokevirtual 221, 3) := by decide +kernel
theorem dX8_leases_62 : decode cX8_leases 62 = .ok (.istore 5, 2) := by decide +kernel
theorem dX8_leases_64 : decode cX8_leases 64 = .ok (.iload 5, 2) := by decide +kernel
theorem dX8_leases_66 : decode cX8_leases 66 = .ok (.invokestatic 131, 3) := by decide +kernel
theorem dX8_leases_69 : decode cX8_leases 69 = .ok (.ifCond .ne 16, 3) := by decide +kernel
theorem dX8_leases_72 : decode cX8_leases 72 = .ok (.aload 4, 2) := by decide +kernel
theorem dX8_leases_74 : decode cX8_leases 74 = .ok (.ifnull 11, 3) := by decide +kernel
theorem dX8_leases_77 : decode cX8_leases 77 = .ok (.aload 4, 2) := by decide +kernel
theorem dX8_leases_79 : decode cX8_leases 79 = .ok (.getfield 110, 3) := by decide +kernel
theorem dX8_leases_82 : decode cX8_leases 82 = .ok (.ifCond .eq 5, 3) := by decide +kernel
theorem dX8_leases_85 : decode cX8_leases 85 = .ok (.iload_n 3, 1) := by decide +kernel
theorem dX8_leases_86 : decode cX8_leases 86 = .ok (.ireturn, 1) := by decide +kernel
theorem dX8_leases_87 : decode cX8_leases 87 = .ok (.aload 4, 2) := by decide +kernel
theorem dX8_leases_89 : decode cX8_leases 89 = .ok (.iload 5, 2) := by decide +kernel
theorem dX8_leases_91 : decode cX8_leases 91 = .ok (.putfield 103, 3) := by decide +kernel
theorem dX8_leases_94 : decode cX8_leases 94 = .ok (.iinc 3 1, 3) := by decide +kernel
theorem dX8_leases_97 : decode cX8_leases 97 = .ok (.goto (-64), 3) := by decide +kernel
theorem dX8_leases_100 : decode cX8_leases 100 = .ok (.aload_n 2, 1) := by decide +kernel
theorem dX8_leases_101 : decode cX8_leases 101 = .ok (.getfield 218, 3) := by decide +kernel
theorem dX8_leases_104 : decode cX8_leases 104 = .ok (.getfield 143, 3) := by decide +kernel
theorem dX8_leases_107 : decode cX8_leases 107 = .ok (.ireturn, 1) := by decide +kernel
theorem dX8_judge_0 : decode cX8_judge 0 = .ok (.aload_n 0, 1) := by decide +kernel
theorem dX8_judge_1 : decode cX8_judge 1 = .ok (.iload_n 1, 1) := by decide +kernel
theorem dX8_judge_2 : decode cX8_judge 2 = .ok (.invokevirtual 211, 3) := by decide +kernel
theorem dX8_judge_5 : decode cX8_judge 5 = .ok (.astore_n 2, 1) := by decide +kernel
theorem dX8_judge_6 : decode cX8_judge 6 = .ok (.aload_n 2, 1) := by decide +kernel
theorem dX8_judge_7 : decode cX8_judge 7 = .ok (.ifnonnull 10, 3) := by decide +kernel
theorem dX8_judge_10 : decode cX8_judge 10 = .ok (.aload_n 0, 1) := by decide +kernel
theorem dX8_judge_11 : decode cX8_judge 11 = .ok (.ldc 58, 2) := by decide +kernel
theorem dX8_judge_13 : decode cX8_judge 13 = .ok (.invokevirtual 59, 3) := by decide +kernel
theorem dX8_judge_16 : decode cX8_judge 16 = .ok (.ireturn, 1) := by decide +kernel
theorem dX8_judge_17 : decode cX8_judge 17 = .ok (.aload_n 2, 1) := by decide +kernel
theorem dX8_judge_18 : decode cX8_judge 18 = .ok (.getfield 215, 3) := by decide +kernel
theorem dX8_judge_21 : decode cX8_judge 21 = .ok (.ifCond .ne 10, 3) := by decide +kernel
theorem dX8_judge_24 : decode cX8_judge 24 = .ok (.aload_n 0, 1) := by decide +kernel
theorem dX8_judge_25 : decode cX8_judge 25 = .ok (.ldc 190, 2) := by decide +kernel
theorem dX8_judge_27 : decode cX8_judge 27 = .ok (.invokevirtual 59, 3) := by decide +kernel
theorem dX8_judge_30 : decode cX8_judge 30 = .ok (.ireturn, 1) := by decide +kernel
theorem dX8_judge_31 : decode cX8_judge 31 = .ok (.aload_n 2, 1) := by decide +kernel
theorem dX8_judge_32 : decode cX8_judge 32 = .ok (.getfield 218, 3) := by decide +kernel
theorem dX8_judge_35 : decode cX8_judge 35 = .ok (.getfield 143, 3) := by decide +kernel
theorem dX8_judge_38 : decode cX8_judge 38 = .ok (.aload_n 0, 1) := by decide +kernel
theorem dX8_judge_39 : decode cX8_judge 39 = .ok (.getfield 12, 3) := by decide +kernel
theorem dX8_judge_42 : decode cX8_judge 42 = .ok (.getfield 191, 3) := by decide +kernel
theorem dX8_judge_45 : decode cX8_judge 45 = .ok (.invokestatic 262, 3) := by decide +kernel
theorem dX8_judge_48 : decode cX8_judge 48 = .ok (.istore_n 3, 1) := by decide +kernel
theorem dX8_judge_49 : decode cX8_judge 49 = .ok (.iconst 0, 1) := by decide +kernel
theorem dX8_judge_50 : decode cX8_judge 50 = .ok (.istore 4, 2) := by decide +kernel
theorem dX8_judge_52 : decode cX8_judge 52 = .ok (.iload 4, 2) := by decide +kernel
theorem dX8_judge_54 : decode cX8_judge 54 = .ok (.iload_n 3, 1) := by decide +kernel
theorem dX8_judge_55 : decode cX8_judge 55 = .ok (.if_icmp .ge 45, 3) := by decide +kernel
theorem dX8_judge_58 : decode cX8_judge 58 = .ok (.aload_n 0, 1) := by decide +kernel
theorem dX8_judge_59 : decode cX8_judge 59 = .ok (.getfield 12, 3) := by decide +kernel
theorem dX8_judge_62 : decode cX8_judge 62 = .ok (.iload 4, 2) := by decide +kernel
theorem dX8_judge_64 : decode cX8_judge 64 = .ok (.invokevirtual 91, 3) := by decide +kernel
theorem dX8_judge_67 : decode cX8_judge 67 = .ok (.astore 5, 2) := by decide +kernel
theorem dX8_judge_69 : decode cX8_judge 69 = .ok (.aload 5, 2) := by decide +kernel
theorem dX8_judge_71 : decode cX8_judge 71 = .ok (.ifnull 20, 3) := by decide +kernel
theorem dX8_judge_74 : decode cX8_judge 74 = .ok (.aload 5, 2) := by decide +kernel
theorem dX8_judge_76 : decode cX8_judge 76 = .ok (.getfield 106, 3) := by decide +kernel
theorem dX8_judge_79 : decode cX8_judge 79 = .ok (.aload_n 2, 1) := by decide +kernel
theorem dX8_judge_80 : decode cX8_judge 80 = .ok (.getfield 218, 3) := by decide +kernel
theorem dX8_judge_83 : decode cX8_judge 83 = .ok (.iload 4, 2) := by decide +kernel
theorem dX8_judge_85 : decode cX8_judge 85 = .ok (.invokevirtual 221, 3) := by decide +kernel
theorem dX8_judge_88 : decode cX8_judge 88 = .ok (.if_icmp .eq 6, 3) := by decide +kernel
theorem dX8_judge_91 : decode cX8_judge 91 = .ok (.iload 4, 2) := by decide +kernel
theorem dX8_judge_93 : decode cX8_judge 93 = .ok (.ireturn, 1) := by decide +kernel
theorem dX8_judge_94 : decode cX8_judge 94 = .ok (.iinc 4 1, 3) := by decide +kernel
theorem dX8_judge_97 : decode cX8_judge 97 = .ok (.goto (-45), 3) := by decide +kernel
theorem dX8_judge_100 : decode cX8_judge 100 = .ok (.aload_n 2, 1) := by decide +kernel
theorem dX8_judge_101 : decode cX8_judge 101 = .ok (.getfield 218, 3) := by decide +kernel
theorem dX8_judge_104 : decode cX8_judge 104 = .ok (.getfield 143, 3) := by decide +kernel
theorem dX8_judge_107 : decode cX8_judge 107 = .ok (.aload_n 0, 1) := by decide +kernel
theorem dX8_judge_108 : decode cX8_judge 108 = .ok (.getfield 12, 3) := by decide +kernel
theorem dX8_judge_111 : decode cX8_judge 111 = .ok (.getfield 191, 3) := by decide +kernel
theorem dX8_judge_114 : decode cX8_judge 114 = .ok (.if_icmp .ne 7, 3) := by decide +kernel
theorem dX8_judge_117 : decode cX8_judge 117 = .ok (.iconst (-1), 1) := by decide +kernel
theorem dX8_judge_118 : decode cX8_judge 118 = .ok (.goto 4, 3) := by decide +kernel
theorem dX8_judge_121 : decode cX8_judge 121 = .ok (.iload_n 3, 1) := by decide +kernel
theorem dX8_judge_122 : decode cX8_judge 122 = .ok (.ireturn, 1) := by decide +kernel
theorem dX8_image_0 : decode cX8_image 0 = .ok (.aload_n 0, 1) := by decide +kernel
theorem dX8_image_1 : decode cX8_image 1 = .ok (.getfield 16, 3) := by decide +kernel
theorem dX8_image_4 : decode cX8_image 4 = .ok (.aload_n 0, 1) := by decide +kernel
theorem dX8_image_5 : decode cX8_image 5 = .ok (.getfield 12, 3) := by decide +kernel
theorem dX8_image_8 : decode cX8_image 8 = .ok (.invokevirtual 187, 3) := by decide +kernel
theorem dX8_image_11 : decode cX8_image 11 = .ok (.aload_n 0, 1) := by decide +kernel
theorem dX8_image_12 : decode cX8_image 12 = .ok (.dup, 1) := by decide +kernel
theorem dX8_image_13 : decode cX8_image 13 = .ok (.getfield 267, 3) := by decide +kernel
theorem dX8_image_16 : decode cX8_image 16 = .ok (.iconst 1, 1) := by decide +kernel
theorem dX8_image_17 : decode cX8_image 17 = .ok (.iadd, 1) := by decide +kernel
theorem dX8_image_18 : decode cX8_image 18 = .ok (.putfield 267, 3) := by decide +kernel
theorem dX8_image_21 : decode cX8_image 21 = .ok (.aload_n 0, 1) := by decide +kernel
theorem dX8_image_22 : decode cX8_image 22 = .ok (.getfield 267, 3) := by decide +kernel
theorem dX8_image_25 : decode cX8_image 25 = .ok (.ireturn, 1) := by decide +kernel
theorem dX8_restore_0 : decode cX8_restore 0 = .ok (.aload_n 0, 1) := by decide +kernel
theorem dX8_restore_1 : decode cX8_restore 1 = .ok (.getfield 267, 3) := by decide +kernel
theorem dX8_restore_4 : decode cX8_restore 4 = .ok (.ifCond .ne 10, 3) := by decide +kernel
theorem dX8_restore_7 : decode cX8_restore 7 = .ok (.aload_n 0, 1) := by decide +kernel
theorem dX8_restore_8 : decode cX8_restore 8 = .ok (.ldc 190, 2) := by decide +kernel
theorem dX8_restore_10 : decode cX8_restore 10 = .ok (.invokevirtual 59, 3) := by decide +kernel
theorem dX8_restore_13 : decode cX8_restore 13 = .ok (.ireturn, 1) := by decide +kernel
theorem dX8_restore_14 : decode cX8_restore 14 = .ok (.aload_n 0, 1) := by decide +kernel
theorem dX8_restore_15 : decode cX8_restore 15 = .ok (.getfield 12, 3) := by decide +kernel
theorem dX8_restore_18 : decode cX8_restore 18 = .ok (.aload_n 0, 1) := by decide +kernel
theorem dX8_restore_19 : decode cX8_restore 19 = .ok (.getfield 16, 3) := by decide +kernel
theorem dX8_restore_22 : decode cX8_restore 22 = .ok (.invokevirtual 187, 3) := by decide +kernel
theorem dX8_restore_25 : decode cX8_restore 25 = .ok (.aload_n 0, 1) := by decide +kernel
theorem dX8_restore_26 : decode cX8_restore 26 = .ok (.getfield 12, 3) := by decide +kernel
theorem dX8_restore_29 : decode cX8_restore 29 = .ok (.getfield 63, 3) := by decide +kernel
theorem dX8_restore_32 : decode cX8_restore 32 = .ok (.ireturn, 1) := by decide +kernel
theorem dX8_tell_0 : decode cX8_tell 0 = .ok (.aload_n 0, 1) := by decide +kernel
theorem dX8_tell_1 : decode cX8_tell 1 = .ok (.getfield 12, 3) := by decide +kernel
theorem dX8_tell_4 : decode cX8_tell 4 = .ok (.getfield 270, 3) := by decide +kernel
theorem dX8_tell_7 : decode cX8_tell 7 = .ok (.iload_n 1, 1) := by decide +kernel
theorem dX8_tell_8 : decode cX8_tell 8 = .ok (.invokevirtual 150, 3) := by decide +kernel
theorem dX8_tell_11 : decode cX8_tell 11 = .ok (.ifCond .eq 16, 3) := by decide +kernel
theorem dX8_tell_14 : decode cX8_tell 14 = .ok (.aload_n 0, 1) := by decide +kernel
theorem dX8_tell_15 : decode cX8_tell 15 = .ok (.getfield 12, 3) := by decide +kernel
theorem dX8_tell_18 : decode cX8_tell 18 = .ok (.getfield 270, 3) := by decide +kernel
theorem dX8_tell_21 : decode cX8_tell 21 = .ok (.getfield 143, 3) := by decide +kernel
theorem dX8_tell_24 : decode cX8_tell 24 = .ok (.goto 9, 3) := by decide +kernel
theorem dX8_tell_27 : decode cX8_tell 27 = .ok (.aload_n 0, 1) := by decide +kernel
theorem dX8_tell_28 : decode cX8_tell 28 = .ok (.ldc 90, 2) := by decide +kernel
theorem dX8_tell_30 : decode cX8_tell 30 = .ok (.invokevirtual 59, 3) := by decide +kernel
theorem dX8_tell_33 : decode cX8_tell 33 = .ok (.ireturn, 1) := by decide +kernel
theorem dX8_check_0 : decode cX8_check 0 = .ok (.iconst 0, 1) := by decide +kernel
theorem dX8_check_1 : decode cX8_check 1 = .ok (.istore_n 1, 1) := by decide +kernel
theorem dX8_check_2 : decode cX8_check 2 = .ok (.iconst 0, 1) := by decide +kernel
theorem dX8_check_3 : decode cX8_check 3 = .ok (.istore_n 2, 1) := by decide +kernel
theorem dX8_check_4 : decode cX8_check 4 = .ok (.iload_n 2, 1) := by decide +kernel
theorem dX8_check_5 : decode cX8_check 5 = .ok (.aload_n 0, 1) := by decide +kernel
theorem dX8_check_6 : decode cX8_check 6 = .ok (.getfield 12, 3) := by decide +kernel
theorem dX8_check_9 : decode cX8_check 9 = .ok (.getfield 270, 3) := by decide +kernel
theorem dX8_check_12 : decode cX8_check 12 = .ok (.getfield 143, 3) := by decide +kernel
theorem dX8_check_15 : decode cX8_check 15 = .ok (.if_icmp .ge 50, 3) := by decide +kernel
theorem dX8_check_18 : decode cX8_check 18 = .ok (.iload_n 1, 1) := by decide +kernel
theorem dX8_check_19 : decode cX8_check 19 = .ok (.ifCond .ne 46, 3) := by decide +kernel
theorem dX8_check_22 : decode cX8_check 22 = .ok (.aload_n 0, 1) := by decide +kernel
theorem dX8_check_23 : decode cX8_check 23 = .ok (.getfield 12, 3) := by decide +kernel
theorem dX8_check_26 : decode cX8_check 26 = .ok (.getfield 270, 3) := by decide +kernel
theorem dX8_check_29 : decode cX8_check 29 = .ok (.iload_n 2, 1) := by decide +kernel
theorem dX8_check_30 : decode cX8_check 30 = .ok (.invokevirtual 221, 3) := by decide +kernel
theorem dX8_check_33 : decode cX8_check 33 = .ok (.aload_n 0, 1) := by decide +kernel
theorem dX8_check_34 : decode cX8_check 34 = .ok (.getfield 12, 3) := by decide +kernel
theorem dX8_check_37 : decode cX8_check 37 = .ok (.aload_n 0, 1) := by decide +kernel
theorem dX8_check_38 : decode cX8_check 38 = .ok (.getfield 12, 3) := by decide +kernel
theorem dX8_check_41 : decode cX8_check 41 = .ok (.getfield 63, 3) := by decide +kernel
theorem dX8_check_44 : decode cX8_check 44 = .ok (.iload_n 2, 1) := by decide +kernel
theorem dX8_check_45 : decode cX8_check 45 = .ok (.iadd, 1) := by decide +kernel
theorem dX8_check_46 : decode cX8_check 46 = .ok (.invokevirtual 70, 3) := by decide +kernel
theorem dX8_check_49 : decode cX8_check 49 = .ok (.invokestatic 197, 3) := by decide +kernel
theorem dX8_check_52 : decode cX8_check 52 = .ok (.if_icmp .eq 7, 3) := by decide +kernel
theorem dX8_check_55 : decode cX8_check 55 = .ok (.iconst 1, 1) := by decide +kernel
theorem dX8_check_56 : decode cX8_check 56 = .ok (.iload_n 2, 1) := by decide +kernel
theorem dX8_check_57 : decode cX8_check 57 = .ok (.iadd, 1) := by decide +kernel
theorem dX8_check_58 : decode cX8_check 58 = .ok (.istore_n 1, 1) := by decide +kernel
theorem dX8_check_59 : decode cX8_check 59 = .ok (.iinc 2 1, 3) := by decide +kernel
theorem dX8_check_62 : decode cX8_check 62 = .ok (.goto (-58), 3) := by decide +kernel
theorem dX8_check_65 : decode cX8_check 65 = .ok (.aload_n 0, 1) := by decide +kernel
theorem dX8_check_66 : decode cX8_check 66 = .ok (.getfield 12, 3) := by decide +kernel
theorem dX8_check_69 : decode cX8_check 69 = .ok (.getfield 270, 3) := by decide +kernel
theorem dX8_check_72 : decode cX8_check 72 = .ok (.invokevirtual 160, 3) := by decide +kernel
theorem dX8_check_75 : decode cX8_check 75 = .ok (.iload_n 1, 1) := by decide +kernel
theorem dX8_check_76 : decode cX8_check 76 = .ok (.ireturn, 1) := by decide +kernel
theorem dX8_count_0 : decode cX8_count 0 = .ok (.iload_n 1, 1) := by decide +kernel
theorem dX8_count_1 : decode cX8_count 1 = .ok (.tableswitch 173 0 10 #[59, 67, 75, 86, 94, 106, 124, 132, 143, 154, 165], 59) := by decide +kernel
theorem dX8_count_60 : decode cX8_count 60 = .ok (.aload_n 0, 1) := by decide +kernel
theorem dX8_count_61 : decode cX8_count 61 = .ok (.getfield 12, 3) := by decide +kernel
theorem dX8_count_64 : decode cX8_count 64 = .ok (.getfield 191, 3) := by decide +kernel
theorem dX8_count_67 : decode cX8_count 67 = .ok (.ireturn, 1) := by decide +kernel
theorem dX8_count_68 : decode cX8_count 68 = .ok (.aload_n 0, 1) := by decide +kernel
theorem dX8_count_69 : decode cX8_count 69 = .ok (.getfield 12, 3) := by decide +kernel
theorem dX8_count_72 : decode cX8_count 72 = .ok (.getfield 63, 3) := by decide +kernel
theorem dX8_count_75 : decode cX8_count 75 = .ok (.ireturn, 1) := by decide +kernel
theorem dX8_count_76 : decode cX8_count 76 = .ok (.aload_n 0, 1) := by decide +kernel
theorem dX8_count_77 : decode cX8_count 77 = .ok (.getfield 12, 3) := by decide +kernel
theorem dX8_count_80 : decode cX8_count 80 = .ok (.getfield 63, 3) := by decide +kernel
theorem dX8_count_83 : decode cX8_count 83 = .ok (.bipush 16, 2) := by decide +kernel
theorem dX8_count_85 : decode cX8_count 85 = .ok (.irem, 1) := by decide +kernel
theorem dX8_count_86 : decode cX8_count 86 = .ok (.ireturn, 1) := by decide +kernel
theorem dX8_count_87 : decode cX8_count 87 = .ok (.aload_n 0, 1) := by decide +kernel
theorem dX8_count_88 : decode cX8_count 88 = .ok (.getfield 12, 3) := by decide +kernel
theorem dX8_count_91 : decode cX8_count 91 = .ok (.getfield 79, 3) := by decide +kernel
theorem dX8_count_94 : decode cX8_count 94 = .ok (.ireturn, 1) := by decide +kernel
theorem dX8_count_95 : decode cX8_count 95 = .ok (.aload_n 0, 1) := by decide +kernel
theorem dX8_count_96 : decode cX8_count 96 = .ok (.getfield 12, 3) := by decide +kernel
theorem dX8_count_99 : decode cX8_count 99 = .ok (.iconst (-1), 1) := by decide +kernel
theorem dX8_count_100 : decode cX8_count 100 = .ok (.invokevirtual 208, 3) := by decide +kernel
theorem dX8_count_103 : decode cX8_count 103 = .ok (.invokestatic 197, 3) := by decide +kernel
theorem dX8_count_106 : decode cX8_count 106 = .ok (.ireturn, 1) := by decide +kernel
theorem dX8_count_107 : decode cX8_count 107 = .ok (.aload_n 0, 1) := by decide +kernel
theorem dX8_count_108 : decode cX8_count 108 = .ok (.getfield 12, 3) := by decide +kernel
theorem dX8_count_111 : decode cX8_count 111 = .ok (.aload_n 0, 1) := by decide +kernel
theorem dX8_count_112 : decode cX8_count 112 = .ok (.getfield 12, 3) := by decide +kernel
theorem dX8_count_115 : decode cX8_count 115 = .ok (.getfield 63, 3) := by decide +kernel
theorem dX8_count_118 : decode cX8_count 118 = .ok (.invokevirtual 70, 3) := by decide +kernel
theorem dX8_count_121 : decode cX8_count 121 = .ok (.invokestatic 197, 3) := by decide +kernel
theorem dX8_count_124 : decode cX8_count 124 = .ok (.ireturn, 1) := by decide +kernel
theorem dX8_count_125 : decode cX8_count 125 = .ok (.aload_n 0, 1) := by decide +kernel
theorem dX8_count_126 : decode cX8_count 126 = .ok (.getfield 12, 3) := by decide +kernel
theorem dX8_count_129 : decode cX8_count 129 = .ok (.invokevirtual 135, 3) := by decide +kernel
theorem dX8_count_132 : decode cX8_count 132 = .ok (.ireturn, 1) := by decide +kernel
theorem dX8_count_133 : decode cX8_count 133 = .ok (.aload_n 0, 1) := by decide +kernel
theorem dX8_count_134 : decode cX8_count 134 = .ok (.getfield 12, 3) := by decide +kernel
theorem dX8_count_137 : decode cX8_count 137 = .ok (.getfield 139, 3) := by decide +kernel
theorem dX8_count_140 : decode cX8_count 140 = .ok (.getfield 143, 3) := by decide +kernel
theorem dX8_count_143 : decode cX8_count 143 = .ok (.ireturn, 1) := by decide +kernel
theorem dX8_count_144 : decode cX8_count 144 = .ok (.aload_n 0, 1) := by decide +kernel
theorem dX8_count_145 : decode cX8_count 145 = .ok (.getfield 12, 3) := by decide +kernel
theorem dX8_count_148 : decode cX8_count 148 = .ok (.getfield 270, 3) := by decide +kernel
theorem dX8_count_151 : decode cX8_count 151 = .ok (.getfield 143, 3) := by decide +kernel
theorem dX8_count_154 : decode cX8_count 154 = .ok (.ireturn, 1) := by decide +kernel
theorem dX8_count_155 : decode cX8_count 155 = .ok (.aload_n 0, 1) := by decide +kernel
theorem dX8_count_156 : decode cX8_count 156 = .ok (.getfield 32, 3) := by decide +kernel
theorem dX8_count_159 : decode cX8_count 159 = .ok (.getfield 242, 3) := by decide +kernel
theorem dX8_count_162 : decode cX8_count 162 = .ok (.getfield 143, 3) := by decide +kernel
theorem dX8_count_165 : decode cX8_count 165 = .ok (.ireturn, 1) := by decide +kernel
theorem dX8_count_166 : decode cX8_count 166 = .ok (.aload_n 0, 1) := by decide +kernel
theorem dX8_count_167 : decode cX8_count 167 = .ok (.getfield 12, 3) := by decide +kernel
theorem dX8_count_170 : decode cX8_count 170 = .ok (.getfield 235, 3) := by decide +kernel
theorem dX8_count_173 : decode cX8_count 173 = .ok (.ireturn, 1) := by decide +kernel
theorem dX8_count_174 : decode cX8_count 174 = .ok (.aload_n 0, 1) := by decide +kernel
theorem dX8_count_175 : decode cX8_count 175 = .ok (.ldc 58, 2) := by decide +kernel
theorem dX8_count_177 : decode cX8_count 177 = .ok (.invokevirtual 59, 3) := by decide +kernel
theorem dX8_count_180 : decode cX8_count 180 = .ok (.ireturn, 1) := by decide +kernel
theorem dX8_told_0 : decode cX8_told 0 = .ok (.iload_n 1, 1) := by decide +kernel
theorem dX8_told_1 : decode cX8_told 1 = .ok (.iconst 1, 1) := by decide +kernel
theorem dX8_told_2 : decode cX8_told 2 = .ok (.aload_n 0, 1) := by decide +kernel
theorem dX8_told_3 : decode cX8_told 3 = .ok (.getfield 49, 3) := by decide +kernel
theorem dX8_told_6 : decode cX8_told 6 = .ok (.arraylength, 1) := by decide +kernel
theorem dX8_told_7 : decode cX8_told 7 = .ok (.iconst 1, 1) := by decide +kernel
theorem dX8_told_8 : decode cX8_told 8 = .ok (.isub, 1) := by decide +kernel
theorem dX8_told_9 : decode cX8_told 9 = .ok (.invokestatic 54, 3) := by decide +kernel
theorem dX8_told_12 : decode cX8_told 12 = .ok (.ifCond .eq 10, 3) := by decide +kernel
theorem dX8_told_15 : decode cX8_told 15 = .ok (.aload_n 0, 1) := by decide +kernel
theorem dX8_told_16 : decode cX8_told 16 = .ok (.ldc 58, 2) := by decide +kernel
theorem dX8_told_18 : decode cX8_told 18 = .ok (.invokevirtual 59, 3) := by decide +kernel
theorem dX8_told_21 : decode cX8_told 21 = .ok (.ireturn, 1) := by decide +kernel
theorem dX8_told_22 : decode cX8_told 22 = .ok (.aload_n 0, 1) := by decide +kernel
theorem dX8_told_23 : decode cX8_told 23 = .ok (.getfield 49, 3) := by decide +kernel
theorem dX8_told_26 : decode cX8_told 26 = .ok (.iload_n 1, 1) := by decide +kernel
theorem dX8_told_27 : decode cX8_told 27 = .ok (.iaload, 1) := by decide +kernel
theorem dX8_told_28 : decode cX8_told 28 = .ok (.ireturn, 1) := by decide +kernel
theorem dX8_fail_0 : decode cX8_fail 0 = .ok (.ldc_w 273, 3) := by decide +kernel
theorem dX8_fail_3 : decode cX8_fail 3 = .ok (.iload_n 1, 1) := by decide +kernel
theorem dX8_fail_4 : decode cX8_fail 4 = .ok (.isub, 1) := by decide +kernel
theorem dX8_fail_5 : decode cX8_fail 5 = .ok (.istore_n 2, 1) := by decide +kernel
theorem dX8_fail_6 : decode cX8_fail 6 = .ok (.iload_n 2, 1) := by decide +kernel
theorem dX8_fail_7 : decode cX8_fail 7 = .ok (.ifCond .lt 22, 3) := by decide +kernel
theorem dX8_fail_10 : decode cX8_fail 10 = .ok (.iload_n 2, 1) := by decide +kernel
theorem dX8_fail_11 : decode cX8_fail 11 = .ok (.aload_n 0, 1) := by decide +kernel
theorem dX8_fail_12 : decode cX8_fail 12 = .ok (.getfield 49, 3) := by decide +kernel
theorem dX8_fail_15 : decode cX8_fail 15 = .ok (.arraylength, 1) := by decide +kernel
theorem dX8_fail_16 : decode cX8_fail 16 = .ok (.if_icmp .ge 13, 3) := by decide +kernel
theorem dX8_fail_19 : decode cX8_fail 19 = .ok (.aload_n 0, 1) := by decide +kernel
theorem dX8_fail_20 : decode cX8_fail 20 = .ok (.getfield 49, 3) := by decide +kernel
theorem dX8_fail_23 : decode cX8_fail 23 = .ok (.iload_n 2, 1) := by decide +kernel
theorem dX8_fail_24 : decode cX8_fail 24 = .ok (.dup2, 1) := by decide +kernel
theorem dX8_fail_25 : decode cX8_fail 25 = .ok (.iaload, 1) := by decide +kernel
theorem dX8_fail_26 : decode cX8_fail 26 = .ok (.iconst 1, 1) := by decide +kernel
theorem dX8_fail_27 : decode cX8_fail 27 = .ok (.iadd, 1) := by decide +kernel
theorem dX8_fail_28 : decode cX8_fail 28 = .ok (.iastore, 1) := by decide +kernel
theorem dX8_fail_29 : decode cX8_fail 29 = .ok (.iload_n 1, 1) := by decide +kernel
theorem dX8_fail_30 : decode cX8_fail 30 = .ok (.ireturn, 1) := by decide +kernel
theorem dX8_findSheet_0 : decode cX8_findSheet 0 = .ok (.iload_n 1, 1) := by decide +kernel
theorem dX8_findSheet_1 : decode cX8_findSheet 1 = .ok (.ifCond .lt 12, 3) := by decide +kernel
theorem dX8_findSheet_4 : decode cX8_findSheet 4 = .ok (.iload_n 1, 1) := by decide +kernel
theorem dX8_findSheet_5 : decode cX8_findSheet 5 = .ok (.aload_n 0, 1) := by decide +kernel
theorem dX8_findSheet_6 : decode cX8_findSheet 6 = .ok (.getfield 45, 3) := by decide +kernel
theorem dX8_findSheet_9 : decode cX8_findSheet 9 = .ok (.arraylength, 1) := by decide +kernel
theorem dX8_findSheet_10 : decode cX8_findSheet 10 = .ok (.if_icmp .lt 7, 3) := by decide +kernel
theorem dX8_findSheet_13 : decode cX8_findSheet 13 = .ok (.aconst_null, 1) := by decide +kernel
theorem dX8_findSheet_14 : decode cX8_findSheet 14 = .ok (.goto 9, 3) := by decide +kernel
theorem dX8_findSheet_17 : decode cX8_findSheet 17 = .ok (.aload_n 0, 1) := by decide +kernel
theorem dX8_findSheet_18 : decode cX8_findSheet 18 = .ok (.getfield 45, 3) := by decide +kernel
theorem dX8_findSheet_21 : decode cX8_findSheet 21 = .ok (.iload_n 1, 1) := by decide +kernel
theorem dX8_findSheet_22 : decode cX8_findSheet 22 = .ok (.aaload, 1) := by decide +kernel
theorem dX8_findSheet_23 : decode cX8_findSheet 23 = .ok (.areturn, 1) := by decide +kernel
theorem dX8_isOutside_0 : decode cX8_isOutside 0 = .ok (.iload_n 0, 1) := by decide +kernel
theorem dX8_isOutside_1 : decode cX8_isOutside 1 = .ok (.iload_n 1, 1) := by decide +kernel
theorem dX8_isOutside_2 : decode cX8_isOutside 2 = .ok (.if_icmp .lt 8, 3) := by decide +kernel
theorem dX8_isOutside_5 : decode cX8_isOutside 5 = .ok (.iload_n 0, 1) := by decide +kernel
theorem dX8_isOutside_6 : decode cX8_isOutside 6 = .ok (.iload_n 2, 1) := by decide +kernel
theorem dX8_isOutside_7 : decode cX8_isOutside 7 = .ok (.if_icmp .le 7, 3) := by decide +kernel
theorem dX8_isOutside_10 : decode cX8_isOutside 10 = .ok (.iconst 1, 1) := by decide +kernel
theorem dX8_isOutside_11 : decode cX8_isOutside 11 = .ok (.goto 4, 3) := by decide +kernel
theorem dX8_isOutside_14 : decode cX8_isOutside 14 = .ok (.iconst 0, 1) := by decide +kernel
theorem dX8_isOutside_15 : decode cX8_isOutside 15 = .ok (.ireturn, 1) := by decide +kernel
theorem dX8_isNoKind_0 : decode cX8_isNoKind 0 = .ok (.iload_n 0, 1) := by decide +kernel
theorem dX8_isNoKind_1 : decode cX8_isNoKind 1 = .ok (.ifCond .lt 14, 3) := by decide +kernel
theorem dX8_isNoKind_4 : decode cX8_isNoKind 4 = .ok (.iload_n 0, 1) := by decide +kernel
theorem dX8_isNoKind_5 : decode cX8_isNoKind 5 = .ok (.bipush 10, 2) := by decide +kernel
theorem dX8_isNoKind_7 : decode cX8_isNoKind 7 = .ok (.getstatic 123, 3) := by decide +kernel
theorem dX8_isNoKind_10 : decode cX8_isNoKind 10 = .ok (.arraylength, 1) := by decide +kernel
theorem dX8_isNoKind_11 : decode cX8_isNoKind 11 = .ok (.imul, 1) := by decide +kernel
theorem dX8_isNoKind_12 : decode cX8_isNoKind 12 = .ok (.if_icmp .lt 7, 3) := by decide +kernel
theorem dX8_isNoKind_15 : decode cX8_isNoKind 15 = .ok (.iconst 1, 1) := by decide +kernel
theorem dX8_isNoKind_16 : decode cX8_isNoKind 16 = .ok (.goto 4, 3) := by decide +kernel
theorem dX8_isNoKind_19 : decode cX8_isNoKind 19 = .ok (.iconst 0, 1) := by decide +kernel
theorem dX8_isNoKind_20 : decode cX8_isNoKind 20 = .ok (.ireturn, 1) := by decide +kernel
theorem dX8_isNoUse_0 : decode cX8_isNoUse 0 = .ok (.iload_n 0, 1) := by decide +kernel
theorem dX8_isNoUse_1 : decode cX8_isNoUse 1 = .ok (.ifCond .eq 12, 3) := by decide +kernel
theorem dX8_isNoUse_4 : decode cX8_isNoUse 4 = .ok (.iload_n 0, 1) := by decide +kernel
theorem dX8_isNoUse_5 : decode cX8_isNoUse 5 = .ok (.iconst 1, 1) := by decide +kernel
theorem dX8_isNoUse_6 : decode cX8_isNoUse 6 = .ok (.if_icmp .eq 7, 3) := by decide +kernel
theorem dX8_isNoUse_9 : decode cX8_isNoUse 9 = .ok (.iconst 1, 1) := by decide +kernel
theorem dX8_isNoUse_10 : decode cX8_isNoUse 10 = .ok (.goto 4, 3) := by decide +kernel
theorem dX8_isNoUse_13 : decode cX8_isNoUse 13 = .ok (.iconst 0, 1) := by decide +kernel
theorem dX8_isNoUse_14 : decode cX8_isNoUse 14 = .ok (.ireturn, 1) := by decide +kernel
theorem dX8_isNoSet_0 : decode cX8_isNoSet 0 = .ok (.iload_n 0, 1) := by decide +kernel
theorem dX8_isNoSet_1 : decode cX8_isNoSet 1 = .ok (.ifCond .lt 9, 3) := by decide +kernel
theorem dX8_isNoSet_4 : decode cX8_isNoSet 4 = .ok (.iload_n 0, 1) := by decide +kernel
theorem dX8_isNoSet_5 : decode cX8_isNoSet 5 = .ok (.ldc 234, 2) := by decide +kernel
theorem dX8_isNoSet_7 : decode cX8_isNoSet 7 = .ok (.if_icmp .le 7, 3) := by decide +kernel
theorem dX8_isNoSet_10 : decode cX8_isNoSet 10 = .ok (.iconst 1, 1) := by decide +kernel
theorem dX8_isNoSet_11 : decode cX8_isNoSet 11 = .ok (.goto 4, 3) := by decide +kernel
theorem dX8_isNoSet_14 : decode cX8_isNoSet 14 = .ok (.iconst 0, 1) := by decide +kernel
theorem dX8_isNoSet_15 : decode cX8_isNoSet 15 = .ok (.ireturn, 1) := by decide +kernel
theorem dX8_isUnder_0 : decode cX8_isUnder 0 = .ok (.iload_n 0, 1) := by decide +kernel
theorem dX8_isUnder_1 : decode cX8_isUnder 1 = .ok (.istore_n 2, 1) := by decide +kernel
theorem dX8_isUnder_2 : decode cX8_isUnder 2 = .ok (.iconst 0, 1) := by decide +kernel
theorem dX8_isUnder_3 : decode cX8_isUnder 3 = .ok (.istore_n 3, 1) := by decide +kernel
theorem dX8_isUnder_4 : decode cX8_isUnder 4 = .ok (.iload_n 3, 1) := by decide +kernel
theorem dX8_isUnder_5 : decode cX8_isUnder 5 = .ok (.getstatic 123, 3) := by decide +kernel
theorem dX8_isUnder_8 : decode cX8_isUnder 8 = .ok (.arraylength, 1) := by decide +kernel
theorem dX8_isUnder_9 : decode cX8_isUnder 9 = .ok (.if_icmp .ge 34, 3) := by decide +kernel
theorem dX8_isUnder_12 : decode cX8_isUnder 12 = .ok (.iload_n 2, 1) := by decide +kernel
theorem dX8_isUnder_13 : decode cX8_isUnder 13 = .ok (.ifCond .lt 30, 3) := by decide +kernel
theorem dX8_isUnder_16 : decode cX8_isUnder 16 = .ok (.iload_n 2, 1) := by decide +kernel
theorem dX8_isUnder_17 : decode cX8_isUnder 17 = .ok (.getstatic 123, 3) := by decide +kernel
theorem dX8_isUnder_20 : decode cX8_isUnder 20 = .ok (.arraylength, 1) := by decide +kernel
theorem dX8_isUnder_21 : decode cX8_isUnder 21 = .ok (.if_icmp .ge 22, 3) := by decide +kernel
theorem dX8_isUnder_24 : decode cX8_isUnder 24 = .ok (.iload_n 2, 1) := by decide +kernel
theorem dX8_isUnder_25 : decode cX8_isUnder 25 = .ok (.iload_n 1, 1) := by decide +kernel
theorem dX8_isUnder_26 : decode cX8_isUnder 26 = .ok (.if_icmp .ne 5, 3) := by decide +kernel
theorem dX8_isUnder_29 : decode cX8_isUnder 29 = .ok (.iconst 1, 1) := by decide +kernel
theorem dX8_isUnder_30 : decode cX8_isUnder 30 = .ok (.ireturn, 1) := by decide +kernel
theorem dX8_isUnder_31 : decode cX8_isUnder 31 = .ok (.getstatic 123, 3) := by decide +kernel
theorem dX8_isUnder_34 : decode cX8_isUnder 34 = .ok (.iload_n 2, 1) := by decide +kernel
theorem dX8_isUnder_35 : decode cX8_isUnder 35 = .ok (.iaload, 1) := by decide +kernel
theorem dX8_isUnder_36 : decode cX8_isUnder 36 = .ok (.istore_n 2, 1) := by decide +kernel
theorem dX8_isUnder_37 : decode cX8_isUnder 37 = .ok (.iinc 3 1, 3) := by decide +kernel
theorem dX8_isUnder_40 : decode cX8_isUnder 40 = .ok (.goto (-36), 3) := by decide +kernel
theorem dX8_isUnder_43 : decode cX8_isUnder 43 = .ok (.iconst 0, 1) := by decide +kernel
theorem dX8_isUnder_44 : decode cX8_isUnder 44 = .ok (.ireturn, 1) := by decide +kernel
theorem dX8_litBy_0 : decode cX8_litBy 0 = .ok (.iload_n 0, 1) := by decide +kernel
theorem dX8_litBy_1 : decode cX8_litBy 1 = .ok (.bipush 8, 2) := by decide +kernel
theorem dX8_litBy_3 : decode cX8_litBy 3 = .ok (.if_icmp .gt 18, 3) := by decide +kernel
theorem dX8_litBy_6 : decode cX8_litBy 6 = .ok (.sipush 255, 3) := by decide +kernel
theorem dX8_litBy_9 : decode cX8_litBy 9 = .ok (.bipush 8, 2) := by decide +kernel
theorem dX8_litBy_11 : decode cX8_litBy 11 = .ok (.iload_n 0, 1) := by decide +kernel
theorem dX8_litBy_12 : decode cX8_litBy 12 = .ok (.isub, 1) := by decide +kernel
theorem dX8_litBy_13 : decode cX8_litBy 13 = .ok (.ishl, 1) := by decide +kernel
theorem dX8_litBy_14 : decode cX8_litBy 14 = .ok (.sipush 255, 3) := by decide +kernel
theorem dX8_litBy_17 : decode cX8_litBy 17 = .ok (.iand, 1) := by decide +kernel
theorem dX8_litBy_18 : decode cX8_litBy 18 = .ok (.goto 11, 3) := by decide +kernel
theorem dX8_litBy_21 : decode cX8_litBy 21 = .ok (.sipush 255, 3) := by decide +kernel
theorem dX8_litBy_24 : decode cX8_litBy 24 = .ok (.iload_n 0, 1) := by decide +kernel
theorem dX8_litBy_25 : decode cX8_litBy 25 = .ok (.bipush 8, 2) := by decide +kernel
theorem dX8_litBy_27 : decode cX8_litBy 27 = .ok (.isub, 1) := by decide +kernel
theorem dX8_litBy_28 : decode cX8_litBy 28 = .ok (.ishr, 1) := by decide +kernel
theorem dX8_litBy_29 : decode cX8_litBy 29 = .ok (.istore_n 1, 1) := by decide +kernel
theorem dX8_litBy_30 : decode cX8_litBy 30 = .ok (.iload_n 1, 1) := by decide +kernel
theorem dX8_litBy_31 : decode cX8_litBy 31 = .ok (.ldc_w 274, 3) := by decide +kernel
theorem dX8_litBy_34 : decode cX8_litBy 34 = .ok (.imul, 1) := by decide +kernel
theorem dX8_litBy_35 : decode cX8_litBy 35 = .ok (.ireturn, 1) := by decide +kernel
theorem dX8_besideCells_0 : decode cX8_besideCells 0 = .ok (.iload_n 0, 1) := by decide +kernel
theorem dX8_besideCells_1 : decode cX8_besideCells 1 = .ok (.bipush 8, 2) := by decide +kernel
theorem dX8_besideCells_3 : decode cX8_besideCells 3 = .ok (.ishr, 1) := by decide +kernel
theorem dX8_besideCells_4 : decode cX8_besideCells 4 = .ok (.iload_n 0, 1) := by decide +kernel
theorem dX8_besideCells_5 : decode cX8_besideCells 5 = .ok (.bipush 8, 2) := by decide +kernel
theorem dX8_besideCells_7 : decode cX8_besideCells 7 = .ok (.ishl, 1) := by decide +kernel
theorem dX8_besideCells_8 : decode cX8_besideCells 8 = .ok (.ldc 234, 2) := by decide +kernel
theorem dX8_besideCells_10 : decode cX8_besideCells 10 = .ok (.iand, 1) := by decide +kernel
theorem dX8_besideCells_11 : decode cX8_besideCells 11 = .ok (.ior, 1) := by decide +kernel
theorem dX8_besideCells_12 : decode cX8_besideCells 12 = .ok (.istore_n 1, 1) := by decide +kernel
theorem dX8_besideCells_13 : decode cX8_besideCells 13 = .ok (.iload_n 0, 1) := by decide +kernel
theorem dX8_besideCells_14 : decode cX8_besideCells 14 = .ok (.ldc_w 275, 3) := by decide +kernel
theorem dX8_besideCells_17 : decode cX8_besideCells 17 = .ok (.iand, 1) := by decide +kernel
theorem dX8_besideCells_18 : decode cX8_besideCells 18 = .ok (.iconst 1, 1) := by decide +kernel
theorem dX8_besideCells_19 : decode cX8_besideCells 19 = .ok (.ishl, 1) := by decide +kernel
theorem dX8_besideCells_20 : decode cX8_besideCells 20 = .ok (.iload_n 0, 1) := by decide +kernel
theorem dX8_besideCells_21 : decode cX8_besideCells 21 = .ok (.ldc_w 276, 3) := by decide +kernel
theorem dX8_besideCells_24 : decode cX8_besideCells 24 = .ok (.iand, 1) := by decide +kernel
theorem dX8_besideCells_25 : decode cX8_besideCells 25 = .ok (.iconst 1, 1) := by decide +kernel
theorem dX8_besideCells_26 : decode cX8_besideCells 26 = .ok (.ishr, 1) := by decide +kernel
theorem dX8_besideCells_27 : decode cX8_besideCells 27 = .ok (.ior, 1) := by decide +kernel
theorem dX8_besideCells_28 : decode cX8_besideCells 28 = .ok (.istore_n 2, 1) := by decide +kernel
theorem dX8_besideCells_29 : decode cX8_besideCells 29 = .ok (.iload_n 1, 1) := by decide +kernel
theorem dX8_besideCells_30 : decode cX8_besideCells 30 = .ok (.iload_n 2, 1) := by decide +kernel
theorem dX8_besideCells_31 : decode cX8_besideCells 31 = .ok (.ior, 1) := by decide +kernel
theorem dX8_besideCells_32 : decode cX8_besideCells 32 = .ok (.ireturn, 1) := by decide +kernel
