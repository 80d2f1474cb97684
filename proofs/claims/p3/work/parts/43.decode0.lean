/-! decode rows -/
theorem zd_13_0 : decode (zm_cc 13) 0 = .ok (.aload_n 0, 1) := by decide +kernel
theorem zd_13_1 : decode (zm_cc 13) 1 = .ok (.getfield 84, 3) := by decide +kernel
theorem zd_13_4 : decode (zm_cc 13) 4 = .ok (.ifCond .lt 16, 3) := by decide +kernel
theorem zd_13_7 : decode (zm_cc 13) 7 = .ok (.aload_n 0, 1) := by decide +kernel
theorem zd_13_8 : decode (zm_cc 13) 8 = .ok (.getfield 84, 3) := by decide +kernel
theorem zd_13_11 : decode (zm_cc 13) 11 = .ok (.bipush 20, 2) := by decide +kernel
theorem zd_13_13 : decode (zm_cc 13) 13 = .ok (.iadd, 1) := by decide +kernel
theorem zd_13_14 : decode (zm_cc 13) 14 = .ok (.sipush 1500, 3) := by decide +kernel
theorem zd_13_17 : decode (zm_cc 13) 17 = .ok (.if_icmp .le 13, 3) := by decide +kernel
theorem zd_13_20 : decode (zm_cc 13) 20 = .ok (.new 87, 3) := by decide +kernel
theorem zd_13_30 : decode (zm_cc 13) 30 = .ok (.aload_n 0, 1) := by decide +kernel
theorem zd_13_31 : decode (zm_cc 13) 31 = .ok (.iload_n 1, 1) := by decide +kernel
theorem zd_13_32 : decode (zm_cc 13) 32 = .ok (.invokevirtual 94, 3) := by decide +kernel
theorem zd_13_35 : decode (zm_cc 13) 35 = .ok (.aload_n 0, 1) := by decide +kernel
theorem zd_13_36 : decode (zm_cc 13) 36 = .ok (.iload_n 2, 1) := by decide +kernel
theorem zd_13_37 : decode (zm_cc 13) 37 = .ok (.invokevirtual 94, 3) := by decide +kernel
theorem zd_13_40 : decode (zm_cc 13) 40 = .ok (.aload_n 0, 1) := by decide +kernel
theorem zd_13_41 : decode (zm_cc 13) 41 = .ok (.iload_n 3, 1) := by decide +kernel
theorem zd_13_42 : decode (zm_cc 13) 42 = .ok (.invokevirtual 94, 3) := by decide +kernel
theorem zd_13_45 : decode (zm_cc 13) 45 = .ok (.aload_n 0, 1) := by decide +kernel
theorem zd_13_46 : decode (zm_cc 13) 46 = .ok (.iload 4, 2) := by decide +kernel
theorem zd_13_48 : decode (zm_cc 13) 48 = .ok (.invokevirtual 94, 3) := by decide +kernel
theorem zd_13_51 : decode (zm_cc 13) 51 = .ok (.aload_n 0, 1) := by decide +kernel
theorem zd_13_52 : decode (zm_cc 13) 52 = .ok (.iload 5, 2) := by decide +kernel
theorem zd_13_54 : decode (zm_cc 13) 54 = .ok (.invokevirtual 94, 3) := by decide +kernel
theorem zd_13_57 : decode (zm_cc 13) 57 = .ok (.aload_n 0, 1) := by decide +kernel
theorem zd_13_58 : decode (zm_cc 13) 58 = .ok (.getfield 84, 3) := by decide +kernel
theorem zd_13_61 : decode (zm_cc 13) 61 = .ok (.ireturn, 1) := by decide +kernel
theorem zd_14_0 : decode (zm_cc 14) 0 = .ok (.bipush 24, 2) := by decide +kernel
theorem zd_14_2 : decode (zm_cc 14) 2 = .ok (.istore_n 2, 1) := by decide +kernel
theorem zd_14_3 : decode (zm_cc 14) 3 = .ok (.iload_n 2, 1) := by decide +kernel
theorem zd_14_4 : decode (zm_cc 14) 4 = .ok (.ifCond .lt 42, 3) := by decide +kernel
theorem zd_14_7 : decode (zm_cc 14) 7 = .ok (.aload_n 0, 1) := by decide +kernel
theorem zd_14_8 : decode (zm_cc 14) 8 = .ok (.getfield 84, 3) := by decide +kernel
theorem zd_14_11 : decode (zm_cc 14) 11 = .ok (.sipush 1500, 3) := by decide +kernel
theorem zd_14_14 : decode (zm_cc 14) 14 = .ok (.if_icmp .ge 32, 3) := by decide +kernel
theorem zd_14_17 : decode (zm_cc 14) 17 = .ok (.aload_n 0, 1) := by decide +kernel
theorem zd_14_18 : decode (zm_cc 14) 18 = .ok (.getfield 9, 3) := by decide +kernel
theorem zd_14_21 : decode (zm_cc 14) 21 = .ok (.aload_n 0, 1) := by decide +kernel
theorem zd_14_22 : decode (zm_cc 14) 22 = .ok (.getfield 84, 3) := by decide +kernel
theorem zd_14_25 : decode (zm_cc 14) 25 = .ok (.iload_n 1, 1) := by decide +kernel
theorem zd_14_26 : decode (zm_cc 14) 26 = .ok (.iload_n 2, 1) := by decide +kernel
theorem zd_14_27 : decode (zm_cc 14) 27 = .ok (.iushr, 1) := by decide +kernel
theorem zd_14_28 : decode (zm_cc 14) 28 = .ok (.i2b, 1) := by decide +kernel
theorem zd_14_29 : decode (zm_cc 14) 29 = .ok (.bastore, 1) := by decide +kernel
theorem zd_14_30 : decode (zm_cc 14) 30 = .ok (.aload_n 0, 1) := by decide +kernel
theorem zd_14_31 : decode (zm_cc 14) 31 = .ok (.dup, 1) := by decide +kernel
theorem zd_14_32 : decode (zm_cc 14) 32 = .ok (.getfield 84, 3) := by decide +kernel
theorem zd_14_35 : decode (zm_cc 14) 35 = .ok (.iconst 1, 1) := by decide +kernel
theorem zd_14_36 : decode (zm_cc 14) 36 = .ok (.iadd, 1) := by decide +kernel
theorem zd_14_37 : decode (zm_cc 14) 37 = .ok (.putfield 84, 3) := by decide +kernel
theorem zd_14_40 : decode (zm_cc 14) 40 = .ok (.iinc 2 (-8), 3) := by decide +kernel
theorem zd_14_43 : decode (zm_cc 14) 43 = .ok (.goto (-40), 3) := by decide +kernel
theorem zd_14_46 : decode (zm_cc 14) 46 = .ok (.return_, 1) := by decide +kernel
theorem zd_15_0 : decode (zm_cc 15) 0 = .ok (.aload_n 0, 1) := by decide +kernel
theorem zd_15_1 : decode (zm_cc 15) 1 = .ok (.aload_n 0, 1) := by decide +kernel
theorem zd_15_2 : decode (zm_cc 15) 2 = .ok (.getfield 125, 3) := by decide +kernel
theorem zd_15_5 : decode (zm_cc 15) 5 = .ok (.bipush 20, 2) := by decide +kernel
theorem zd_15_7 : decode (zm_cc 15) 7 = .ok (.iadd, 1) := by decide +kernel
theorem zd_15_8 : decode (zm_cc 15) 8 = .ok (.sipush 1500, 3) := by decide +kernel
theorem zd_15_11 : decode (zm_cc 15) 11 = .ok (.if_icmp .le 7, 3) := by decide +kernel
theorem zd_15_14 : decode (zm_cc 15) 14 = .ok (.iconst 1, 1) := by decide +kernel
theorem zd_15_15 : decode (zm_cc 15) 15 = .ok (.goto 4, 3) := by decide +kernel
theorem zd_15_18 : decode (zm_cc 15) 18 = .ok (.iconst 0, 1) := by decide +kernel
theorem zd_15_19 : decode (zm_cc 15) 19 = .ok (.putfield 1, 3) := by decide +kernel
theorem zd_15_22 : decode (zm_cc 15) 22 = .ok (.aload_n 0, 1) := by decide +kernel
theorem zd_15_23 : decode (zm_cc 15) 23 = .ok (.getfield 1, 3) := by decide +kernel
theorem zd_15_26 : decode (zm_cc 15) 26 = .ok (.ifCond .le 5, 3) := by decide +kernel
theorem zd_15_29 : decode (zm_cc 15) 29 = .ok (.iconst 0, 1) := by decide +kernel
theorem zd_15_30 : decode (zm_cc 15) 30 = .ok (.ireturn, 1) := by decide +kernel
theorem zd_15_31 : decode (zm_cc 15) 31 = .ok (.iconst 0, 1) := by decide +kernel
theorem zd_15_32 : decode (zm_cc 15) 32 = .ok (.istore 6, 2) := by decide +kernel
theorem zd_15_34 : decode (zm_cc 15) 34 = .ok (.iload 6, 2) := by decide +kernel
theorem zd_15_36 : decode (zm_cc 15) 36 = .ok (.bipush 20, 2) := by decide +kernel
theorem zd_15_38 : decode (zm_cc 15) 38 = .ok (.if_icmp .ge 90, 3) := by decide +kernel
theorem zd_15_41 : decode (zm_cc 15) 41 = .ok (.iload 6, 2) := by decide +kernel
theorem zd_15_43 : decode (zm_cc 15) 43 = .ok (.iconst 4, 1) := by decide +kernel
theorem zd_15_44 : decode (zm_cc 15) 44 = .ok (.if_icmp .ge 7, 3) := by decide +kernel
theorem zd_15_47 : decode (zm_cc 15) 47 = .ok (.iload_n 1, 1) := by decide +kernel
theorem zd_15_48 : decode (zm_cc 15) 48 = .ok (.goto 39, 3) := by decide +kernel
theorem zd_15_51 : decode (zm_cc 15) 51 = .ok (.iload 6, 2) := by decide +kernel
theorem zd_15_53 : decode (zm_cc 15) 53 = .ok (.bipush 8, 2) := by decide +kernel
theorem zd_15_55 : decode (zm_cc 15) 55 = .ok (.if_icmp .ge 7, 3) := by decide +kernel
theorem zd_15_58 : decode (zm_cc 15) 58 = .ok (.iload_n 2, 1) := by decide +kernel
theorem zd_15_59 : decode (zm_cc 15) 59 = .ok (.goto 28, 3) := by decide +kernel
theorem zd_15_62 : decode (zm_cc 15) 62 = .ok (.iload 6, 2) := by decide +kernel
theorem zd_15_64 : decode (zm_cc 15) 64 = .ok (.bipush 12, 2) := by decide +kernel
theorem zd_15_66 : decode (zm_cc 15) 66 = .ok (.if_icmp .ge 7, 3) := by decide +kernel
theorem zd_15_69 : decode (zm_cc 15) 69 = .ok (.iload_n 3, 1) := by decide +kernel
theorem zd_15_70 : decode (zm_cc 15) 70 = .ok (.goto 17, 3) := by decide +kernel
theorem zd_15_73 : decode (zm_cc 15) 73 = .ok (.iload 6, 2) := by decide +kernel
theorem zd_15_75 : decode (zm_cc 15) 75 = .ok (.bipush 16, 2) := by decide +kernel
theorem zd_15_77 : decode (zm_cc 15) 77 = .ok (.if_icmp .ge 8, 3) := by decide +kernel
theorem zd_15_80 : decode (zm_cc 15) 80 = .ok (.iload 4, 2) := by decide +kernel
theorem zd_15_82 : decode (zm_cc 15) 82 = .ok (.goto 5, 3) := by decide +kernel
theorem zd_15_85 : decode (zm_cc 15) 85 = .ok (.iload 5, 2) := by decide +kernel
theorem zd_15_87 : decode (zm_cc 15) 87 = .ok (.istore 7, 2) := by decide +kernel
theorem zd_15_89 : decode (zm_cc 15) 89 = .ok (.aload_n 0, 1) := by decide +kernel
theorem zd_15_90 : decode (zm_cc 15) 90 = .ok (.getfield 13, 3) := by decide +kernel
theorem zd_15_93 : decode (zm_cc 15) 93 = .ok (.aload_n 0, 1) := by decide +kernel
theorem zd_15_94 : decode (zm_cc 15) 94 = .ok (.getfield 125, 3) := by decide +kernel
theorem zd_15_97 : decode (zm_cc 15) 97 = .ok (.iload 7, 2) := by decide +kernel
theorem zd_15_99 : decode (zm_cc 15) 99 = .ok (.bipush 24, 2) := by decide +kernel
theorem zd_15_101 : decode (zm_cc 15) 101 = .ok (.bipush 8, 2) := by decide +kernel
theorem zd_15_103 : decode (zm_cc 15) 103 = .ok (.iload 6, 2) := by decide +kernel
theorem zd_15_105 : decode (zm_cc 15) 105 = .ok (.iconst 4, 1) := by decide +kernel
theorem zd_15_106 : decode (zm_cc 15) 106 = .ok (.irem, 1) := by decide +kernel
theorem zd_15_107 : decode (zm_cc 15) 107 = .ok (.imul, 1) := by decide +kernel
theorem zd_15_108 : decode (zm_cc 15) 108 = .ok (.isub, 1) := by decide +kernel
theorem zd_15_109 : decode (zm_cc 15) 109 = .ok (.ishr, 1) := by decide +kernel
theorem zd_15_110 : decode (zm_cc 15) 110 = .ok (.i2b, 1) := by decide +kernel
theorem zd_15_111 : decode (zm_cc 15) 111 = .ok (.bastore, 1) := by decide +kernel
theorem zd_15_112 : decode (zm_cc 15) 112 = .ok (.aload_n 0, 1) := by decide +kernel
theorem zd_15_113 : decode (zm_cc 15) 113 = .ok (.dup, 1) := by decide +kernel
theorem zd_15_114 : decode (zm_cc 15) 114 = .ok (.getfield 125, 3) := by decide +kernel
theorem zd_15_117 : decode (zm_cc 15) 117 = .ok (.iconst 1, 1) := by decide +kernel
theorem zd_15_118 : decode (zm_cc 15) 118 = .ok (.iadd, 1) := by decide +kernel
theorem zd_15_119 : decode (zm_cc 15) 119 = .ok (.putfield 125, 3) := by decide +kernel
theorem zd_15_122 : decode (zm_cc 15) 122 = .ok (.iinc 6 1, 3) := by decide +kernel
theorem zd_15_125 : decode (zm_cc 15) 125 = .ok (.goto (-91), 3) := by decide +kernel
theorem zd_15_128 : decode (zm_cc 15) 128 = .ok (.aload_n 0, 1) := by decide +kernel
theorem zd_15_129 : decode (zm_cc 15) 129 = .ok (.getfield 125, 3) := by decide +kernel
theorem zd_15_132 : decode (zm_cc 15) 132 = .ok (.ireturn, 1) := by decide +kernel
theorem zd_16_0 : decode (zm_cc 16) 0 = .ok (.iload_n 1, 1) := by decide +kernel
theorem zd_16_1 : decode (zm_cc 16) 1 = .ok (.ifCond .lt 11, 3) := by decide +kernel
theorem zd_16_4 : decode (zm_cc 16) 4 = .ok (.iload_n 1, 1) := by decide +kernel
theorem zd_16_5 : decode (zm_cc 16) 5 = .ok (.aload_n 0, 1) := by decide +kernel
theorem zd_16_6 : decode (zm_cc 16) 6 = .ok (.getfield 84, 3) := by decide +kernel
theorem zd_16_9 : decode (zm_cc 16) 9 = .ok (.if_icmp .le 13, 3) := by decide +kernel
theorem zd_16_12 : decode (zm_cc 16) 12 = .ok (.new 98, 3) := by decide +kernel
theorem zd_16_22 : decode (zm_cc 16) 22 = .ok (.aload_n 0, 1) := by decide +kernel
theorem zd_16_23 : decode (zm_cc 16) 23 = .ok (.iload_n 1, 1) := by decide +kernel
theorem zd_16_24 : decode (zm_cc 16) 24 = .ok (.putfield 84, 3) := by decide +kernel
theorem zd_16_27 : decode (zm_cc 16) 27 = .ok (.return_, 1) := by decide +kernel
theorem zd_17_0 : decode (zm_cc 17) 0 = .ok (.aload_n 0, 1) := by decide +kernel
theorem zd_17_1 : decode (zm_cc 17) 1 = .ok (.iload_n 1, 1) := by decide +kernel
theorem zd_17_2 : decode (zm_cc 17) 2 = .ok (.iconst 0, 1) := by decide +kernel
theorem zd_17_3 : decode (zm_cc 17) 3 = .ok (.aload_n 0, 1) := by decide +kernel
theorem zd_17_4 : decode (zm_cc 17) 4 = .ok (.getfield 125, 3) := by decide +kernel
theorem zd_17_7 : decode (zm_cc 17) 7 = .ok (.invokestatic 128, 3) := by decide +kernel
theorem zd_17_10 : decode (zm_cc 17) 10 = .ok (.ifCond .eq 7, 3) := by decide +kernel
theorem zd_17_13 : decode (zm_cc 17) 13 = .ok (.iconst 0, 1) := by decide +kernel
theorem zd_17_14 : decode (zm_cc 17) 14 = .ok (.goto 4, 3) := by decide +kernel
theorem zd_17_17 : decode (zm_cc 17) 17 = .ok (.iconst 1, 1) := by decide +kernel
theorem zd_17_18 : decode (zm_cc 17) 18 = .ok (.putfield 1, 3) := by decide +kernel
theorem zd_17_21 : decode (zm_cc 17) 21 = .ok (.aload_n 0, 1) := by decide +kernel
theorem zd_17_22 : decode (zm_cc 17) 22 = .ok (.aload_n 0, 1) := by decide +kernel
theorem zd_17_23 : decode (zm_cc 17) 23 = .ok (.getfield 1, 3) := by decide +kernel
theorem zd_17_26 : decode (zm_cc 17) 26 = .ok (.ifCond .le 10, 3) := by decide +kernel
theorem zd_17_29 : decode (zm_cc 17) 29 = .ok (.aload_n 0, 1) := by decide +kernel
theorem zd_17_30 : decode (zm_cc 17) 30 = .ok (.getfield 125, 3) := by decide +kernel
theorem zd_17_33 : decode (zm_cc 17) 33 = .ok (.goto 4, 3) := by decide +kernel
theorem zd_17_36 : decode (zm_cc 17) 36 = .ok (.iload_n 1, 1) := by decide +kernel
theorem zd_17_37 : decode (zm_cc 17) 37 = .ok (.putfield 125, 3) := by decide +kernel
theorem zd_17_40 : decode (zm_cc 17) 40 = .ok (.return_, 1) := by decide +kernel
theorem zd_18_0 : decode (zm_cc 18) 0 = .ok (.iload_n 0, 1) := by decide +kernel
theorem zd_18_1 : decode (zm_cc 18) 1 = .ok (.iload_n 1, 1) := by decide +kernel
theorem zd_18_2 : decode (zm_cc 18) 2 = .ok (.if_icmp .lt 12, 3) := by decide +kernel
theorem zd_18_5 : decode (zm_cc 18) 5 = .ok (.iload_n 0, 1) := by decide +kernel
theorem zd_18_6 : decode (zm_cc 18) 6 = .ok (.iload_n 2, 1) := by decide +kernel
theorem zd_18_7 : decode (zm_cc 18) 7 = .ok (.if_icmp .gt 7, 3) := by decide +kernel
theorem zd_18_10 : decode (zm_cc 18) 10 = .ok (.iconst 1, 1) := by decide +kernel
theorem zd_18_11 : decode (zm_cc 18) 11 = .ok (.goto 4, 3) := by decide +kernel
theorem zd_18_14 : decode (zm_cc 18) 14 = .ok (.iconst 0, 1) := by decide +kernel
theorem zd_18_15 : decode (zm_cc 18) 15 = .ok (.ireturn, 1) := by decide +kernel
theorem zd_19_0 : decode (zm_cc 19) 0 = .ok (.aload_n 0, 1) := by decide +kernel
theorem zd_19_1 : decode (zm_cc 19) 1 = .ok (.getfield 1, 3) := by decide +kernel
theorem zd_19_4 : decode (zm_cc 19) 4 = .ok (.ireturn, 1) := by decide +kernel
theorem zd_20_0 : decode (zm_cc 20) 0 = .ok (.aload_n 0, 1) := by decide +kernel
theorem zd_20_1 : decode (zm_cc 20) 1 = .ok (.getfield 25, 3) := by decide +kernel
theorem zd_20_4 : decode (zm_cc 20) 4 = .ok (.aload_n 0, 1) := by decide +kernel
theorem zd_20_5 : decode (zm_cc 20) 5 = .ok (.getfield 84, 3) := by decide +kernel
theorem zd_20_8 : decode (zm_cc 20) 8 = .ok (.invokevirtual 103, 3) := by decide +kernel
theorem zd_20_11 : decode (zm_cc 20) 11 = .ok (.aload_n 0, 1) := by decide +kernel
theorem zd_20_12 : decode (zm_cc 20) 12 = .ok (.iconst 0, 1) := by decide +kernel
theorem zd_20_13 : decode (zm_cc 20) 13 = .ok (.putfield 84, 3) := by decide +kernel
theorem zd_20_16 : decode (zm_cc 20) 16 = .ok (.aload_n 0, 1) := by decide +kernel
theorem zd_20_17 : decode (zm_cc 20) 17 = .ok (.aload_n 0, 1) := by decide +kernel
theorem zd_20_18 : decode (zm_cc 20) 18 = .ok (.getfield 25, 3) := by decide +kernel
theorem zd_20_21 : decode (zm_cc 20) 21 = .ok (.getfield 106, 3) := by decide +kernel
theorem zd_20_24 : decode (zm_cc 20) 24 = .ok (.putfield 109, 3) := by decide +kernel
theorem zd_20_27 : decode (zm_cc 20) 27 = .ok (.aload_n 0, 1) := by decide +kernel
theorem zd_20_28 : decode (zm_cc 20) 28 = .ok (.aload_n 0, 1) := by decide +kernel
theorem zd_20_29 : decode (zm_cc 20) 29 = .ok (.getfield 109, 3) := by decide +kernel
theorem zd_20_32 : decode (zm_cc 20) 32 = .ok (.ifCond .ne 7, 3) := by decide +kernel
theorem zd_20_35 : decode (zm_cc 20) 35 = .ok (.iconst 1, 1) := by decide +kernel
theorem zd_20_36 : decode (zm_cc 20) 36 = .ok (.goto 4, 3) := by decide +kernel
theorem zd_20_39 : decode (zm_cc 20) 39 = .ok (.iconst 0, 1) := by decide +kernel
theorem zd_20_40 : decode (zm_cc 20) 40 = .ok (.putfield 110, 3) := by decide +kernel
theorem zd_20_43 : decode (zm_cc 20) 43 = .ok (.aload_n 0, 1) := by decide +kernel
theorem zd_20_44 : decode (zm_cc 20) 44 = .ok (.iconst 0, 1) := by decide +kernel
theorem zd_20_45 : decode (zm_cc 20) 45 = .ok (.putfield 114, 3) := by decide +kernel
theorem zd_20_48 : decode (zm_cc 20) 48 = .ok (.aload_n 0, 1) := by decide +kernel
theorem zd_20_49 : decode (zm_cc 20) 49 = .ok (.iconst 0, 1) := by decide +kernel
theorem zd_20_50 : decode (zm_cc 20) 50 = .ok (.putfield 117, 3) := by decide +kernel
theorem zd_20_53 : decode (zm_cc 20) 53 = .ok (.aload_n 0, 1) := by decide +kernel
theorem zd_20_54 : decode (zm_cc 20) 54 = .ok (.iconst (-1), 1) := by decide +kernel
theorem zd_20_55 : decode (zm_cc 20) 55 = .ok (.putfield 80, 3) := by decide +kernel
theorem zd_20_58 : decode (zm_cc 20) 58 = .ok (.aload_n 0, 1) := by decide +kernel
theorem zd_20_59 : decode (zm_cc 20) 59 = .ok (.getfield 73, 3) := by decide +kernel
theorem zd_20_62 : decode (zm_cc 20) 62 = .ok (.invokevirtual 120, 3) := by decide +kernel
theorem zd_20_65 : decode (zm_cc 20) 65 = .ok (.aload_n 0, 1) := by decide +kernel
theorem zd_20_66 : decode (zm_cc 20) 66 = .ok (.getfield 66, 3) := by decide +kernel
theorem zd_20_69 : decode (zm_cc 20) 69 = .ok (.iconst (-1), 1) := by decide +kernel
theorem zd_20_70 : decode (zm_cc 20) 70 = .ok (.invokestatic 123, 3) := by decide +kernel
theorem zd_20_73 : decode (zm_cc 20) 73 = .ok (.aload_n 0, 1) := by decide +kernel
theorem zd_20_74 : decode (zm_cc 20) 74 = .ok (.getfield 110, 3) := by decide +kernel
theorem zd_20_77 : decode (zm_cc 20) 77 = .ok (.ifCond .eq 13, 3) := by decide +kernel
theorem zd_20_80 : decode (zm_cc 20) 80 = .ok (.aload_n 0, 1) := by decide +kernel
theorem zd_20_81 : decode (zm_cc 20) 81 = .ok (.getfield 16, 3) := by decide +kernel
theorem zd_20_84 : decode (zm_cc 20) 84 = .ok (.getfield 129, 3) := by decide +kernel
theorem zd_20_87 : decode (zm_cc 20) 87 = .ok (.goto 14, 3) := by decide +kernel
theorem zd_20_90 : decode (zm_cc 20) 90 = .ok (.sipush (-1000), 3) := by decide +kernel
theorem zd_20_93 : decode (zm_cc 20) 93 = .ok (.aload_n 0, 1) := by decide +kernel
theorem zd_20_94 : decode (zm_cc 20) 94 = .ok (.getfield 25, 3) := by decide +kernel
theorem zd_20_97 : decode (zm_cc 20) 97 = .ok (.getfield 132, 3) := by decide +kernel
theorem zd_20_100 : decode (zm_cc 20) 100 = .ok (.isub, 1) := by decide +kernel
theorem zd_20_101 : decode (zm_cc 20) 101 = .ok (.ireturn, 1) := by decide +kernel
theorem zd_21_0 : decode (zm_cc 21) 0 = .ok (.aload_n 0, 1) := by decide +kernel
theorem zd_21_1 : decode (zm_cc 21) 1 = .ok (.iconst 0, 1) := by decide +kernel
theorem zd_21_2 : decode (zm_cc 21) 2 = .ok (.putfield 48, 3) := by decide +kernel
theorem zd_21_5 : decode (zm_cc 21) 5 = .ok (.aload_n 0, 1) := by decide +kernel
theorem zd_21_6 : decode (zm_cc 21) 6 = .ok (.iconst 0, 1) := by decide +kernel
theorem zd_21_7 : decode (zm_cc 21) 7 = .ok (.putfield 52, 3) := by decide +kernel
theorem zd_21_10 : decode (zm_cc 21) 10 = .ok (.aload_n 0, 1) := by decide +kernel
theorem zd_21_11 : decode (zm_cc 21) 11 = .ok (.getfield 26, 3) := by decide +kernel
theorem zd_21_14 : decode (zm_cc 21) 14 = .ok (.invokevirtual 55, 3) := by decide +kernel
theorem zd_21_17 : decode (zm_cc 21) 17 = .ok (.aload_n 0, 1) := by decide +kernel
theorem zd_21_18 : decode (zm_cc 21) 18 = .ok (.getfield 12, 3) := by decide +kernel
theorem zd_21_21 : decode (zm_cc 21) 21 = .ok (.invokevirtual 60, 3) := by decide +kernel
theorem zd_21_24 : decode (zm_cc 21) 24 = .ok (.aload_n 0, 1) := by decide +kernel
theorem zd_21_25 : decode (zm_cc 21) 25 = .ok (.getfield 44, 3) := by decide +kernel
theorem zd_21_28 : decode (zm_cc 21) 28 = .ok (.iconst 0, 1) := by decide +kernel
theorem zd_21_29 : decode (zm_cc 21) 29 = .ok (.invokevirtual 61, 3) := by decide +kernel
theorem zd_21_32 : decode (zm_cc 21) 32 = .ok (.aload_n 0, 1) := by decide +kernel
theorem zd_21_33 : decode (zm_cc 21) 33 = .ok (.getfield 35, 3) := by decide +kernel
theorem zd_21_36 : decode (zm_cc 21) 36 = .ok (.iload_n 1, 1) := by decide +kernel
theorem zd_21_37 : decode (zm_cc 21) 37 = .ok (.invokevirtual 65, 3) := by decide +kernel
theorem zd_21_40 : decode (zm_cc 21) 40 = .ok (.iconst 0, 1) := by decide +kernel
theorem zd_21_41 : decode (zm_cc 21) 41 = .ok (.istore_n 2, 1) := by decide +kernel
theorem zd_21_42 : decode (zm_cc 21) 42 = .ok (.iload_n 2, 1) := by decide +kernel
theorem zd_21_43 : decode (zm_cc 21) 43 = .ok (.sipush 1500, 3) := by decide +kernel
theorem zd_21_46 : decode (zm_cc 21) 46 = .ok (.if_icmp .gt 47, 3) := by decide +kernel
theorem zd_21_49 : decode (zm_cc 21) 49 = .ok (.aload_n 0, 1) := by decide +kernel
theorem zd_21_50 : decode (zm_cc 21) 50 = .ok (.getfield 48, 3) := by decide +kernel
theorem zd_21_53 : decode (zm_cc 21) 53 = .ok (.ifCond .ne 40, 3) := by decide +kernel
theorem zd_21_56 : decode (zm_cc 21) 56 = .ok (.aload_n 0, 1) := by decide +kernel
theorem zd_21_57 : decode (zm_cc 21) 57 = .ok (.getfield 44, 3) := by decide +kernel
theorem zd_21_60 : decode (zm_cc 21) 60 = .ok (.getfield 68, 3) := by decide +kernel
theorem zd_21_63 : decode (zm_cc 21) 63 = .ok (.ifCond .le 10, 3) := by decide +kernel
theorem zd_21_66 : decode (zm_cc 21) 66 = .ok (.aload_n 0, 1) := by decide +kernel
theorem zd_21_67 : decode (zm_cc 21) 67 = .ok (.invokevirtual 71, 3) := by decide +kernel
theorem zd_21_70 : decode (zm_cc 21) 70 = .ok (.goto 17, 3) := by decide +kernel
theorem zd_21_73 : decode (zm_cc 21) 73 = .ok (.aload_n 0, 1) := by decide +kernel
theorem zd_21_74 : decode (zm_cc 21) 74 = .ok (.getfield 35, 3) := by decide +kernel
theorem zd_21_77 : decode (zm_cc 21) 77 = .ok (.getfield 74, 3) := by decide +kernel
theorem zd_21_80 : decode (zm_cc 21) 80 = .ok (.ifCond .eq 13, 3) := by decide +kernel
theorem zd_21_83 : decode (zm_cc 21) 83 = .ok (.aload_n 0, 1) := by decide +kernel
theorem zd_21_84 : decode (zm_cc 21) 84 = .ok (.invokevirtual 77, 3) := by decide +kernel
theorem zd_21_87 : decode (zm_cc 21) 87 = .ok (.iinc 2 1, 3) := by decide +kernel
theorem zd_21_90 : decode (zm_cc 21) 90 = .ok (.goto (-48), 3) := by decide +kernel
theorem zd_21_93 : decode (zm_cc 21) 93 = .ok (.iconst 0, 1) := by decide +kernel
theorem zd_21_94 : decode (zm_cc 21) 94 = .ok (.istore_n 2, 1) := by decide +kernel
theorem zd_21_95 : decode (zm_cc 21) 95 = .ok (.iload_n 2, 1) := by decide +kernel
theorem zd_21_96 : decode (zm_cc 21) 96 = .ok (.bipush 96, 2) := by decide +kernel
theorem zd_21_98 : decode (zm_cc 21) 98 = .ok (.if_icmp .ge 21, 3) := by decide +kernel
theorem zd_21_101 : decode (zm_cc 21) 101 = .ok (.aload_n 0, 1) := by decide +kernel
theorem zd_21_102 : decode (zm_cc 21) 102 = .ok (.getfield 48, 3) := by decide +kernel
theorem zd_21_105 : decode (zm_cc 21) 105 = .ok (.ifCond .ne 14, 3) := by decide +kernel
theorem zd_21_108 : decode (zm_cc 21) 108 = .ok (.aload_n 0, 1) := by decide +kernel
theorem zd_21_109 : decode (zm_cc 21) 109 = .ok (.iload_n 2, 1) := by decide +kernel
theorem zd_21_110 : decode (zm_cc 21) 110 = .ok (.invokevirtual 80, 3) := by decide +kernel
theorem zd_21_113 : decode (zm_cc 21) 113 = .ok (.iinc 2 1, 3) := by decide +kernel
theorem zd_21_116 : decode (zm_cc 21) 116 = .ok (.goto (-21), 3) := by decide +kernel
theorem zd_21_119 : decode (zm_cc 21) 119 = .ok (.return_, 1) := by decide +kernel
theorem zd_22_0 : decode (zm_cc 22) 0 = .ok (.aload_n 0, 1) := by decide +kernel
theorem zd_22_1 : decode (zm_cc 22) 1 = .ok (.iconst 0, 1) := by decide +kernel
theorem zd_22_2 : decode (zm_cc 22) 2 = .ok (.putfield 48, 3) := by decide +kernel
theorem zd_22_5 : decode (zm_cc 22) 5 = .ok (.aload_n 0, 1) := by decide +kernel
theorem zd_22_6 : decode (zm_cc 22) 6 = .ok (.iconst 0, 1) := by decide +kernel
theorem zd_22_7 : decode (zm_cc 22) 7 = .ok (.putfield 52, 3) := by decide +kernel
theorem zd_22_10 : decode (zm_cc 22) 10 = .ok (.aload_n 0, 1) := by decide +kernel
theorem zd_22_11 : decode (zm_cc 22) 11 = .ok (.iconst 0, 1) := by decide +kernel
theorem zd_22_12 : decode (zm_cc 22) 12 = .ok (.putfield 55, 3) := by decide +kernel
theorem zd_22_15 : decode (zm_cc 22) 15 = .ok (.aload_n 0, 1) := by decide +kernel
theorem zd_22_16 : decode (zm_cc 22) 16 = .ok (.iconst 0, 1) := by decide +kernel
theorem zd_22_17 : decode (zm_cc 22) 17 = .ok (.putfield 58, 3) := by decide +kernel
theorem zd_22_20 : decode (zm_cc 22) 20 = .ok (.aload_n 0, 1) := by decide +kernel
theorem zd_22_21 : decode (zm_cc 22) 21 = .ok (.iconst 0, 1) := by decide +kernel
theorem zd_22_22 : decode (zm_cc 22) 22 = .ok (.putfield 61, 3) := by decide +kernel
theorem zd_22_25 : decode (zm_cc 22) 25 = .ok (.aload_n 0, 1) := by decide +kernel
theorem zd_22_26 : decode (zm_cc 22) 26 = .ok (.iconst 0, 1) := by decide +kernel
theorem zd_22_27 : decode (zm_cc 22) 27 = .ok (.putfield 64, 3) := by decide +kernel
theorem zd_22_30 : decode (zm_cc 22) 30 = .ok (.aload_n 0, 1) := by decide +kernel
theorem zd_22_31 : decode (zm_cc 22) 31 = .ok (.iconst 0, 1) := by decide +kernel
theorem zd_22_32 : decode (zm_cc 22) 32 = .ok (.putfield 67, 3) := by decide +kernel
theorem zd_22_35 : decode (zm_cc 22) 35 = .ok (.aload_n 0, 1) := by decide +kernel
theorem zd_22_36 : decode (zm_cc 22) 36 = .ok (.getfield 9, 3) := by decide +kernel
theorem zd_22_39 : decode (zm_cc 22) 39 = .ok (.iconst 0, 1) := by decide +kernel
theorem zd_22_40 : decode (zm_cc 22) 40 = .ok (.invokestatic 70, 3) := by decide +kernel
theorem zd_22_43 : decode (zm_cc 22) 43 = .ok (.aload_n 0, 1) := by decide +kernel
theorem zd_22_44 : decode (zm_cc 22) 44 = .ok (.getfield 15, 3) := by decide +kernel
theorem zd_22_47 : decode (zm_cc 22) 47 = .ok (.iconst 0, 1) := by decide +kernel
theorem zd_22_48 : decode (zm_cc 22) 48 = .ok (.invokestatic 70, 3) := by decide +kernel
theorem zd_22_51 : decode (zm_cc 22) 51 = .ok (.return_, 1) := by decide +kernel
theorem zd_23_0 : decode (zm_cc 23) 0 = .ok (.iconst 0, 1) := by decide +kernel
theorem zd_23_1 : decode (zm_cc 23) 1 = .ok (.istore_n 2, 1) := by decide +kernel
theorem zd_23_2 : decode (zm_cc 23) 2 = .ok (.aload_n 0, 1) := by decide +kernel
theorem zd_23_3 : decode (zm_cc 23) 3 = .ok (.arraylength, 1) := by decide +kernel
theorem zd_23_4 : decode (zm_cc 23) 4 = .ok (.istore_n 3, 1) := by decide +kernel
theorem zd_23_5 : decode (zm_cc 23) 5 = .ok (.iload_n 2, 1) := by decide +kernel
theorem zd_23_6 : decode (zm_cc 23) 6 = .ok (.iload_n 3, 1) := by decide +kernel
theorem zd_23_7 : decode (zm_cc 23) 7 = .ok (.if_icmp .ge 13, 3) := by decide +kernel
theorem zd_23_10 : decode (zm_cc 23) 10 = .ok (.aload_n 0, 1) := by decide +kernel
theorem zd_23_11 : decode (zm_cc 23) 11 = .ok (.iload_n 2, 1) := by decide +kernel
theorem zd_23_12 : decode (zm_cc 23) 12 = .ok (.iload_n 1, 1) := by decide +kernel
theorem zd_23_13 : decode (zm_cc 23) 13 = .ok (.iastore, 1) := by decide +kernel
theorem zd_23_14 : decode (zm_cc 23) 14 = .ok (.iinc 2 1, 3) := by decide +kernel
theorem zd_23_17 : decode (zm_cc 23) 17 = .ok (.goto (-12), 3) := by decide +kernel
theorem zd_23_20 : decode (zm_cc 23) 20 = .ok (.return_, 1) := by decide +kernel
theorem zd_24_0 : decode (zm_cc 24) 0 = .ok (.aload_n 0, 1) := by decide +kernel
theorem zd_24_1 : decode (zm_cc 24) 1 = .ok (.iconst 0, 1) := by decide +kernel
theorem zd_24_2 : decode (zm_cc 24) 2 = .ok (.putfield 25, 3) := by decide +kernel
theorem zd_24_5 : decode (zm_cc 24) 5 = .ok (.aload_n 0, 1) := by decide +kernel
theorem zd_24_6 : decode (zm_cc 24) 6 = .ok (.iconst 0, 1) := by decide +kernel
theorem zd_24_7 : decode (zm_cc 24) 7 = .ok (.putfield 29, 3) := by decide +kernel
theorem zd_24_10 : decode (zm_cc 24) 10 = .ok (.return_, 1) := by decide +kernel
theorem zd_25_0 : decode (zm_cc 25) 0 = .ok (.aload_n 0, 1) := by decide +kernel
theorem zd_25_1 : decode (zm_cc 25) 1 = .ok (.iload_n 1, 1) := by decide +kernel
theorem zd_25_2 : decode (zm_cc 25) 2 = .ok (.putfield 31, 3) := by decide +kernel
theorem zd_25_5 : decode (zm_cc 25) 5 = .ok (.aload_n 0, 1) := by decide +kernel
theorem zd_25_6 : decode (zm_cc 25) 6 = .ok (.iconst 0, 1) := by decide +kernel
theorem zd_25_7 : decode (zm_cc 25) 7 = .ok (.putfield 35, 3) := by decide +kernel
theorem zd_25_10 : decode (zm_cc 25) 10 = .ok (.aload_n 0, 1) := by decide +kernel
theorem zd_25_11 : decode (zm_cc 25) 11 = .ok (.iconst (-1), 1) := by decide +kernel
theorem zd_25_12 : decode (zm_cc 25) 12 = .ok (.putfield 38, 3) := by decide +kernel
theorem zd_25_15 : decode (zm_cc 25) 15 = .ok (.aload_n 0, 1) := by decide +kernel
theorem zd_25_16 : decode (zm_cc 25) 16 = .ok (.iconst 0, 1) := by decide +kernel
theorem zd_25_17 : decode (zm_cc 25) 17 = .ok (.putfield 41, 3) := by decide +kernel
theorem zd_25_20 : decode (zm_cc 25) 20 = .ok (.aload_n 0, 1) := by decide +kernel
theorem zd_25_21 : decode (zm_cc 25) 21 = .ok (.iconst 0, 1) := by decide +kernel
theorem zd_25_22 : decode (zm_cc 25) 22 = .ok (.putfield 44, 3) := by decide +kernel
theorem zd_25_25 : decode (zm_cc 25) 25 = .ok (.aload_n 0, 1) := by decide +kernel
theorem zd_25_26 : decode (zm_cc 25) 26 = .ok (.iconst 0, 1) := by decide +kernel
theorem zd_25_27 : decode (zm_cc 25) 27 = .ok (.putfield 47, 3) := by decide +kernel
theorem zd_25_30 : decode (zm_cc 25) 30 = .ok (.aload_n 0, 1) := by decide +kernel
theorem zd_25_31 : decode (zm_cc 25) 31 = .ok (.iconst (-1), 1) := by decide +kernel
theorem zd_25_32 : decode (zm_cc 25) 32 = .ok (.putfield 50, 3) := by decide +kernel
theorem zd_25_35 : decode (zm_cc 25) 35 = .ok (.return_, 1) := by decide +kernel
theorem zd_26_0 : decode (zm_cc 26) 0 = .ok (.aload_n 0, 1) := by decide +kernel
theorem zd_26_1 : decode (zm_cc 26) 1 = .ok (.iload_n 1, 1) := by decide +kernel
theorem zd_26_2 : decode (zm_cc 26) 2 = .ok (.putfield 26, 3) := by decide +kernel
theorem zd_26_5 : decode (zm_cc 26) 5 = .ok (.aload_n 0, 1) := by decide +kernel
theorem zd_26_6 : decode (zm_cc 26) 6 = .ok (.iconst 0, 1) := by decide +kernel
theorem zd_26_7 : decode (zm_cc 26) 7 = .ok (.putfield 30, 3) := by decide +kernel
theorem zd_26_10 : decode (zm_cc 26) 10 = .ok (.iconst 0, 1) := by decide +kernel
theorem zd_26_11 : decode (zm_cc 26) 11 = .ok (.istore_n 2, 1) := by decide +kernel
theorem zd_26_12 : decode (zm_cc 26) 12 = .ok (.aload_n 0, 1) := by decide +kernel
theorem zd_26_13 : decode (zm_cc 26) 13 = .ok (.iconst 3, 1) := by decide +kernel
theorem zd_26_14 : decode (zm_cc 26) 14 = .ok (.putfield 33, 3) := by decide +kernel
theorem zd_26_17 : decode (zm_cc 26) 17 = .ok (.iconst 0, 1) := by decide +kernel
theorem zd_26_18 : decode (zm_cc 26) 18 = .ok (.istore_n 3, 1) := by decide +kernel
theorem zd_26_19 : decode (zm_cc 26) 19 = .ok (.iload_n 3, 1) := by decide +kernel
theorem zd_26_20 : decode (zm_cc 26) 20 = .ok (.sipush 1500, 3) := by decide +kernel
theorem zd_26_23 : decode (zm_cc 26) 23 = .ok (.if_icmp .gt 70, 3) := by decide +kernel
theorem zd_26_26 : decode (zm_cc 26) 26 = .ok (.aload_n 0, 1) := by decide +kernel
theorem zd_26_27 : decode (zm_cc 26) 27 = .ok (.getfield 33, 3) := by decide +kernel
theorem zd_26_30 : decode (zm_cc 26) 30 = .ok (.ifCond .eq 63, 3) := by decide +kernel
theorem zd_26_33 : decode (zm_cc 26) 33 = .ok (.aload_n 0, 1) := by decide +kernel
theorem zd_26_34 : decode (zm_cc 26) 34 = .ok (.getfield 33, 3) := by decide +kernel
theorem zd_26_37 : decode (zm_cc 26) 37 = .ok (.iconst 1, 1) := by decide +kernel
theorem zd_26_38 : decode (zm_cc 26) 38 = .ok (.if_icmp .eq 55, 3) := by decide +kernel
theorem zd_26_41 : decode (zm_cc 26) 41 = .ok (.aload_n 0, 1) := by decide +kernel
theorem zd_26_42 : decode (zm_cc 26) 42 = .ok (.iload_n 2, 1) := by decide +kernel
theorem zd_26_43 : decode (zm_cc 26) 43 = .ok (.invokevirtual 36, 3) := by decide +kernel
theorem zd_26_46 : decode (zm_cc 26) 46 = .ok (.istore_n 2, 1) := by decide +kernel
theorem zd_26_47 : decode (zm_cc 26) 47 = .ok (.aload_n 0, 1) := by decide +kernel
theorem zd_26_48 : decode (zm_cc 26) 48 = .ok (.getfield 9, 3) := by decide +kernel
theorem zd_26_51 : decode (zm_cc 26) 51 = .ok (.iload_n 3, 1) := by decide +kernel
theorem zd_26_52 : decode (zm_cc 26) 52 = .ok (.aload_n 0, 1) := by decide +kernel
theorem zd_26_53 : decode (zm_cc 26) 53 = .ok (.getfield 33, 3) := by decide +kernel
theorem zd_26_56 : decode (zm_cc 26) 56 = .ok (.iastore, 1) := by decide +kernel
theorem zd_26_57 : decode (zm_cc 26) 57 = .ok (.aload_n 0, 1) := by decide +kernel
theorem zd_26_58 : decode (zm_cc 26) 58 = .ok (.getfield 15, 3) := by decide +kernel
theorem zd_26_61 : decode (zm_cc 26) 61 = .ok (.iload_n 3, 1) := by decide +kernel
theorem zd_26_62 : decode (zm_cc 26) 62 = .ok (.aload_n 0, 1) := by decide +kernel
theorem zd_26_63 : decode (zm_cc 26) 63 = .ok (.getfield 40, 3) := by decide +kernel
theorem zd_26_66 : decode (zm_cc 26) 66 = .ok (.iastore, 1) := by decide +kernel
theorem zd_26_67 : decode (zm_cc 26) 67 = .ok (.aload_n 0, 1) := by decide +kernel
theorem zd_26_68 : decode (zm_cc 26) 68 = .ok (.getfield 18, 3) := by decide +kernel
theorem zd_26_71 : decode (zm_cc 26) 71 = .ok (.iload_n 3, 1) := by decide +kernel
theorem zd_26_72 : decode (zm_cc 26) 72 = .ok (.aload_n 0, 1) := by decide +kernel
theorem zd_26_73 : decode (zm_cc 26) 73 = .ok (.getfield 43, 3) := by decide +kernel
theorem zd_26_76 : decode (zm_cc 26) 76 = .ok (.lastore, 1) := by decide +kernel
theorem zd_26_77 : decode (zm_cc 26) 77 = .ok (.aload_n 0, 1) := by decide +kernel
theorem zd_26_78 : decode (zm_cc 26) 78 = .ok (.dup, 1) := by decide +kernel
theorem zd_26_79 : decode (zm_cc 26) 79 = .ok (.getfield 30, 3) := by decide +kernel
theorem zd_26_82 : decode (zm_cc 26) 82 = .ok (.iconst 1, 1) := by decide +kernel
theorem zd_26_83 : decode (zm_cc 26) 83 = .ok (.iadd, 1) := by decide +kernel
theorem zd_26_84 : decode (zm_cc 26) 84 = .ok (.putfield 30, 3) := by decide +kernel
theorem zd_26_87 : decode (zm_cc 26) 87 = .ok (.iinc 3 1, 3) := by decide +kernel
theorem zd_26_90 : decode (zm_cc 26) 90 = .ok (.goto (-71), 3) := by decide +kernel
theorem zd_26_93 : decode (zm_cc 26) 93 = .ok (.aload_n 0, 1) := by decide +kernel
theorem zd_26_94 : decode (zm_cc 26) 94 = .ok (.iconst (-1), 1) := by decide +kernel
theorem zd_26_95 : decode (zm_cc 26) 95 = .ok (.putfield 47, 3) := by decide +kernel
theorem zd_26_98 : decode (zm_cc 26) 98 = .ok (.aload_n 0, 1) := by decide +kernel
theorem zd_26_99 : decode (zm_cc 26) 99 = .ok (.invokevirtual 50, 3) := by decide +kernel
theorem zd_26_102 : decode (zm_cc 26) 102 = .ok (.return_, 1) := by decide +kernel
theorem zd_27_0 : decode (zm_cc 27) 0 = .ok (.aload_n 0, 1) := by decide +kernel
theorem zd_27_1 : decode (zm_cc 27) 1 = .ok (.iload_n 1, 1) := by decide +kernel
theorem zd_27_2 : decode (zm_cc 27) 2 = .ok (.putfield 40, 3) := by decide +kernel
theorem zd_27_5 : decode (zm_cc 27) 5 = .ok (.aload_n 0, 1) := by decide +kernel
theorem zd_27_6 : decode (zm_cc 27) 6 = .ok (.getfield 40, 3) := by decide +kernel
theorem zd_27_9 : decode (zm_cc 27) 9 = .ok (.aload_n 0, 1) := by decide +kernel
theorem zd_27_10 : decode (zm_cc 27) 10 = .ok (.getfield 26, 3) := by decide +kernel
theorem zd_27_13 : decode (zm_cc 27) 13 = .ok (.if_icmp .ge 30, 3) := by decide +kernel
theorem zd_27_16 : decode (zm_cc 27) 16 = .ok (.aload_n 0, 1) := by decide +kernel
theorem zd_27_17 : decode (zm_cc 27) 17 = .ok (.aload_n 0, 1) := by decide +kernel
theorem zd_27_18 : decode (zm_cc 27) 18 = .ok (.getfield 40, 3) := by decide +kernel
theorem zd_27_21 : decode (zm_cc 27) 21 = .ok (.invokevirtual 53, 3) := by decide +kernel
theorem zd_27_24 : decode (zm_cc 27) 24 = .ok (.invokestatic 56, 3) := by decide +kernel
theorem zd_27_27 : decode (zm_cc 27) 27 = .ok (.ifCond .eq 16, 3) := by decide +kernel
theorem zd_27_30 : decode (zm_cc 27) 30 = .ok (.aload_n 0, 1) := by decide +kernel
theorem zd_27_31 : decode (zm_cc 27) 31 = .ok (.dup, 1) := by decide +kernel
theorem zd_27_32 : decode (zm_cc 27) 32 = .ok (.getfield 40, 3) := by decide +kernel
theorem zd_27_35 : decode (zm_cc 27) 35 = .ok (.iconst 1, 1) := by decide +kernel
theorem zd_27_36 : decode (zm_cc 27) 36 = .ok (.iadd, 1) := by decide +kernel
theorem zd_27_37 : decode (zm_cc 27) 37 = .ok (.putfield 40, 3) := by decide +kernel
theorem zd_27_40 : decode (zm_cc 27) 40 = .ok (.goto (-35), 3) := by decide +kernel
theorem zd_27_43 : decode (zm_cc 27) 43 = .ok (.aload_n 0, 1) := by decide +kernel
theorem zd_27_44 : decode (zm_cc 27) 44 = .ok (.aload_n 0, 1) := by decide +kernel
theorem zd_27_45 : decode (zm_cc 27) 45 = .ok (.getfield 40, 3) := by decide +kernel
theorem zd_27_48 : decode (zm_cc 27) 48 = .ok (.invokevirtual 53, 3) := by decide +kernel
theorem zd_27_51 : decode (zm_cc 27) 51 = .ok (.istore_n 2, 1) := by decide +kernel
theorem zd_27_52 : decode (zm_cc 27) 52 = .ok (.aload_n 0, 1) := by decide +kernel
theorem zd_27_53 : decode (zm_cc 27) 53 = .ok (.lconst 0, 1) := by decide +kernel
theorem zd_27_54 : decode (zm_cc 27) 54 = .ok (.putfield 43, 3) := by decide +kernel
theorem zd_27_57 : decode (zm_cc 27) 57 = .ok (.iload_n 2, 1) := by decide +kernel
theorem zd_27_58 : decode (zm_cc 27) 58 = .ok (.iconst (-1), 1) := by decide +kernel
theorem zd_27_59 : decode (zm_cc 27) 59 = .ok (.if_icmp .ne 13, 3) := by decide +kernel
theorem zd_27_62 : decode (zm_cc 27) 62 = .ok (.aload_n 0, 1) := by decide +kernel
theorem zd_27_63 : decode (zm_cc 27) 63 = .ok (.iconst 0, 1) := by decide +kernel
theorem zd_27_64 : decode (zm_cc 27) 64 = .ok (.putfield 33, 3) := by decide +kernel
theorem zd_27_67 : decode (zm_cc 27) 67 = .ok (.aload_n 0, 1) := by decide +kernel
theorem zd_27_68 : decode (zm_cc 27) 68 = .ok (.getfield 40, 3) := by decide +kernel
theorem zd_27_71 : decode (zm_cc 27) 71 = .ok (.ireturn, 1) := by decide +kernel
theorem zd_27_72 : decode (zm_cc 27) 72 = .ok (.iload_n 2, 1) := by decide +kernel
theorem zd_27_73 : decode (zm_cc 27) 73 = .ok (.invokestatic 60, 3) := by decide +kernel
theorem zd_27_76 : decode (zm_cc 27) 76 = .ok (.ifCond .eq 22, 3) := by decide +kernel
theorem zd_27_79 : decode (zm_cc 27) 79 = .ok (.iload_n 2, 1) := by decide +kernel
theorem zd_27_80 : decode (zm_cc 27) 80 = .ok (.bipush 57, 2) := by decide +kernel
theorem zd_27_82 : decode (zm_cc 27) 82 = .ok (.if_icmp .gt 11, 3) := by decide +kernel
theorem zd_27_85 : decode (zm_cc 27) 85 = .ok (.aload_n 0, 1) := by decide +kernel
theorem zd_27_86 : decode (zm_cc 27) 86 = .ok (.iload_n 2, 1) := by decide +kernel
theorem zd_27_87 : decode (zm_cc 27) 87 = .ok (.invokevirtual 63, 3) := by decide +kernel
theorem zd_27_90 : decode (zm_cc 27) 90 = .ok (.goto 7, 3) := by decide +kernel
theorem zd_27_93 : decode (zm_cc 27) 93 = .ok (.aload_n 0, 1) := by decide +kernel
theorem zd_27_94 : decode (zm_cc 27) 94 = .ok (.invokevirtual 66, 3) := by decide +kernel
theorem zd_27_97 : decode (zm_cc 27) 97 = .ok (.ireturn, 1) := by decide +kernel
theorem zd_27_98 : decode (zm_cc 27) 98 = .ok (.aload_n 0, 1) := by decide +kernel
theorem zd_27_99 : decode (zm_cc 27) 99 = .ok (.iload_n 2, 1) := by decide +kernel
theorem zd_27_100 : decode (zm_cc 27) 100 = .ok (.invokevirtual 70, 3) := by decide +kernel
theorem zd_27_103 : decode (zm_cc 27) 103 = .ok (.ireturn, 1) := by decide +kernel
theorem zd_28_0 : decode (zm_cc 28) 0 = .ok (.iload_n 1, 1) := by decide +kernel
theorem zd_28_1 : decode (zm_cc 28) 1 = .ok (.ifCond .lt 20, 3) := by decide +kernel
theorem zd_28_4 : decode (zm_cc 28) 4 = .ok (.iload_n 1, 1) := by decide +kernel
theorem zd_28_5 : decode (zm_cc 28) 5 = .ok (.aload_n 0, 1) := by decide +kernel
theorem zd_28_6 : decode (zm_cc 28) 6 = .ok (.getfield 26, 3) := by decide +kernel
theorem zd_28_9 : decode (zm_cc 28) 9 = .ok (.if_icmp .ge 12, 3) := by decide +kernel
theorem zd_28_12 : decode (zm_cc 28) 12 = .ok (.iload_n 1, 1) := by decide +kernel
theorem zd_28_13 : decode (zm_cc 28) 13 = .ok (.aload_n 0, 1) := by decide +kernel
theorem zd_28_14 : decode (zm_cc 28) 14 = .ok (.getfield 22, 3) := by decide +kernel
theorem zd_28_17 : decode (zm_cc 28) 17 = .ok (.arraylength, 1) := by decide +kernel
theorem zd_28_18 : decode (zm_cc 28) 18 = .ok (.if_icmp .lt 7, 3) := by decide +kernel
theorem zd_28_21 : decode (zm_cc 28) 21 = .ok (.iconst (-1), 1) := by decide +kernel
theorem zd_28_22 : decode (zm_cc 28) 22 = .ok (.goto 13, 3) := by decide +kernel
theorem zd_28_25 : decode (zm_cc 28) 25 = .ok (.aload_n 0, 1) := by decide +kernel
theorem zd_28_26 : decode (zm_cc 28) 26 = .ok (.getfield 22, 3) := by decide +kernel
theorem zd_28_29 : decode (zm_cc 28) 29 = .ok (.iload_n 1, 1) := by decide +kernel
theorem zd_28_30 : decode (zm_cc 28) 30 = .ok (.baload, 1) := by decide +kernel
theorem zd_28_31 : decode (zm_cc 28) 31 = .ok (.sipush 255, 3) := by decide +kernel
theorem zd_28_34 : decode (zm_cc 28) 34 = .ok (.iand, 1) := by decide +kernel
theorem zd_28_35 : decode (zm_cc 28) 35 = .ok (.ireturn, 1) := by decide +kernel
theorem zd_29_0 : decode (zm_cc 29) 0 = .ok (.iload_n 0, 1) := by decide +kernel
theorem zd_29_1 : decode (zm_cc 29) 1 = .ok (.bipush 32, 2) := by decide +kernel
theorem zd_29_3 : decode (zm_cc 29) 3 = .ok (.if_icmp .eq 9, 3) := by decide +kernel
theorem zd_29_6 : decode (zm_cc 29) 6 = .ok (.iload_n 0, 1) := by decide +kernel
theorem zd_29_7 : decode (zm_cc 29) 7 = .ok (.bipush 10, 2) := by decide +kernel
theorem zd_29_9 : decode (zm_cc 29) 9 = .ok (.if_icmp .ne 7, 3) := by decide +kernel
theorem zd_29_12 : decode (zm_cc 29) 12 = .ok (.iconst 1, 1) := by decide +kernel
theorem zd_29_13 : decode (zm_cc 29) 13 = .ok (.goto 4, 3) := by decide +kernel
theorem zd_29_16 : decode (zm_cc 29) 16 = .ok (.iconst 0, 1) := by decide +kernel
theorem zd_29_17 : decode (zm_cc 29) 17 = .ok (.ireturn, 1) := by decide +kernel
theorem zd_30_0 : decode (zm_cc 30) 0 = .ok (.iload_n 0, 1) := by decide +kernel
theorem zd_30_1 : decode (zm_cc 30) 1 = .ok (.bipush 97, 2) := by decide +kernel
theorem zd_30_3 : decode (zm_cc 30) 3 = .ok (.if_icmp .lt 9, 3) := by decide +kernel
theorem zd_30_6 : decode (zm_cc 30) 6 = .ok (.iload_n 0, 1) := by decide +kernel
theorem zd_30_7 : decode (zm_cc 30) 7 = .ok (.bipush 122, 2) := by decide +kernel
theorem zd_30_9 : decode (zm_cc 30) 9 = .ok (.if_icmp .le 15, 3) := by decide +kernel
theorem zd_30_12 : decode (zm_cc 30) 12 = .ok (.iload_n 0, 1) := by decide +kernel
theorem zd_30_13 : decode (zm_cc 30) 13 = .ok (.bipush 48, 2) := by decide +kernel
theorem zd_30_15 : decode (zm_cc 30) 15 = .ok (.if_icmp .lt 13, 3) := by decide +kernel
theorem zd_30_18 : decode (zm_cc 30) 18 = .ok (.iload_n 0, 1) := by decide +kernel
theorem zd_30_19 : decode (zm_cc 30) 19 = .ok (.bipush 57, 2) := by decide +kernel
theorem zd_30_21 : decode (zm_cc 30) 21 = .ok (.if_icmp .gt 7, 3) := by decide +kernel
theorem zd_30_24 : decode (zm_cc 30) 24 = .ok (.iconst 1, 1) := by decide +kernel
theorem zd_30_25 : decode (zm_cc 30) 25 = .ok (.goto 4, 3) := by decide +kernel
theorem zd_30_28 : decode (zm_cc 30) 28 = .ok (.iconst 0, 1) := by decide +kernel
theorem zd_30_29 : decode (zm_cc 30) 29 = .ok (.ireturn, 1) := by decide +kernel
theorem zd_31_0 : decode (zm_cc 31) 0 = .ok (.aload_n 0, 1) := by decide +kernel
theorem zd_31_1 : decode (zm_cc 31) 1 = .ok (.iload_n 1, 1) := by decide +kernel
theorem zd_31_2 : decode (zm_cc 31) 2 = .ok (.bipush 48, 2) := by decide +kernel
theorem zd_31_4 : decode (zm_cc 31) 4 = .ok (.isub, 1) := by decide +kernel
theorem zd_31_5 : decode (zm_cc 31) 5 = .ok (.i2l, 1) := by decide +kernel
theorem zd_31_6 : decode (zm_cc 31) 6 = .ok (.putfield 43, 3) := by decide +kernel
theorem zd_31_9 : decode (zm_cc 31) 9 = .ok (.aload_n 0, 1) := by decide +kernel
theorem zd_31_10 : decode (zm_cc 31) 10 = .ok (.iload_n 1, 1) := by decide +kernel
theorem zd_31_11 : decode (zm_cc 31) 11 = .ok (.bipush 55, 2) := by decide +kernel
theorem zd_31_13 : decode (zm_cc 31) 13 = .ok (.if_icmp .gt 19, 3) := by decide +kernel
theorem zd_31_16 : decode (zm_cc 31) 16 = .ok (.aload_n 0, 1) := by decide +kernel
theorem zd_31_17 : decode (zm_cc 31) 17 = .ok (.aload_n 0, 1) := by decide +kernel
theorem zd_31_18 : decode (zm_cc 31) 18 = .ok (.getfield 40, 3) := by decide +kernel
theorem zd_31_21 : decode (zm_cc 31) 21 = .ok (.iconst 1, 1) := by decide +kernel
theorem zd_31_22 : decode (zm_cc 31) 22 = .ok (.iadd, 1) := by decide +kernel
theorem zd_31_23 : decode (zm_cc 31) 23 = .ok (.invokevirtual 53, 3) := by decide +kernel
theorem zd_31_26 : decode (zm_cc 31) 26 = .ok (.invokestatic 60, 3) := by decide +kernel
theorem zd_31_29 : decode (zm_cc 31) 29 = .ok (.ifCond .eq 7, 3) := by decide +kernel
theorem zd_31_32 : decode (zm_cc 31) 32 = .ok (.iconst 1, 1) := by decide +kernel
theorem zd_31_33 : decode (zm_cc 31) 33 = .ok (.goto 4, 3) := by decide +kernel
theorem zd_31_36 : decode (zm_cc 31) 36 = .ok (.iconst 2, 1) := by decide +kernel
theorem zd_31_37 : decode (zm_cc 31) 37 = .ok (.putfield 33, 3) := by decide +kernel
theorem zd_31_40 : decode (zm_cc 31) 40 = .ok (.aload_n 0, 1) := by decide +kernel
theorem zd_31_41 : decode (zm_cc 31) 41 = .ok (.getfield 40, 3) := by decide +kernel
theorem zd_31_44 : decode (zm_cc 31) 44 = .ok (.iconst 1, 1) := by decide +kernel
theorem zd_31_45 : decode (zm_cc 31) 45 = .ok (.iadd, 1) := by decide +kernel
theorem zd_31_46 : decode (zm_cc 31) 46 = .ok (.ireturn, 1) := by decide +kernel
theorem zd_32_0 : decode (zm_cc 32) 0 = .ok (.aload_n 0, 1) := by decide +kernel
theorem zd_32_1 : decode (zm_cc 32) 1 = .ok (.getfield 40, 3) := by decide +kernel
theorem zd_32_4 : decode (zm_cc 32) 4 = .ok (.istore_n 1, 1) := by decide +kernel
theorem zd_32_5 : decode (zm_cc 32) 5 = .ok (.iload_n 1, 1) := by decide +kernel
theorem zd_32_6 : decode (zm_cc 32) 6 = .ok (.aload_n 0, 1) := by decide +kernel
theorem zd_32_7 : decode (zm_cc 32) 7 = .ok (.getfield 26, 3) := by decide +kernel
theorem zd_32_10 : decode (zm_cc 32) 10 = .ok (.if_icmp .ge 38, 3) := by decide +kernel
theorem zd_32_13 : decode (zm_cc 32) 13 = .ok (.aload_n 0, 1) := by decide +kernel
theorem zd_32_14 : decode (zm_cc 32) 14 = .ok (.iload_n 1, 1) := by decide +kernel
theorem zd_32_15 : decode (zm_cc 32) 15 = .ok (.invokevirtual 53, 3) := by decide +kernel
theorem zd_32_18 : decode (zm_cc 32) 18 = .ok (.invokestatic 60, 3) := by decide +kernel
theorem zd_32_21 : decode (zm_cc 32) 21 = .ok (.ifCond .eq 27, 3) := by decide +kernel
theorem zd_32_24 : decode (zm_cc 32) 24 = .ok (.aload_n 0, 1) := by decide +kernel
theorem zd_32_25 : decode (zm_cc 32) 25 = .ok (.aload_n 0, 1) := by decide +kernel
theorem zd_32_26 : decode (zm_cc 32) 26 = .ok (.getfield 43, 3) := by decide +kernel
theorem zd_32_29 : decode (zm_cc 32) 29 = .ok (.bipush 8, 2) := by decide +kernel
theorem zd_32_31 : decode (zm_cc 32) 31 = .ok (.lshl, 1) := by decide +kernel
theorem zd_32_32 : decode (zm_cc 32) 32 = .ok (.aload_n 0, 1) := by decide +kernel
theorem zd_32_33 : decode (zm_cc 32) 33 = .ok (.iload_n 1, 1) := by decide +kernel
theorem zd_32_34 : decode (zm_cc 32) 34 = .ok (.invokevirtual 53, 3) := by decide +kernel
theorem zd_32_37 : decode (zm_cc 32) 37 = .ok (.i2l, 1) := by decide +kernel
theorem zd_32_38 : decode (zm_cc 32) 38 = .ok (.lor, 1) := by decide +kernel
theorem zd_32_39 : decode (zm_cc 32) 39 = .ok (.putfield 43, 3) := by decide +kernel
theorem zd_32_42 : decode (zm_cc 32) 42 = .ok (.iinc 1 1, 3) := by decide +kernel
theorem zd_32_45 : decode (zm_cc 32) 45 = .ok (.goto (-40), 3) := by decide +kernel
theorem zd_32_48 : decode (zm_cc 32) 48 = .ok (.aload_n 0, 1) := by decide +kernel
theorem zd_32_49 : decode (zm_cc 32) 49 = .ok (.iload_n 1, 1) := by decide +kernel
theorem zd_32_50 : decode (zm_cc 32) 50 = .ok (.aload_n 0, 1) := by decide +kernel
theorem zd_32_51 : decode (zm_cc 32) 51 = .ok (.getfield 40, 3) := by decide +kernel
theorem zd_32_54 : decode (zm_cc 32) 54 = .ok (.isub, 1) := by decide +kernel
theorem zd_32_55 : decode (zm_cc 32) 55 = .ok (.bipush 6, 2) := by decide +kernel
theorem zd_32_57 : decode (zm_cc 32) 57 = .ok (.if_icmp .le 7, 3) := by decide +kernel
theorem zd_32_60 : decode (zm_cc 32) 60 = .ok (.iconst 1, 1) := by decide +kernel
theorem zd_32_61 : decode (zm_cc 32) 61 = .ok (.goto 4, 3) := by decide +kernel
theorem zd_32_64 : decode (zm_cc 32) 64 = .ok (.iconst 3, 1) := by decide +kernel
theorem zd_32_65 : decode (zm_cc 32) 65 = .ok (.putfield 33, 3) := by decide +kernel
theorem zd_32_68 : decode (zm_cc 32) 68 = .ok (.iconst 0, 1) := by decide +kernel
theorem zd_32_69 : decode (zm_cc 32) 69 = .ok (.istore_n 2, 1) := by decide +kernel
theorem zd_32_70 : decode (zm_cc 32) 70 = .ok (.iload_n 2, 1) := by decide +kernel
theorem zd_32_71 : decode (zm_cc 32) 71 = .ok (.getstatic 73, 3) := by decide +kernel
theorem zd_32_74 : decode (zm_cc 32) 74 = .ok (.arraylength, 1) := by decide +kernel
theorem zd_32_75 : decode (zm_cc 32) 75 = .ok (.if_icmp .ge 39, 3) := by decide +kernel
theorem zd_32_78 : decode (zm_cc 32) 78 = .ok (.aload_n 0, 1) := by decide +kernel
theorem zd_32_79 : decode (zm_cc 32) 79 = .ok (.getfield 33, 3) := by decide +kernel
theorem zd_32_82 : decode (zm_cc 32) 82 = .ok (.iconst 3, 1) := by decide +kernel
theorem zd_32_83 : decode (zm_cc 32) 83 = .ok (.if_icmp .ne 31, 3) := by decide +kernel
theorem zd_32_86 : decode (zm_cc 32) 86 = .ok (.getstatic 73, 3) := by decide +kernel
theorem zd_32_89 : decode (zm_cc 32) 89 = .ok (.iload_n 2, 1) := by decide +kernel
theorem zd_32_90 : decode (zm_cc 32) 90 = .ok (.laload, 1) := by decide +kernel
theorem zd_32_91 : decode (zm_cc 32) 91 = .ok (.aload_n 0, 1) := by decide +kernel
theorem zd_32_92 : decode (zm_cc 32) 92 = .ok (.getfield 43, 3) := by decide +kernel
theorem zd_32_95 : decode (zm_cc 32) 95 = .ok (.lcmp, 1) := by decide +kernel
theorem zd_32_96 : decode (zm_cc 32) 96 = .ok (.ifCond .ne 12, 3) := by decide +kernel
theorem zd_32_99 : decode (zm_cc 32) 99 = .ok (.aload_n 0, 1) := by decide +kernel
theorem zd_32_100 : decode (zm_cc 32) 100 = .ok (.sipush 300, 3) := by decide +kernel
theorem zd_32_103 : decode (zm_cc 32) 103 = .ok (.iload_n 2, 1) := by decide +kernel
theorem zd_32_104 : decode (zm_cc 32) 104 = .ok (.iadd, 1) := by decide +kernel
theorem zd_32_105 : decode (zm_cc 32) 105 = .ok (.putfield 33, 3) := by decide +kernel
theorem zd_32_108 : decode (zm_cc 32) 108 = .ok (.iinc 2 1, 3) := by decide +kernel
theorem zd_32_111 : decode (zm_cc 32) 111 = .ok (.goto (-41), 3) := by decide +kernel
theorem zd_32_114 : decode (zm_cc 32) 114 = .ok (.iload_n 1, 1) := by decide +kernel
theorem zd_32_115 : decode (zm_cc 32) 115 = .ok (.ireturn, 1) := by decide +kernel
theorem zd_33_0 : decode (zm_cc 33) 0 = .ok (.iload_n 1, 1) := by decide +kernel
theorem zd_33_1 : decode (zm_cc 33) 1 = .ok (.bipush 61, 2) := by decide +kernel
theorem zd_33_3 : decode (zm_cc 33) 3 = .ok (.if_icmp .eq 9, 3) := by decide +kernel
theorem zd_33_6 : decode (zm_cc 33) 6 = .ok (.iload_n 1, 1) := by decide +kernel
theorem zd_33_7 : decode (zm_cc 33) 7 = .ok (.bipush 33, 2) := by decide +kernel
theorem zd_33_9 : decode (zm_cc 33) 9 = .ok (.if_icmp .ne 44, 3) := by decide +kernel
theorem zd_33_12 : decode (zm_cc 33) 12 = .ok (.aload_n 0, 1) := by decide +kernel
theorem zd_33_13 : decode (zm_cc 33) 13 = .ok (.aload_n 0, 1) := by decide +kernel
theorem zd_33_14 : decode (zm_cc 33) 14 = .ok (.getfield 40, 3) := by decide +kernel
theorem zd_33_17 : decode (zm_cc 33) 17 = .ok (.iconst 1, 1) := by decide +kernel
theorem zd_33_18 : decode (zm_cc 33) 18 = .ok (.iadd, 1) := by decide +kernel
theorem zd_33_19 : decode (zm_cc 33) 19 = .ok (.invokevirtual 53, 3) := by decide +kernel
theorem zd_33_22 : decode (zm_cc 33) 22 = .ok (.bipush 61, 2) := by decide +kernel
theorem zd_33_24 : decode (zm_cc 33) 24 = .ok (.if_icmp .ne 29, 3) := by decide +kernel
theorem zd_33_27 : decode (zm_cc 33) 27 = .ok (.aload_n 0, 1) := by decide +kernel
theorem zd_33_28 : decode (zm_cc 33) 28 = .ok (.iload_n 1, 1) := by decide +kernel
theorem zd_33_29 : decode (zm_cc 33) 29 = .ok (.bipush 61, 2) := by decide +kernel
theorem zd_33_31 : decode (zm_cc 33) 31 = .ok (.if_icmp .ne 9, 3) := by decide +kernel
theorem zd_33_34 : decode (zm_cc 33) 34 = .ok (.sipush 256, 3) := by decide +kernel
theorem zd_33_37 : decode (zm_cc 33) 37 = .ok (.goto 6, 3) := by decide +kernel
theorem zd_33_40 : decode (zm_cc 33) 40 = .ok (.sipush 257, 3) := by decide +kernel
theorem zd_33_43 : decode (zm_cc 33) 43 = .ok (.putfield 33, 3) := by decide +kernel
theorem zd_33_46 : decode (zm_cc 33) 46 = .ok (.aload_n 0, 1) := by decide +kernel
theorem zd_33_47 : decode (zm_cc 33) 47 = .ok (.getfield 40, 3) := by decide +kernel
theorem zd_33_50 : decode (zm_cc 33) 50 = .ok (.iconst 2, 1) := by decide +kernel
theorem zd_33_51 : decode (zm_cc 33) 51 = .ok (.iadd, 1) := by decide +kernel
theorem zd_33_52 : decode (zm_cc 33) 52 = .ok (.ireturn, 1) := by decide +kernel
theorem zd_33_53 : decode (zm_cc 33) 53 = .ok (.aload_n 0, 1) := by decide +kernel
theorem zd_33_54 : decode (zm_cc 33) 54 = .ok (.iload_n 1, 1) := by decide +kernel
theorem zd_33_55 : decode (zm_cc 33) 55 = .ok (.invokestatic 76, 3) := by decide +kernel
theorem zd_33_58 : decode (zm_cc 33) 58 = .ok (.ifCond .eq 7, 3) := by decide +kernel
theorem zd_33_61 : decode (zm_cc 33) 61 = .ok (.iload_n 1, 1) := by decide +kernel
theorem zd_33_62 : decode (zm_cc 33) 62 = .ok (.goto 4, 3) := by decide +kernel
theorem zd_33_65 : decode (zm_cc 33) 65 = .ok (.iconst 1, 1) := by decide +kernel
theorem zd_33_66 : decode (zm_cc 33) 66 = .ok (.putfield 33, 3) := by decide +kernel
theorem zd_33_69 : decode (zm_cc 33) 69 = .ok (.aload_n 0, 1) := by decide +kernel
theorem zd_33_70 : decode (zm_cc 33) 70 = .ok (.getfield 40, 3) := by decide +kernel
theorem zd_33_73 : decode (zm_cc 33) 73 = .ok (.iconst 1, 1) := by decide +kernel
theorem zd_33_74 : decode (zm_cc 33) 74 = .ok (.iadd, 1) := by decide +kernel
theorem zd_33_75 : decode (zm_cc 33) 75 = .ok (.ireturn, 1) := by decide +kernel
theorem zd_34_0 : decode (zm_cc 34) 0 = .ok (.iload_n 0, 1) := by decide +kernel
theorem zd_34_1 : decode (zm_cc 34) 1 = .ok (.lookupswitch 77 #[(43, 75), (45, 75), (59, 75), (60, 75), (61, 75), (62, 75), (123, 75), (125, 75)], 75) := by decide +kernel
theorem zd_34_76 : decode (zm_cc 34) 76 = .ok (.iconst 1, 1) := by decide +kernel
theorem zd_34_77 : decode (zm_cc 34) 77 = .ok (.ireturn, 1) := by decide +kernel
theorem zd_34_78 : decode (zm_cc 34) 78 = .ok (.iconst 0, 1) := by decide +kernel
theorem zd_34_79 : decode (zm_cc 34) 79 = .ok (.ireturn, 1) := by decide +kernel
theorem zd_35_0 : decode (zm_cc 35) 0 = .ok (.aload_n 0, 1) := by decide +kernel
theorem zd_35_1 : decode (zm_cc 35) 1 = .ok (.getfield 47, 3) := by decide +kernel
theorem zd_35_4 : decode (zm_cc 35) 4 = .ok (.aload_n 0, 1) := by decide +kernel
theorem zd_35_5 : decode (zm_cc 35) 5 = .ok (.getfield 30, 3) := by decide +kernel
theorem zd_35_8 : decode (zm_cc 35) 8 = .ok (.iconst 1, 1) := by decide +kernel
theorem zd_35_9 : decode (zm_cc 35) 9 = .ok (.isub, 1) := by decide +kernel
theorem zd_35_10 : decode (zm_cc 35) 10 = .ok (.if_icmp .ge 23, 3) := by decide +kernel
theorem zd_35_13 : decode (zm_cc 35) 13 = .ok (.aload_n 0, 1) := by decide +kernel
theorem zd_35_14 : decode (zm_cc 35) 14 = .ok (.getfield 47, 3) := by decide +kernel
theorem zd_35_17 : decode (zm_cc 35) 17 = .ok (.sipush 1500, 3) := by decide +kernel
theorem zd_35_20 : decode (zm_cc 35) 20 = .ok (.if_icmp .ge 13, 3) := by decide +kernel
theorem zd_35_23 : decode (zm_cc 35) 23 = .ok (.aload_n 0, 1) := by decide +kernel
theorem zd_35_24 : decode (zm_cc 35) 24 = .ok (.dup, 1) := by decide +kernel
theorem zd_35_25 : decode (zm_cc 35) 25 = .ok (.getfield 47, 3) := by decide +kernel
theorem zd_35_28 : decode (zm_cc 35) 28 = .ok (.iconst 1, 1) := by decide +kernel
theorem zd_35_29 : decode (zm_cc 35) 29 = .ok (.iadd, 1) := by decide +kernel
theorem zd_35_30 : decode (zm_cc 35) 30 = .ok (.putfield 47, 3) := by decide +kernel
theorem zd_35_33 : decode (zm_cc 35) 33 = .ok (.aload_n 0, 1) := by decide +kernel
theorem zd_35_34 : decode (zm_cc 35) 34 = .ok (.getfield 47, 3) := by decide +kernel
theorem zd_35_37 : decode (zm_cc 35) 37 = .ok (.ifCond .lt 52, 3) := by decide +kernel
theorem zd_35_40 : decode (zm_cc 35) 40 = .ok (.aload_n 0, 1) := by decide +kernel
theorem zd_35_41 : decode (zm_cc 35) 41 = .ok (.getfield 47, 3) := by decide +kernel
theorem zd_35_44 : decode (zm_cc 35) 44 = .ok (.sipush 1500, 3) := by decide +kernel
theorem zd_35_47 : decode (zm_cc 35) 47 = .ok (.if_icmp .gt 42, 3) := by decide +kernel
theorem zd_35_50 : decode (zm_cc 35) 50 = .ok (.aload_n 0, 1) := by decide +kernel
theorem zd_35_51 : decode (zm_cc 35) 51 = .ok (.aload_n 0, 1) := by decide +kernel
theorem zd_35_52 : decode (zm_cc 35) 52 = .ok (.getfield 9, 3) := by decide +kernel
theorem zd_35_55 : decode (zm_cc 35) 55 = .ok (.aload_n 0, 1) := by decide +kernel
theorem zd_35_56 : decode (zm_cc 35) 56 = .ok (.getfield 47, 3) := by decide +kernel
theorem zd_35_59 : decode (zm_cc 35) 59 = .ok (.iaload, 1) := by decide +kernel
theorem zd_35_60 : decode (zm_cc 35) 60 = .ok (.putfield 33, 3) := by decide +kernel
theorem zd_35_63 : decode (zm_cc 35) 63 = .ok (.aload_n 0, 1) := by decide +kernel
theorem zd_35_64 : decode (zm_cc 35) 64 = .ok (.aload_n 0, 1) := by decide +kernel
theorem zd_35_65 : decode (zm_cc 35) 65 = .ok (.getfield 15, 3) := by decide +kernel
theorem zd_35_68 : decode (zm_cc 35) 68 = .ok (.aload_n 0, 1) := by decide +kernel
theorem zd_35_69 : decode (zm_cc 35) 69 = .ok (.getfield 47, 3) := by decide +kernel
theorem zd_35_72 : decode (zm_cc 35) 72 = .ok (.iaload, 1) := by decide +kernel
theorem zd_35_73 : decode (zm_cc 35) 73 = .ok (.putfield 40, 3) := by decide +kernel
theorem zd_35_76 : decode (zm_cc 35) 76 = .ok (.aload_n 0, 1) := by decide +kernel
theorem zd_35_77 : decode (zm_cc 35) 77 = .ok (.aload_n 0, 1) := by decide +kernel
theorem zd_35_78 : decode (zm_cc 35) 78 = .ok (.getfield 18, 3) := by decide +kernel
theorem zd_35_81 : decode (zm_cc 35) 81 = .ok (.aload_n 0, 1) := by decide +kernel
theorem zd_35_82 : decode (zm_cc 35) 82 = .ok (.getfield 47, 3) := by decide +kernel
theorem zd_35_85 : decode (zm_cc 35) 85 = .ok (.laload, 1) := by decide +kernel
theorem zd_35_86 : decode (zm_cc 35) 86 = .ok (.putfield 43, 3) := by decide +kernel
theorem zd_35_89 : decode (zm_cc 35) 89 = .ok (.return_, 1) := by decide +kernel
theorem zd_36_0 : decode (zm_cc 36) 0 = .ok (.aload_n 0, 1) := by decide +kernel
theorem zd_36_1 : decode (zm_cc 36) 1 = .ok (.getfield 35, 3) := by decide +kernel
theorem zd_36_4 : decode (zm_cc 36) 4 = .ok (.getfield 74, 3) := by decide +kernel
theorem zd_36_7 : decode (zm_cc 36) 7 = .ok (.lookupswitch 202 #[(3, 112), (125, 105), (302, 126), (304, 133), (306, 142), (307, 152), (308, 161), (310, 170), (311, 179), (312, 188), (313, 195), (314, 119)], 105) := by decide +kernel
theorem zd_36_112 : decode (zm_cc 36) 112 = .ok (.aload_n 0, 1) := by decide +kernel
theorem zd_36_113 : decode (zm_cc 36) 113 = .ok (.invokevirtual 145, 3) := by decide +kernel
theorem zd_36_116 : decode (zm_cc 36) 116 = .ok (.goto 99, 3) := by decide +kernel
theorem zd_36_119 : decode (zm_cc 36) 119 = .ok (.aload_n 0, 1) := by decide +kernel
theorem zd_36_120 : decode (zm_cc 36) 120 = .ok (.invokevirtual 148, 3) := by decide +kernel
theorem zd_36_123 : decode (zm_cc 36) 123 = .ok (.goto 92, 3) := by decide +kernel
theorem zd_36_126 : decode (zm_cc 36) 126 = .ok (.aload_n 0, 1) := by decide +kernel
theorem zd_36_127 : decode (zm_cc 36) 127 = .ok (.invokevirtual 151, 3) := by decide +kernel
theorem zd_36_130 : decode (zm_cc 36) 130 = .ok (.goto 85, 3) := by decide +kernel
theorem zd_36_133 : decode (zm_cc 36) 133 = .ok (.aload_n 0, 1) := by decide +kernel
theorem zd_36_134 : decode (zm_cc 36) 134 = .ok (.invokevirtual 154, 3) := by decide +kernel
theorem zd_36_137 : decode (zm_cc 36) 137 = .ok (.goto 78, 3) := by decide +kernel
theorem zd_36_140 : decode (zm_cc 36) 140 = .ok (.aload_n 0, 1) := by decide +kernel
theorem zd_36_141 : decode (zm_cc 36) 141 = .ok (.iconst 5, 1) := by decide +kernel
theorem zd_36_142 : decode (zm_cc 36) 142 = .ok (.iconst 3, 1) := by decide +kernel
theorem zd_36_143 : decode (zm_cc 36) 143 = .ok (.invokevirtual 157, 3) := by decide +kernel
theorem zd_36_146 : decode (zm_cc 36) 146 = .ok (.goto 69, 3) := by decide +kernel
theorem zd_36_149 : decode (zm_cc 36) 149 = .ok (.aload_n 0, 1) := by decide +kernel
theorem zd_36_150 : decode (zm_cc 36) 150 = .ok (.bipush 6, 2) := by decide +kernel
theorem zd_36_152 : decode (zm_cc 36) 152 = .ok (.iconst 5, 1) := by decide +kernel
theorem zd_36_153 : decode (zm_cc 36) 153 = .ok (.invokevirtual 157, 3) := by decide +kernel
theorem zd_36_156 : decode (zm_cc 36) 156 = .ok (.goto 59, 3) := by decide +kernel
theorem zd_36_159 : decode (zm_cc 36) 159 = .ok (.aload_n 0, 1) := by decide +kernel
theorem zd_36_160 : decode (zm_cc 36) 160 = .ok (.bipush 7, 2) := by decide +kernel
theorem zd_36_162 : decode (zm_cc 36) 162 = .ok (.invokevirtual 160, 3) := by decide +kernel
theorem zd_36_165 : decode (zm_cc 36) 165 = .ok (.goto 50, 3) := by decide +kernel
theorem zd_36_168 : decode (zm_cc 36) 168 = .ok (.aload_n 0, 1) := by decide +kernel
theorem zd_36_169 : decode (zm_cc 36) 169 = .ok (.bipush 8, 2) := by decide +kernel
theorem zd_36_171 : decode (zm_cc 36) 171 = .ok (.invokevirtual 160, 3) := by decide +kernel
theorem zd_36_174 : decode (zm_cc 36) 174 = .ok (.goto 41, 3) := by decide +kernel
theorem zd_36_177 : decode (zm_cc 36) 177 = .ok (.aload_n 0, 1) := by decide +kernel
theorem zd_36_178 : decode (zm_cc 36) 178 = .ok (.bipush 10, 2) := by decide +kernel
theorem zd_36_180 : decode (zm_cc 36) 180 = .ok (.invokevirtual 163, 3) := by decide +kernel
theorem zd_36_183 : decode (zm_cc 36) 183 = .ok (.goto 32, 3) := by decide +kernel
theorem zd_36_186 : decode (zm_cc 36) 186 = .ok (.aload_n 0, 1) := by decide +kernel
theorem zd_36_187 : decode (zm_cc 36) 187 = .ok (.bipush 11, 2) := by decide +kernel
theorem zd_36_189 : decode (zm_cc 36) 189 = .ok (.invokevirtual 163, 3) := by decide +kernel
theorem zd_36_192 : decode (zm_cc 36) 192 = .ok (.goto 23, 3) := by decide +kernel
theorem zd_36_195 : decode (zm_cc 36) 195 = .ok (.aload_n 0, 1) := by decide +kernel
theorem zd_36_196 : decode (zm_cc 36) 196 = .ok (.invokevirtual 166, 3) := by decide +kernel
theorem zd_36_199 : decode (zm_cc 36) 199 = .ok (.goto 16, 3) := by decide +kernel
theorem zd_36_202 : decode (zm_cc 36) 202 = .ok (.aload_n 0, 1) := by decide +kernel
theorem zd_36_203 : decode (zm_cc 36) 203 = .ok (.invokevirtual 169, 3) := by decide +kernel
theorem zd_36_206 : decode (zm_cc 36) 206 = .ok (.goto 9, 3) := by decide +kernel
theorem zd_36_209 : decode (zm_cc 36) 209 = .ok (.aload_n 0, 1) := by decide +kernel
theorem zd_36_210 : decode (zm_cc 36) 210 = .ok (.iconst 2, 1) := by decide +kernel
theorem zd_36_211 : decode (zm_cc 36) 211 = .ok (.invokevirtual 86, 3) := by decide +kernel
theorem zd_36_214 : decode (zm_cc 36) 214 = .ok (.pop, 1) := by decide +kernel
theorem zd_36_215 : decode (zm_cc 36) 215 = .ok (.return_, 1) := by decide +kernel
theorem zd_37_0 : decode (zm_cc 37) 0 = .ok (.aload_n 0, 1) := by decide +kernel
theorem zd_37_1 : decode (zm_cc 37) 1 = .ok (.getfield 44, 3) := by decide +kernel
theorem zd_37_4 : decode (zm_cc 37) 4 = .ok (.invokevirtual 176, 3) := by decide +kernel
theorem zd_37_7 : decode (zm_cc 37) 7 = .ok (.istore_n 1, 1) := by decide +kernel
theorem zd_37_8 : decode (zm_cc 37) 8 = .ok (.iload_n 1, 1) := by decide +kernel
theorem zd_37_9 : decode (zm_cc 37) 9 = .ok (.iconst 1, 1) := by decide +kernel
theorem zd_37_10 : decode (zm_cc 37) 10 = .ok (.if_icmp .ne 11, 3) := by decide +kernel
theorem zd_37_13 : decode (zm_cc 37) 13 = .ok (.aload_n 0, 1) := by decide +kernel
theorem zd_37_14 : decode (zm_cc 37) 14 = .ok (.invokevirtual 180, 3) := by decide +kernel
theorem zd_37_17 : decode (zm_cc 37) 17 = .ok (.ifCond .ne 4, 3) := by decide +kernel
theorem zd_37_20 : decode (zm_cc 37) 20 = .ok (.return_, 1) := by decide +kernel
theorem zd_37_21 : decode (zm_cc 37) 21 = .ok (.aload_n 0, 1) := by decide +kernel
theorem zd_37_22 : decode (zm_cc 37) 22 = .ok (.getfield 35, 3) := by decide +kernel
theorem zd_37_25 : decode (zm_cc 37) 25 = .ok (.invokevirtual 90, 3) := by decide +kernel
theorem zd_37_28 : decode (zm_cc 37) 28 = .ok (.iload_n 1, 1) := by decide +kernel
theorem zd_37_29 : decode (zm_cc 37) 29 = .ok (.iconst 3, 1) := by decide +kernel
theorem zd_37_30 : decode (zm_cc 37) 30 = .ok (.if_icmp .ne 40, 3) := by decide +kernel
theorem zd_37_33 : decode (zm_cc 37) 33 = .ok (.aload_n 0, 1) := by decide +kernel
theorem zd_37_34 : decode (zm_cc 37) 34 = .ok (.getfield 35, 3) := by decide +kernel
theorem zd_37_37 : decode (zm_cc 37) 37 = .ok (.getfield 74, 3) := by decide +kernel
theorem zd_37_40 : decode (zm_cc 37) 40 = .ok (.sipush 305, 3) := by decide +kernel
theorem zd_37_43 : decode (zm_cc 37) 43 = .ok (.if_icmp .ne 27, 3) := by decide +kernel
theorem zd_37_46 : decode (zm_cc 37) 46 = .ok (.aload_n 0, 1) := by decide +kernel
theorem zd_37_47 : decode (zm_cc 37) 47 = .ok (.getfield 35, 3) := by decide +kernel
theorem zd_37_50 : decode (zm_cc 37) 50 = .ok (.invokevirtual 90, 3) := by decide +kernel
theorem zd_37_53 : decode (zm_cc 37) 53 = .ok (.aload_n 0, 1) := by decide +kernel
theorem zd_37_54 : decode (zm_cc 37) 54 = .ok (.getfield 44, 3) := by decide +kernel
theorem zd_37_57 : decode (zm_cc 37) 57 = .ok (.invokevirtual 183, 3) := by decide +kernel
theorem zd_37_60 : decode (zm_cc 37) 60 = .ok (.aload_n 0, 1) := by decide +kernel
theorem zd_37_61 : decode (zm_cc 37) 61 = .ok (.bipush 123, 2) := by decide +kernel
theorem zd_37_63 : decode (zm_cc 37) 63 = .ok (.invokevirtual 117, 3) := by decide +kernel
theorem zd_37_66 : decode (zm_cc 37) 66 = .ok (.pop, 1) := by decide +kernel
theorem zd_37_67 : decode (zm_cc 37) 67 = .ok (.goto 10, 3) := by decide +kernel
theorem zd_37_70 : decode (zm_cc 37) 70 = .ok (.aload_n 0, 1) := by decide +kernel
theorem zd_37_71 : decode (zm_cc 37) 71 = .ok (.getfield 44, 3) := by decide +kernel
theorem zd_37_74 : decode (zm_cc 37) 74 = .ok (.invokevirtual 186, 3) := by decide +kernel
theorem zd_37_77 : decode (zm_cc 37) 77 = .ok (.return_, 1) := by decide +kernel
theorem zd_38_0 : decode (zm_cc 38) 0 = .ok (.aload_n 0, 1) := by decide +kernel
theorem zd_38_1 : decode (zm_cc 38) 1 = .ok (.getfield 35, 3) := by decide +kernel
theorem zd_38_4 : decode (zm_cc 38) 4 = .ok (.ifCond .le 26, 3) := by decide +kernel
theorem zd_38_7 : decode (zm_cc 38) 7 = .ok (.aload_n 0, 1) := by decide +kernel
theorem zd_38_8 : decode (zm_cc 38) 8 = .ok (.getfield 35, 3) := by decide +kernel
theorem zd_38_11 : decode (zm_cc 38) 11 = .ok (.bipush 8, 2) := by decide +kernel
theorem zd_38_13 : decode (zm_cc 38) 13 = .ok (.if_icmp .gt 17, 3) := by decide +kernel
theorem zd_38_16 : decode (zm_cc 38) 16 = .ok (.aload_n 0, 1) := by decide +kernel
theorem zd_38_17 : decode (zm_cc 38) 17 = .ok (.getfield 9, 3) := by decide +kernel
theorem zd_38_20 : decode (zm_cc 38) 20 = .ok (.aload_n 0, 1) := by decide +kernel
theorem zd_38_21 : decode (zm_cc 38) 21 = .ok (.getfield 35, 3) := by decide +kernel
theorem zd_38_24 : decode (zm_cc 38) 24 = .ok (.iconst 1, 1) := by decide +kernel
theorem zd_38_25 : decode (zm_cc 38) 25 = .ok (.isub, 1) := by decide +kernel
theorem zd_38_26 : decode (zm_cc 38) 26 = .ok (.iaload, 1) := by decide +kernel
theorem zd_38_27 : decode (zm_cc 38) 27 = .ok (.goto 4, 3) := by decide +kernel
theorem zd_38_30 : decode (zm_cc 38) 30 = .ok (.iconst (-1), 1) := by decide +kernel
theorem zd_38_31 : decode (zm_cc 38) 31 = .ok (.ireturn, 1) := by decide +kernel
theorem zd_39_0 : decode (zm_cc 39) 0 = .ok (.aload_n 0, 1) := by decide +kernel
theorem zd_39_1 : decode (zm_cc 39) 1 = .ok (.getfield 44, 3) := by decide +kernel
theorem zd_39_4 : decode (zm_cc 39) 4 = .ok (.invokevirtual 172, 3) := by decide +kernel
theorem zd_39_7 : decode (zm_cc 39) 7 = .ok (.ifCond .ne 11, 3) := by decide +kernel
theorem zd_39_10 : decode (zm_cc 39) 10 = .ok (.aload_n 0, 1) := by decide +kernel
theorem zd_39_11 : decode (zm_cc 39) 11 = .ok (.iconst 4, 1) := by decide +kernel
theorem zd_39_12 : decode (zm_cc 39) 12 = .ok (.invokevirtual 86, 3) := by decide +kernel
theorem zd_39_15 : decode (zm_cc 39) 15 = .ok (.ifCond .eq 7, 3) := by decide +kernel
theorem zd_39_18 : decode (zm_cc 39) 18 = .ok (.iconst 1, 1) := by decide +kernel
theorem zd_39_19 : decode (zm_cc 39) 19 = .ok (.goto 4, 3) := by decide +kernel
theorem zd_39_22 : decode (zm_cc 39) 22 = .ok (.iconst 0, 1) := by decide +kernel
theorem zd_39_23 : decode (zm_cc 39) 23 = .ok (.ireturn, 1) := by decide +kernel
theorem zd_40_0 : decode (zm_cc 40) 0 = .ok (.aload_n 0, 1) := by decide +kernel
theorem zd_40_1 : decode (zm_cc 40) 1 = .ok (.getfield 27, 3) := by decide +kernel
theorem zd_40_4 : decode (zm_cc 40) 4 = .ok (.aload_n 0, 1) := by decide +kernel
theorem zd_40_5 : decode (zm_cc 40) 5 = .ok (.getfield 31, 3) := by decide +kernel
theorem zd_40_8 : decode (zm_cc 40) 8 = .ok (.invokevirtual 53, 3) := by decide +kernel
theorem zd_40_11 : decode (zm_cc 40) 11 = .ok (.bipush 24, 2) := by decide +kernel
theorem zd_40_13 : decode (zm_cc 40) 13 = .ok (.if_icmp .ge 7, 3) := by decide +kernel
theorem zd_40_16 : decode (zm_cc 40) 16 = .ok (.iconst 1, 1) := by decide +kernel
theorem zd_40_17 : decode (zm_cc 40) 17 = .ok (.goto 4, 3) := by decide +kernel
theorem zd_40_20 : decode (zm_cc 40) 20 = .ok (.iconst 0, 1) := by decide +kernel
theorem zd_40_21 : decode (zm_cc 40) 21 = .ok (.ireturn, 1) := by decide +kernel
theorem zd_41_0 : decode (zm_cc 41) 0 = .ok (.iload_n 1, 1) := by decide +kernel
theorem zd_41_1 : decode (zm_cc 41) 1 = .ok (.ifCond .lt 17, 3) := by decide +kernel
theorem zd_41_4 : decode (zm_cc 41) 4 = .ok (.iload_n 1, 1) := by decide +kernel
theorem zd_41_5 : decode (zm_cc 41) 5 = .ok (.iconst 4, 1) := by decide +kernel
theorem zd_41_6 : decode (zm_cc 41) 6 = .ok (.if_icmp .ge 12, 3) := by decide +kernel
theorem zd_41_9 : decode (zm_cc 41) 9 = .ok (.aload_n 0, 1) := by decide +kernel
theorem zd_41_10 : decode (zm_cc 41) 10 = .ok (.getfield 9, 3) := by decide +kernel
theorem zd_41_13 : decode (zm_cc 41) 13 = .ok (.iload_n 1, 1) := by decide +kernel
theorem zd_41_14 : decode (zm_cc 41) 14 = .ok (.iaload, 1) := by decide +kernel
theorem zd_41_15 : decode (zm_cc 41) 15 = .ok (.goto 4, 3) := by decide +kernel
theorem zd_41_18 : decode (zm_cc 41) 18 = .ok (.iconst 0, 1) := by decide +kernel
theorem zd_41_19 : decode (zm_cc 41) 19 = .ok (.ireturn, 1) := by decide +kernel
theorem zd_42_0 : decode (zm_cc 42) 0 = .ok (.aload_n 0, 1) := by decide +kernel
theorem zd_42_1 : decode (zm_cc 42) 1 = .ok (.aload_n 0, 1) := by decide +kernel
theorem zd_42_2 : decode (zm_cc 42) 2 = .ok (.getfield 35, 3) := by decide +kernel
theorem zd_42_5 : decode (zm_cc 42) 5 = .ok (.getfield 74, 3) := by decide +kernel
theorem zd_42_8 : decode (zm_cc 42) 8 = .ok (.iconst 1, 1) := by decide +kernel
theorem zd_42_9 : decode (zm_cc 42) 9 = .ok (.if_icmp .ne 7, 3) := by decide +kernel
theorem zd_42_12 : decode (zm_cc 42) 12 = .ok (.iconst 1, 1) := by decide +kernel
theorem zd_42_13 : decode (zm_cc 42) 13 = .ok (.goto 4, 3) := by decide +kernel
theorem zd_42_16 : decode (zm_cc 42) 16 = .ok (.iload_n 1, 1) := by decide +kernel
theorem zd_42_17 : decode (zm_cc 42) 17 = .ok (.putfield 48, 3) := by decide +kernel
theorem zd_42_20 : decode (zm_cc 42) 20 = .ok (.aload_n 0, 1) := by decide +kernel
theorem zd_42_21 : decode (zm_cc 42) 21 = .ok (.aload_n 0, 1) := by decide +kernel
theorem zd_42_22 : decode (zm_cc 42) 22 = .ok (.getfield 35, 3) := by decide +kernel
theorem zd_42_25 : decode (zm_cc 42) 25 = .ok (.getfield 83, 3) := by decide +kernel
theorem zd_42_28 : decode (zm_cc 42) 28 = .ok (.putfield 52, 3) := by decide +kernel
theorem zd_42_31 : decode (zm_cc 42) 31 = .ok (.iconst 0, 1) := by decide +kernel
theorem zd_42_32 : decode (zm_cc 42) 32 = .ok (.ireturn, 1) := by decide +kernel
theorem zd_43_0 : decode (zm_cc 43) 0 = .ok (.aload_n 0, 1) := by decide +kernel
theorem zd_43_1 : decode (zm_cc 43) 1 = .ok (.getfield 35, 3) := by decide +kernel
theorem zd_43_4 : decode (zm_cc 43) 4 = .ok (.ifCond .le 63, 3) := by decide +kernel
theorem zd_43_7 : decode (zm_cc 43) 7 = .ok (.aload_n 0, 1) := by decide +kernel
theorem zd_43_8 : decode (zm_cc 43) 8 = .ok (.getfield 35, 3) := by decide +kernel
theorem zd_43_11 : decode (zm_cc 43) 11 = .ok (.bipush 8, 2) := by decide +kernel
theorem zd_43_13 : decode (zm_cc 43) 13 = .ok (.if_icmp .gt 54, 3) := by decide +kernel
theorem zd_43_16 : decode (zm_cc 43) 16 = .ok (.aload_n 0, 1) := by decide +kernel
theorem zd_43_17 : decode (zm_cc 43) 17 = .ok (.getfield 35, 3) := by decide +kernel
theorem zd_43_20 : decode (zm_cc 43) 20 = .ok (.iconst 1, 1) := by decide +kernel
theorem zd_43_21 : decode (zm_cc 43) 21 = .ok (.isub, 1) := by decide +kernel
theorem zd_43_22 : decode (zm_cc 43) 22 = .ok (.istore_n 1, 1) := by decide +kernel
theorem zd_43_23 : decode (zm_cc 43) 23 = .ok (.aload_n 0, 1) := by decide +kernel
theorem zd_43_24 : decode (zm_cc 43) 24 = .ok (.getfield 9, 3) := by decide +kernel
theorem zd_43_27 : decode (zm_cc 43) 27 = .ok (.iload_n 1, 1) := by decide +kernel
theorem zd_43_28 : decode (zm_cc 43) 28 = .ok (.iconst 4, 1) := by decide +kernel
theorem zd_43_29 : decode (zm_cc 43) 29 = .ok (.iastore, 1) := by decide +kernel
theorem zd_43_30 : decode (zm_cc 43) 30 = .ok (.aload_n 0, 1) := by decide +kernel
theorem zd_43_31 : decode (zm_cc 43) 31 = .ok (.getfield 18, 3) := by decide +kernel
theorem zd_43_34 : decode (zm_cc 43) 34 = .ok (.iload_n 1, 1) := by decide +kernel
theorem zd_43_35 : decode (zm_cc 43) 35 = .ok (.aload_n 0, 1) := by decide +kernel
theorem zd_43_36 : decode (zm_cc 43) 36 = .ok (.getfield 41, 3) := by decide +kernel
theorem zd_43_39 : decode (zm_cc 43) 39 = .ok (.iastore, 1) := by decide +kernel
theorem zd_43_40 : decode (zm_cc 43) 40 = .ok (.aload_n 0, 1) := by decide +kernel
theorem zd_43_41 : decode (zm_cc 43) 41 = .ok (.getfield 21, 3) := by decide +kernel
theorem zd_43_44 : decode (zm_cc 43) 44 = .ok (.iload_n 1, 1) := by decide +kernel
theorem zd_43_45 : decode (zm_cc 43) 45 = .ok (.aload_n 0, 1) := by decide +kernel
theorem zd_43_46 : decode (zm_cc 43) 46 = .ok (.getfield 44, 3) := by decide +kernel
theorem zd_43_49 : decode (zm_cc 43) 49 = .ok (.iastore, 1) := by decide +kernel
theorem zd_43_50 : decode (zm_cc 43) 50 = .ok (.aload_n 0, 1) := by decide +kernel
theorem zd_43_51 : decode (zm_cc 43) 51 = .ok (.iconst 0, 1) := by decide +kernel
theorem zd_43_52 : decode (zm_cc 43) 52 = .ok (.putfield 41, 3) := by decide +kernel
theorem zd_43_55 : decode (zm_cc 43) 55 = .ok (.aload_n 0, 1) := by decide +kernel
theorem zd_43_56 : decode (zm_cc 43) 56 = .ok (.iconst 1, 1) := by decide +kernel
theorem zd_43_57 : decode (zm_cc 43) 57 = .ok (.aload_n 0, 1) := by decide +kernel
theorem zd_43_58 : decode (zm_cc 43) 58 = .ok (.getfield 15, 3) := by decide +kernel
theorem zd_43_61 : decode (zm_cc 43) 61 = .ok (.iload_n 1, 1) := by decide +kernel
theorem zd_43_62 : decode (zm_cc 43) 62 = .ok (.iaload, 1) := by decide +kernel
theorem zd_43_63 : decode (zm_cc 43) 63 = .ok (.ishl, 1) := by decide +kernel
theorem zd_43_64 : decode (zm_cc 43) 64 = .ok (.putfield 44, 3) := by decide +kernel
theorem zd_43_67 : decode (zm_cc 43) 67 = .ok (.return_, 1) := by decide +kernel
theorem zd_44_0 : decode (zm_cc 44) 0 = .ok (.aload_n 0, 1) := by decide +kernel
theorem zd_44_1 : decode (zm_cc 44) 1 = .ok (.getfield 35, 3) := by decide +kernel
theorem zd_44_4 : decode (zm_cc 44) 4 = .ok (.getfield 74, 3) := by decide +kernel
theorem zd_44_7 : decode (zm_cc 44) 7 = .ok (.iload_n 1, 1) := by decide +kernel
theorem zd_44_8 : decode (zm_cc 44) 8 = .ok (.if_icmp .eq 9, 3) := by decide +kernel
theorem zd_44_11 : decode (zm_cc 44) 11 = .ok (.aload_n 0, 1) := by decide +kernel
theorem zd_44_12 : decode (zm_cc 44) 12 = .ok (.iconst 2, 1) := by decide +kernel
theorem zd_44_13 : decode (zm_cc 44) 13 = .ok (.invokevirtual 86, 3) := by decide +kernel
theorem zd_44_16 : decode (zm_cc 44) 16 = .ok (.ireturn, 1) := by decide +kernel
theorem zd_44_17 : decode (zm_cc 44) 17 = .ok (.aload_n 0, 1) := by decide +kernel
theorem zd_44_18 : decode (zm_cc 44) 18 = .ok (.getfield 35, 3) := by decide +kernel
theorem zd_44_21 : decode (zm_cc 44) 21 = .ok (.invokevirtual 90, 3) := by decide +kernel
theorem zd_44_24 : decode (zm_cc 44) 24 = .ok (.iconst 1, 1) := by decide +kernel
theorem zd_44_25 : decode (zm_cc 44) 25 = .ok (.ireturn, 1) := by decide +kernel
theorem zd_45_0 : decode (zm_cc 45) 0 = .ok (.aload_n 0, 1) := by decide +kernel
theorem zd_45_1 : decode (zm_cc 45) 1 = .ok (.getfield 35, 3) := by decide +kernel
theorem zd_45_4 : decode (zm_cc 45) 4 = .ok (.ifCond .le 12, 3) := by decide +kernel
theorem zd_45_7 : decode (zm_cc 45) 7 = .ok (.aload_n 0, 1) := by decide +kernel
theorem zd_45_8 : decode (zm_cc 45) 8 = .ok (.getfield 35, 3) := by decide +kernel
theorem zd_45_11 : decode (zm_cc 45) 11 = .ok (.bipush 8, 2) := by decide +kernel
theorem zd_45_13 : decode (zm_cc 45) 13 = .ok (.if_icmp .le 4, 3) := by decide +kernel
theorem zd_45_16 : decode (zm_cc 45) 16 = .ok (.return_, 1) := by decide +kernel
theorem zd_45_17 : decode (zm_cc 45) 17 = .ok (.aload_n 0, 1) := by decide +kernel
theorem zd_45_18 : decode (zm_cc 45) 18 = .ok (.getfield 35, 3) := by decide +kernel
theorem zd_45_21 : decode (zm_cc 45) 21 = .ok (.iconst 1, 1) := by decide +kernel
theorem zd_45_22 : decode (zm_cc 45) 22 = .ok (.isub, 1) := by decide +kernel
theorem zd_45_23 : decode (zm_cc 45) 23 = .ok (.istore_n 1, 1) := by decide +kernel
theorem zd_45_24 : decode (zm_cc 45) 24 = .ok (.aload_n 0, 1) := by decide +kernel
theorem zd_45_25 : decode (zm_cc 45) 25 = .ok (.getfield 15, 3) := by decide +kernel
theorem zd_45_28 : decode (zm_cc 45) 28 = .ok (.iload_n 1, 1) := by decide +kernel
theorem zd_45_29 : decode (zm_cc 45) 29 = .ok (.iaload, 1) := by decide +kernel
theorem zd_45_30 : decode (zm_cc 45) 30 = .ok (.istore_n 2, 1) := by decide +kernel
theorem zd_45_31 : decode (zm_cc 45) 31 = .ok (.aload_n 0, 1) := by decide +kernel
theorem zd_45_32 : decode (zm_cc 45) 32 = .ok (.getfield 9, 3) := by decide +kernel
theorem zd_45_35 : decode (zm_cc 45) 35 = .ok (.iload_n 1, 1) := by decide +kernel
theorem zd_45_36 : decode (zm_cc 45) 36 = .ok (.iaload, 1) := by decide +kernel
theorem zd_45_37 : decode (zm_cc 45) 37 = .ok (.tableswitch 117 0 4 #[35, 42, 61, 69, 84], 35) := by decide +kernel
theorem zd_45_72 : decode (zm_cc 45) 72 = .ok (.aload_n 0, 1) := by decide +kernel
theorem zd_45_73 : decode (zm_cc 45) 73 = .ok (.invokevirtual 92, 3) := by decide +kernel
theorem zd_45_76 : decode (zm_cc 45) 76 = .ok (.goto 90, 3) := by decide +kernel
theorem zd_45_79 : decode (zm_cc 45) 79 = .ok (.aload_n 0, 1) := by decide +kernel
theorem zd_45_80 : decode (zm_cc 45) 80 = .ok (.iconst 4, 1) := by decide +kernel
theorem zd_45_81 : decode (zm_cc 45) 81 = .ok (.iload_n 2, 1) := by decide +kernel
theorem zd_45_82 : decode (zm_cc 45) 82 = .ok (.invokevirtual 95, 3) := by decide +kernel
theorem zd_45_85 : decode (zm_cc 45) 85 = .ok (.aload_n 0, 1) := by decide +kernel
theorem zd_45_86 : decode (zm_cc 45) 86 = .ok (.aload_n 0, 1) := by decide +kernel
theorem zd_45_87 : decode (zm_cc 45) 87 = .ok (.getfield 24, 3) := by decide +kernel
theorem zd_45_90 : decode (zm_cc 45) 90 = .ok (.iload_n 1, 1) := by decide +kernel
theorem zd_45_91 : decode (zm_cc 45) 91 = .ok (.iaload, 1) := by decide +kernel
theorem zd_45_92 : decode (zm_cc 45) 92 = .ok (.putfield 47, 3) := by decide +kernel
theorem zd_45_95 : decode (zm_cc 45) 95 = .ok (.goto 71, 3) := by decide +kernel
theorem zd_45_98 : decode (zm_cc 45) 98 = .ok (.aload_n 0, 1) := by decide +kernel
theorem zd_45_99 : decode (zm_cc 45) 99 = .ok (.iconst (-1), 1) := by decide +kernel
theorem zd_45_100 : decode (zm_cc 45) 100 = .ok (.putfield 50, 3) := by decide +kernel
theorem zd_45_103 : decode (zm_cc 45) 103 = .ok (.goto 63, 3) := by decide +kernel
theorem zd_45_106 : decode (zm_cc 45) 106 = .ok (.aload_n 0, 1) := by decide +kernel
theorem zd_45_107 : decode (zm_cc 45) 107 = .ok (.dup, 1) := by decide +kernel
theorem zd_45_108 : decode (zm_cc 45) 108 = .ok (.getfield 44, 3) := by decide +kernel
theorem zd_45_111 : decode (zm_cc 45) 111 = .ok (.iconst 1, 1) := by decide +kernel
theorem zd_45_112 : decode (zm_cc 45) 112 = .ok (.iload_n 2, 1) := by decide +kernel
theorem zd_45_113 : decode (zm_cc 45) 113 = .ok (.ishl, 1) := by decide +kernel
theorem zd_45_114 : decode (zm_cc 45) 114 = .ok (.ior, 1) := by decide +kernel
theorem zd_45_115 : decode (zm_cc 45) 115 = .ok (.putfield 44, 3) := by decide +kernel
theorem zd_45_118 : decode (zm_cc 45) 118 = .ok (.goto 48, 3) := by decide +kernel
theorem zd_45_121 : decode (zm_cc 45) 121 = .ok (.aload_n 0, 1) := by decide +kernel
theorem zd_45_122 : decode (zm_cc 45) 122 = .ok (.dup, 1) := by decide +kernel
theorem zd_45_123 : decode (zm_cc 45) 123 = .ok (.getfield 41, 3) := by decide +kernel
theorem zd_45_126 : decode (zm_cc 45) 126 = .ok (.aload_n 0, 1) := by decide +kernel
theorem zd_45_127 : decode (zm_cc 45) 127 = .ok (.getfield 18, 3) := by decide +kernel
theorem zd_45_130 : decode (zm_cc 45) 130 = .ok (.iload_n 1, 1) := by decide +kernel
theorem zd_45_131 : decode (zm_cc 45) 131 = .ok (.iaload, 1) := by decide +kernel
theorem zd_45_132 : decode (zm_cc 45) 132 = .ok (.ior, 1) := by decide +kernel
theorem zd_45_133 : decode (zm_cc 45) 133 = .ok (.putfield 41, 3) := by decide +kernel
theorem zd_45_136 : decode (zm_cc 45) 136 = .ok (.aload_n 0, 1) := by decide +kernel
theorem zd_45_137 : decode (zm_cc 45) 137 = .ok (.dup, 1) := by decide +kernel
theorem zd_45_138 : decode (zm_cc 45) 138 = .ok (.getfield 44, 3) := by decide +kernel
theorem zd_45_141 : decode (zm_cc 45) 141 = .ok (.aload_n 0, 1) := by decide +kernel
theorem zd_45_142 : decode (zm_cc 45) 142 = .ok (.getfield 21, 3) := by decide +kernel
theorem zd_45_145 : decode (zm_cc 45) 145 = .ok (.iload_n 1, 1) := by decide +kernel
theorem zd_45_146 : decode (zm_cc 45) 146 = .ok (.iaload, 1) := by decide +kernel
theorem zd_45_147 : decode (zm_cc 45) 147 = .ok (.ior, 1) := by decide +kernel
theorem zd_45_148 : decode (zm_cc 45) 148 = .ok (.putfield 44, 3) := by decide +kernel
theorem zd_45_151 : decode (zm_cc 45) 151 = .ok (.goto 15, 3) := by decide +kernel
theorem zd_45_154 : decode (zm_cc 45) 154 = .ok (.aload_n 0, 1) := by decide +kernel
theorem zd_45_155 : decode (zm_cc 45) 155 = .ok (.iload_n 2, 1) := by decide +kernel
theorem zd_45_156 : decode (zm_cc 45) 156 = .ok (.invokevirtual 59, 3) := by decide +kernel
theorem zd_45_159 : decode (zm_cc 45) 159 = .ok (.aload_n 0, 1) := by decide +kernel
theorem zd_45_160 : decode (zm_cc 45) 160 = .ok (.iconst 1, 1) := by decide +kernel
theorem zd_45_161 : decode (zm_cc 45) 161 = .ok (.iload_n 2, 1) := by decide +kernel
theorem zd_45_162 : decode (zm_cc 45) 162 = .ok (.ishl, 1) := by decide +kernel
theorem zd_45_163 : decode (zm_cc 45) 163 = .ok (.putfield 44, 3) := by decide +kernel
theorem zd_45_166 : decode (zm_cc 45) 166 = .ok (.aload_n 0, 1) := by decide +kernel
theorem zd_45_167 : decode (zm_cc 45) 167 = .ok (.iload_n 1, 1) := by decide +kernel
theorem zd_45_168 : decode (zm_cc 45) 168 = .ok (.putfield 35, 3) := by decide +kernel
theorem zd_45_171 : decode (zm_cc 45) 171 = .ok (.return_, 1) := by decide +kernel
theorem zd_46_0 : decode (zm_cc 46) 0 = .ok (.aload_n 0, 1) := by decide +kernel
theorem zd_46_1 : decode (zm_cc 46) 1 = .ok (.getfield 27, 3) := by decide +kernel
theorem zd_46_4 : decode (zm_cc 46) 4 = .ok (.aload_n 0, 1) := by decide +kernel
theorem zd_46_5 : decode (zm_cc 46) 5 = .ok (.getfield 31, 3) := by decide +kernel
theorem zd_46_8 : decode (zm_cc 46) 8 = .ok (.invokevirtual 53, 3) := by decide +kernel
theorem zd_46_11 : decode (zm_cc 46) 11 = .ok (.istore_n 1, 1) := by decide +kernel
theorem zd_46_12 : decode (zm_cc 46) 12 = .ok (.aload_n 0, 1) := by decide +kernel
theorem zd_46_13 : decode (zm_cc 46) 13 = .ok (.iload_n 1, 1) := by decide +kernel
theorem zd_46_14 : decode (zm_cc 46) 14 = .ok (.invokevirtual 59, 3) := by decide +kernel
theorem zd_46_17 : decode (zm_cc 46) 17 = .ok (.iconst 0, 1) := by decide +kernel
theorem zd_46_18 : decode (zm_cc 46) 18 = .ok (.istore_n 2, 1) := by decide +kernel
theorem zd_46_19 : decode (zm_cc 46) 19 = .ok (.iload_n 2, 1) := by decide +kernel
theorem zd_46_20 : decode (zm_cc 46) 20 = .ok (.iload_n 1, 1) := by decide +kernel
theorem zd_46_21 : decode (zm_cc 46) 21 = .ok (.if_icmp .ge 52, 3) := by decide +kernel
theorem zd_46_24 : decode (zm_cc 46) 24 = .ok (.iload_n 2, 1) := by decide +kernel
theorem zd_46_25 : decode (zm_cc 46) 25 = .ok (.bipush 24, 2) := by decide +kernel
theorem zd_46_27 : decode (zm_cc 46) 27 = .ok (.if_icmp .ge 46, 3) := by decide +kernel
theorem zd_46_30 : decode (zm_cc 46) 30 = .ok (.aload_n 0, 1) := by decide +kernel
theorem zd_46_31 : decode (zm_cc 46) 31 = .ok (.getfield 27, 3) := by decide +kernel
theorem zd_46_34 : decode (zm_cc 46) 34 = .ok (.aload_n 0, 1) := by decide +kernel
theorem zd_46_35 : decode (zm_cc 46) 35 = .ok (.getfield 31, 3) := by decide +kernel
theorem zd_46_38 : decode (zm_cc 46) 38 = .ok (.iload_n 2, 1) := by decide +kernel
theorem zd_46_39 : decode (zm_cc 46) 39 = .ok (.invokevirtual 67, 3) := by decide +kernel
theorem zd_46_42 : decode (zm_cc 46) 42 = .ok (.istore_n 3, 1) := by decide +kernel
theorem zd_46_43 : decode (zm_cc 46) 43 = .ok (.aload_n 0, 1) := by decide +kernel
theorem zd_46_44 : decode (zm_cc 46) 44 = .ok (.getfield 27, 3) := by decide +kernel
theorem zd_46_47 : decode (zm_cc 46) 47 = .ok (.getfield 99, 3) := by decide +kernel
theorem zd_46_50 : decode (zm_cc 46) 50 = .ok (.iload_n 3, 1) := by decide +kernel
theorem zd_46_51 : decode (zm_cc 46) 51 = .ok (.iaload, 1) := by decide +kernel
theorem zd_46_52 : decode (zm_cc 46) 52 = .ok (.bipush 13, 2) := by decide +kernel
theorem zd_46_54 : decode (zm_cc 46) 54 = .ok (.if_icmp .ne 13, 3) := by decide +kernel
theorem zd_46_57 : decode (zm_cc 46) 57 = .ok (.aload_n 0, 1) := by decide +kernel
theorem zd_46_58 : decode (zm_cc 46) 58 = .ok (.getfield 27, 3) := by decide +kernel
theorem zd_46_61 : decode (zm_cc 46) 61 = .ok (.getfield 83, 3) := by decide +kernel
theorem zd_46_64 : decode (zm_cc 46) 64 = .ok (.iload_n 3, 1) := by decide +kernel
theorem zd_46_65 : decode (zm_cc 46) 65 = .ok (.iload_n 1, 1) := by decide +kernel
theorem zd_46_66 : decode (zm_cc 46) 66 = .ok (.iastore, 1) := by decide +kernel
theorem zd_46_67 : decode (zm_cc 46) 67 = .ok (.iinc 2 1, 3) := by decide +kernel
theorem zd_46_70 : decode (zm_cc 46) 70 = .ok (.goto (-51), 3) := by decide +kernel
theorem zd_46_73 : decode (zm_cc 46) 73 = .ok (.return_, 1) := by decide +kernel
theorem zd_47_0 : decode (zm_cc 47) 0 = .ok (.iconst 0, 1) := by decide +kernel
theorem zd_47_1 : decode (zm_cc 47) 1 = .ok (.istore_n 2, 1) := by decide +kernel
theorem zd_47_2 : decode (zm_cc 47) 2 = .ok (.iload_n 2, 1) := by decide +kernel
theorem zd_47_3 : decode (zm_cc 47) 3 = .ok (.bipush 24, 2) := by decide +kernel
theorem zd_47_5 : decode (zm_cc 47) 5 = .ok (.if_icmp .ge 71, 3) := by decide +kernel
theorem zd_47_8 : decode (zm_cc 47) 8 = .ok (.aload_n 0, 1) := by decide +kernel
theorem zd_47_9 : decode (zm_cc 47) 9 = .ok (.getfield 31, 3) := by decide +kernel
theorem zd_47_12 : decode (zm_cc 47) 12 = .ok (.bipush 24, 2) := by decide +kernel
theorem zd_47_14 : decode (zm_cc 47) 14 = .ok (.imul, 1) := by decide +kernel
theorem zd_47_15 : decode (zm_cc 47) 15 = .ok (.iload_n 2, 1) := by decide +kernel
theorem zd_47_16 : decode (zm_cc 47) 16 = .ok (.iadd, 1) := by decide +kernel
theorem zd_47_17 : decode (zm_cc 47) 17 = .ok (.istore_n 3, 1) := by decide +kernel
theorem zd_47_18 : decode (zm_cc 47) 18 = .ok (.iload_n 3, 1) := by decide +kernel
theorem zd_47_19 : decode (zm_cc 47) 19 = .ok (.ifCond .lt 51, 3) := by decide +kernel
theorem zd_47_22 : decode (zm_cc 47) 22 = .ok (.iload_n 3, 1) := by decide +kernel
theorem zd_47_23 : decode (zm_cc 47) 23 = .ok (.bipush 96, 2) := by decide +kernel
theorem zd_47_25 : decode (zm_cc 47) 25 = .ok (.if_icmp .ge 45, 3) := by decide +kernel
theorem zd_47_28 : decode (zm_cc 47) 28 = .ok (.aload_n 0, 1) := by decide +kernel
theorem zd_47_29 : decode (zm_cc 47) 29 = .ok (.getfield 41, 3) := by decide +kernel
theorem zd_47_32 : decode (zm_cc 47) 32 = .ok (.iload_n 2, 1) := by decide +kernel
theorem zd_47_33 : decode (zm_cc 47) 33 = .ok (.iushr, 1) := by decide +kernel
theorem zd_47_34 : decode (zm_cc 47) 34 = .ok (.iconst 1, 1) := by decide +kernel
theorem zd_47_35 : decode (zm_cc 47) 35 = .ok (.iand, 1) := by decide +kernel
theorem zd_47_36 : decode (zm_cc 47) 36 = .ok (.ifCond .eq 13, 3) := by decide +kernel
theorem zd_47_39 : decode (zm_cc 47) 39 = .ok (.aload_n 0, 1) := by decide +kernel
theorem zd_47_40 : decode (zm_cc 47) 40 = .ok (.getfield 27, 3) := by decide +kernel
theorem zd_47_43 : decode (zm_cc 47) 43 = .ok (.getfield 83, 3) := by decide +kernel
theorem zd_47_46 : decode (zm_cc 47) 46 = .ok (.iload_n 3, 1) := by decide +kernel
theorem zd_47_47 : decode (zm_cc 47) 47 = .ok (.iload_n 1, 1) := by decide +kernel
theorem zd_47_48 : decode (zm_cc 47) 48 = .ok (.iastore, 1) := by decide +kernel
theorem zd_47_49 : decode (zm_cc 47) 49 = .ok (.aload_n 0, 1) := by decide +kernel
theorem zd_47_50 : decode (zm_cc 47) 50 = .ok (.getfield 44, 3) := by decide +kernel
theorem zd_47_53 : decode (zm_cc 47) 53 = .ok (.iload_n 2, 1) := by decide +kernel
theorem zd_47_54 : decode (zm_cc 47) 54 = .ok (.iushr, 1) := by decide +kernel
theorem zd_47_55 : decode (zm_cc 47) 55 = .ok (.iconst 1, 1) := by decide +kernel
theorem zd_47_56 : decode (zm_cc 47) 56 = .ok (.iand, 1) := by decide +kernel
theorem zd_47_57 : decode (zm_cc 47) 57 = .ok (.ifCond .eq 13, 3) := by decide +kernel
theorem zd_47_60 : decode (zm_cc 47) 60 = .ok (.aload_n 0, 1) := by decide +kernel
theorem zd_47_61 : decode (zm_cc 47) 61 = .ok (.getfield 27, 3) := by decide +kernel
theorem zd_47_64 : decode (zm_cc 47) 64 = .ok (.getfield 86, 3) := by decide +kernel
theorem zd_47_67 : decode (zm_cc 47) 67 = .ok (.iload_n 3, 1) := by decide +kernel
theorem zd_47_68 : decode (zm_cc 47) 68 = .ok (.iload_n 1, 1) := by decide +kernel
theorem zd_47_69 : decode (zm_cc 47) 69 = .ok (.iastore, 1) := by decide +kernel
theorem zd_47_70 : decode (zm_cc 47) 70 = .ok (.iinc 2 1, 3) := by decide +kernel
theorem zd_47_73 : decode (zm_cc 47) 73 = .ok (.goto (-71), 3) := by decide +kernel
theorem zd_47_76 : decode (zm_cc 47) 76 = .ok (.aload_n 0, 1) := by decide +kernel
theorem zd_47_77 : decode (zm_cc 47) 77 = .ok (.iconst 0, 1) := by decide +kernel
theorem zd_47_78 : decode (zm_cc 47) 78 = .ok (.putfield 41, 3) := by decide +kernel
theorem zd_47_81 : decode (zm_cc 47) 81 = .ok (.aload_n 0, 1) := by decide +kernel
theorem zd_47_82 : decode (zm_cc 47) 82 = .ok (.iconst 0, 1) := by decide +kernel
theorem zd_47_83 : decode (zm_cc 47) 83 = .ok (.putfield 44, 3) := by decide +kernel
theorem zd_47_86 : decode (zm_cc 47) 86 = .ok (.return_, 1) := by decide +kernel
theorem zd_48_0 : decode (zm_cc 48) 0 = .ok (.iload_n 1, 1) := by decide +kernel
theorem zd_48_1 : decode (zm_cc 48) 1 = .ok (.ifCond .lt 32, 3) := by decide +kernel
theorem zd_48_4 : decode (zm_cc 48) 4 = .ok (.iload_n 1, 1) := by decide +kernel
theorem zd_48_5 : decode (zm_cc 48) 5 = .ok (.iconst 4, 1) := by decide +kernel
theorem zd_48_6 : decode (zm_cc 48) 6 = .ok (.if_icmp .ge 27, 3) := by decide +kernel
theorem zd_48_9 : decode (zm_cc 48) 9 = .ok (.iload_n 2, 1) := by decide +kernel
theorem zd_48_10 : decode (zm_cc 48) 10 = .ok (.ifCond .lt 23, 3) := by decide +kernel
theorem zd_48_13 : decode (zm_cc 48) 13 = .ok (.iload_n 2, 1) := by decide +kernel
theorem zd_48_14 : decode (zm_cc 48) 14 = .ok (.bipush 24, 2) := by decide +kernel
theorem zd_48_16 : decode (zm_cc 48) 16 = .ok (.if_icmp .ge 17, 3) := by decide +kernel
theorem zd_48_19 : decode (zm_cc 48) 19 = .ok (.iload_n 2, 1) := by decide +kernel
theorem zd_48_20 : decode (zm_cc 48) 20 = .ok (.aload_n 0, 1) := by decide +kernel
theorem zd_48_21 : decode (zm_cc 48) 21 = .ok (.getfield 9, 3) := by decide +kernel
theorem zd_48_24 : decode (zm_cc 48) 24 = .ok (.iload_n 1, 1) := by decide +kernel
theorem zd_48_25 : decode (zm_cc 48) 25 = .ok (.iaload, 1) := by decide +kernel
theorem zd_48_26 : decode (zm_cc 48) 26 = .ok (.if_icmp .ge 7, 3) := by decide +kernel
theorem zd_48_29 : decode (zm_cc 48) 29 = .ok (.iconst 1, 1) := by decide +kernel
theorem zd_48_30 : decode (zm_cc 48) 30 = .ok (.goto 4, 3) := by decide +kernel
theorem zd_48_33 : decode (zm_cc 48) 33 = .ok (.iconst 0, 1) := by decide +kernel
theorem zd_48_34 : decode (zm_cc 48) 34 = .ok (.istore_n 3, 1) := by decide +kernel
theorem zd_48_35 : decode (zm_cc 48) 35 = .ok (.iload_n 3, 1) := by decide +kernel
theorem zd_48_36 : decode (zm_cc 48) 36 = .ok (.ifCond .eq 12, 3) := by decide +kernel
theorem zd_48_39 : decode (zm_cc 48) 39 = .ok (.iload_n 1, 1) := by decide +kernel
theorem zd_48_40 : decode (zm_cc 48) 40 = .ok (.bipush 24, 2) := by decide +kernel
theorem zd_48_42 : decode (zm_cc 48) 42 = .ok (.imul, 1) := by decide +kernel
theorem zd_48_43 : decode (zm_cc 48) 43 = .ok (.iload_n 2, 1) := by decide +kernel
theorem zd_48_44 : decode (zm_cc 48) 44 = .ok (.iadd, 1) := by decide +kernel
theorem zd_48_45 : decode (zm_cc 48) 45 = .ok (.goto 5, 3) := by decide +kernel
theorem zd_48_48 : decode (zm_cc 48) 48 = .ok (.bipush 96, 2) := by decide +kernel
theorem zd_48_50 : decode (zm_cc 48) 50 = .ok (.ireturn, 1) := by decide +kernel
theorem zd_49_0 : decode (zm_cc 49) 0 = .ok (.aload_n 0, 1) := by decide +kernel
theorem zd_49_1 : decode (zm_cc 49) 1 = .ok (.aload_n 0, 1) := by decide +kernel
theorem zd_49_2 : decode (zm_cc 49) 2 = .ok (.getfield 27, 3) := by decide +kernel
theorem zd_49_5 : decode (zm_cc 49) 5 = .ok (.aload_n 0, 1) := by decide +kernel
theorem zd_49_6 : decode (zm_cc 49) 6 = .ok (.getfield 31, 3) := by decide +kernel
theorem zd_49_9 : decode (zm_cc 49) 9 = .ok (.invokevirtual 53, 3) := by decide +kernel
theorem zd_49_12 : decode (zm_cc 49) 12 = .ok (.invokevirtual 59, 3) := by decide +kernel
theorem zd_49_15 : decode (zm_cc 49) 15 = .ok (.aload_n 0, 1) := by decide +kernel
theorem zd_49_16 : decode (zm_cc 49) 16 = .ok (.aload_n 0, 1) := by decide +kernel
theorem zd_49_17 : decode (zm_cc 49) 17 = .ok (.getfield 27, 3) := by decide +kernel
theorem zd_49_20 : decode (zm_cc 49) 20 = .ok (.aload_n 0, 1) := by decide +kernel
theorem zd_49_21 : decode (zm_cc 49) 21 = .ok (.getfield 31, 3) := by decide +kernel
theorem zd_49_24 : decode (zm_cc 49) 24 = .ok (.iload_n 1, 1) := by decide +kernel
theorem zd_49_25 : decode (zm_cc 49) 25 = .ok (.iload_n 2, 1) := by decide +kernel
theorem zd_49_26 : decode (zm_cc 49) 26 = .ok (.aload_n 0, 1) := by decide +kernel
theorem zd_49_27 : decode (zm_cc 49) 27 = .ok (.getfield 47, 3) := by decide +kernel
theorem zd_49_30 : decode (zm_cc 49) 30 = .ok (.aload_n 0, 1) := by decide +kernel
theorem zd_49_31 : decode (zm_cc 49) 31 = .ok (.getfield 50, 3) := by decide +kernel
theorem zd_49_34 : decode (zm_cc 49) 34 = .ok (.invokevirtual 63, 3) := by decide +kernel
theorem zd_49_37 : decode (zm_cc 49) 37 = .ok (.putfield 38, 3) := by decide +kernel
theorem zd_49_40 : decode (zm_cc 49) 40 = .ok (.aload_n 0, 1) := by decide +kernel
theorem zd_49_41 : decode (zm_cc 49) 41 = .ok (.aload_n 0, 1) := by decide +kernel
theorem zd_49_42 : decode (zm_cc 49) 42 = .ok (.getfield 38, 3) := by decide +kernel
theorem zd_49_45 : decode (zm_cc 49) 45 = .ok (.iconst (-1), 1) := by decide +kernel
theorem zd_49_46 : decode (zm_cc 49) 46 = .ok (.if_icmp .ne 7, 3) := by decide +kernel
theorem zd_49_49 : decode (zm_cc 49) 49 = .ok (.iconst 0, 1) := by decide +kernel
theorem zd_49_50 : decode (zm_cc 49) 50 = .ok (.goto 9, 3) := by decide +kernel
theorem zd_49_53 : decode (zm_cc 49) 53 = .ok (.iconst 1, 1) := by decide +kernel
theorem zd_49_54 : decode (zm_cc 49) 54 = .ok (.aload_n 0, 1) := by decide +kernel
theorem zd_49_55 : decode (zm_cc 49) 55 = .ok (.getfield 38, 3) := by decide +kernel
theorem zd_49_58 : decode (zm_cc 49) 58 = .ok (.ishl, 1) := by decide +kernel
theorem zd_49_59 : decode (zm_cc 49) 59 = .ok (.putfield 41, 3) := by decide +kernel
theorem zd_49_62 : decode (zm_cc 49) 62 = .ok (.return_, 1) := by decide +kernel
theorem zd_50_0 : decode (zm_cc 50) 0 = .ok (.iload_n 1, 1) := by decide +kernel
theorem zd_50_1 : decode (zm_cc 50) 1 = .ok (.ifCond .lt 28, 3) := by decide +kernel
theorem zd_50_4 : decode (zm_cc 50) 4 = .ok (.iload_n 1, 1) := by decide +kernel
theorem zd_50_5 : decode (zm_cc 50) 5 = .ok (.iconst 4, 1) := by decide +kernel
theorem zd_50_6 : decode (zm_cc 50) 6 = .ok (.if_icmp .ge 23, 3) := by decide +kernel
theorem zd_50_9 : decode (zm_cc 50) 9 = .ok (.aload_n 0, 1) := by decide +kernel
theorem zd_50_10 : decode (zm_cc 50) 10 = .ok (.getfield 9, 3) := by decide +kernel
theorem zd_50_13 : decode (zm_cc 50) 13 = .ok (.iload_n 1, 1) := by decide +kernel
theorem zd_50_14 : decode (zm_cc 50) 14 = .ok (.iaload, 1) := by decide +kernel
theorem zd_50_15 : decode (zm_cc 50) 15 = .ok (.ifCond .lt 14, 3) := by decide +kernel
theorem zd_50_18 : decode (zm_cc 50) 18 = .ok (.aload_n 0, 1) := by decide +kernel
theorem zd_50_19 : decode (zm_cc 50) 19 = .ok (.getfield 9, 3) := by decide +kernel
theorem zd_50_22 : decode (zm_cc 50) 22 = .ok (.iload_n 1, 1) := by decide +kernel
theorem zd_50_23 : decode (zm_cc 50) 23 = .ok (.iaload, 1) := by decide +kernel
theorem zd_50_24 : decode (zm_cc 50) 24 = .ok (.bipush 24, 2) := by decide +kernel
theorem zd_50_26 : decode (zm_cc 50) 26 = .ok (.if_icmp .lt 5, 3) := by decide +kernel
theorem zd_50_29 : decode (zm_cc 50) 29 = .ok (.iconst (-1), 1) := by decide +kernel
theorem zd_50_30 : decode (zm_cc 50) 30 = .ok (.ireturn, 1) := by decide +kernel
theorem zd_50_31 : decode (zm_cc 50) 31 = .ok (.aload_n 0, 1) := by decide +kernel
theorem zd_50_32 : decode (zm_cc 50) 32 = .ok (.getfield 9, 3) := by decide +kernel
theorem zd_50_35 : decode (zm_cc 50) 35 = .ok (.iload_n 1, 1) := by decide +kernel
theorem zd_50_36 : decode (zm_cc 50) 36 = .ok (.iaload, 1) := by decide +kernel
theorem zd_50_37 : decode (zm_cc 50) 37 = .ok (.istore 6, 2) := by decide +kernel
theorem zd_50_39 : decode (zm_cc 50) 39 = .ok (.iload_n 1, 1) := by decide +kernel
theorem zd_50_40 : decode (zm_cc 50) 40 = .ok (.bipush 24, 2) := by decide +kernel
theorem zd_50_42 : decode (zm_cc 50) 42 = .ok (.imul, 1) := by decide +kernel
theorem zd_50_43 : decode (zm_cc 50) 43 = .ok (.iload 6, 2) := by decide +kernel
theorem zd_50_45 : decode (zm_cc 50) 45 = .ok (.iadd, 1) := by decide +kernel
theorem zd_50_46 : decode (zm_cc 50) 46 = .ok (.istore 7, 2) := by decide +kernel
theorem zd_50_48 : decode (zm_cc 50) 48 = .ok (.aload_n 0, 1) := by decide +kernel
theorem zd_50_49 : decode (zm_cc 50) 49 = .ok (.getfield 9, 3) := by decide +kernel
theorem zd_50_52 : decode (zm_cc 50) 52 = .ok (.iload_n 1, 1) := by decide +kernel
theorem zd_50_53 : decode (zm_cc 50) 53 = .ok (.dup2, 1) := by decide +kernel
theorem zd_50_54 : decode (zm_cc 50) 54 = .ok (.iaload, 1) := by decide +kernel
theorem zd_50_55 : decode (zm_cc 50) 55 = .ok (.iconst 1, 1) := by decide +kernel
theorem zd_50_56 : decode (zm_cc 50) 56 = .ok (.iadd, 1) := by decide +kernel
theorem zd_50_57 : decode (zm_cc 50) 57 = .ok (.iastore, 1) := by decide +kernel
theorem zd_50_58 : decode (zm_cc 50) 58 = .ok (.aload_n 0, 1) := by decide +kernel
theorem zd_50_59 : decode (zm_cc 50) 59 = .ok (.dup, 1) := by decide +kernel
theorem zd_50_60 : decode (zm_cc 50) 60 = .ok (.getfield 61, 3) := by decide +kernel
theorem zd_50_63 : decode (zm_cc 50) 63 = .ok (.iconst 1, 1) := by decide +kernel
theorem zd_50_64 : decode (zm_cc 50) 64 = .ok (.iadd, 1) := by decide +kernel
theorem zd_50_65 : decode (zm_cc 50) 65 = .ok (.putfield 61, 3) := by decide +kernel
theorem zd_50_68 : decode (zm_cc 50) 68 = .ok (.aload_n 0, 1) := by decide +kernel
theorem zd_50_69 : decode (zm_cc 50) 69 = .ok (.getfield 18, 3) := by decide +kernel
theorem zd_50_72 : decode (zm_cc 50) 72 = .ok (.iload 7, 2) := by decide +kernel
theorem zd_50_74 : decode (zm_cc 50) 74 = .ok (.iload_n 2, 1) := by decide +kernel
theorem zd_50_75 : decode (zm_cc 50) 75 = .ok (.iastore, 1) := by decide +kernel
theorem zd_50_76 : decode (zm_cc 50) 76 = .ok (.aload_n 0, 1) := by decide +kernel
theorem zd_50_77 : decode (zm_cc 50) 77 = .ok (.getfield 21, 3) := by decide +kernel
theorem zd_50_80 : decode (zm_cc 50) 80 = .ok (.iload 7, 2) := by decide +kernel
theorem zd_50_82 : decode (zm_cc 50) 82 = .ok (.iload_n 3, 1) := by decide +kernel
theorem zd_50_83 : decode (zm_cc 50) 83 = .ok (.iastore, 1) := by decide +kernel
theorem zd_50_84 : decode (zm_cc 50) 84 = .ok (.aload_n 0, 1) := by decide +kernel
theorem zd_50_85 : decode (zm_cc 50) 85 = .ok (.getfield 30, 3) := by decide +kernel
theorem zd_50_88 : decode (zm_cc 50) 88 = .ok (.iload 7, 2) := by decide +kernel
theorem zd_50_90 : decode (zm_cc 50) 90 = .ok (.iload 4, 2) := by decide +kernel
theorem zd_50_92 : decode (zm_cc 50) 92 = .ok (.iastore, 1) := by decide +kernel
theorem zd_50_93 : decode (zm_cc 50) 93 = .ok (.aload_n 0, 1) := by decide +kernel
theorem zd_50_94 : decode (zm_cc 50) 94 = .ok (.getfield 33, 3) := by decide +kernel
theorem zd_50_97 : decode (zm_cc 50) 97 = .ok (.iload 7, 2) := by decide +kernel
theorem zd_50_99 : decode (zm_cc 50) 99 = .ok (.iload 5, 2) := by decide +kernel
theorem zd_50_101 : decode (zm_cc 50) 101 = .ok (.iastore, 1) := by decide +kernel
theorem zd_50_102 : decode (zm_cc 50) 102 = .ok (.aload_n 0, 1) := by decide +kernel
theorem zd_50_103 : decode (zm_cc 50) 103 = .ok (.getfield 24, 3) := by decide +kernel
theorem zd_50_106 : decode (zm_cc 50) 106 = .ok (.iload 7, 2) := by decide +kernel
theorem zd_50_108 : decode (zm_cc 50) 108 = .ok (.iconst (-1), 1) := by decide +kernel
theorem zd_50_109 : decode (zm_cc 50) 109 = .ok (.iastore, 1) := by decide +kernel
theorem zd_50_110 : decode (zm_cc 50) 110 = .ok (.aload_n 0, 1) := by decide +kernel
theorem zd_50_111 : decode (zm_cc 50) 111 = .ok (.getfield 27, 3) := by decide +kernel
theorem zd_50_114 : decode (zm_cc 50) 114 = .ok (.iload 7, 2) := by decide +kernel
theorem zd_50_116 : decode (zm_cc 50) 116 = .ok (.iconst (-1), 1) := by decide +kernel
theorem zd_50_117 : decode (zm_cc 50) 117 = .ok (.iastore, 1) := by decide +kernel
theorem zd_50_118 : decode (zm_cc 50) 118 = .ok (.iload 6, 2) := by decide +kernel
theorem zd_50_120 : decode (zm_cc 50) 120 = .ok (.ireturn, 1) := by decide +kernel
theorem zd_51_0 : decode (zm_cc 51) 0 = .ok (.aload_n 0, 1) := by decide +kernel
theorem zd_51_1 : decode (zm_cc 51) 1 = .ok (.getfield 12, 3) := by decide +kernel
theorem zd_51_4 : decode (zm_cc 51) 4 = .ok (.aload_n 0, 1) := by decide +kernel
theorem zd_51_5 : decode (zm_cc 51) 5 = .ok (.getfield 35, 3) := by decide +kernel
theorem zd_51_8 : decode (zm_cc 51) 8 = .ok (.getfield 113, 3) := by decide +kernel
theorem zd_51_11 : decode (zm_cc 51) 11 = .ok (.invokevirtual 134, 3) := by decide +kernel
theorem zd_51_14 : decode (zm_cc 51) 14 = .ok (.istore_n 1, 1) := by decide +kernel
theorem zd_51_15 : decode (zm_cc 51) 15 = .ok (.iload_n 1, 1) := by decide +kernel
theorem zd_51_16 : decode (zm_cc 51) 16 = .ok (.iconst 1, 1) := by decide +kernel
theorem zd_51_17 : decode (zm_cc 51) 17 = .ok (.if_icmp .eq 8, 3) := by decide +kernel
theorem zd_51_20 : decode (zm_cc 51) 20 = .ok (.iload_n 1, 1) := by decide +kernel
theorem zd_51_21 : decode (zm_cc 51) 21 = .ok (.iconst 2, 1) := by decide +kernel
theorem zd_51_22 : decode (zm_cc 51) 22 = .ok (.if_icmp .ne 10, 3) := by decide +kernel
theorem zd_51_25 : decode (zm_cc 51) 25 = .ok (.aload_n 0, 1) := by decide +kernel
theorem zd_51_26 : decode (zm_cc 51) 26 = .ok (.iconst 2, 1) := by decide +kernel
theorem zd_51_27 : decode (zm_cc 51) 27 = .ok (.invokevirtual 86, 3) := by decide +kernel
theorem zd_51_30 : decode (zm_cc 51) 30 = .ok (.pop, 1) := by decide +kernel
theorem zd_51_31 : decode (zm_cc 51) 31 = .ok (.return_, 1) := by decide +kernel
theorem zd_51_32 : decode (zm_cc 51) 32 = .ok (.iload_n 1, 1) := by decide +kernel
theorem zd_51_33 : decode (zm_cc 51) 33 = .ok (.ifCond .ne 7, 3) := by decide +kernel
theorem zd_51_36 : decode (zm_cc 51) 36 = .ok (.iconst 1, 1) := by decide +kernel
theorem zd_51_37 : decode (zm_cc 51) 37 = .ok (.goto 4, 3) := by decide +kernel
theorem zd_51_40 : decode (zm_cc 51) 40 = .ok (.iconst 0, 1) := by decide +kernel
theorem zd_51_41 : decode (zm_cc 51) 41 = .ok (.istore_n 2, 1) := by decide +kernel
theorem zd_51_42 : decode (zm_cc 51) 42 = .ok (.iload_n 2, 1) := by decide +kernel
theorem zd_51_43 : decode (zm_cc 51) 43 = .ok (.ifCond .eq 21, 3) := by decide +kernel
theorem zd_51_46 : decode (zm_cc 51) 46 = .ok (.aload_n 0, 1) := by decide +kernel
theorem zd_51_47 : decode (zm_cc 51) 47 = .ok (.getfield 12, 3) := by decide +kernel
theorem zd_51_50 : decode (zm_cc 51) 50 = .ok (.aload_n 0, 1) := by decide +kernel
theorem zd_51_51 : decode (zm_cc 51) 51 = .ok (.getfield 35, 3) := by decide +kernel
theorem zd_51_54 : decode (zm_cc 51) 54 = .ok (.getfield 113, 3) := by decide +kernel
theorem zd_51_57 : decode (zm_cc 51) 57 = .ok (.iload_n 1, 1) := by decide +kernel
theorem zd_51_58 : decode (zm_cc 51) 58 = .ok (.invokevirtual 201, 3) := by decide +kernel
theorem zd_51_61 : decode (zm_cc 51) 61 = .ok (.goto 17, 3) := by decide +kernel
theorem zd_51_64 : decode (zm_cc 51) 64 = .ok (.aload_n 0, 1) := by decide +kernel
theorem zd_51_65 : decode (zm_cc 51) 65 = .ok (.getfield 12, 3) := by decide +kernel
theorem zd_51_68 : decode (zm_cc 51) 68 = .ok (.aload_n 0, 1) := by decide +kernel
theorem zd_51_69 : decode (zm_cc 51) 69 = .ok (.getfield 35, 3) := by decide +kernel
theorem zd_51_72 : decode (zm_cc 51) 72 = .ok (.getfield 113, 3) := by decide +kernel
theorem zd_51_75 : decode (zm_cc 51) 75 = .ok (.invokevirtual 224, 3) := by decide +kernel
theorem zd_51_78 : decode (zm_cc 51) 78 = .ok (.istore_n 3, 1) := by decide +kernel
theorem zd_51_79 : decode (zm_cc 51) 79 = .ok (.iload_n 3, 1) := by decide +kernel
theorem zd_51_80 : decode (zm_cc 51) 80 = .ok (.iconst (-1), 1) := by decide +kernel
theorem zd_51_81 : decode (zm_cc 51) 81 = .ok (.if_icmp .eq 13, 3) := by decide +kernel
theorem zd_51_84 : decode (zm_cc 51) 84 = .ok (.aload_n 0, 1) := by decide +kernel
theorem zd_51_85 : decode (zm_cc 51) 85 = .ok (.getfield 44, 3) := by decide +kernel
theorem zd_51_88 : decode (zm_cc 51) 88 = .ok (.invokevirtual 172, 3) := by decide +kernel
theorem zd_51_91 : decode (zm_cc 51) 91 = .ok (.ifCond .ne 10, 3) := by decide +kernel
theorem zd_51_94 : decode (zm_cc 51) 94 = .ok (.aload_n 0, 1) := by decide +kernel
theorem zd_51_95 : decode (zm_cc 51) 95 = .ok (.iconst 4, 1) := by decide +kernel
theorem zd_51_96 : decode (zm_cc 51) 96 = .ok (.invokevirtual 86, 3) := by decide +kernel
theorem zd_51_99 : decode (zm_cc 51) 99 = .ok (.pop, 1) := by decide +kernel
theorem zd_51_100 : decode (zm_cc 51) 100 = .ok (.return_, 1) := by decide +kernel
theorem zd_51_101 : decode (zm_cc 51) 101 = .ok (.aload_n 0, 1) := by decide +kernel
theorem zd_51_102 : decode (zm_cc 51) 102 = .ok (.getfield 35, 3) := by decide +kernel
theorem zd_51_105 : decode (zm_cc 51) 105 = .ok (.invokevirtual 90, 3) := by decide +kernel
theorem zd_51_108 : decode (zm_cc 51) 108 = .ok (.aload_n 0, 1) := by decide +kernel
theorem zd_51_109 : decode (zm_cc 51) 109 = .ok (.bipush 61, 2) := by decide +kernel
theorem zd_51_111 : decode (zm_cc 51) 111 = .ok (.invokevirtual 117, 3) := by decide +kernel
theorem zd_51_114 : decode (zm_cc 51) 114 = .ok (.ifCond .ne 4, 3) := by decide +kernel
theorem zd_51_117 : decode (zm_cc 51) 117 = .ok (.return_, 1) := by decide +kernel
theorem zd_51_118 : decode (zm_cc 51) 118 = .ok (.aload_n 0, 1) := by decide +kernel
theorem zd_51_119 : decode (zm_cc 51) 119 = .ok (.getfield 35, 3) := by decide +kernel
theorem zd_51_122 : decode (zm_cc 51) 122 = .ok (.getfield 74, 3) := by decide +kernel
theorem zd_51_125 : decode (zm_cc 51) 125 = .ok (.iconst 3, 1) := by decide +kernel
theorem zd_51_126 : decode (zm_cc 51) 126 = .ok (.if_icmp .ne 21, 3) := by decide +kernel
theorem zd_51_129 : decode (zm_cc 51) 129 = .ok (.aload_n 0, 1) := by decide +kernel
theorem zd_51_130 : decode (zm_cc 51) 130 = .ok (.getfield 12, 3) := by decide +kernel
theorem zd_51_133 : decode (zm_cc 51) 133 = .ok (.aload_n 0, 1) := by decide +kernel
theorem zd_51_134 : decode (zm_cc 51) 134 = .ok (.getfield 35, 3) := by decide +kernel
theorem zd_51_137 : decode (zm_cc 51) 137 = .ok (.getfield 113, 3) := by decide +kernel
theorem zd_51_140 : decode (zm_cc 51) 140 = .ok (.iconst 0, 1) := by decide +kernel
theorem zd_51_141 : decode (zm_cc 51) 141 = .ok (.invokevirtual 201, 3) := by decide +kernel
theorem zd_51_144 : decode (zm_cc 51) 144 = .ok (.goto 4, 3) := by decide +kernel
theorem zd_51_147 : decode (zm_cc 51) 147 = .ok (.iconst (-1), 1) := by decide +kernel
theorem zd_51_148 : decode (zm_cc 51) 148 = .ok (.istore 4, 2) := by decide +kernel
theorem zd_51_150 : decode (zm_cc 51) 150 = .ok (.iload_n 2, 1) := by decide +kernel
theorem zd_51_151 : decode (zm_cc 51) 151 = .ok (.ifCond .eq 11, 3) := by decide +kernel
theorem zd_51_154 : decode (zm_cc 51) 154 = .ok (.aload_n 0, 1) := by decide +kernel
theorem zd_51_155 : decode (zm_cc 51) 155 = .ok (.iload_n 3, 1) := by decide +kernel
theorem zd_51_156 : decode (zm_cc 51) 156 = .ok (.invokevirtual 227, 3) := by decide +kernel
theorem zd_51_159 : decode (zm_cc 51) 159 = .ok (.goto 24, 3) := by decide +kernel
theorem zd_51_162 : decode (zm_cc 51) 162 = .ok (.iload 4, 2) := by decide +kernel
theorem zd_51_164 : decode (zm_cc 51) 164 = .ok (.iconst (-1), 1) := by decide +kernel
theorem zd_51_165 : decode (zm_cc 51) 165 = .ok (.if_icmp .eq 13, 3) := by decide +kernel
theorem zd_51_168 : decode (zm_cc 51) 168 = .ok (.aload_n 0, 1) := by decide +kernel
theorem zd_51_169 : decode (zm_cc 51) 169 = .ok (.iload_n 3, 1) := by decide +kernel
theorem zd_51_170 : decode (zm_cc 51) 170 = .ok (.iload 4, 2) := by decide +kernel
theorem zd_51_172 : decode (zm_cc 51) 172 = .ok (.invokevirtual 230, 3) := by decide +kernel
theorem zd_51_175 : decode (zm_cc 51) 175 = .ok (.goto 8, 3) := by decide +kernel
theorem zd_51_178 : decode (zm_cc 51) 178 = .ok (.aload_n 0, 1) := by decide +kernel
theorem zd_51_179 : decode (zm_cc 51) 179 = .ok (.iload_n 3, 1) := by decide +kernel
theorem zd_51_180 : decode (zm_cc 51) 180 = .ok (.invokevirtual 233, 3) := by decide +kernel
theorem zd_51_183 : decode (zm_cc 51) 183 = .ok (.return_, 1) := by decide +kernel
theorem zd_52_0 : decode (zm_cc 52) 0 = .ok (.iconst 0, 1) := by decide +kernel
theorem zd_52_1 : decode (zm_cc 52) 1 = .ok (.istore_n 3, 1) := by decide +kernel
theorem zd_52_2 : decode (zm_cc 52) 2 = .ok (.iload_n 3, 1) := by decide +kernel
theorem zd_52_3 : decode (zm_cc 52) 3 = .ok (.aload_n 0, 1) := by decide +kernel
theorem zd_52_4 : decode (zm_cc 52) 4 = .ok (.getfield 25, 3) := by decide +kernel
theorem zd_52_7 : decode (zm_cc 52) 7 = .ok (.if_icmp .ge 33, 3) := by decide +kernel
theorem zd_52_10 : decode (zm_cc 52) 10 = .ok (.iload_n 3, 1) := by decide +kernel
theorem zd_52_11 : decode (zm_cc 52) 11 = .ok (.bipush 14, 2) := by decide +kernel
theorem zd_52_13 : decode (zm_cc 52) 13 = .ok (.if_icmp .ge 27, 3) := by decide +kernel
theorem zd_52_16 : decode (zm_cc 52) 16 = .ok (.aload_n 0, 1) := by decide +kernel
theorem zd_52_17 : decode (zm_cc 52) 17 = .ok (.getfield 11, 3) := by decide +kernel
theorem zd_52_20 : decode (zm_cc 52) 20 = .ok (.iload_n 3, 1) := by decide +kernel
theorem zd_52_21 : decode (zm_cc 52) 21 = .ok (.laload, 1) := by decide +kernel
theorem zd_52_22 : decode (zm_cc 52) 22 = .ok (.lload_n 1, 1) := by decide +kernel
theorem zd_52_23 : decode (zm_cc 52) 23 = .ok (.lcmp, 1) := by decide +kernel
theorem zd_52_24 : decode (zm_cc 52) 24 = .ok (.ifCond .ne 10, 3) := by decide +kernel
theorem zd_52_27 : decode (zm_cc 52) 27 = .ok (.aload_n 0, 1) := by decide +kernel
theorem zd_52_28 : decode (zm_cc 52) 28 = .ok (.getfield 15, 3) := by decide +kernel
theorem zd_52_31 : decode (zm_cc 52) 31 = .ok (.iload_n 3, 1) := by decide +kernel
theorem zd_52_32 : decode (zm_cc 52) 32 = .ok (.iaload, 1) := by decide +kernel
theorem zd_52_33 : decode (zm_cc 52) 33 = .ok (.ireturn, 1) := by decide +kernel
theorem zd_52_34 : decode (zm_cc 52) 34 = .ok (.iinc 3 1, 3) := by decide +kernel
theorem zd_52_37 : decode (zm_cc 52) 37 = .ok (.goto (-35), 3) := by decide +kernel
theorem zd_52_40 : decode (zm_cc 52) 40 = .ok (.iconst (-1), 1) := by decide +kernel
theorem zd_52_41 : decode (zm_cc 52) 41 = .ok (.ireturn, 1) := by decide +kernel
theorem zd_53_0 : decode (zm_cc 53) 0 = .ok (.iconst 0, 1) := by decide +kernel
theorem zd_53_1 : decode (zm_cc 53) 1 = .ok (.istore 4, 2) := by decide +kernel
theorem zd_53_3 : decode (zm_cc 53) 3 = .ok (.iload 4, 2) := by decide +kernel
theorem zd_53_5 : decode (zm_cc 53) 5 = .ok (.aload_n 0, 1) := by decide +kernel
theorem zd_53_6 : decode (zm_cc 53) 6 = .ok (.getfield 25, 3) := by decide +kernel
theorem zd_53_9 : decode (zm_cc 53) 9 = .ok (.if_icmp .ge 47, 3) := by decide +kernel
theorem zd_53_12 : decode (zm_cc 53) 12 = .ok (.iload 4, 2) := by decide +kernel
theorem zd_53_14 : decode (zm_cc 53) 14 = .ok (.bipush 14, 2) := by decide +kernel
theorem zd_53_16 : decode (zm_cc 53) 16 = .ok (.if_icmp .ge 40, 3) := by decide +kernel
theorem zd_53_19 : decode (zm_cc 53) 19 = .ok (.aload_n 0, 1) := by decide +kernel
theorem zd_53_20 : decode (zm_cc 53) 20 = .ok (.getfield 11, 3) := by decide +kernel
theorem zd_53_23 : decode (zm_cc 53) 23 = .ok (.iload 4, 2) := by decide +kernel
theorem zd_53_25 : decode (zm_cc 53) 25 = .ok (.laload, 1) := by decide +kernel
theorem zd_53_26 : decode (zm_cc 53) 26 = .ok (.lload_n 1, 1) := by decide +kernel
theorem zd_53_27 : decode (zm_cc 53) 27 = .ok (.lcmp, 1) := by decide +kernel
theorem zd_53_28 : decode (zm_cc 53) 28 = .ok (.ifCond .ne 22, 3) := by decide +kernel
theorem zd_53_31 : decode (zm_cc 53) 31 = .ok (.aload_n 0, 1) := by decide +kernel
theorem zd_53_32 : decode (zm_cc 53) 32 = .ok (.getfield 15, 3) := by decide +kernel
theorem zd_53_35 : decode (zm_cc 53) 35 = .ok (.iload 4, 2) := by decide +kernel
theorem zd_53_37 : decode (zm_cc 53) 37 = .ok (.iaload, 1) := by decide +kernel
theorem zd_53_38 : decode (zm_cc 53) 38 = .ok (.iload_n 3, 1) := by decide +kernel
theorem zd_53_39 : decode (zm_cc 53) 39 = .ok (.if_icmp .ne 11, 3) := by decide +kernel
theorem zd_53_42 : decode (zm_cc 53) 42 = .ok (.aload_n 0, 1) := by decide +kernel
theorem zd_53_43 : decode (zm_cc 53) 43 = .ok (.getfield 19, 3) := by decide +kernel
theorem zd_53_46 : decode (zm_cc 53) 46 = .ok (.iload 4, 2) := by decide +kernel
theorem zd_53_48 : decode (zm_cc 53) 48 = .ok (.iaload, 1) := by decide +kernel
theorem zd_53_49 : decode (zm_cc 53) 49 = .ok (.ireturn, 1) := by decide +kernel
theorem zd_53_50 : decode (zm_cc 53) 50 = .ok (.iinc 4 1, 3) := by decide +kernel
theorem zd_53_53 : decode (zm_cc 53) 53 = .ok (.goto (-50), 3) := by decide +kernel
theorem zd_53_56 : decode (zm_cc 53) 56 = .ok (.iconst (-1), 1) := by decide +kernel
theorem zd_53_57 : decode (zm_cc 53) 57 = .ok (.ireturn, 1) := by decide +kernel
theorem zd_54_0 : decode (zm_cc 54) 0 = .ok (.aload_n 0, 1) := by decide +kernel
theorem zd_54_1 : decode (zm_cc 54) 1 = .ok (.lload_n 1, 1) := by decide +kernel
theorem zd_54_2 : decode (zm_cc 54) 2 = .ok (.invokevirtual 32, 3) := by decide +kernel
theorem zd_54_5 : decode (zm_cc 54) 5 = .ok (.istore_n 3, 1) := by decide +kernel
theorem zd_54_6 : decode (zm_cc 54) 6 = .ok (.iload_n 3, 1) := by decide +kernel
theorem zd_54_7 : decode (zm_cc 54) 7 = .ok (.iconst (-1), 1) := by decide +kernel
theorem zd_54_8 : decode (zm_cc 54) 8 = .ok (.if_icmp .ne 18, 3) := by decide +kernel
theorem zd_54_11 : decode (zm_cc 54) 11 = .ok (.aload_n 0, 1) := by decide +kernel
theorem zd_54_12 : decode (zm_cc 54) 12 = .ok (.getfield 29, 3) := by decide +kernel
theorem zd_54_15 : decode (zm_cc 54) 15 = .ok (.ifCond .lt 11, 3) := by decide +kernel
theorem zd_54_18 : decode (zm_cc 54) 18 = .ok (.aload_n 0, 1) := by decide +kernel
theorem zd_54_19 : decode (zm_cc 54) 19 = .ok (.getfield 29, 3) := by decide +kernel
theorem zd_54_22 : decode (zm_cc 54) 22 = .ok (.iconst 3, 1) := by decide +kernel
theorem zd_54_23 : decode (zm_cc 54) 23 = .ok (.if_icmp .lt 5, 3) := by decide +kernel
theorem zd_54_26 : decode (zm_cc 54) 26 = .ok (.iload_n 3, 1) := by decide +kernel
theorem zd_54_27 : decode (zm_cc 54) 27 = .ok (.ireturn, 1) := by decide +kernel
theorem zd_54_28 : decode (zm_cc 54) 28 = .ok (.aload_n 0, 1) := by decide +kernel
theorem zd_54_29 : decode (zm_cc 54) 29 = .ok (.getfield 22, 3) := by decide +kernel
theorem zd_54_32 : decode (zm_cc 54) 32 = .ok (.aload_n 0, 1) := by decide +kernel
theorem zd_54_33 : decode (zm_cc 54) 33 = .ok (.getfield 29, 3) := by decide +kernel
theorem zd_54_36 : decode (zm_cc 54) 36 = .ok (.lload_n 1, 1) := by decide +kernel
theorem zd_54_37 : decode (zm_cc 54) 37 = .ok (.lastore, 1) := by decide +kernel
theorem zd_54_38 : decode (zm_cc 54) 38 = .ok (.aload_n 0, 1) := by decide +kernel
theorem zd_54_39 : decode (zm_cc 54) 39 = .ok (.dup, 1) := by decide +kernel
theorem zd_54_40 : decode (zm_cc 54) 40 = .ok (.getfield 29, 3) := by decide +kernel
theorem zd_54_43 : decode (zm_cc 54) 43 = .ok (.iconst 1, 1) := by decide +kernel
theorem zd_54_44 : decode (zm_cc 54) 44 = .ok (.iadd, 1) := by decide +kernel
theorem zd_54_45 : decode (zm_cc 54) 45 = .ok (.putfield 29, 3) := by decide +kernel
theorem zd_54_48 : decode (zm_cc 54) 48 = .ok (.aload_n 0, 1) := by decide +kernel
theorem zd_54_49 : decode (zm_cc 54) 49 = .ok (.getfield 29, 3) := by decide +kernel
theorem zd_54_52 : decode (zm_cc 54) 52 = .ok (.iconst 1, 1) := by decide +kernel
theorem zd_54_53 : decode (zm_cc 54) 53 = .ok (.isub, 1) := by decide +kernel
theorem zd_54_54 : decode (zm_cc 54) 54 = .ok (.ireturn, 1) := by decide +kernel
theorem zd_55_0 : decode (zm_cc 55) 0 = .ok (.iconst 0, 1) := by decide +kernel
theorem zd_55_1 : decode (zm_cc 55) 1 = .ok (.istore_n 3, 1) := by decide +kernel
theorem zd_55_2 : decode (zm_cc 55) 2 = .ok (.iload_n 3, 1) := by decide +kernel
theorem zd_55_3 : decode (zm_cc 55) 3 = .ok (.aload_n 0, 1) := by decide +kernel
theorem zd_55_4 : decode (zm_cc 55) 4 = .ok (.getfield 29, 3) := by decide +kernel
theorem zd_55_7 : decode (zm_cc 55) 7 = .ok (.if_icmp .ge 27, 3) := by decide +kernel
theorem zd_55_10 : decode (zm_cc 55) 10 = .ok (.iload_n 3, 1) := by decide +kernel
theorem zd_55_11 : decode (zm_cc 55) 11 = .ok (.iconst 3, 1) := by decide +kernel
theorem zd_55_12 : decode (zm_cc 55) 12 = .ok (.if_icmp .ge 22, 3) := by decide +kernel
theorem zd_55_15 : decode (zm_cc 55) 15 = .ok (.aload_n 0, 1) := by decide +kernel
theorem zd_55_16 : decode (zm_cc 55) 16 = .ok (.getfield 22, 3) := by decide +kernel
theorem zd_55_19 : decode (zm_cc 55) 19 = .ok (.iload_n 3, 1) := by decide +kernel
theorem zd_55_20 : decode (zm_cc 55) 20 = .ok (.laload, 1) := by decide +kernel
theorem zd_55_21 : decode (zm_cc 55) 21 = .ok (.lload_n 1, 1) := by decide +kernel
theorem zd_55_22 : decode (zm_cc 55) 22 = .ok (.lcmp, 1) := by decide +kernel
theorem zd_55_23 : decode (zm_cc 55) 23 = .ok (.ifCond .ne 5, 3) := by decide +kernel
theorem zd_55_26 : decode (zm_cc 55) 26 = .ok (.iload_n 3, 1) := by decide +kernel
theorem zd_55_27 : decode (zm_cc 55) 27 = .ok (.ireturn, 1) := by decide +kernel
theorem zd_55_28 : decode (zm_cc 55) 28 = .ok (.iinc 3 1, 3) := by decide +kernel
theorem zd_55_31 : decode (zm_cc 55) 31 = .ok (.goto (-29), 3) := by decide +kernel
theorem zd_55_34 : decode (zm_cc 55) 34 = .ok (.iconst (-1), 1) := by decide +kernel
theorem zd_55_35 : decode (zm_cc 55) 35 = .ok (.ireturn, 1) := by decide +kernel
theorem zd_56_0 : decode (zm_cc 56) 0 = .ok (.aload_n 0, 1) := by decide +kernel
theorem zd_56_1 : decode (zm_cc 56) 1 = .ok (.invokevirtual 236, 3) := by decide +kernel
theorem zd_56_4 : decode (zm_cc 56) 4 = .ok (.istore_n 2, 1) := by decide +kernel
theorem zd_56_5 : decode (zm_cc 56) 5 = .ok (.iload_n 2, 1) := by decide +kernel
theorem zd_56_6 : decode (zm_cc 56) 6 = .ok (.iconst (-1), 1) := by decide +kernel
theorem zd_56_7 : decode (zm_cc 56) 7 = .ok (.if_icmp .eq 30, 3) := by decide +kernel
theorem zd_56_10 : decode (zm_cc 56) 10 = .ok (.aload_n 0, 1) := by decide +kernel
theorem zd_56_11 : decode (zm_cc 56) 11 = .ok (.getfield 44, 3) := by decide +kernel
theorem zd_56_14 : decode (zm_cc 56) 14 = .ok (.iconst 1, 1) := by decide +kernel
theorem zd_56_15 : decode (zm_cc 56) 15 = .ok (.iload_n 1, 1) := by decide +kernel
theorem zd_56_16 : decode (zm_cc 56) 16 = .ok (.invokevirtual 198, 3) := by decide +kernel
theorem zd_56_19 : decode (zm_cc 56) 19 = .ok (.aload_n 0, 1) := by decide +kernel
theorem zd_56_20 : decode (zm_cc 56) 20 = .ok (.getfield 44, 3) := by decide +kernel
theorem zd_56_23 : decode (zm_cc 56) 23 = .ok (.iconst (-1), 1) := by decide +kernel
theorem zd_56_24 : decode (zm_cc 56) 24 = .ok (.iload_n 2, 1) := by decide +kernel
theorem zd_56_25 : decode (zm_cc 56) 25 = .ok (.iconst (-1), 1) := by decide +kernel
theorem zd_56_26 : decode (zm_cc 56) 26 = .ok (.iconst 0, 1) := by decide +kernel
theorem zd_56_27 : decode (zm_cc 56) 27 = .ok (.invokevirtual 220, 3) := by decide +kernel
theorem zd_56_30 : decode (zm_cc 56) 30 = .ok (.aload_n 0, 1) := by decide +kernel
theorem zd_56_31 : decode (zm_cc 56) 31 = .ok (.bipush 59, 2) := by decide +kernel
theorem zd_56_33 : decode (zm_cc 56) 33 = .ok (.invokevirtual 117, 3) := by decide +kernel
theorem zd_56_36 : decode (zm_cc 56) 36 = .ok (.pop, 1) := by decide +kernel
theorem zd_56_37 : decode (zm_cc 56) 37 = .ok (.return_, 1) := by decide +kernel
theorem zd_57_0 : decode (zm_cc 57) 0 = .ok (.aload_n 0, 1) := by decide +kernel
theorem zd_57_1 : decode (zm_cc 57) 1 = .ok (.getfield 35, 3) := by decide +kernel
theorem zd_57_4 : decode (zm_cc 57) 4 = .ok (.getfield 74, 3) := by decide +kernel
theorem zd_57_7 : decode (zm_cc 57) 7 = .ok (.iconst 3, 1) := by decide +kernel
theorem zd_57_8 : decode (zm_cc 57) 8 = .ok (.if_icmp .ne 7, 3) := by decide +kernel
theorem zd_57_11 : decode (zm_cc 57) 11 = .ok (.iconst 1, 1) := by decide +kernel
theorem zd_57_12 : decode (zm_cc 57) 12 = .ok (.goto 4, 3) := by decide +kernel
theorem zd_57_15 : decode (zm_cc 57) 15 = .ok (.iconst 0, 1) := by decide +kernel
theorem zd_57_16 : decode (zm_cc 57) 16 = .ok (.istore_n 1, 1) := by decide +kernel
theorem zd_57_17 : decode (zm_cc 57) 17 = .ok (.iload_n 1, 1) := by decide +kernel
theorem zd_57_18 : decode (zm_cc 57) 18 = .ok (.ifCond .ne 14, 3) := by decide +kernel
theorem zd_57_21 : decode (zm_cc 57) 21 = .ok (.aload_n 0, 1) := by decide +kernel
theorem zd_57_22 : decode (zm_cc 57) 22 = .ok (.getfield 35, 3) := by decide +kernel
theorem zd_57_25 : decode (zm_cc 57) 25 = .ok (.getfield 74, 3) := by decide +kernel
theorem zd_57_28 : decode (zm_cc 57) 28 = .ok (.iconst 2, 1) := by decide +kernel
theorem zd_57_29 : decode (zm_cc 57) 29 = .ok (.if_icmp .ne 25, 3) := by decide +kernel
theorem zd_57_32 : decode (zm_cc 57) 32 = .ok (.iload_n 1, 1) := by decide +kernel
theorem zd_57_33 : decode (zm_cc 57) 33 = .ok (.ifCond .eq 29, 3) := by decide +kernel
theorem zd_57_36 : decode (zm_cc 57) 36 = .ok (.aload_n 0, 1) := by decide +kernel
theorem zd_57_37 : decode (zm_cc 57) 37 = .ok (.getfield 12, 3) := by decide +kernel
theorem zd_57_40 : decode (zm_cc 57) 40 = .ok (.aload_n 0, 1) := by decide +kernel
theorem zd_57_41 : decode (zm_cc 57) 41 = .ok (.getfield 35, 3) := by decide +kernel
theorem zd_57_44 : decode (zm_cc 57) 44 = .ok (.getfield 113, 3) := by decide +kernel
theorem zd_57_47 : decode (zm_cc 57) 47 = .ok (.invokevirtual 134, 3) := by decide +kernel
theorem zd_57_50 : decode (zm_cc 57) 50 = .ok (.iconst (-1), 1) := by decide +kernel
theorem zd_57_51 : decode (zm_cc 57) 51 = .ok (.if_icmp .eq 11, 3) := by decide +kernel
theorem zd_57_54 : decode (zm_cc 57) 54 = .ok (.aload_n 0, 1) := by decide +kernel
theorem zd_57_55 : decode (zm_cc 57) 55 = .ok (.iconst 2, 1) := by decide +kernel
theorem zd_57_56 : decode (zm_cc 57) 56 = .ok (.invokevirtual 86, 3) := by decide +kernel
theorem zd_57_59 : decode (zm_cc 57) 59 = .ok (.pop, 1) := by decide +kernel
theorem zd_57_60 : decode (zm_cc 57) 60 = .ok (.iconst (-1), 1) := by decide +kernel
theorem zd_57_61 : decode (zm_cc 57) 61 = .ok (.ireturn, 1) := by decide +kernel
theorem zd_57_62 : decode (zm_cc 57) 62 = .ok (.iload_n 1, 1) := by decide +kernel
theorem zd_57_63 : decode (zm_cc 57) 63 = .ok (.ifCond .eq 20, 3) := by decide +kernel
theorem zd_57_66 : decode (zm_cc 57) 66 = .ok (.aload_n 0, 1) := by decide +kernel
theorem zd_57_67 : decode (zm_cc 57) 67 = .ok (.getfield 12, 3) := by decide +kernel
theorem zd_57_70 : decode (zm_cc 57) 70 = .ok (.aload_n 0, 1) := by decide +kernel
theorem zd_57_71 : decode (zm_cc 57) 71 = .ok (.getfield 35, 3) := by decide +kernel
theorem zd_57_74 : decode (zm_cc 57) 74 = .ok (.getfield 113, 3) := by decide +kernel
theorem zd_57_77 : decode (zm_cc 57) 77 = .ok (.invokevirtual 224, 3) := by decide +kernel
theorem zd_57_80 : decode (zm_cc 57) 80 = .ok (.goto 4, 3) := by decide +kernel
theorem zd_57_83 : decode (zm_cc 57) 83 = .ok (.iconst (-1), 1) := by decide +kernel
theorem zd_57_84 : decode (zm_cc 57) 84 = .ok (.istore_n 2, 1) := by decide +kernel
theorem zd_57_85 : decode (zm_cc 57) 85 = .ok (.iload_n 1, 1) := by decide +kernel
theorem zd_57_86 : decode (zm_cc 57) 86 = .ok (.ifCond .eq 16, 3) := by decide +kernel
theorem zd_57_89 : decode (zm_cc 57) 89 = .ok (.iload_n 2, 1) := by decide +kernel
theorem zd_57_90 : decode (zm_cc 57) 90 = .ok (.iconst (-1), 1) := by decide +kernel
theorem zd_57_91 : decode (zm_cc 57) 91 = .ok (.if_icmp .ne 11, 3) := by decide +kernel
theorem zd_57_94 : decode (zm_cc 57) 94 = .ok (.aload_n 0, 1) := by decide +kernel
theorem zd_57_95 : decode (zm_cc 57) 95 = .ok (.iconst 4, 1) := by decide +kernel
theorem zd_57_96 : decode (zm_cc 57) 96 = .ok (.invokevirtual 86, 3) := by decide +kernel
theorem zd_57_99 : decode (zm_cc 57) 99 = .ok (.pop, 1) := by decide +kernel
theorem zd_57_100 : decode (zm_cc 57) 100 = .ok (.iconst (-1), 1) := by decide +kernel
theorem zd_57_101 : decode (zm_cc 57) 101 = .ok (.ireturn, 1) := by decide +kernel
theorem zd_57_102 : decode (zm_cc 57) 102 = .ok (.iload_n 1, 1) := by decide +kernel
theorem zd_57_103 : decode (zm_cc 57) 103 = .ok (.ifCond .eq 10, 3) := by decide +kernel
theorem zd_57_106 : decode (zm_cc 57) 106 = .ok (.bipush 8, 2) := by decide +kernel
theorem zd_57_108 : decode (zm_cc 57) 108 = .ok (.iload_n 2, 1) := by decide +kernel
theorem zd_57_109 : decode (zm_cc 57) 109 = .ok (.iadd, 1) := by decide +kernel
theorem zd_57_110 : decode (zm_cc 57) 110 = .ok (.goto 11, 3) := by decide +kernel
theorem zd_57_113 : decode (zm_cc 57) 113 = .ok (.aload_n 0, 1) := by decide +kernel
theorem zd_57_114 : decode (zm_cc 57) 114 = .ok (.getfield 35, 3) := by decide +kernel
theorem zd_57_117 : decode (zm_cc 57) 117 = .ok (.getfield 113, 3) := by decide +kernel
theorem zd_57_120 : decode (zm_cc 57) 120 = .ok (.l2i, 1) := by decide +kernel
theorem zd_57_121 : decode (zm_cc 57) 121 = .ok (.istore_n 3, 1) := by decide +kernel
theorem zd_57_122 : decode (zm_cc 57) 122 = .ok (.aload_n 0, 1) := by decide +kernel
theorem zd_57_123 : decode (zm_cc 57) 123 = .ok (.getfield 35, 3) := by decide +kernel
theorem zd_57_126 : decode (zm_cc 57) 126 = .ok (.invokevirtual 90, 3) := by decide +kernel
theorem zd_57_129 : decode (zm_cc 57) 129 = .ok (.iload_n 3, 1) := by decide +kernel
theorem zd_57_130 : decode (zm_cc 57) 130 = .ok (.ireturn, 1) := by decide +kernel
theorem zd_58_0 : decode (zm_cc 58) 0 = .ok (.aload_n 0, 1) := by decide +kernel
theorem zd_58_1 : decode (zm_cc 58) 1 = .ok (.getfield 27, 3) := by decide +kernel
theorem zd_58_4 : decode (zm_cc 58) 4 = .ok (.aload_n 0, 1) := by decide +kernel
theorem zd_58_5 : decode (zm_cc 58) 5 = .ok (.getfield 31, 3) := by decide +kernel
theorem zd_58_8 : decode (zm_cc 58) 8 = .ok (.aload_n 0, 1) := by decide +kernel
theorem zd_58_9 : decode (zm_cc 58) 9 = .ok (.getfield 38, 3) := by decide +kernel
theorem zd_58_12 : decode (zm_cc 58) 12 = .ok (.invokevirtual 67, 3) := by decide +kernel
theorem zd_58_15 : decode (zm_cc 58) 15 = .ok (.istore 5, 2) := by decide +kernel
theorem zd_58_17 : decode (zm_cc 58) 17 = .ok (.aload_n 0, 1) := by decide +kernel
theorem zd_58_18 : decode (zm_cc 58) 18 = .ok (.getfield 27, 3) := by decide +kernel
theorem zd_58_21 : decode (zm_cc 58) 21 = .ok (.getfield 71, 3) := by decide +kernel
theorem zd_58_24 : decode (zm_cc 58) 24 = .ok (.iload 5, 2) := by decide +kernel
theorem zd_58_26 : decode (zm_cc 58) 26 = .ok (.iload_n 1, 1) := by decide +kernel
theorem zd_58_27 : decode (zm_cc 58) 27 = .ok (.iastore, 1) := by decide +kernel
theorem zd_58_28 : decode (zm_cc 58) 28 = .ok (.aload_n 0, 1) := by decide +kernel
theorem zd_58_29 : decode (zm_cc 58) 29 = .ok (.getfield 27, 3) := by decide +kernel
theorem zd_58_32 : decode (zm_cc 58) 32 = .ok (.getfield 74, 3) := by decide +kernel
theorem zd_58_35 : decode (zm_cc 58) 35 = .ok (.iload 5, 2) := by decide +kernel
theorem zd_58_37 : decode (zm_cc 58) 37 = .ok (.iload_n 2, 1) := by decide +kernel
theorem zd_58_38 : decode (zm_cc 58) 38 = .ok (.iastore, 1) := by decide +kernel
theorem zd_58_39 : decode (zm_cc 58) 39 = .ok (.aload_n 0, 1) := by decide +kernel
theorem zd_58_40 : decode (zm_cc 58) 40 = .ok (.getfield 27, 3) := by decide +kernel
theorem zd_58_43 : decode (zm_cc 58) 43 = .ok (.getfield 77, 3) := by decide +kernel
theorem zd_58_46 : decode (zm_cc 58) 46 = .ok (.iload 5, 2) := by decide +kernel
theorem zd_58_48 : decode (zm_cc 58) 48 = .ok (.iload_n 3, 1) := by decide +kernel
theorem zd_58_49 : decode (zm_cc 58) 49 = .ok (.iastore, 1) := by decide +kernel
theorem zd_58_50 : decode (zm_cc 58) 50 = .ok (.aload_n 0, 1) := by decide +kernel
theorem zd_58_51 : decode (zm_cc 58) 51 = .ok (.getfield 27, 3) := by decide +kernel
theorem zd_58_54 : decode (zm_cc 58) 54 = .ok (.getfield 80, 3) := by decide +kernel
theorem zd_58_57 : decode (zm_cc 58) 57 = .ok (.iload 5, 2) := by decide +kernel
theorem zd_58_59 : decode (zm_cc 58) 59 = .ok (.iload 4, 2) := by decide +kernel
theorem zd_58_61 : decode (zm_cc 58) 61 = .ok (.iastore, 1) := by decide +kernel
theorem zd_58_62 : decode (zm_cc 58) 62 = .ok (.return_, 1) := by decide +kernel
theorem zd_59_0 : decode (zm_cc 59) 0 = .ok (.aload_n 0, 1) := by decide +kernel
theorem zd_59_1 : decode (zm_cc 59) 1 = .ok (.getfield 35, 3) := by decide +kernel
theorem zd_59_4 : decode (zm_cc 59) 4 = .ok (.invokevirtual 90, 3) := by decide +kernel
theorem zd_59_7 : decode (zm_cc 59) 7 = .ok (.aload_n 0, 1) := by decide +kernel
theorem zd_59_8 : decode (zm_cc 59) 8 = .ok (.getfield 44, 3) := by decide +kernel
theorem zd_59_11 : decode (zm_cc 59) 11 = .ok (.iconst 0, 1) := by decide +kernel
theorem zd_59_12 : decode (zm_cc 59) 12 = .ok (.iload_n 2, 1) := by decide +kernel
theorem zd_59_13 : decode (zm_cc 59) 13 = .ok (.invokevirtual 198, 3) := by decide +kernel
theorem zd_59_16 : decode (zm_cc 59) 16 = .ok (.aload_n 0, 1) := by decide +kernel
theorem zd_59_17 : decode (zm_cc 59) 17 = .ok (.getfield 44, 3) := by decide +kernel
theorem zd_59_20 : decode (zm_cc 59) 20 = .ok (.iload_n 1, 1) := by decide +kernel
theorem zd_59_21 : decode (zm_cc 59) 21 = .ok (.iconst 0, 1) := by decide +kernel
theorem zd_59_22 : decode (zm_cc 59) 22 = .ok (.iconst (-1), 1) := by decide +kernel
theorem zd_59_23 : decode (zm_cc 59) 23 = .ok (.iconst 0, 1) := by decide +kernel
theorem zd_59_24 : decode (zm_cc 59) 24 = .ok (.invokevirtual 220, 3) := by decide +kernel
theorem zd_59_27 : decode (zm_cc 59) 27 = .ok (.aload_n 0, 1) := by decide +kernel
theorem zd_59_28 : decode (zm_cc 59) 28 = .ok (.bipush 59, 2) := by decide +kernel
theorem zd_59_30 : decode (zm_cc 59) 30 = .ok (.invokevirtual 117, 3) := by decide +kernel
theorem zd_59_33 : decode (zm_cc 59) 33 = .ok (.pop, 1) := by decide +kernel
theorem zd_59_34 : decode (zm_cc 59) 34 = .ok (.return_, 1) := by decide +kernel
theorem zd_60_0 : decode (zm_cc 60) 0 = .ok (.aload_n 0, 1) := by decide +kernel
theorem zd_60_1 : decode (zm_cc 60) 1 = .ok (.invokevirtual 236, 3) := by decide +kernel
theorem zd_60_4 : decode (zm_cc 60) 4 = .ok (.istore_n 2, 1) := by decide +kernel
theorem zd_60_5 : decode (zm_cc 60) 5 = .ok (.iload_n 2, 1) := by decide +kernel
theorem zd_60_6 : decode (zm_cc 60) 6 = .ok (.iconst (-1), 1) := by decide +kernel
theorem zd_60_7 : decode (zm_cc 60) 7 = .ok (.if_icmp .ne 4, 3) := by decide +kernel
theorem zd_60_10 : decode (zm_cc 60) 10 = .ok (.return_, 1) := by decide +kernel
theorem zd_60_11 : decode (zm_cc 60) 11 = .ok (.iconst (-1), 1) := by decide +kernel
theorem zd_60_12 : decode (zm_cc 60) 12 = .ok (.istore_n 3, 1) := by decide +kernel
theorem zd_60_13 : decode (zm_cc 60) 13 = .ok (.iconst 0, 1) := by decide +kernel
theorem zd_60_14 : decode (zm_cc 60) 14 = .ok (.istore 4, 2) := by decide +kernel
theorem zd_60_16 : decode (zm_cc 60) 16 = .ok (.aload_n 0, 1) := by decide +kernel
theorem zd_60_17 : decode (zm_cc 60) 17 = .ok (.getfield 35, 3) := by decide +kernel
theorem zd_60_20 : decode (zm_cc 60) 20 = .ok (.getfield 74, 3) := by decide +kernel
theorem zd_60_23 : decode (zm_cc 60) 23 = .ok (.bipush 43, 2) := by decide +kernel
theorem zd_60_25 : decode (zm_cc 60) 25 = .ok (.if_icmp .eq 15, 3) := by decide +kernel
theorem zd_60_28 : decode (zm_cc 60) 28 = .ok (.aload_n 0, 1) := by decide +kernel
theorem zd_60_29 : decode (zm_cc 60) 29 = .ok (.getfield 35, 3) := by decide +kernel
theorem zd_60_32 : decode (zm_cc 60) 32 = .ok (.getfield 74, 3) := by decide +kernel
theorem zd_60_35 : decode (zm_cc 60) 35 = .ok (.bipush 45, 2) := by decide +kernel
theorem zd_60_37 : decode (zm_cc 60) 37 = .ok (.if_icmp .ne 24, 3) := by decide +kernel
theorem zd_60_40 : decode (zm_cc 60) 40 = .ok (.aload_n 0, 1) := by decide +kernel
theorem zd_60_41 : decode (zm_cc 60) 41 = .ok (.getfield 35, 3) := by decide +kernel
theorem zd_60_44 : decode (zm_cc 60) 44 = .ok (.getfield 74, 3) := by decide +kernel
theorem zd_60_47 : decode (zm_cc 60) 47 = .ok (.istore_n 3, 1) := by decide +kernel
theorem zd_60_48 : decode (zm_cc 60) 48 = .ok (.aload_n 0, 1) := by decide +kernel
theorem zd_60_49 : decode (zm_cc 60) 49 = .ok (.getfield 35, 3) := by decide +kernel
theorem zd_60_52 : decode (zm_cc 60) 52 = .ok (.invokevirtual 90, 3) := by decide +kernel
theorem zd_60_55 : decode (zm_cc 60) 55 = .ok (.aload_n 0, 1) := by decide +kernel
theorem zd_60_56 : decode (zm_cc 60) 56 = .ok (.invokevirtual 236, 3) := by decide +kernel
theorem zd_60_59 : decode (zm_cc 60) 59 = .ok (.istore 4, 2) := by decide +kernel
theorem zd_60_61 : decode (zm_cc 60) 61 = .ok (.iload 4, 2) := by decide +kernel
theorem zd_60_63 : decode (zm_cc 60) 63 = .ok (.iconst (-1), 1) := by decide +kernel
theorem zd_60_64 : decode (zm_cc 60) 64 = .ok (.if_icmp .eq 31, 3) := by decide +kernel
theorem zd_60_67 : decode (zm_cc 60) 67 = .ok (.aload_n 0, 1) := by decide +kernel
theorem zd_60_68 : decode (zm_cc 60) 68 = .ok (.getfield 44, 3) := by decide +kernel
theorem zd_60_71 : decode (zm_cc 60) 71 = .ok (.iconst 2, 1) := by decide +kernel
theorem zd_60_72 : decode (zm_cc 60) 72 = .ok (.iconst (-1), 1) := by decide +kernel
theorem zd_60_73 : decode (zm_cc 60) 73 = .ok (.invokevirtual 198, 3) := by decide +kernel
theorem zd_60_76 : decode (zm_cc 60) 76 = .ok (.aload_n 0, 1) := by decide +kernel
theorem zd_60_77 : decode (zm_cc 60) 77 = .ok (.getfield 44, 3) := by decide +kernel
theorem zd_60_80 : decode (zm_cc 60) 80 = .ok (.iload_n 1, 1) := by decide +kernel
theorem zd_60_81 : decode (zm_cc 60) 81 = .ok (.iload_n 2, 1) := by decide +kernel
theorem zd_60_82 : decode (zm_cc 60) 82 = .ok (.iload_n 3, 1) := by decide +kernel
theorem zd_60_83 : decode (zm_cc 60) 83 = .ok (.iload 4, 2) := by decide +kernel
theorem zd_60_85 : decode (zm_cc 60) 85 = .ok (.invokevirtual 220, 3) := by decide +kernel
theorem zd_60_88 : decode (zm_cc 60) 88 = .ok (.aload_n 0, 1) := by decide +kernel
theorem zd_60_89 : decode (zm_cc 60) 89 = .ok (.bipush 59, 2) := by decide +kernel
theorem zd_60_91 : decode (zm_cc 60) 91 = .ok (.invokevirtual 117, 3) := by decide +kernel
theorem zd_60_94 : decode (zm_cc 60) 94 = .ok (.pop, 1) := by decide +kernel
theorem zd_60_95 : decode (zm_cc 60) 95 = .ok (.return_, 1) := by decide +kernel
theorem zd_61_0 : decode (zm_cc 61) 0 = .ok (.aload_n 0, 1) := by decide +kernel
theorem zd_61_1 : decode (zm_cc 61) 1 = .ok (.getfield 44, 3) := by decide +kernel
theorem zd_61_4 : decode (zm_cc 61) 4 = .ok (.invokevirtual 189, 3) := by decide +kernel
theorem zd_61_7 : decode (zm_cc 61) 7 = .ok (.ifCond .eq 12, 3) := by decide +kernel
theorem zd_61_10 : decode (zm_cc 61) 10 = .ok (.aload_n 0, 1) := by decide +kernel
theorem zd_61_11 : decode (zm_cc 61) 11 = .ok (.iconst 2, 1) := by decide +kernel
theorem zd_61_12 : decode (zm_cc 61) 12 = .ok (.invokevirtual 86, 3) := by decide +kernel
theorem zd_61_15 : decode (zm_cc 61) 15 = .ok (.pop, 1) := by decide +kernel
theorem zd_61_16 : decode (zm_cc 61) 16 = .ok (.goto 37, 3) := by decide +kernel
theorem zd_61_19 : decode (zm_cc 61) 19 = .ok (.aload_n 0, 1) := by decide +kernel
theorem zd_61_20 : decode (zm_cc 61) 20 = .ok (.getfield 26, 3) := by decide +kernel
theorem zd_61_23 : decode (zm_cc 61) 23 = .ok (.getfield 192, 3) := by decide +kernel
theorem zd_61_26 : decode (zm_cc 61) 26 = .ok (.bipush 6, 2) := by decide +kernel
theorem zd_61_28 : decode (zm_cc 61) 28 = .ok (.if_icmp .lt 12, 3) := by decide +kernel
theorem zd_61_31 : decode (zm_cc 61) 31 = .ok (.aload_n 0, 1) := by decide +kernel
theorem zd_61_32 : decode (zm_cc 61) 32 = .ok (.iconst 4, 1) := by decide +kernel
theorem zd_61_33 : decode (zm_cc 61) 33 = .ok (.invokevirtual 86, 3) := by decide +kernel
theorem zd_61_36 : decode (zm_cc 61) 36 = .ok (.pop, 1) := by decide +kernel
theorem zd_61_37 : decode (zm_cc 61) 37 = .ok (.goto 16, 3) := by decide +kernel
theorem zd_61_40 : decode (zm_cc 61) 40 = .ok (.aload_n 0, 1) := by decide +kernel
theorem zd_61_41 : decode (zm_cc 61) 41 = .ok (.getfield 35, 3) := by decide +kernel
theorem zd_61_44 : decode (zm_cc 61) 44 = .ok (.invokevirtual 90, 3) := by decide +kernel
theorem zd_61_47 : decode (zm_cc 61) 47 = .ok (.aload_n 0, 1) := by decide +kernel
theorem zd_61_48 : decode (zm_cc 61) 48 = .ok (.iconst 2, 1) := by decide +kernel
theorem zd_61_49 : decode (zm_cc 61) 49 = .ok (.iconst (-1), 1) := by decide +kernel
theorem zd_61_50 : decode (zm_cc 61) 50 = .ok (.invokevirtual 130, 3) := by decide +kernel
theorem zd_61_53 : decode (zm_cc 61) 53 = .ok (.return_, 1) := by decide +kernel
theorem zd_62_0 : decode (zm_cc 62) 0 = .ok (.aload_n 0, 1) := by decide +kernel
theorem zd_62_1 : decode (zm_cc 62) 1 = .ok (.getfield 50, 3) := by decide +kernel
theorem zd_62_4 : decode (zm_cc 62) 4 = .ok (.iconst (-1), 1) := by decide +kernel
theorem zd_62_5 : decode (zm_cc 62) 5 = .ok (.if_icmp .eq 7, 3) := by decide +kernel
theorem zd_62_8 : decode (zm_cc 62) 8 = .ok (.iconst 1, 1) := by decide +kernel
theorem zd_62_9 : decode (zm_cc 62) 9 = .ok (.goto 4, 3) := by decide +kernel
theorem zd_62_12 : decode (zm_cc 62) 12 = .ok (.iconst 0, 1) := by decide +kernel
theorem zd_62_13 : decode (zm_cc 62) 13 = .ok (.ireturn, 1) := by decide +kernel
theorem zd_63_0 : decode (zm_cc 63) 0 = .ok (.aload_n 0, 1) := by decide +kernel
theorem zd_63_1 : decode (zm_cc 63) 1 = .ok (.getfield 35, 3) := by decide +kernel
theorem zd_63_4 : decode (zm_cc 63) 4 = .ok (.getfield 74, 3) := by decide +kernel
theorem zd_63_7 : decode (zm_cc 63) 7 = .ok (.bipush 123, 2) := by decide +kernel
theorem zd_63_9 : decode (zm_cc 63) 9 = .ok (.if_icmp .ne 24, 3) := by decide +kernel
theorem zd_63_12 : decode (zm_cc 63) 12 = .ok (.aload_n 0, 1) := by decide +kernel
theorem zd_63_13 : decode (zm_cc 63) 13 = .ok (.getfield 44, 3) := by decide +kernel
theorem zd_63_16 : decode (zm_cc 63) 16 = .ok (.getfield 68, 3) := by decide +kernel
theorem zd_63_19 : decode (zm_cc 63) 19 = .ok (.bipush 8, 2) := by decide +kernel
theorem zd_63_21 : decode (zm_cc 63) 21 = .ok (.if_icmp .lt 12, 3) := by decide +kernel
theorem zd_63_24 : decode (zm_cc 63) 24 = .ok (.aload_n 0, 1) := by decide +kernel
theorem zd_63_25 : decode (zm_cc 63) 25 = .ok (.iconst 4, 1) := by decide +kernel
theorem zd_63_26 : decode (zm_cc 63) 26 = .ok (.invokevirtual 86, 3) := by decide +kernel
theorem zd_63_29 : decode (zm_cc 63) 29 = .ok (.pop, 1) := by decide +kernel
theorem zd_63_30 : decode (zm_cc 63) 30 = .ok (.goto 21, 3) := by decide +kernel
theorem zd_63_33 : decode (zm_cc 63) 33 = .ok (.aload_n 0, 1) := by decide +kernel
theorem zd_63_34 : decode (zm_cc 63) 34 = .ok (.bipush 123, 2) := by decide +kernel
theorem zd_63_36 : decode (zm_cc 63) 36 = .ok (.invokevirtual 117, 3) := by decide +kernel
theorem zd_63_39 : decode (zm_cc 63) 39 = .ok (.ifCond .eq 12, 3) := by decide +kernel
theorem zd_63_42 : decode (zm_cc 63) 42 = .ok (.aload_n 0, 1) := by decide +kernel
theorem zd_63_43 : decode (zm_cc 63) 43 = .ok (.getfield 44, 3) := by decide +kernel
theorem zd_63_46 : decode (zm_cc 63) 46 = .ok (.iload_n 1, 1) := by decide +kernel
theorem zd_63_47 : decode (zm_cc 63) 47 = .ok (.iload_n 2, 1) := by decide +kernel
theorem zd_63_48 : decode (zm_cc 63) 48 = .ok (.invokevirtual 142, 3) := by decide +kernel
theorem zd_63_51 : decode (zm_cc 63) 51 = .ok (.return_, 1) := by decide +kernel
theorem zd_64_0 : decode (zm_cc 64) 0 = .ok (.aload_n 0, 1) := by decide +kernel
theorem zd_64_1 : decode (zm_cc 64) 1 = .ok (.getfield 35, 3) := by decide +kernel
theorem zd_64_4 : decode (zm_cc 64) 4 = .ok (.ifCond .lt 12, 3) := by decide +kernel
theorem zd_64_7 : decode (zm_cc 64) 7 = .ok (.aload_n 0, 1) := by decide +kernel
theorem zd_64_8 : decode (zm_cc 64) 8 = .ok (.getfield 35, 3) := by decide +kernel
theorem zd_64_11 : decode (zm_cc 64) 11 = .ok (.bipush 8, 2) := by decide +kernel
theorem zd_64_13 : decode (zm_cc 64) 13 = .ok (.if_icmp .lt 4, 3) := by decide +kernel
theorem zd_64_16 : decode (zm_cc 64) 16 = .ok (.return_, 1) := by decide +kernel
theorem zd_64_17 : decode (zm_cc 64) 17 = .ok (.aload_n 0, 1) := by decide +kernel
theorem zd_64_18 : decode (zm_cc 64) 18 = .ok (.getfield 9, 3) := by decide +kernel
theorem zd_64_21 : decode (zm_cc 64) 21 = .ok (.aload_n 0, 1) := by decide +kernel
theorem zd_64_22 : decode (zm_cc 64) 22 = .ok (.getfield 35, 3) := by decide +kernel
theorem zd_64_25 : decode (zm_cc 64) 25 = .ok (.iload_n 1, 1) := by decide +kernel
theorem zd_64_26 : decode (zm_cc 64) 26 = .ok (.iastore, 1) := by decide +kernel
theorem zd_64_27 : decode (zm_cc 64) 27 = .ok (.aload_n 0, 1) := by decide +kernel
theorem zd_64_28 : decode (zm_cc 64) 28 = .ok (.getfield 15, 3) := by decide +kernel
theorem zd_64_31 : decode (zm_cc 64) 31 = .ok (.aload_n 0, 1) := by decide +kernel
theorem zd_64_32 : decode (zm_cc 64) 32 = .ok (.getfield 35, 3) := by decide +kernel
theorem zd_64_35 : decode (zm_cc 64) 35 = .ok (.iload_n 2, 1) := by decide +kernel
theorem zd_64_36 : decode (zm_cc 64) 36 = .ok (.iastore, 1) := by decide +kernel
theorem zd_64_37 : decode (zm_cc 64) 37 = .ok (.aload_n 0, 1) := by decide +kernel
theorem zd_64_38 : decode (zm_cc 64) 38 = .ok (.getfield 18, 3) := by decide +kernel
theorem zd_64_41 : decode (zm_cc 64) 41 = .ok (.aload_n 0, 1) := by decide +kernel
theorem zd_64_42 : decode (zm_cc 64) 42 = .ok (.getfield 35, 3) := by decide +kernel
theorem zd_64_45 : decode (zm_cc 64) 45 = .ok (.iconst 0, 1) := by decide +kernel
theorem zd_64_46 : decode (zm_cc 64) 46 = .ok (.iastore, 1) := by decide +kernel
theorem zd_64_47 : decode (zm_cc 64) 47 = .ok (.aload_n 0, 1) := by decide +kernel
theorem zd_64_48 : decode (zm_cc 64) 48 = .ok (.getfield 21, 3) := by decide +kernel
theorem zd_64_51 : decode (zm_cc 64) 51 = .ok (.aload_n 0, 1) := by decide +kernel
theorem zd_64_52 : decode (zm_cc 64) 52 = .ok (.getfield 35, 3) := by decide +kernel
theorem zd_64_55 : decode (zm_cc 64) 55 = .ok (.iconst 0, 1) := by decide +kernel
theorem zd_64_56 : decode (zm_cc 64) 56 = .ok (.iastore, 1) := by decide +kernel
theorem zd_64_57 : decode (zm_cc 64) 57 = .ok (.aload_n 0, 1) := by decide +kernel
theorem zd_64_58 : decode (zm_cc 64) 58 = .ok (.getfield 24, 3) := by decide +kernel
theorem zd_64_61 : decode (zm_cc 64) 61 = .ok (.aload_n 0, 1) := by decide +kernel
theorem zd_64_62 : decode (zm_cc 64) 62 = .ok (.getfield 35, 3) := by decide +kernel
theorem zd_64_65 : decode (zm_cc 64) 65 = .ok (.aload_n 0, 1) := by decide +kernel
theorem zd_64_66 : decode (zm_cc 64) 66 = .ok (.getfield 47, 3) := by decide +kernel
theorem zd_64_69 : decode (zm_cc 64) 69 = .ok (.iastore, 1) := by decide +kernel
theorem zd_64_70 : decode (zm_cc 64) 70 = .ok (.aload_n 0, 1) := by decide +kernel
theorem zd_64_71 : decode (zm_cc 64) 71 = .ok (.dup, 1) := by decide +kernel
theorem zd_64_72 : decode (zm_cc 64) 72 = .ok (.getfield 35, 3) := by decide +kernel
theorem zd_64_75 : decode (zm_cc 64) 75 = .ok (.iconst 1, 1) := by decide +kernel
theorem zd_64_76 : decode (zm_cc 64) 76 = .ok (.iadd, 1) := by decide +kernel
theorem zd_64_77 : decode (zm_cc 64) 77 = .ok (.putfield 35, 3) := by decide +kernel
theorem zd_64_80 : decode (zm_cc 64) 80 = .ok (.iload_n 1, 1) := by decide +kernel
theorem zd_64_81 : decode (zm_cc 64) 81 = .ok (.iconst 1, 1) := by decide +kernel
theorem zd_64_82 : decode (zm_cc 64) 82 = .ok (.if_icmp .ne 18, 3) := by decide +kernel
theorem zd_64_85 : decode (zm_cc 64) 85 = .ok (.aload_n 0, 1) := by decide +kernel
theorem zd_64_86 : decode (zm_cc 64) 86 = .ok (.dup, 1) := by decide +kernel
theorem zd_64_87 : decode (zm_cc 64) 87 = .ok (.getfield 47, 3) := by decide +kernel
theorem zd_64_90 : decode (zm_cc 64) 90 = .ok (.iconst 1, 1) := by decide +kernel
theorem zd_64_91 : decode (zm_cc 64) 91 = .ok (.iload_n 2, 1) := by decide +kernel
theorem zd_64_92 : decode (zm_cc 64) 92 = .ok (.ishl, 1) := by decide +kernel
theorem zd_64_93 : decode (zm_cc 64) 93 = .ok (.ior, 1) := by decide +kernel
theorem zd_64_94 : decode (zm_cc 64) 94 = .ok (.putfield 47, 3) := by decide +kernel
theorem zd_64_97 : decode (zm_cc 64) 97 = .ok (.goto 32, 3) := by decide +kernel
theorem zd_64_100 : decode (zm_cc 64) 100 = .ok (.iload_n 1, 1) := by decide +kernel
theorem zd_64_101 : decode (zm_cc 64) 101 = .ok (.iconst 2, 1) := by decide +kernel
theorem zd_64_102 : decode (zm_cc 64) 102 = .ok (.if_icmp .ne 27, 3) := by decide +kernel
theorem zd_64_105 : decode (zm_cc 64) 105 = .ok (.aload_n 0, 1) := by decide +kernel
theorem zd_64_106 : decode (zm_cc 64) 106 = .ok (.aload_n 0, 1) := by decide +kernel
theorem zd_64_107 : decode (zm_cc 64) 107 = .ok (.getfield 27, 3) := by decide +kernel
theorem zd_64_110 : decode (zm_cc 64) 110 = .ok (.getfield 89, 3) := by decide +kernel
theorem zd_64_113 : decode (zm_cc 64) 113 = .ok (.putfield 50, 3) := by decide +kernel
theorem zd_64_116 : decode (zm_cc 64) 116 = .ok (.aload_n 0, 1) := by decide +kernel
theorem zd_64_117 : decode (zm_cc 64) 117 = .ok (.getfield 27, 3) := by decide +kernel
theorem zd_64_120 : decode (zm_cc 64) 120 = .ok (.dup, 1) := by decide +kernel
theorem zd_64_121 : decode (zm_cc 64) 121 = .ok (.getfield 89, 3) := by decide +kernel
theorem zd_64_124 : decode (zm_cc 64) 124 = .ok (.iconst 1, 1) := by decide +kernel
theorem zd_64_125 : decode (zm_cc 64) 125 = .ok (.iadd, 1) := by decide +kernel
theorem zd_64_126 : decode (zm_cc 64) 126 = .ok (.putfield 89, 3) := by decide +kernel
theorem zd_64_129 : decode (zm_cc 64) 129 = .ok (.return_, 1) := by decide +kernel
theorem zd_65_0 : decode (zm_cc 65) 0 = .ok (.aload_n 0, 1) := by decide +kernel
theorem zd_65_1 : decode (zm_cc 65) 1 = .ok (.invokevirtual 180, 3) := by decide +kernel
theorem zd_65_4 : decode (zm_cc 65) 4 = .ok (.ifCond .eq 35, 3) := by decide +kernel
theorem zd_65_7 : decode (zm_cc 65) 7 = .ok (.aload_n 0, 1) := by decide +kernel
theorem zd_65_8 : decode (zm_cc 65) 8 = .ok (.getfield 35, 3) := by decide +kernel
theorem zd_65_11 : decode (zm_cc 65) 11 = .ok (.invokevirtual 90, 3) := by decide +kernel
theorem zd_65_14 : decode (zm_cc 65) 14 = .ok (.aload_n 0, 1) := by decide +kernel
theorem zd_65_15 : decode (zm_cc 65) 15 = .ok (.invokevirtual 195, 3) := by decide +kernel
theorem zd_65_18 : decode (zm_cc 65) 18 = .ok (.istore_n 1, 1) := by decide +kernel
theorem zd_65_19 : decode (zm_cc 65) 19 = .ok (.iload_n 1, 1) := by decide +kernel
theorem zd_65_20 : decode (zm_cc 65) 20 = .ok (.iconst (-1), 1) := by decide +kernel
theorem zd_65_21 : decode (zm_cc 65) 21 = .ok (.if_icmp .eq 18, 3) := by decide +kernel
theorem zd_65_24 : decode (zm_cc 65) 24 = .ok (.aload_n 0, 1) := by decide +kernel
theorem zd_65_25 : decode (zm_cc 65) 25 = .ok (.getfield 44, 3) := by decide +kernel
theorem zd_65_28 : decode (zm_cc 65) 28 = .ok (.iconst 3, 1) := by decide +kernel
theorem zd_65_29 : decode (zm_cc 65) 29 = .ok (.iload_n 1, 1) := by decide +kernel
theorem zd_65_30 : decode (zm_cc 65) 30 = .ok (.invokevirtual 198, 3) := by decide +kernel
theorem zd_65_33 : decode (zm_cc 65) 33 = .ok (.aload_n 0, 1) := by decide +kernel
theorem zd_65_34 : decode (zm_cc 65) 34 = .ok (.iconst 1, 1) := by decide +kernel
theorem zd_65_35 : decode (zm_cc 65) 35 = .ok (.iload_n 1, 1) := by decide +kernel
theorem zd_65_36 : decode (zm_cc 65) 36 = .ok (.invokevirtual 130, 3) := by decide +kernel
theorem zd_65_39 : decode (zm_cc 65) 39 = .ok (.return_, 1) := by decide +kernel
theorem zd_66_0 : decode (zm_cc 66) 0 = .ok (.aload_n 0, 1) := by decide +kernel
theorem zd_66_1 : decode (zm_cc 66) 1 = .ok (.getfield 35, 3) := by decide +kernel
theorem zd_66_4 : decode (zm_cc 66) 4 = .ok (.getfield 74, 3) := by decide +kernel
theorem zd_66_7 : decode (zm_cc 66) 7 = .ok (.iconst 3, 1) := by decide +kernel
theorem zd_66_8 : decode (zm_cc 66) 8 = .ok (.if_icmp .ne 21, 3) := by decide +kernel
theorem zd_66_11 : decode (zm_cc 66) 11 = .ok (.aload_n 0, 1) := by decide +kernel
theorem zd_66_12 : decode (zm_cc 66) 12 = .ok (.getfield 12, 3) := by decide +kernel
theorem zd_66_15 : decode (zm_cc 66) 15 = .ok (.aload_n 0, 1) := by decide +kernel
theorem zd_66_16 : decode (zm_cc 66) 16 = .ok (.getfield 35, 3) := by decide +kernel
theorem zd_66_19 : decode (zm_cc 66) 19 = .ok (.getfield 113, 3) := by decide +kernel
theorem zd_66_22 : decode (zm_cc 66) 22 = .ok (.iconst 1, 1) := by decide +kernel
theorem zd_66_23 : decode (zm_cc 66) 23 = .ok (.invokevirtual 201, 3) := by decide +kernel
theorem zd_66_26 : decode (zm_cc 66) 26 = .ok (.goto 4, 3) := by decide +kernel
theorem zd_66_29 : decode (zm_cc 66) 29 = .ok (.iconst (-1), 1) := by decide +kernel
theorem zd_66_30 : decode (zm_cc 66) 30 = .ok (.istore_n 1, 1) := by decide +kernel
theorem zd_66_31 : decode (zm_cc 66) 31 = .ok (.iload_n 1, 1) := by decide +kernel
theorem zd_66_32 : decode (zm_cc 66) 32 = .ok (.iconst (-1), 1) := by decide +kernel
theorem zd_66_33 : decode (zm_cc 66) 33 = .ok (.if_icmp .eq 12, 3) := by decide +kernel
theorem zd_66_36 : decode (zm_cc 66) 36 = .ok (.aload_n 0, 1) := by decide +kernel
theorem zd_66_37 : decode (zm_cc 66) 37 = .ok (.getfield 35, 3) := by decide +kernel
theorem zd_66_40 : decode (zm_cc 66) 40 = .ok (.invokevirtual 90, 3) := by decide +kernel
theorem zd_66_43 : decode (zm_cc 66) 43 = .ok (.iload_n 1, 1) := by decide +kernel
theorem zd_66_44 : decode (zm_cc 66) 44 = .ok (.ireturn, 1) := by decide +kernel
theorem zd_66_45 : decode (zm_cc 66) 45 = .ok (.aload_n 0, 1) := by decide +kernel
theorem zd_66_46 : decode (zm_cc 66) 46 = .ok (.invokevirtual 205, 3) := by decide +kernel
theorem zd_66_49 : decode (zm_cc 66) 49 = .ok (.iconst (-1), 1) := by decide +kernel
theorem zd_66_50 : decode (zm_cc 66) 50 = .ok (.ireturn, 1) := by decide +kernel
theorem zd_67_0 : decode (zm_cc 67) 0 = .ok (.aload_n 0, 1) := by decide +kernel
theorem zd_67_1 : decode (zm_cc 67) 1 = .ok (.getfield 35, 3) := by decide +kernel
theorem zd_67_4 : decode (zm_cc 67) 4 = .ok (.getfield 74, 3) := by decide +kernel
theorem zd_67_7 : decode (zm_cc 67) 7 = .ok (.iconst 3, 1) := by decide +kernel
theorem zd_67_8 : decode (zm_cc 67) 8 = .ok (.if_icmp .ne 43, 3) := by decide +kernel
theorem zd_67_11 : decode (zm_cc 67) 11 = .ok (.aload_n 0, 1) := by decide +kernel
theorem zd_67_12 : decode (zm_cc 67) 12 = .ok (.getfield 12, 3) := by decide +kernel
theorem zd_67_15 : decode (zm_cc 67) 15 = .ok (.aload_n 0, 1) := by decide +kernel
theorem zd_67_16 : decode (zm_cc 67) 16 = .ok (.getfield 35, 3) := by decide +kernel
theorem zd_67_19 : decode (zm_cc 67) 19 = .ok (.getfield 113, 3) := by decide +kernel
theorem zd_67_22 : decode (zm_cc 67) 22 = .ok (.invokevirtual 134, 3) := by decide +kernel
theorem zd_67_25 : decode (zm_cc 67) 25 = .ok (.iconst (-1), 1) := by decide +kernel
theorem zd_67_26 : decode (zm_cc 67) 26 = .ok (.if_icmp .ne 25, 3) := by decide +kernel
theorem zd_67_29 : decode (zm_cc 67) 29 = .ok (.aload_n 0, 1) := by decide +kernel
theorem zd_67_30 : decode (zm_cc 67) 30 = .ok (.getfield 12, 3) := by decide +kernel
theorem zd_67_33 : decode (zm_cc 67) 33 = .ok (.aload_n 0, 1) := by decide +kernel
theorem zd_67_34 : decode (zm_cc 67) 34 = .ok (.getfield 35, 3) := by decide +kernel
theorem zd_67_37 : decode (zm_cc 67) 37 = .ok (.getfield 113, 3) := by decide +kernel
theorem zd_67_40 : decode (zm_cc 67) 40 = .ok (.invokevirtual 208, 3) := by decide +kernel
theorem zd_67_43 : decode (zm_cc 67) 43 = .ok (.iconst (-1), 1) := by decide +kernel
theorem zd_67_44 : decode (zm_cc 67) 44 = .ok (.if_icmp .ne 7, 3) := by decide +kernel
theorem zd_67_47 : decode (zm_cc 67) 47 = .ok (.iconst 1, 1) := by decide +kernel
theorem zd_67_48 : decode (zm_cc 67) 48 = .ok (.goto 4, 3) := by decide +kernel
theorem zd_67_51 : decode (zm_cc 67) 51 = .ok (.iconst 0, 1) := by decide +kernel
theorem zd_67_52 : decode (zm_cc 67) 52 = .ok (.istore_n 1, 1) := by decide +kernel
theorem zd_67_53 : decode (zm_cc 67) 53 = .ok (.aload_n 0, 1) := by decide +kernel
theorem zd_67_54 : decode (zm_cc 67) 54 = .ok (.iload_n 1, 1) := by decide +kernel
theorem zd_67_55 : decode (zm_cc 67) 55 = .ok (.ifCond .eq 7, 3) := by decide +kernel
theorem zd_67_58 : decode (zm_cc 67) 58 = .ok (.iconst 3, 1) := by decide +kernel
theorem zd_67_59 : decode (zm_cc 67) 59 = .ok (.goto 4, 3) := by decide +kernel
theorem zd_67_62 : decode (zm_cc 67) 62 = .ok (.iconst 2, 1) := by decide +kernel
theorem zd_67_63 : decode (zm_cc 67) 63 = .ok (.invokevirtual 86, 3) := by decide +kernel
theorem zd_67_66 : decode (zm_cc 67) 66 = .ok (.pop, 1) := by decide +kernel
theorem zd_67_67 : decode (zm_cc 67) 67 = .ok (.return_, 1) := by decide +kernel
theorem zd_68_0 : decode (zm_cc 68) 0 = .ok (.aload_n 0, 1) := by decide +kernel
theorem zd_68_1 : decode (zm_cc 68) 1 = .ok (.invokevirtual 180, 3) := by decide +kernel
theorem zd_68_4 : decode (zm_cc 68) 4 = .ok (.ifCond .eq 30, 3) := by decide +kernel
theorem zd_68_7 : decode (zm_cc 68) 7 = .ok (.aload_n 0, 1) := by decide +kernel
theorem zd_68_8 : decode (zm_cc 68) 8 = .ok (.getfield 35, 3) := by decide +kernel
theorem zd_68_11 : decode (zm_cc 68) 11 = .ok (.invokevirtual 90, 3) := by decide +kernel
theorem zd_68_14 : decode (zm_cc 68) 14 = .ok (.aload_n 0, 1) := by decide +kernel
theorem zd_68_15 : decode (zm_cc 68) 15 = .ok (.iload_n 1, 1) := by decide +kernel
theorem zd_68_16 : decode (zm_cc 68) 16 = .ok (.invokevirtual 211, 3) := by decide +kernel
theorem zd_68_19 : decode (zm_cc 68) 19 = .ok (.ifCond .eq 15, 3) := by decide +kernel
theorem zd_68_22 : decode (zm_cc 68) 22 = .ok (.aload_n 0, 1) := by decide +kernel
theorem zd_68_23 : decode (zm_cc 68) 23 = .ok (.iload_n 2, 1) := by decide +kernel
theorem zd_68_24 : decode (zm_cc 68) 24 = .ok (.aload_n 0, 1) := by decide +kernel
theorem zd_68_25 : decode (zm_cc 68) 25 = .ok (.getfield 44, 3) := by decide +kernel
theorem zd_68_28 : decode (zm_cc 68) 28 = .ok (.getfield 214, 3) := by decide +kernel
theorem zd_68_31 : decode (zm_cc 68) 31 = .ok (.invokevirtual 130, 3) := by decide +kernel
theorem zd_68_34 : decode (zm_cc 68) 34 = .ok (.return_, 1) := by decide +kernel
theorem zd_69_0 : decode (zm_cc 69) 0 = .ok (.aload_n 0, 1) := by decide +kernel
theorem zd_69_1 : decode (zm_cc 69) 1 = .ok (.invokevirtual 217, 3) := by decide +kernel
theorem zd_69_4 : decode (zm_cc 69) 4 = .ok (.istore_n 2, 1) := by decide +kernel
theorem zd_69_5 : decode (zm_cc 69) 5 = .ok (.iload_n 2, 1) := by decide +kernel
theorem zd_69_6 : decode (zm_cc 69) 6 = .ok (.iconst (-1), 1) := by decide +kernel
theorem zd_69_7 : decode (zm_cc 69) 7 = .ok (.if_icmp .ne 5, 3) := by decide +kernel
theorem zd_69_10 : decode (zm_cc 69) 10 = .ok (.iconst 0, 1) := by decide +kernel
theorem zd_69_11 : decode (zm_cc 69) 11 = .ok (.ireturn, 1) := by decide +kernel
theorem zd_69_12 : decode (zm_cc 69) 12 = .ok (.aload_n 0, 1) := by decide +kernel
theorem zd_69_13 : decode (zm_cc 69) 13 = .ok (.getfield 35, 3) := by decide +kernel
theorem zd_69_16 : decode (zm_cc 69) 16 = .ok (.getfield 74, 3) := by decide +kernel
theorem zd_69_19 : decode (zm_cc 69) 19 = .ok (.istore_n 3, 1) := by decide +kernel
theorem zd_69_20 : decode (zm_cc 69) 20 = .ok (.iload_n 3, 1) := by decide +kernel
theorem zd_69_21 : decode (zm_cc 69) 21 = .ok (.sipush 256, 3) := by decide +kernel
theorem zd_69_24 : decode (zm_cc 69) 24 = .ok (.if_icmp .eq 28, 3) := by decide +kernel
theorem zd_69_27 : decode (zm_cc 69) 27 = .ok (.iload_n 3, 1) := by decide +kernel
theorem zd_69_28 : decode (zm_cc 69) 28 = .ok (.sipush 257, 3) := by decide +kernel
theorem zd_69_31 : decode (zm_cc 69) 31 = .ok (.if_icmp .eq 21, 3) := by decide +kernel
theorem zd_69_34 : decode (zm_cc 69) 34 = .ok (.iload_n 3, 1) := by decide +kernel
theorem zd_69_35 : decode (zm_cc 69) 35 = .ok (.bipush 60, 2) := by decide +kernel
theorem zd_69_37 : decode (zm_cc 69) 37 = .ok (.if_icmp .eq 15, 3) := by decide +kernel
theorem zd_69_40 : decode (zm_cc 69) 40 = .ok (.iload_n 3, 1) := by decide +kernel
theorem zd_69_41 : decode (zm_cc 69) 41 = .ok (.bipush 62, 2) := by decide +kernel
theorem zd_69_43 : decode (zm_cc 69) 43 = .ok (.if_icmp .eq 9, 3) := by decide +kernel
theorem zd_69_46 : decode (zm_cc 69) 46 = .ok (.aload_n 0, 1) := by decide +kernel
theorem zd_69_47 : decode (zm_cc 69) 47 = .ok (.iconst 2, 1) := by decide +kernel
theorem zd_69_48 : decode (zm_cc 69) 48 = .ok (.invokevirtual 86, 3) := by decide +kernel
theorem zd_69_51 : decode (zm_cc 69) 51 = .ok (.ireturn, 1) := by decide +kernel
theorem zd_69_52 : decode (zm_cc 69) 52 = .ok (.aload_n 0, 1) := by decide +kernel
theorem zd_69_53 : decode (zm_cc 69) 53 = .ok (.getfield 35, 3) := by decide +kernel
theorem zd_69_56 : decode (zm_cc 69) 56 = .ok (.invokevirtual 90, 3) := by decide +kernel
theorem zd_69_59 : decode (zm_cc 69) 59 = .ok (.aload_n 0, 1) := by decide +kernel
theorem zd_69_60 : decode (zm_cc 69) 60 = .ok (.invokevirtual 217, 3) := by decide +kernel
theorem zd_69_63 : decode (zm_cc 69) 63 = .ok (.istore 4, 2) := by decide +kernel
theorem zd_69_65 : decode (zm_cc 69) 65 = .ok (.iload 4, 2) := by decide +kernel
theorem zd_69_67 : decode (zm_cc 69) 67 = .ok (.iconst (-1), 1) := by decide +kernel
theorem zd_69_68 : decode (zm_cc 69) 68 = .ok (.if_icmp .ne 5, 3) := by decide +kernel
theorem zd_69_71 : decode (zm_cc 69) 71 = .ok (.iconst 0, 1) := by decide +kernel
theorem zd_69_72 : decode (zm_cc 69) 72 = .ok (.ireturn, 1) := by decide +kernel
theorem zd_69_73 : decode (zm_cc 69) 73 = .ok (.aload_n 0, 1) := by decide +kernel
theorem zd_69_74 : decode (zm_cc 69) 74 = .ok (.getfield 44, 3) := by decide +kernel
theorem zd_69_77 : decode (zm_cc 69) 77 = .ok (.iload_n 1, 1) := by decide +kernel
theorem zd_69_78 : decode (zm_cc 69) 78 = .ok (.iconst (-1), 1) := by decide +kernel
theorem zd_69_79 : decode (zm_cc 69) 79 = .ok (.invokevirtual 198, 3) := by decide +kernel
theorem zd_69_82 : decode (zm_cc 69) 82 = .ok (.aload_n 0, 1) := by decide +kernel
theorem zd_69_83 : decode (zm_cc 69) 83 = .ok (.getfield 44, 3) := by decide +kernel
theorem zd_69_86 : decode (zm_cc 69) 86 = .ok (.iconst (-1), 1) := by decide +kernel
theorem zd_69_87 : decode (zm_cc 69) 87 = .ok (.iload_n 2, 1) := by decide +kernel
theorem zd_69_88 : decode (zm_cc 69) 88 = .ok (.iload_n 3, 1) := by decide +kernel
theorem zd_69_89 : decode (zm_cc 69) 89 = .ok (.iload 4, 2) := by decide +kernel
theorem zd_69_91 : decode (zm_cc 69) 91 = .ok (.invokevirtual 220, 3) := by decide +kernel
theorem zd_69_94 : decode (zm_cc 69) 94 = .ok (.iconst 1, 1) := by decide +kernel
theorem zd_69_95 : decode (zm_cc 69) 95 = .ok (.ireturn, 1) := by decide +kernel
theorem zd_70_0 : decode (zm_cc 70) 0 = .ok (.aload_n 0, 1) := by decide +kernel
theorem zd_70_1 : decode (zm_cc 70) 1 = .ok (.getfield 35, 3) := by decide +kernel
theorem zd_70_4 : decode (zm_cc 70) 4 = .ok (.getfield 74, 3) := by decide +kernel
theorem zd_70_7 : decode (zm_cc 70) 7 = .ok (.iconst 3, 1) := by decide +kernel
theorem zd_70_8 : decode (zm_cc 70) 8 = .ok (.if_icmp .ne 20, 3) := by decide +kernel
theorem zd_70_11 : decode (zm_cc 70) 11 = .ok (.aload_n 0, 1) := by decide +kernel
theorem zd_70_12 : decode (zm_cc 70) 12 = .ok (.getfield 12, 3) := by decide +kernel
theorem zd_70_15 : decode (zm_cc 70) 15 = .ok (.aload_n 0, 1) := by decide +kernel
theorem zd_70_16 : decode (zm_cc 70) 16 = .ok (.getfield 35, 3) := by decide +kernel
theorem zd_70_19 : decode (zm_cc 70) 19 = .ok (.getfield 113, 3) := by decide +kernel
theorem zd_70_22 : decode (zm_cc 70) 22 = .ok (.invokevirtual 208, 3) := by decide +kernel
theorem zd_70_25 : decode (zm_cc 70) 25 = .ok (.goto 4, 3) := by decide +kernel
theorem zd_70_28 : decode (zm_cc 70) 28 = .ok (.iconst (-1), 1) := by decide +kernel
theorem zd_70_29 : decode (zm_cc 70) 29 = .ok (.istore_n 1, 1) := by decide +kernel
theorem zd_70_30 : decode (zm_cc 70) 30 = .ok (.iload_n 1, 1) := by decide +kernel
theorem zd_70_31 : decode (zm_cc 70) 31 = .ok (.iconst (-1), 1) := by decide +kernel
theorem zd_70_32 : decode (zm_cc 70) 32 = .ok (.if_icmp .ne 20, 3) := by decide +kernel
theorem zd_70_35 : decode (zm_cc 70) 35 = .ok (.aload_n 0, 1) := by decide +kernel
theorem zd_70_36 : decode (zm_cc 70) 36 = .ok (.getfield 35, 3) := by decide +kernel
theorem zd_70_39 : decode (zm_cc 70) 39 = .ok (.getfield 74, 3) := by decide +kernel
theorem zd_70_42 : decode (zm_cc 70) 42 = .ok (.iconst 2, 1) := by decide +kernel
theorem zd_70_43 : decode (zm_cc 70) 43 = .ok (.if_icmp .eq 9, 3) := by decide +kernel
theorem zd_70_46 : decode (zm_cc 70) 46 = .ok (.aload_n 0, 1) := by decide +kernel
theorem zd_70_47 : decode (zm_cc 70) 47 = .ok (.invokevirtual 205, 3) := by decide +kernel
theorem zd_70_50 : decode (zm_cc 70) 50 = .ok (.iconst (-1), 1) := by decide +kernel
theorem zd_70_51 : decode (zm_cc 70) 51 = .ok (.ireturn, 1) := by decide +kernel
theorem zd_70_52 : decode (zm_cc 70) 52 = .ok (.iload_n 1, 1) := by decide +kernel
theorem zd_70_53 : decode (zm_cc 70) 53 = .ok (.iconst (-1), 1) := by decide +kernel
theorem zd_70_54 : decode (zm_cc 70) 54 = .ok (.if_icmp .ne 14, 3) := by decide +kernel
theorem zd_70_57 : decode (zm_cc 70) 57 = .ok (.aload_n 0, 1) := by decide +kernel
theorem zd_70_58 : decode (zm_cc 70) 58 = .ok (.getfield 35, 3) := by decide +kernel
theorem zd_70_61 : decode (zm_cc 70) 61 = .ok (.getfield 113, 3) := by decide +kernel
theorem zd_70_64 : decode (zm_cc 70) 64 = .ok (.l2i, 1) := by decide +kernel
theorem zd_70_65 : decode (zm_cc 70) 65 = .ok (.goto 7, 3) := by decide +kernel
theorem zd_70_68 : decode (zm_cc 70) 68 = .ok (.bipush 8, 2) := by decide +kernel
theorem zd_70_70 : decode (zm_cc 70) 70 = .ok (.iload_n 1, 1) := by decide +kernel
theorem zd_70_71 : decode (zm_cc 70) 71 = .ok (.iadd, 1) := by decide +kernel
theorem zd_70_72 : decode (zm_cc 70) 72 = .ok (.istore_n 2, 1) := by decide +kernel
theorem zd_70_73 : decode (zm_cc 70) 73 = .ok (.aload_n 0, 1) := by decide +kernel
theorem zd_70_74 : decode (zm_cc 70) 74 = .ok (.getfield 35, 3) := by decide +kernel
theorem zd_70_77 : decode (zm_cc 70) 77 = .ok (.invokevirtual 90, 3) := by decide +kernel
theorem zd_70_80 : decode (zm_cc 70) 80 = .ok (.iload_n 2, 1) := by decide +kernel
theorem zd_70_81 : decode (zm_cc 70) 81 = .ok (.ireturn, 1) := by decide +kernel
theorem zd_71_0 : decode (zm_cc 71) 0 = .ok (.aload_n 0, 1) := by decide +kernel
theorem zd_71_1 : decode (zm_cc 71) 1 = .ok (.invokevirtual 180, 3) := by decide +kernel
theorem zd_71_4 : decode (zm_cc 71) 4 = .ok (.ifCond .ne 4, 3) := by decide +kernel
theorem zd_71_7 : decode (zm_cc 71) 7 = .ok (.return_, 1) := by decide +kernel
theorem zd_71_8 : decode (zm_cc 71) 8 = .ok (.aload_n 0, 1) := by decide +kernel
theorem zd_71_9 : decode (zm_cc 71) 9 = .ok (.getfield 35, 3) := by decide +kernel
theorem zd_71_12 : decode (zm_cc 71) 12 = .ok (.invokevirtual 90, 3) := by decide +kernel
theorem zd_71_15 : decode (zm_cc 71) 15 = .ok (.iload_n 1, 1) := by decide +kernel
theorem zd_71_16 : decode (zm_cc 71) 16 = .ok (.bipush 8, 2) := by decide +kernel
theorem zd_71_18 : decode (zm_cc 71) 18 = .ok (.if_icmp .ne 20, 3) := by decide +kernel
theorem zd_71_21 : decode (zm_cc 71) 21 = .ok (.aload_n 0, 1) := by decide +kernel
theorem zd_71_22 : decode (zm_cc 71) 22 = .ok (.getfield 35, 3) := by decide +kernel
theorem zd_71_25 : decode (zm_cc 71) 25 = .ok (.getfield 74, 3) := by decide +kernel
theorem zd_71_28 : decode (zm_cc 71) 28 = .ok (.sipush 309, 3) := by decide +kernel
theorem zd_71_31 : decode (zm_cc 71) 31 = .ok (.if_icmp .ne 7, 3) := by decide +kernel
theorem zd_71_34 : decode (zm_cc 71) 34 = .ok (.iconst 1, 1) := by decide +kernel
theorem zd_71_35 : decode (zm_cc 71) 35 = .ok (.goto 4, 3) := by decide +kernel
theorem zd_71_38 : decode (zm_cc 71) 38 = .ok (.iconst 0, 1) := by decide +kernel
theorem zd_71_39 : decode (zm_cc 71) 39 = .ok (.istore_n 2, 1) := by decide +kernel
theorem zd_71_40 : decode (zm_cc 71) 40 = .ok (.iload_n 2, 1) := by decide +kernel
theorem zd_71_41 : decode (zm_cc 71) 41 = .ok (.ifCond .eq 10, 3) := by decide +kernel
theorem zd_71_44 : decode (zm_cc 71) 44 = .ok (.aload_n 0, 1) := by decide +kernel
theorem zd_71_45 : decode (zm_cc 71) 45 = .ok (.getfield 35, 3) := by decide +kernel
theorem zd_71_48 : decode (zm_cc 71) 48 = .ok (.invokevirtual 90, 3) := by decide +kernel
theorem zd_71_51 : decode (zm_cc 71) 51 = .ok (.aload_n 0, 1) := by decide +kernel
theorem zd_71_52 : decode (zm_cc 71) 52 = .ok (.invokevirtual 195, 3) := by decide +kernel
theorem zd_71_55 : decode (zm_cc 71) 55 = .ok (.istore_n 3, 1) := by decide +kernel
theorem zd_71_56 : decode (zm_cc 71) 56 = .ok (.iload_n 3, 1) := by decide +kernel
theorem zd_71_57 : decode (zm_cc 71) 57 = .ok (.iconst (-1), 1) := by decide +kernel
theorem zd_71_58 : decode (zm_cc 71) 58 = .ok (.if_icmp .eq 28, 3) := by decide +kernel
theorem zd_71_61 : decode (zm_cc 71) 61 = .ok (.aload_n 0, 1) := by decide +kernel
theorem zd_71_62 : decode (zm_cc 71) 62 = .ok (.getfield 44, 3) := by decide +kernel
theorem zd_71_65 : decode (zm_cc 71) 65 = .ok (.iload_n 2, 1) := by decide +kernel
theorem zd_71_66 : decode (zm_cc 71) 66 = .ok (.ifCond .eq 8, 3) := by decide +kernel
theorem zd_71_69 : decode (zm_cc 71) 69 = .ok (.bipush 9, 2) := by decide +kernel
theorem zd_71_71 : decode (zm_cc 71) 71 = .ok (.goto 4, 3) := by decide +kernel
theorem zd_71_74 : decode (zm_cc 71) 74 = .ok (.iload_n 1, 1) := by decide +kernel
theorem zd_71_75 : decode (zm_cc 71) 75 = .ok (.iload_n 3, 1) := by decide +kernel
theorem zd_71_76 : decode (zm_cc 71) 76 = .ok (.invokevirtual 198, 3) := by decide +kernel
theorem zd_71_79 : decode (zm_cc 71) 79 = .ok (.aload_n 0, 1) := by decide +kernel
theorem zd_71_80 : decode (zm_cc 71) 80 = .ok (.bipush 59, 2) := by decide +kernel
theorem zd_71_82 : decode (zm_cc 71) 82 = .ok (.invokevirtual 117, 3) := by decide +kernel
theorem zd_71_85 : decode (zm_cc 71) 85 = .ok (.pop, 1) := by decide +kernel
theorem zd_71_86 : decode (zm_cc 71) 86 = .ok (.return_, 1) := by decide +kernel
theorem zd_72_0 : decode (zm_cc 72) 0 = .ok (.aload_n 0, 1) := by decide +kernel
theorem zd_72_1 : decode (zm_cc 72) 1 = .ok (.invokevirtual 180, 3) := by decide +kernel
theorem zd_72_4 : decode (zm_cc 72) 4 = .ok (.ifCond .ne 4, 3) := by decide +kernel
theorem zd_72_7 : decode (zm_cc 72) 7 = .ok (.return_, 1) := by decide +kernel
theorem zd_72_8 : decode (zm_cc 72) 8 = .ok (.aload_n 0, 1) := by decide +kernel
theorem zd_72_9 : decode (zm_cc 72) 9 = .ok (.getfield 35, 3) := by decide +kernel
theorem zd_72_12 : decode (zm_cc 72) 12 = .ok (.invokevirtual 90, 3) := by decide +kernel
theorem zd_72_15 : decode (zm_cc 72) 15 = .ok (.aload_n 0, 1) := by decide +kernel
theorem zd_72_16 : decode (zm_cc 72) 16 = .ok (.getfield 35, 3) := by decide +kernel
theorem zd_72_19 : decode (zm_cc 72) 19 = .ok (.getfield 74, 3) := by decide +kernel
theorem zd_72_22 : decode (zm_cc 72) 22 = .ok (.iconst 3, 1) := by decide +kernel
theorem zd_72_23 : decode (zm_cc 72) 23 = .ok (.if_icmp .ne 20, 3) := by decide +kernel
theorem zd_72_26 : decode (zm_cc 72) 26 = .ok (.aload_n 0, 1) := by decide +kernel
theorem zd_72_27 : decode (zm_cc 72) 27 = .ok (.getfield 12, 3) := by decide +kernel
theorem zd_72_30 : decode (zm_cc 72) 30 = .ok (.aload_n 0, 1) := by decide +kernel
theorem zd_72_31 : decode (zm_cc 72) 31 = .ok (.getfield 35, 3) := by decide +kernel
theorem zd_72_34 : decode (zm_cc 72) 34 = .ok (.getfield 113, 3) := by decide +kernel
theorem zd_72_37 : decode (zm_cc 72) 37 = .ok (.invokevirtual 134, 3) := by decide +kernel
theorem zd_72_40 : decode (zm_cc 72) 40 = .ok (.goto 4, 3) := by decide +kernel
theorem zd_72_43 : decode (zm_cc 72) 43 = .ok (.iconst 0, 1) := by decide +kernel
theorem zd_72_44 : decode (zm_cc 72) 44 = .ok (.istore_n 2, 1) := by decide +kernel
theorem zd_72_45 : decode (zm_cc 72) 45 = .ok (.iload_n 2, 1) := by decide +kernel
theorem zd_72_46 : decode (zm_cc 72) 46 = .ok (.ifCond .eq 8, 3) := by decide +kernel
theorem zd_72_49 : decode (zm_cc 72) 49 = .ok (.iload_n 2, 1) := by decide +kernel
theorem zd_72_50 : decode (zm_cc 72) 50 = .ok (.iconst 1, 1) := by decide +kernel
theorem zd_72_51 : decode (zm_cc 72) 51 = .ok (.if_icmp .ne 10, 3) := by decide +kernel
theorem zd_72_54 : decode (zm_cc 72) 54 = .ok (.aload_n 0, 1) := by decide +kernel
theorem zd_72_55 : decode (zm_cc 72) 55 = .ok (.iconst 2, 1) := by decide +kernel
theorem zd_72_56 : decode (zm_cc 72) 56 = .ok (.invokevirtual 86, 3) := by decide +kernel
theorem zd_72_59 : decode (zm_cc 72) 59 = .ok (.pop, 1) := by decide +kernel
theorem zd_72_60 : decode (zm_cc 72) 60 = .ok (.return_, 1) := by decide +kernel
theorem zd_72_61 : decode (zm_cc 72) 61 = .ok (.aload_n 0, 1) := by decide +kernel
theorem zd_72_62 : decode (zm_cc 72) 62 = .ok (.getfield 44, 3) := by decide +kernel
theorem zd_72_65 : decode (zm_cc 72) 65 = .ok (.iload_n 1, 1) := by decide +kernel
theorem zd_72_66 : decode (zm_cc 72) 66 = .ok (.iconst (-1), 1) := by decide +kernel
theorem zd_72_67 : decode (zm_cc 72) 67 = .ok (.invokevirtual 198, 3) := by decide +kernel
theorem zd_72_70 : decode (zm_cc 72) 70 = .ok (.aload_n 0, 1) := by decide +kernel
theorem zd_72_71 : decode (zm_cc 72) 71 = .ok (.getfield 26, 3) := by decide +kernel
theorem zd_72_74 : decode (zm_cc 72) 74 = .ok (.aload_n 0, 1) := by decide +kernel
theorem zd_72_75 : decode (zm_cc 72) 75 = .ok (.getfield 26, 3) := by decide +kernel
theorem zd_72_78 : decode (zm_cc 72) 78 = .ok (.getfield 93, 3) := by decide +kernel
theorem zd_72_81 : decode (zm_cc 72) 81 = .ok (.iconst 1, 1) := by decide +kernel
theorem zd_72_82 : decode (zm_cc 72) 82 = .ok (.isub, 1) := by decide +kernel
theorem zd_72_83 : decode (zm_cc 72) 83 = .ok (.aload_n 0, 1) := by decide +kernel
theorem zd_72_84 : decode (zm_cc 72) 84 = .ok (.getfield 44, 3) := by decide +kernel
theorem zd_72_87 : decode (zm_cc 72) 87 = .ok (.getfield 214, 3) := by decide +kernel
theorem zd_72_90 : decode (zm_cc 72) 90 = .ok (.invokevirtual 239, 3) := by decide +kernel
theorem zd_72_93 : decode (zm_cc 72) 93 = .ok (.istore_n 3, 1) := by decide +kernel
theorem zd_72_94 : decode (zm_cc 72) 94 = .ok (.iload_n 3, 1) := by decide +kernel
theorem zd_72_95 : decode (zm_cc 72) 95 = .ok (.bipush 96, 2) := by decide +kernel
theorem zd_72_97 : decode (zm_cc 72) 97 = .ok (.if_icmp .ge 29, 3) := by decide +kernel
theorem zd_72_100 : decode (zm_cc 72) 100 = .ok (.aload_n 0, 1) := by decide +kernel
theorem zd_72_101 : decode (zm_cc 72) 101 = .ok (.getfield 18, 3) := by decide +kernel
theorem zd_72_104 : decode (zm_cc 72) 104 = .ok (.iload_n 3, 1) := by decide +kernel
theorem zd_72_105 : decode (zm_cc 72) 105 = .ok (.aload_n 0, 1) := by decide +kernel
theorem zd_72_106 : decode (zm_cc 72) 106 = .ok (.getfield 35, 3) := by decide +kernel
theorem zd_72_109 : decode (zm_cc 72) 109 = .ok (.getfield 113, 3) := by decide +kernel
theorem zd_72_112 : decode (zm_cc 72) 112 = .ok (.lastore, 1) := by decide +kernel
theorem zd_72_113 : decode (zm_cc 72) 113 = .ok (.aload_n 0, 1) := by decide +kernel
theorem zd_72_114 : decode (zm_cc 72) 114 = .ok (.getfield 22, 3) := by decide +kernel
theorem zd_72_117 : decode (zm_cc 72) 117 = .ok (.iload_n 3, 1) := by decide +kernel
theorem zd_72_118 : decode (zm_cc 72) 118 = .ok (.aload_n 0, 1) := by decide +kernel
theorem zd_72_119 : decode (zm_cc 72) 119 = .ok (.getfield 35, 3) := by decide +kernel
theorem zd_72_122 : decode (zm_cc 72) 122 = .ok (.getfield 83, 3) := by decide +kernel
theorem zd_72_125 : decode (zm_cc 72) 125 = .ok (.iastore, 1) := by decide +kernel
theorem zd_72_126 : decode (zm_cc 72) 126 = .ok (.aload_n 0, 1) := by decide +kernel
theorem zd_72_127 : decode (zm_cc 72) 127 = .ok (.getfield 35, 3) := by decide +kernel
theorem zd_72_130 : decode (zm_cc 72) 130 = .ok (.invokevirtual 90, 3) := by decide +kernel
theorem zd_72_133 : decode (zm_cc 72) 133 = .ok (.aload_n 0, 1) := by decide +kernel
theorem zd_72_134 : decode (zm_cc 72) 134 = .ok (.bipush 59, 2) := by decide +kernel
theorem zd_72_136 : decode (zm_cc 72) 136 = .ok (.invokevirtual 117, 3) := by decide +kernel
theorem zd_72_139 : decode (zm_cc 72) 139 = .ok (.pop, 1) := by decide +kernel
theorem zd_72_140 : decode (zm_cc 72) 140 = .ok (.return_, 1) := by decide +kernel
theorem zd_73_0 : decode (zm_cc 73) 0 = .ok (.aload_n 0, 1) := by decide +kernel
theorem zd_73_1 : decode (zm_cc 73) 1 = .ok (.invokevirtual 180, 3) := by decide +kernel
theorem zd_73_4 : decode (zm_cc 73) 4 = .ok (.ifCond .eq 26, 3) := by decide +kernel
theorem zd_73_7 : decode (zm_cc 73) 7 = .ok (.aload_n 0, 1) := by decide +kernel
theorem zd_73_8 : decode (zm_cc 73) 8 = .ok (.getfield 35, 3) := by decide +kernel
theorem zd_73_11 : decode (zm_cc 73) 11 = .ok (.invokevirtual 90, 3) := by decide +kernel
theorem zd_73_14 : decode (zm_cc 73) 14 = .ok (.aload_n 0, 1) := by decide +kernel
theorem zd_73_15 : decode (zm_cc 73) 15 = .ok (.bipush 12, 2) := by decide +kernel
theorem zd_73_17 : decode (zm_cc 73) 17 = .ok (.invokevirtual 211, 3) := by decide +kernel
theorem zd_73_20 : decode (zm_cc 73) 20 = .ok (.ifCond .eq 10, 3) := by decide +kernel
theorem zd_73_23 : decode (zm_cc 73) 23 = .ok (.aload_n 0, 1) := by decide +kernel
theorem zd_73_24 : decode (zm_cc 73) 24 = .ok (.bipush 59, 2) := by decide +kernel
theorem zd_73_26 : decode (zm_cc 73) 26 = .ok (.invokevirtual 117, 3) := by decide +kernel
theorem zd_73_29 : decode (zm_cc 73) 29 = .ok (.pop, 1) := by decide +kernel
theorem zd_73_30 : decode (zm_cc 73) 30 = .ok (.return_, 1) := by decide +kernel
theorem zd_74_0 : decode (zm_cc 74) 0 = .ok (.aload_n 0, 1) := by decide +kernel
theorem zd_74_1 : decode (zm_cc 74) 1 = .ok (.invokevirtual 180, 3) := by decide +kernel
theorem zd_74_4 : decode (zm_cc 74) 4 = .ok (.ifCond .eq 27, 3) := by decide +kernel
theorem zd_74_7 : decode (zm_cc 74) 7 = .ok (.aload_n 0, 1) := by decide +kernel
theorem zd_74_8 : decode (zm_cc 74) 8 = .ok (.getfield 35, 3) := by decide +kernel
theorem zd_74_11 : decode (zm_cc 74) 11 = .ok (.invokevirtual 90, 3) := by decide +kernel
theorem zd_74_14 : decode (zm_cc 74) 14 = .ok (.aload_n 0, 1) := by decide +kernel
theorem zd_74_15 : decode (zm_cc 74) 15 = .ok (.getfield 44, 3) := by decide +kernel
theorem zd_74_18 : decode (zm_cc 74) 18 = .ok (.bipush 13, 2) := by decide +kernel
theorem zd_74_20 : decode (zm_cc 74) 20 = .ok (.iconst (-1), 1) := by decide +kernel
theorem zd_74_21 : decode (zm_cc 74) 21 = .ok (.invokevirtual 198, 3) := by decide +kernel
theorem zd_74_24 : decode (zm_cc 74) 24 = .ok (.aload_n 0, 1) := by decide +kernel
theorem zd_74_25 : decode (zm_cc 74) 25 = .ok (.bipush 59, 2) := by decide +kernel
theorem zd_74_27 : decode (zm_cc 74) 27 = .ok (.invokevirtual 117, 3) := by decide +kernel
theorem zd_74_30 : decode (zm_cc 74) 30 = .ok (.pop, 1) := by decide +kernel
theorem zd_74_31 : decode (zm_cc 74) 31 = .ok (.return_, 1) := by decide +kernel
theorem zd_75_0 : decode (zm_cc 75) 0 = .ok (.aload_n 0, 1) := by decide +kernel
theorem zd_75_1 : decode (zm_cc 75) 1 = .ok (.getfield 35, 3) := by decide +kernel
theorem zd_75_4 : decode (zm_cc 75) 4 = .ok (.getfield 74, 3) := by decide +kernel
theorem zd_75_7 : decode (zm_cc 75) 7 = .ok (.istore_n 1, 1) := by decide +kernel
theorem zd_75_8 : decode (zm_cc 75) 8 = .ok (.aload_n 0, 1) := by decide +kernel
theorem zd_75_9 : decode (zm_cc 75) 9 = .ok (.getfield 26, 3) := by decide +kernel
theorem zd_75_12 : decode (zm_cc 75) 12 = .ok (.getfield 93, 3) := by decide +kernel
theorem zd_75_15 : decode (zm_cc 75) 15 = .ok (.ifCond .ne 7, 3) := by decide +kernel
theorem zd_75_18 : decode (zm_cc 75) 18 = .ok (.iconst 1, 1) := by decide +kernel
theorem zd_75_19 : decode (zm_cc 75) 19 = .ok (.goto 4, 3) := by decide +kernel
theorem zd_75_22 : decode (zm_cc 75) 22 = .ok (.iconst 0, 1) := by decide +kernel
theorem zd_75_23 : decode (zm_cc 75) 23 = .ok (.istore_n 2, 1) := by decide +kernel
theorem zd_75_24 : decode (zm_cc 75) 24 = .ok (.iload_n 2, 1) := by decide +kernel
theorem zd_75_25 : decode (zm_cc 75) 25 = .ok (.ifCond .eq 36, 3) := by decide +kernel
theorem zd_75_28 : decode (zm_cc 75) 28 = .ok (.iload_n 1, 1) := by decide +kernel
theorem zd_75_29 : decode (zm_cc 75) 29 = .ok (.sipush 300, 3) := by decide +kernel
theorem zd_75_32 : decode (zm_cc 75) 32 = .ok (.if_icmp .eq 10, 3) := by decide +kernel
theorem zd_75_35 : decode (zm_cc 75) 35 = .ok (.iload_n 1, 1) := by decide +kernel
theorem zd_75_36 : decode (zm_cc 75) 36 = .ok (.sipush 301, 3) := by decide +kernel
theorem zd_75_39 : decode (zm_cc 75) 39 = .ok (.if_icmp .ne 22, 3) := by decide +kernel
theorem zd_75_42 : decode (zm_cc 75) 42 = .ok (.aload_n 0, 1) := by decide +kernel
theorem zd_75_43 : decode (zm_cc 75) 43 = .ok (.iload_n 1, 1) := by decide +kernel
theorem zd_75_44 : decode (zm_cc 75) 44 = .ok (.sipush 301, 3) := by decide +kernel
theorem zd_75_47 : decode (zm_cc 75) 47 = .ok (.if_icmp .ne 7, 3) := by decide +kernel
theorem zd_75_50 : decode (zm_cc 75) 50 = .ok (.iconst 1, 1) := by decide +kernel
theorem zd_75_51 : decode (zm_cc 75) 51 = .ok (.goto 4, 3) := by decide +kernel
theorem zd_75_54 : decode (zm_cc 75) 54 = .ok (.iconst 0, 1) := by decide +kernel
theorem zd_75_55 : decode (zm_cc 75) 55 = .ok (.invokevirtual 96, 3) := by decide +kernel
theorem zd_75_58 : decode (zm_cc 75) 58 = .ok (.goto 41, 3) := by decide +kernel
theorem zd_75_61 : decode (zm_cc 75) 61 = .ok (.iload_n 2, 1) := by decide +kernel
theorem zd_75_62 : decode (zm_cc 75) 62 = .ok (.ifCond .eq 17, 3) := by decide +kernel
theorem zd_75_65 : decode (zm_cc 75) 65 = .ok (.iload_n 1, 1) := by decide +kernel
theorem zd_75_66 : decode (zm_cc 75) 66 = .ok (.sipush 302, 3) := by decide +kernel
theorem zd_75_69 : decode (zm_cc 75) 69 = .ok (.if_icmp .ne 10, 3) := by decide +kernel
theorem zd_75_72 : decode (zm_cc 75) 72 = .ok (.aload_n 0, 1) := by decide +kernel
theorem zd_75_73 : decode (zm_cc 75) 73 = .ok (.invokevirtual 100, 3) := by decide +kernel
theorem zd_75_76 : decode (zm_cc 75) 76 = .ok (.goto 23, 3) := by decide +kernel
theorem zd_75_79 : decode (zm_cc 75) 79 = .ok (.iload_n 1, 1) := by decide +kernel
theorem zd_75_80 : decode (zm_cc 75) 80 = .ok (.sipush 303, 3) := by decide +kernel
theorem zd_75_83 : decode (zm_cc 75) 83 = .ok (.if_icmp .ne 10, 3) := by decide +kernel
theorem zd_75_86 : decode (zm_cc 75) 86 = .ok (.aload_n 0, 1) := by decide +kernel
theorem zd_75_87 : decode (zm_cc 75) 87 = .ok (.invokevirtual 103, 3) := by decide +kernel
theorem zd_75_90 : decode (zm_cc 75) 90 = .ok (.goto 9, 3) := by decide +kernel
theorem zd_75_93 : decode (zm_cc 75) 93 = .ok (.aload_n 0, 1) := by decide +kernel
theorem zd_75_94 : decode (zm_cc 75) 94 = .ok (.iconst 2, 1) := by decide +kernel
theorem zd_75_95 : decode (zm_cc 75) 95 = .ok (.invokevirtual 86, 3) := by decide +kernel
theorem zd_75_98 : decode (zm_cc 75) 98 = .ok (.pop, 1) := by decide +kernel
theorem zd_75_99 : decode (zm_cc 75) 99 = .ok (.return_, 1) := by decide +kernel
theorem zd_76_0 : decode (zm_cc 76) 0 = .ok (.aload_n 0, 1) := by decide +kernel
theorem zd_76_1 : decode (zm_cc 76) 1 = .ok (.getfield 35, 3) := by decide +kernel
theorem zd_76_4 : decode (zm_cc 76) 4 = .ok (.invokevirtual 90, 3) := by decide +kernel
theorem zd_76_7 : decode (zm_cc 76) 7 = .ok (.aload_n 0, 1) := by decide +kernel
theorem zd_76_8 : decode (zm_cc 76) 8 = .ok (.iconst 0, 1) := by decide +kernel
theorem zd_76_9 : decode (zm_cc 76) 9 = .ok (.aload_n 0, 1) := by decide +kernel
theorem zd_76_10 : decode (zm_cc 76) 10 = .ok (.getfield 26, 3) := by decide +kernel
theorem zd_76_13 : decode (zm_cc 76) 13 = .ok (.getfield 106, 3) := by decide +kernel
theorem zd_76_16 : decode (zm_cc 76) 16 = .ok (.bipush 6, 2) := by decide +kernel
theorem zd_76_18 : decode (zm_cc 76) 18 = .ok (.invokevirtual 109, 3) := by decide +kernel
theorem zd_76_21 : decode (zm_cc 76) 21 = .ok (.ifCond .ne 4, 3) := by decide +kernel
theorem zd_76_24 : decode (zm_cc 76) 24 = .ok (.return_, 1) := by decide +kernel
theorem zd_76_25 : decode (zm_cc 76) 25 = .ok (.iconst 0, 1) := by decide +kernel
theorem zd_76_26 : decode (zm_cc 76) 26 = .ok (.istore_n 2, 1) := by decide +kernel
theorem zd_76_27 : decode (zm_cc 76) 27 = .ok (.aload_n 0, 1) := by decide +kernel
theorem zd_76_28 : decode (zm_cc 76) 28 = .ok (.getfield 35, 3) := by decide +kernel
theorem zd_76_31 : decode (zm_cc 76) 31 = .ok (.getfield 74, 3) := by decide +kernel
theorem zd_76_34 : decode (zm_cc 76) 34 = .ok (.bipush 61, 2) := by decide +kernel
theorem zd_76_36 : decode (zm_cc 76) 36 = .ok (.if_icmp .ne 28, 3) := by decide +kernel
theorem zd_76_39 : decode (zm_cc 76) 39 = .ok (.aload_n 0, 1) := by decide +kernel
theorem zd_76_40 : decode (zm_cc 76) 40 = .ok (.getfield 35, 3) := by decide +kernel
theorem zd_76_43 : decode (zm_cc 76) 43 = .ok (.invokevirtual 90, 3) := by decide +kernel
theorem zd_76_46 : decode (zm_cc 76) 46 = .ok (.aload_n 0, 1) := by decide +kernel
theorem zd_76_47 : decode (zm_cc 76) 47 = .ok (.getfield 35, 3) := by decide +kernel
theorem zd_76_50 : decode (zm_cc 76) 50 = .ok (.getfield 113, 3) := by decide +kernel
theorem zd_76_53 : decode (zm_cc 76) 53 = .ok (.l2i, 1) := by decide +kernel
theorem zd_76_54 : decode (zm_cc 76) 54 = .ok (.istore_n 2, 1) := by decide +kernel
theorem zd_76_55 : decode (zm_cc 76) 55 = .ok (.aload_n 0, 1) := by decide +kernel
theorem zd_76_56 : decode (zm_cc 76) 56 = .ok (.iconst 2, 1) := by decide +kernel
theorem zd_76_57 : decode (zm_cc 76) 57 = .ok (.invokevirtual 117, 3) := by decide +kernel
theorem zd_76_60 : decode (zm_cc 76) 60 = .ok (.ifCond .ne 4, 3) := by decide +kernel
theorem zd_76_63 : decode (zm_cc 76) 63 = .ok (.return_, 1) := by decide +kernel
theorem zd_76_64 : decode (zm_cc 76) 64 = .ok (.aload_n 0, 1) := by decide +kernel
theorem zd_76_65 : decode (zm_cc 76) 65 = .ok (.bipush 59, 2) := by decide +kernel
theorem zd_76_67 : decode (zm_cc 76) 67 = .ok (.invokevirtual 117, 3) := by decide +kernel
theorem zd_76_70 : decode (zm_cc 76) 70 = .ok (.ifCond .eq 12, 3) := by decide +kernel
theorem zd_76_73 : decode (zm_cc 76) 73 = .ok (.aload_n 0, 1) := by decide +kernel
theorem zd_76_74 : decode (zm_cc 76) 74 = .ok (.getfield 26, 3) := by decide +kernel
theorem zd_76_77 : decode (zm_cc 76) 77 = .ok (.iload_n 2, 1) := by decide +kernel
theorem zd_76_78 : decode (zm_cc 76) 78 = .ok (.iload_n 1, 1) := by decide +kernel
theorem zd_76_79 : decode (zm_cc 76) 79 = .ok (.invokevirtual 120, 3) := by decide +kernel
theorem zd_76_82 : decode (zm_cc 76) 82 = .ok (.return_, 1) := by decide +kernel
theorem zd_77_0 : decode (zm_cc 77) 0 = .ok (.aload_n 0, 1) := by decide +kernel
theorem zd_77_1 : decode (zm_cc 77) 1 = .ok (.getfield 35, 3) := by decide +kernel
theorem zd_77_4 : decode (zm_cc 77) 4 = .ok (.getfield 74, 3) := by decide +kernel
theorem zd_77_7 : decode (zm_cc 77) 7 = .ok (.iconst 3, 1) := by decide +kernel
theorem zd_77_8 : decode (zm_cc 77) 8 = .ok (.if_icmp .eq 9, 3) := by decide +kernel
theorem zd_77_11 : decode (zm_cc 77) 11 = .ok (.aload_n 0, 1) := by decide +kernel
theorem zd_77_12 : decode (zm_cc 77) 12 = .ok (.iconst 2, 1) := by decide +kernel
theorem zd_77_13 : decode (zm_cc 77) 13 = .ok (.invokevirtual 86, 3) := by decide +kernel
theorem zd_77_16 : decode (zm_cc 77) 16 = .ok (.ireturn, 1) := by decide +kernel
theorem zd_77_17 : decode (zm_cc 77) 17 = .ok (.aload_n 0, 1) := by decide +kernel
theorem zd_77_18 : decode (zm_cc 77) 18 = .ok (.getfield 12, 3) := by decide +kernel
theorem zd_77_21 : decode (zm_cc 77) 21 = .ok (.aload_n 0, 1) := by decide +kernel
theorem zd_77_22 : decode (zm_cc 77) 22 = .ok (.getfield 35, 3) := by decide +kernel
theorem zd_77_25 : decode (zm_cc 77) 25 = .ok (.getfield 113, 3) := by decide +kernel
theorem zd_77_28 : decode (zm_cc 77) 28 = .ok (.invokevirtual 134, 3) := by decide +kernel
theorem zd_77_31 : decode (zm_cc 77) 31 = .ok (.iconst (-1), 1) := by decide +kernel
theorem zd_77_32 : decode (zm_cc 77) 32 = .ok (.if_icmp .eq 9, 3) := by decide +kernel
theorem zd_77_35 : decode (zm_cc 77) 35 = .ok (.aload_n 0, 1) := by decide +kernel
theorem zd_77_36 : decode (zm_cc 77) 36 = .ok (.iconst 3, 1) := by decide +kernel
theorem zd_77_37 : decode (zm_cc 77) 37 = .ok (.invokevirtual 86, 3) := by decide +kernel
theorem zd_77_40 : decode (zm_cc 77) 40 = .ok (.ireturn, 1) := by decide +kernel
theorem zd_77_41 : decode (zm_cc 77) 41 = .ok (.iload_n 2, 1) := by decide +kernel
theorem zd_77_42 : decode (zm_cc 77) 42 = .ok (.iload_n 3, 1) := by decide +kernel
theorem zd_77_43 : decode (zm_cc 77) 43 = .ok (.if_icmp .lt 9, 3) := by decide +kernel
theorem zd_77_46 : decode (zm_cc 77) 46 = .ok (.aload_n 0, 1) := by decide +kernel
theorem zd_77_47 : decode (zm_cc 77) 47 = .ok (.iconst 4, 1) := by decide +kernel
theorem zd_77_48 : decode (zm_cc 77) 48 = .ok (.invokevirtual 86, 3) := by decide +kernel
theorem zd_77_51 : decode (zm_cc 77) 51 = .ok (.ireturn, 1) := by decide +kernel
theorem zd_77_52 : decode (zm_cc 77) 52 = .ok (.aload_n 0, 1) := by decide +kernel
theorem zd_77_53 : decode (zm_cc 77) 53 = .ok (.getfield 12, 3) := by decide +kernel
theorem zd_77_56 : decode (zm_cc 77) 56 = .ok (.aload_n 0, 1) := by decide +kernel
theorem zd_77_57 : decode (zm_cc 77) 57 = .ok (.getfield 35, 3) := by decide +kernel
theorem zd_77_60 : decode (zm_cc 77) 60 = .ok (.getfield 113, 3) := by decide +kernel
theorem zd_77_63 : decode (zm_cc 77) 63 = .ok (.iload_n 1, 1) := by decide +kernel
theorem zd_77_64 : decode (zm_cc 77) 64 = .ok (.iload_n 2, 1) := by decide +kernel
theorem zd_77_65 : decode (zm_cc 77) 65 = .ok (.invokevirtual 138, 3) := by decide +kernel
theorem zd_77_68 : decode (zm_cc 77) 68 = .ok (.aload_n 0, 1) := by decide +kernel
theorem zd_77_69 : decode (zm_cc 77) 69 = .ok (.getfield 35, 3) := by decide +kernel
theorem zd_77_72 : decode (zm_cc 77) 72 = .ok (.invokevirtual 90, 3) := by decide +kernel
theorem zd_77_75 : decode (zm_cc 77) 75 = .ok (.iconst 1, 1) := by decide +kernel
theorem zd_77_76 : decode (zm_cc 77) 76 = .ok (.ireturn, 1) := by decide +kernel
theorem zd_78_0 : decode (zm_cc 78) 0 = .ok (.aload_n 0, 1) := by decide +kernel
theorem zd_78_1 : decode (zm_cc 78) 1 = .ok (.getfield 25, 3) := by decide +kernel
theorem zd_78_4 : decode (zm_cc 78) 4 = .ok (.ifCond .lt 53, 3) := by decide +kernel
theorem zd_78_7 : decode (zm_cc 78) 7 = .ok (.aload_n 0, 1) := by decide +kernel
theorem zd_78_8 : decode (zm_cc 78) 8 = .ok (.getfield 25, 3) := by decide +kernel
theorem zd_78_11 : decode (zm_cc 78) 11 = .ok (.bipush 14, 2) := by decide +kernel
theorem zd_78_13 : decode (zm_cc 78) 13 = .ok (.if_icmp .ge 44, 3) := by decide +kernel
theorem zd_78_16 : decode (zm_cc 78) 16 = .ok (.aload_n 0, 1) := by decide +kernel
theorem zd_78_17 : decode (zm_cc 78) 17 = .ok (.getfield 11, 3) := by decide +kernel
theorem zd_78_20 : decode (zm_cc 78) 20 = .ok (.aload_n 0, 1) := by decide +kernel
theorem zd_78_21 : decode (zm_cc 78) 21 = .ok (.getfield 25, 3) := by decide +kernel
theorem zd_78_24 : decode (zm_cc 78) 24 = .ok (.lload_n 1, 1) := by decide +kernel
theorem zd_78_25 : decode (zm_cc 78) 25 = .ok (.lastore, 1) := by decide +kernel
theorem zd_78_26 : decode (zm_cc 78) 26 = .ok (.aload_n 0, 1) := by decide +kernel
theorem zd_78_27 : decode (zm_cc 78) 27 = .ok (.getfield 15, 3) := by decide +kernel
theorem zd_78_30 : decode (zm_cc 78) 30 = .ok (.aload_n 0, 1) := by decide +kernel
theorem zd_78_31 : decode (zm_cc 78) 31 = .ok (.getfield 25, 3) := by decide +kernel
theorem zd_78_34 : decode (zm_cc 78) 34 = .ok (.iload_n 3, 1) := by decide +kernel
theorem zd_78_35 : decode (zm_cc 78) 35 = .ok (.iastore, 1) := by decide +kernel
theorem zd_78_36 : decode (zm_cc 78) 36 = .ok (.aload_n 0, 1) := by decide +kernel
theorem zd_78_37 : decode (zm_cc 78) 37 = .ok (.getfield 19, 3) := by decide +kernel
theorem zd_78_40 : decode (zm_cc 78) 40 = .ok (.aload_n 0, 1) := by decide +kernel
theorem zd_78_41 : decode (zm_cc 78) 41 = .ok (.getfield 25, 3) := by decide +kernel
theorem zd_78_44 : decode (zm_cc 78) 44 = .ok (.iload 4, 2) := by decide +kernel
theorem zd_78_46 : decode (zm_cc 78) 46 = .ok (.iastore, 1) := by decide +kernel
theorem zd_78_47 : decode (zm_cc 78) 47 = .ok (.aload_n 0, 1) := by decide +kernel
theorem zd_78_48 : decode (zm_cc 78) 48 = .ok (.dup, 1) := by decide +kernel
theorem zd_78_49 : decode (zm_cc 78) 49 = .ok (.getfield 25, 3) := by decide +kernel
theorem zd_78_52 : decode (zm_cc 78) 52 = .ok (.iconst 1, 1) := by decide +kernel
theorem zd_78_53 : decode (zm_cc 78) 53 = .ok (.iadd, 1) := by decide +kernel
theorem zd_78_54 : decode (zm_cc 78) 54 = .ok (.putfield 25, 3) := by decide +kernel
theorem zd_78_57 : decode (zm_cc 78) 57 = .ok (.return_, 1) := by decide +kernel
theorem zd_79_0 : decode (zm_cc 79) 0 = .ok (.aload_n 0, 1) := by decide +kernel
theorem zd_79_1 : decode (zm_cc 79) 1 = .ok (.dup, 1) := by decide +kernel
theorem zd_79_2 : decode (zm_cc 79) 2 = .ok (.getfield 64, 3) := by decide +kernel
theorem zd_79_5 : decode (zm_cc 79) 5 = .ok (.iload_n 1, 1) := by decide +kernel
theorem zd_79_6 : decode (zm_cc 79) 6 = .ok (.iconst 3, 1) := by decide +kernel
theorem zd_79_7 : decode (zm_cc 79) 7 = .ok (.aload_n 0, 1) := by decide +kernel
theorem zd_79_8 : decode (zm_cc 79) 8 = .ok (.getfield 48, 3) := by decide +kernel
theorem zd_79_11 : decode (zm_cc 79) 11 = .ok (.imul, 1) := by decide +kernel
theorem zd_79_12 : decode (zm_cc 79) 12 = .ok (.ishl, 1) := by decide +kernel
theorem zd_79_13 : decode (zm_cc 79) 13 = .ok (.ior, 1) := by decide +kernel
theorem zd_79_14 : decode (zm_cc 79) 14 = .ok (.putfield 64, 3) := by decide +kernel
theorem zd_79_17 : decode (zm_cc 79) 17 = .ok (.iload_n 2, 1) := by decide +kernel
theorem zd_79_18 : decode (zm_cc 79) 18 = .ok (.ifCond .eq 18, 3) := by decide +kernel
theorem zd_79_21 : decode (zm_cc 79) 21 = .ok (.aload_n 0, 1) := by decide +kernel
theorem zd_79_22 : decode (zm_cc 79) 22 = .ok (.dup, 1) := by decide +kernel
theorem zd_79_23 : decode (zm_cc 79) 23 = .ok (.getfield 67, 3) := by decide +kernel
theorem zd_79_26 : decode (zm_cc 79) 26 = .ok (.iconst 1, 1) := by decide +kernel
theorem zd_79_27 : decode (zm_cc 79) 27 = .ok (.aload_n 0, 1) := by decide +kernel
theorem zd_79_28 : decode (zm_cc 79) 28 = .ok (.getfield 48, 3) := by decide +kernel
theorem zd_79_31 : decode (zm_cc 79) 31 = .ok (.ishl, 1) := by decide +kernel
theorem zd_79_32 : decode (zm_cc 79) 32 = .ok (.ior, 1) := by decide +kernel
theorem zd_79_33 : decode (zm_cc 79) 33 = .ok (.putfield 67, 3) := by decide +kernel
theorem zd_79_36 : decode (zm_cc 79) 36 = .ok (.aload_n 0, 1) := by decide +kernel
theorem zd_79_37 : decode (zm_cc 79) 37 = .ok (.dup, 1) := by decide +kernel
theorem zd_79_38 : decode (zm_cc 79) 38 = .ok (.getfield 48, 3) := by decide +kernel
theorem zd_79_41 : decode (zm_cc 79) 41 = .ok (.iconst 1, 1) := by decide +kernel
theorem zd_79_42 : decode (zm_cc 79) 42 = .ok (.iadd, 1) := by decide +kernel
theorem zd_79_43 : decode (zm_cc 79) 43 = .ok (.putfield 48, 3) := by decide +kernel
theorem zd_79_46 : decode (zm_cc 79) 46 = .ok (.return_, 1) := by decide +kernel
theorem zd_80_0 : decode (zm_cc 80) 0 = .ok (.aload_n 0, 1) := by decide +kernel
theorem zd_80_1 : decode (zm_cc 80) 1 = .ok (.getfield 35, 3) := by decide +kernel
theorem zd_80_4 : decode (zm_cc 80) 4 = .ok (.invokevirtual 90, 3) := by decide +kernel
theorem zd_80_7 : decode (zm_cc 80) 7 = .ok (.aload_n 0, 1) := by decide +kernel
theorem zd_80_8 : decode (zm_cc 80) 8 = .ok (.iconst 1, 1) := by decide +kernel
theorem zd_80_9 : decode (zm_cc 80) 9 = .ok (.aload_n 0, 1) := by decide +kernel
theorem zd_80_10 : decode (zm_cc 80) 10 = .ok (.getfield 26, 3) := by decide +kernel
theorem zd_80_13 : decode (zm_cc 80) 13 = .ok (.getfield 124, 3) := by decide +kernel
theorem zd_80_16 : decode (zm_cc 80) 16 = .ok (.iconst 4, 1) := by decide +kernel
theorem zd_80_17 : decode (zm_cc 80) 17 = .ok (.invokevirtual 109, 3) := by decide +kernel
theorem zd_80_20 : decode (zm_cc 80) 20 = .ok (.ifCond .eq 25, 3) := by decide +kernel
theorem zd_80_23 : decode (zm_cc 80) 23 = .ok (.aload_n 0, 1) := by decide +kernel
theorem zd_80_24 : decode (zm_cc 80) 24 = .ok (.bipush 59, 2) := by decide +kernel
theorem zd_80_26 : decode (zm_cc 80) 26 = .ok (.invokevirtual 117, 3) := by decide +kernel
theorem zd_80_29 : decode (zm_cc 80) 29 = .ok (.ifCond .eq 16, 3) := by decide +kernel
theorem zd_80_32 : decode (zm_cc 80) 32 = .ok (.aload_n 0, 1) := by decide +kernel
theorem zd_80_33 : decode (zm_cc 80) 33 = .ok (.getfield 26, 3) := by decide +kernel
theorem zd_80_36 : decode (zm_cc 80) 36 = .ok (.dup, 1) := by decide +kernel
theorem zd_80_37 : decode (zm_cc 80) 37 = .ok (.getfield 124, 3) := by decide +kernel
theorem zd_80_40 : decode (zm_cc 80) 40 = .ok (.iconst 1, 1) := by decide +kernel
theorem zd_80_41 : decode (zm_cc 80) 41 = .ok (.iadd, 1) := by decide +kernel
theorem zd_80_42 : decode (zm_cc 80) 42 = .ok (.putfield 124, 3) := by decide +kernel
theorem zd_80_45 : decode (zm_cc 80) 45 = .ok (.return_, 1) := by decide +kernel
theorem zd_81_0 : decode (zm_cc 81) 0 = .ok (.aload_n 0, 1) := by decide +kernel
theorem zd_81_1 : decode (zm_cc 81) 1 = .ok (.getfield 35, 3) := by decide +kernel
theorem zd_81_4 : decode (zm_cc 81) 4 = .ok (.invokevirtual 90, 3) := by decide +kernel
theorem zd_81_7 : decode (zm_cc 81) 7 = .ok (.aload_n 0, 1) := by decide +kernel
theorem zd_81_8 : decode (zm_cc 81) 8 = .ok (.iconst 2, 1) := by decide +kernel
theorem zd_81_9 : decode (zm_cc 81) 9 = .ok (.aload_n 0, 1) := by decide +kernel
theorem zd_81_10 : decode (zm_cc 81) 10 = .ok (.getfield 26, 3) := by decide +kernel
theorem zd_81_13 : decode (zm_cc 81) 13 = .ok (.getfield 93, 3) := by decide +kernel
theorem zd_81_16 : decode (zm_cc 81) 16 = .ok (.iconst 4, 1) := by decide +kernel
theorem zd_81_17 : decode (zm_cc 81) 17 = .ok (.invokevirtual 109, 3) := by decide +kernel
theorem zd_81_20 : decode (zm_cc 81) 20 = .ok (.ifCond .eq 43, 3) := by decide +kernel
theorem zd_81_23 : decode (zm_cc 81) 23 = .ok (.aload_n 0, 1) := by decide +kernel
theorem zd_81_24 : decode (zm_cc 81) 24 = .ok (.getfield 12, 3) := by decide +kernel
theorem zd_81_27 : decode (zm_cc 81) 27 = .ok (.invokevirtual 127, 3) := by decide +kernel
theorem zd_81_30 : decode (zm_cc 81) 30 = .ok (.aload_n 0, 1) := by decide +kernel
theorem zd_81_31 : decode (zm_cc 81) 31 = .ok (.getfield 44, 3) := by decide +kernel
theorem zd_81_34 : decode (zm_cc 81) 34 = .ok (.aload_n 0, 1) := by decide +kernel
theorem zd_81_35 : decode (zm_cc 81) 35 = .ok (.getfield 26, 3) := by decide +kernel
theorem zd_81_38 : decode (zm_cc 81) 38 = .ok (.getfield 93, 3) := by decide +kernel
theorem zd_81_41 : decode (zm_cc 81) 41 = .ok (.invokevirtual 61, 3) := by decide +kernel
theorem zd_81_44 : decode (zm_cc 81) 44 = .ok (.aload_n 0, 1) := by decide +kernel
theorem zd_81_45 : decode (zm_cc 81) 45 = .ok (.getfield 26, 3) := by decide +kernel
theorem zd_81_48 : decode (zm_cc 81) 48 = .ok (.dup, 1) := by decide +kernel
theorem zd_81_49 : decode (zm_cc 81) 49 = .ok (.getfield 93, 3) := by decide +kernel
theorem zd_81_52 : decode (zm_cc 81) 52 = .ok (.iconst 1, 1) := by decide +kernel
theorem zd_81_53 : decode (zm_cc 81) 53 = .ok (.iadd, 1) := by decide +kernel
theorem zd_81_54 : decode (zm_cc 81) 54 = .ok (.putfield 93, 3) := by decide +kernel
theorem zd_81_57 : decode (zm_cc 81) 57 = .ok (.aload_n 0, 1) := by decide +kernel
theorem zd_81_58 : decode (zm_cc 81) 58 = .ok (.iconst 0, 1) := by decide +kernel
theorem zd_81_59 : decode (zm_cc 81) 59 = .ok (.iconst (-1), 1) := by decide +kernel
theorem zd_81_60 : decode (zm_cc 81) 60 = .ok (.invokevirtual 130, 3) := by decide +kernel
theorem zd_81_63 : decode (zm_cc 81) 63 = .ok (.return_, 1) := by decide +kernel
theorem zd_82_0 : decode (zm_cc 82) 0 = .ok (.aload_n 0, 1) := by decide +kernel
theorem zd_82_1 : decode (zm_cc 82) 1 = .ok (.iconst 0, 1) := by decide +kernel
theorem zd_82_2 : decode (zm_cc 82) 2 = .ok (.putfield 29, 3) := by decide +kernel
theorem zd_82_5 : decode (zm_cc 82) 5 = .ok (.return_, 1) := by decide +kernel
theorem zd_83_0 : decode (zm_cc 83) 0 = .ok (.aload_n 0, 1) := by decide +kernel
theorem zd_83_1 : decode (zm_cc 83) 1 = .ok (.getfield 26, 3) := by decide +kernel
theorem zd_83_4 : decode (zm_cc 83) 4 = .ok (.iload_n 1, 1) := by decide +kernel
theorem zd_83_5 : decode (zm_cc 83) 5 = .ok (.bipush 24, 2) := by decide +kernel
theorem zd_83_7 : decode (zm_cc 83) 7 = .ok (.idiv, 1) := by decide +kernel
theorem zd_83_8 : decode (zm_cc 83) 8 = .ok (.iload_n 1, 1) := by decide +kernel
theorem zd_83_9 : decode (zm_cc 83) 9 = .ok (.bipush 24, 2) := by decide +kernel
theorem zd_83_11 : decode (zm_cc 83) 11 = .ok (.irem, 1) := by decide +kernel
theorem zd_83_12 : decode (zm_cc 83) 12 = .ok (.invokevirtual 239, 3) := by decide +kernel
theorem zd_83_15 : decode (zm_cc 83) 15 = .ok (.istore_n 2, 1) := by decide +kernel
theorem zd_83_16 : decode (zm_cc 83) 16 = .ok (.aload_n 0, 1) := by decide +kernel
theorem zd_83_17 : decode (zm_cc 83) 17 = .ok (.getfield 26, 3) := by decide +kernel
theorem zd_83_20 : decode (zm_cc 83) 20 = .ok (.getfield 243, 3) := by decide +kernel
theorem zd_83_23 : decode (zm_cc 83) 23 = .ok (.iload_n 2, 1) := by decide +kernel
theorem zd_83_24 : decode (zm_cc 83) 24 = .ok (.iaload, 1) := by decide +kernel
theorem zd_83_25 : decode (zm_cc 83) 25 = .ok (.istore_n 3, 1) := by decide +kernel
theorem zd_83_26 : decode (zm_cc 83) 26 = .ok (.iload_n 2, 1) := by decide +kernel
theorem zd_83_27 : decode (zm_cc 83) 27 = .ok (.bipush 96, 2) := by decide +kernel
theorem zd_83_29 : decode (zm_cc 83) 29 = .ok (.if_icmp .ge 15, 3) := by decide +kernel
theorem zd_83_32 : decode (zm_cc 83) 32 = .ok (.iload_n 3, 1) := by decide +kernel
theorem zd_83_33 : decode (zm_cc 83) 33 = .ok (.bipush 10, 2) := by decide +kernel
theorem zd_83_35 : decode (zm_cc 83) 35 = .ok (.if_icmp .eq 10, 3) := by decide +kernel
theorem zd_83_38 : decode (zm_cc 83) 38 = .ok (.iload_n 3, 1) := by decide +kernel
theorem zd_83_39 : decode (zm_cc 83) 39 = .ok (.bipush 11, 2) := by decide +kernel
theorem zd_83_41 : decode (zm_cc 83) 41 = .ok (.if_icmp .eq 4, 3) := by decide +kernel
theorem zd_83_44 : decode (zm_cc 83) 44 = .ok (.return_, 1) := by decide +kernel
theorem zd_83_45 : decode (zm_cc 83) 45 = .ok (.aload_n 0, 1) := by decide +kernel
theorem zd_83_46 : decode (zm_cc 83) 46 = .ok (.getfield 12, 3) := by decide +kernel
theorem zd_83_49 : decode (zm_cc 83) 49 = .ok (.aload_n 0, 1) := by decide +kernel
theorem zd_83_50 : decode (zm_cc 83) 50 = .ok (.getfield 18, 3) := by decide +kernel
theorem zd_83_53 : decode (zm_cc 83) 53 = .ok (.iload_n 2, 1) := by decide +kernel
theorem zd_83_54 : decode (zm_cc 83) 54 = .ok (.laload, 1) := by decide +kernel
theorem zd_83_55 : decode (zm_cc 83) 55 = .ok (.iconst 2, 1) := by decide +kernel
theorem zd_83_56 : decode (zm_cc 83) 56 = .ok (.invokevirtual 201, 3) := by decide +kernel
theorem zd_83_59 : decode (zm_cc 83) 59 = .ok (.istore 4, 2) := by decide +kernel
theorem zd_83_61 : decode (zm_cc 83) 61 = .ok (.iload 4, 2) := by decide +kernel
theorem zd_83_63 : decode (zm_cc 83) 63 = .ok (.iconst (-1), 1) := by decide +kernel
theorem zd_83_64 : decode (zm_cc 83) 64 = .ok (.if_icmp .ne 21, 3) := by decide +kernel
theorem zd_83_67 : decode (zm_cc 83) 67 = .ok (.aload_n 0, 1) := by decide +kernel
theorem zd_83_68 : decode (zm_cc 83) 68 = .ok (.iconst 5, 1) := by decide +kernel
theorem zd_83_69 : decode (zm_cc 83) 69 = .ok (.putfield 48, 3) := by decide +kernel
theorem zd_83_72 : decode (zm_cc 83) 72 = .ok (.aload_n 0, 1) := by decide +kernel
theorem zd_83_73 : decode (zm_cc 83) 73 = .ok (.aload_n 0, 1) := by decide +kernel
theorem zd_83_74 : decode (zm_cc 83) 74 = .ok (.getfield 22, 3) := by decide +kernel
theorem zd_83_77 : decode (zm_cc 83) 77 = .ok (.iload_n 2, 1) := by decide +kernel
theorem zd_83_78 : decode (zm_cc 83) 78 = .ok (.iaload, 1) := by decide +kernel
theorem zd_83_79 : decode (zm_cc 83) 79 = .ok (.putfield 52, 3) := by decide +kernel
theorem zd_83_82 : decode (zm_cc 83) 82 = .ok (.goto 13, 3) := by decide +kernel
theorem zd_83_85 : decode (zm_cc 83) 85 = .ok (.aload_n 0, 1) := by decide +kernel
theorem zd_83_86 : decode (zm_cc 83) 86 = .ok (.getfield 26, 3) := by decide +kernel
theorem zd_83_89 : decode (zm_cc 83) 89 = .ok (.iload_n 2, 1) := by decide +kernel
theorem zd_83_90 : decode (zm_cc 83) 90 = .ok (.iload 4, 2) := by decide +kernel
theorem zd_83_92 : decode (zm_cc 83) 92 = .ok (.invokevirtual 246, 3) := by decide +kernel
theorem zd_83_95 : decode (zm_cc 83) 95 = .ok (.return_, 1) := by decide +kernel
theorem zd_84_0 : decode (zm_cc 84) 0 = .ok (.iload_n 1, 1) := by decide +kernel
theorem zd_84_1 : decode (zm_cc 84) 1 = .ok (.ifCond .lt 51, 3) := by decide +kernel
theorem zd_84_4 : decode (zm_cc 84) 4 = .ok (.iload_n 1, 1) := by decide +kernel
theorem zd_84_5 : decode (zm_cc 84) 5 = .ok (.bipush 96, 2) := by decide +kernel
theorem zd_84_7 : decode (zm_cc 84) 7 = .ok (.if_icmp .ge 45, 3) := by decide +kernel
theorem zd_84_10 : decode (zm_cc 84) 10 = .ok (.iload_n 2, 1) := by decide +kernel
theorem zd_84_11 : decode (zm_cc 84) 11 = .ok (.ifCond .lt 41, 3) := by decide +kernel
theorem zd_84_14 : decode (zm_cc 84) 14 = .ok (.iload_n 2, 1) := by decide +kernel
theorem zd_84_15 : decode (zm_cc 84) 15 = .ok (.iconst 4, 1) := by decide +kernel
theorem zd_84_16 : decode (zm_cc 84) 16 = .ok (.if_icmp .ge 36, 3) := by decide +kernel
theorem zd_84_19 : decode (zm_cc 84) 19 = .ok (.aload_n 0, 1) := by decide +kernel
theorem zd_84_20 : decode (zm_cc 84) 20 = .ok (.getfield 21, 3) := by decide +kernel
theorem zd_84_23 : decode (zm_cc 84) 23 = .ok (.iload_n 1, 1) := by decide +kernel
theorem zd_84_24 : decode (zm_cc 84) 24 = .ok (.iload_n 2, 1) := by decide +kernel
theorem zd_84_25 : decode (zm_cc 84) 25 = .ok (.iastore, 1) := by decide +kernel
theorem zd_84_26 : decode (zm_cc 84) 26 = .ok (.aload_n 0, 1) := by decide +kernel
theorem zd_84_27 : decode (zm_cc 84) 27 = .ok (.getfield 18, 3) := by decide +kernel
theorem zd_84_30 : decode (zm_cc 84) 30 = .ok (.iload_n 1, 1) := by decide +kernel
theorem zd_84_31 : decode (zm_cc 84) 31 = .ok (.iaload, 1) := by decide +kernel
theorem zd_84_32 : decode (zm_cc 84) 32 = .ok (.bipush 10, 2) := by decide +kernel
theorem zd_84_34 : decode (zm_cc 84) 34 = .ok (.if_icmp .ne 18, 3) := by decide +kernel
theorem zd_84_37 : decode (zm_cc 84) 37 = .ok (.aload_n 0, 1) := by decide +kernel
theorem zd_84_38 : decode (zm_cc 84) 38 = .ok (.getfield 15, 3) := by decide +kernel
theorem zd_84_41 : decode (zm_cc 84) 41 = .ok (.iload_n 2, 1) := by decide +kernel
theorem zd_84_42 : decode (zm_cc 84) 42 = .ok (.dup2, 1) := by decide +kernel
theorem zd_84_43 : decode (zm_cc 84) 43 = .ok (.iaload, 1) := by decide +kernel
theorem zd_84_44 : decode (zm_cc 84) 44 = .ok (.iconst 1, 1) := by decide +kernel
theorem zd_84_45 : decode (zm_cc 84) 45 = .ok (.iload_n 1, 1) := by decide +kernel
theorem zd_84_46 : decode (zm_cc 84) 46 = .ok (.bipush 24, 2) := by decide +kernel
theorem zd_84_48 : decode (zm_cc 84) 48 = .ok (.idiv, 1) := by decide +kernel
theorem zd_84_49 : decode (zm_cc 84) 49 = .ok (.ishl, 1) := by decide +kernel
theorem zd_84_50 : decode (zm_cc 84) 50 = .ok (.ior, 1) := by decide +kernel
theorem zd_84_51 : decode (zm_cc 84) 51 = .ok (.iastore, 1) := by decide +kernel
theorem zd_84_52 : decode (zm_cc 84) 52 = .ok (.return_, 1) := by decide +kernel
theorem zd_85_0 : decode (zm_cc 85) 0 = .ok (.aload_n 0, 1) := by decide +kernel
theorem zd_85_1 : decode (zm_cc 85) 1 = .ok (.iconst 0, 1) := by decide +kernel
theorem zd_85_2 : decode (zm_cc 85) 2 = .ok (.putfield 31, 3) := by decide +kernel
theorem zd_85_5 : decode (zm_cc 85) 5 = .ok (.return_, 1) := by decide +kernel
theorem zd_86_0 : decode (zm_cc 86) 0 = .ok (.aload_n 0, 1) := by decide +kernel
theorem zd_86_1 : decode (zm_cc 86) 1 = .ok (.iconst 0, 1) := by decide +kernel
theorem zd_86_2 : decode (zm_cc 86) 2 = .ok (.putfield 1, 3) := by decide +kernel
theorem zd_86_5 : decode (zm_cc 86) 5 = .ok (.aload_n 0, 1) := by decide +kernel
theorem zd_86_6 : decode (zm_cc 86) 6 = .ok (.aload_n 0, 1) := by decide +kernel
theorem zd_86_7 : decode (zm_cc 86) 7 = .ok (.getfield 125, 3) := by decide +kernel
theorem zd_86_10 : decode (zm_cc 86) 10 = .ok (.putfield 132, 3) := by decide +kernel
theorem zd_86_13 : decode (zm_cc 86) 13 = .ok (.aload_n 0, 1) := by decide +kernel
theorem zd_86_14 : decode (zm_cc 86) 14 = .ok (.iconst 0, 1) := by decide +kernel
theorem zd_86_15 : decode (zm_cc 86) 15 = .ok (.putfield 125, 3) := by decide +kernel
theorem zd_86_18 : decode (zm_cc 86) 18 = .ok (.iconst 0, 1) := by decide +kernel
theorem zd_86_19 : decode (zm_cc 86) 19 = .ok (.istore_n 1, 1) := by decide +kernel
theorem zd_86_20 : decode (zm_cc 86) 20 = .ok (.iload_n 1, 1) := by decide +kernel
theorem zd_86_21 : decode (zm_cc 86) 21 = .ok (.aload_n 0, 1) := by decide +kernel
theorem zd_86_22 : decode (zm_cc 86) 22 = .ok (.getfield 132, 3) := by decide +kernel
theorem zd_86_25 : decode (zm_cc 86) 25 = .ok (.if_icmp .ge 21, 3) := by decide +kernel
theorem zd_86_28 : decode (zm_cc 86) 28 = .ok (.aload_n 0, 1) := by decide +kernel
theorem zd_86_29 : decode (zm_cc 86) 29 = .ok (.getfield 17, 3) := by decide +kernel
theorem zd_86_32 : decode (zm_cc 86) 32 = .ok (.iload_n 1, 1) := by decide +kernel
theorem zd_86_33 : decode (zm_cc 86) 33 = .ok (.aload_n 0, 1) := by decide +kernel
theorem zd_86_34 : decode (zm_cc 86) 34 = .ok (.getfield 13, 3) := by decide +kernel
theorem zd_86_37 : decode (zm_cc 86) 37 = .ok (.iload_n 1, 1) := by decide +kernel
theorem zd_86_38 : decode (zm_cc 86) 38 = .ok (.baload, 1) := by decide +kernel
theorem zd_86_39 : decode (zm_cc 86) 39 = .ok (.bastore, 1) := by decide +kernel
theorem zd_86_40 : decode (zm_cc 86) 40 = .ok (.iinc 1 1, 3) := by decide +kernel
theorem zd_86_43 : decode (zm_cc 86) 43 = .ok (.goto (-23), 3) := by decide +kernel
theorem zd_86_46 : decode (zm_cc 86) 46 = .ok (.aload_n 0, 1) := by decide +kernel
theorem zd_86_47 : decode (zm_cc 86) 47 = .ok (.iconst 0, 1) := by decide +kernel
theorem zd_86_48 : decode (zm_cc 86) 48 = .ok (.putfield 135, 3) := by decide +kernel
theorem zd_86_51 : decode (zm_cc 86) 51 = .ok (.aload_n 0, 1) := by decide +kernel
theorem zd_86_52 : decode (zm_cc 86) 52 = .ok (.iconst 0, 1) := by decide +kernel
theorem zd_86_53 : decode (zm_cc 86) 53 = .ok (.putfield 139, 3) := by decide +kernel
theorem zd_86_56 : decode (zm_cc 86) 56 = .ok (.aload_n 0, 1) := by decide +kernel
theorem zd_86_57 : decode (zm_cc 86) 57 = .ok (.iconst 0, 1) := by decide +kernel
theorem zd_86_58 : decode (zm_cc 86) 58 = .ok (.putfield 215, 3) := by decide +kernel
theorem zd_86_61 : decode (zm_cc 86) 61 = .ok (.aload_n 0, 1) := by decide +kernel
theorem zd_86_62 : decode (zm_cc 86) 62 = .ok (.iconst 0, 1) := by decide +kernel
theorem zd_86_63 : decode (zm_cc 86) 63 = .ok (.putfield 222, 3) := by decide +kernel
theorem zd_86_66 : decode (zm_cc 86) 66 = .ok (.aload_n 0, 1) := by decide +kernel
theorem zd_86_67 : decode (zm_cc 86) 67 = .ok (.iconst 0, 1) := by decide +kernel
theorem zd_86_68 : decode (zm_cc 86) 68 = .ok (.putfield 225, 3) := by decide +kernel
theorem zd_86_71 : decode (zm_cc 86) 71 = .ok (.aload_n 0, 1) := by decide +kernel
theorem zd_86_72 : decode (zm_cc 86) 72 = .ok (.iconst 0, 1) := by decide +kernel
theorem zd_86_73 : decode (zm_cc 86) 73 = .ok (.putfield 303, 3) := by decide +kernel
theorem zd_86_76 : decode (zm_cc 86) 76 = .ok (.aload_n 0, 1) := by decide +kernel
theorem zd_86_77 : decode (zm_cc 86) 77 = .ok (.iconst 0, 1) := by decide +kernel
theorem zd_86_78 : decode (zm_cc 86) 78 = .ok (.putfield 291, 3) := by decide +kernel
theorem zd_86_81 : decode (zm_cc 86) 81 = .ok (.aload_n 0, 1) := by decide +kernel
theorem zd_86_82 : decode (zm_cc 86) 82 = .ok (.iconst 0, 1) := by decide +kernel
theorem zd_86_83 : decode (zm_cc 86) 83 = .ok (.putfield 142, 3) := by decide +kernel
theorem zd_86_86 : decode (zm_cc 86) 86 = .ok (.aload_n 0, 1) := by decide +kernel
theorem zd_86_87 : decode (zm_cc 86) 87 = .ok (.iconst 0, 1) := by decide +kernel
theorem zd_86_88 : decode (zm_cc 86) 88 = .ok (.putfield 155, 3) := by decide +kernel
theorem zd_86_91 : decode (zm_cc 86) 91 = .ok (.aload_n 0, 1) := by decide +kernel
theorem zd_86_92 : decode (zm_cc 86) 92 = .ok (.iconst 0, 1) := by decide +kernel
theorem zd_86_93 : decode (zm_cc 86) 93 = .ok (.putfield 322, 3) := by decide +kernel
theorem zd_86_96 : decode (zm_cc 86) 96 = .ok (.aload_n 0, 1) := by decide +kernel
theorem zd_86_97 : decode (zm_cc 86) 97 = .ok (.iconst (-1), 1) := by decide +kernel
theorem zd_86_98 : decode (zm_cc 86) 98 = .ok (.putfield 119, 3) := by decide +kernel
theorem zd_86_101 : decode (zm_cc 86) 101 = .ok (.aload_n 0, 1) := by decide +kernel
theorem zd_86_102 : decode (zm_cc 86) 102 = .ok (.invokevirtual 209, 3) := by decide +kernel
theorem zd_86_105 : decode (zm_cc 86) 105 = .ok (.aload_n 0, 1) := by decide +kernel
theorem zd_86_106 : decode (zm_cc 86) 106 = .ok (.getfield 135, 3) := by decide +kernel
theorem zd_86_109 : decode (zm_cc 86) 109 = .ok (.ifCond .ne 95, 3) := by decide +kernel
theorem zd_86_112 : decode (zm_cc 86) 112 = .ok (.aload_n 0, 1) := by decide +kernel
theorem zd_86_113 : decode (zm_cc 86) 113 = .ok (.iconst 1, 1) := by decide +kernel
theorem zd_86_114 : decode (zm_cc 86) 114 = .ok (.invokevirtual 264, 3) := by decide +kernel
theorem zd_86_117 : decode (zm_cc 86) 117 = .ok (.ifCond .ne 19, 3) := by decide +kernel
theorem zd_86_120 : decode (zm_cc 86) 120 = .ok (.aload_n 0, 1) := by decide +kernel
theorem zd_86_121 : decode (zm_cc 86) 121 = .ok (.iconst 2, 1) := by decide +kernel
theorem zd_86_122 : decode (zm_cc 86) 122 = .ok (.invokevirtual 264, 3) := by decide +kernel
theorem zd_86_125 : decode (zm_cc 86) 125 = .ok (.ifCond .ne 11, 3) := by decide +kernel
theorem zd_86_128 : decode (zm_cc 86) 128 = .ok (.aload_n 0, 1) := by decide +kernel
theorem zd_86_129 : decode (zm_cc 86) 129 = .ok (.iconst 3, 1) := by decide +kernel
theorem zd_86_130 : decode (zm_cc 86) 130 = .ok (.invokevirtual 264, 3) := by decide +kernel
theorem zd_86_133 : decode (zm_cc 86) 133 = .ok (.ifCond .eq 71, 3) := by decide +kernel
theorem zd_86_136 : decode (zm_cc 86) 136 = .ok (.aload_n 0, 1) := by decide +kernel
theorem zd_86_137 : decode (zm_cc 86) 137 = .ok (.iconst 3, 1) := by decide +kernel
theorem zd_86_138 : decode (zm_cc 86) 138 = .ok (.invokevirtual 264, 3) := by decide +kernel
theorem zd_86_141 : decode (zm_cc 86) 141 = .ok (.ifCond .eq 51, 3) := by decide +kernel
theorem zd_86_144 : decode (zm_cc 86) 144 = .ok (.aload_n 0, 1) := by decide +kernel
theorem zd_86_145 : decode (zm_cc 86) 145 = .ok (.invokevirtual 209, 3) := by decide +kernel
theorem zd_86_148 : decode (zm_cc 86) 148 = .ok (.aload_n 0, 1) := by decide +kernel
theorem zd_86_149 : decode (zm_cc 86) 149 = .ok (.bipush 6, 2) := by decide +kernel
theorem zd_86_151 : decode (zm_cc 86) 151 = .ok (.aload_n 0, 1) := by decide +kernel
theorem zd_86_152 : decode (zm_cc 86) 152 = .ok (.getfield 222, 3) := by decide +kernel
theorem zd_86_155 : decode (zm_cc 86) 155 = .ok (.iconst 4, 1) := by decide +kernel
theorem zd_86_156 : decode (zm_cc 86) 156 = .ok (.invokevirtual 318, 3) := by decide +kernel
theorem zd_86_159 : decode (zm_cc 86) 159 = .ok (.aload_n 0, 1) := by decide +kernel
theorem zd_86_160 : decode (zm_cc 86) 160 = .ok (.aload_n 0, 1) := by decide +kernel
theorem zd_86_161 : decode (zm_cc 86) 161 = .ok (.getfield 135, 3) := by decide +kernel
theorem zd_86_164 : decode (zm_cc 86) 164 = .ok (.ifCond .eq 10, 3) := by decide +kernel
theorem zd_86_167 : decode (zm_cc 86) 167 = .ok (.aload_n 0, 1) := by decide +kernel
theorem zd_86_168 : decode (zm_cc 86) 168 = .ok (.getfield 222, 3) := by decide +kernel
theorem zd_86_171 : decode (zm_cc 86) 171 = .ok (.goto 9, 3) := by decide +kernel
theorem zd_86_174 : decode (zm_cc 86) 174 = .ok (.aload_n 0, 1) := by decide +kernel
theorem zd_86_175 : decode (zm_cc 86) 175 = .ok (.getfield 222, 3) := by decide +kernel
theorem zd_86_178 : decode (zm_cc 86) 178 = .ok (.iconst 1, 1) := by decide +kernel
theorem zd_86_179 : decode (zm_cc 86) 179 = .ok (.iadd, 1) := by decide +kernel
theorem zd_86_180 : decode (zm_cc 86) 180 = .ok (.putfield 222, 3) := by decide +kernel
theorem zd_86_183 : decode (zm_cc 86) 183 = .ok (.aload_n 0, 1) := by decide +kernel
theorem zd_86_184 : decode (zm_cc 86) 184 = .ok (.bipush 59, 2) := by decide +kernel
theorem zd_86_186 : decode (zm_cc 86) 186 = .ok (.invokevirtual 288, 3) := by decide +kernel
theorem zd_86_189 : decode (zm_cc 86) 189 = .ok (.goto (-84), 3) := by decide +kernel
theorem zd_86_192 : decode (zm_cc 86) 192 = .ok (.aload_n 0, 1) := by decide +kernel
theorem zd_86_193 : decode (zm_cc 86) 193 = .ok (.aload_n 0, 1) := by decide +kernel
theorem zd_86_194 : decode (zm_cc 86) 194 = .ok (.iconst 2, 1) := by decide +kernel
theorem zd_86_195 : decode (zm_cc 86) 195 = .ok (.invokevirtual 264, 3) := by decide +kernel
theorem zd_86_198 : decode (zm_cc 86) 198 = .ok (.invokevirtual 325, 3) := by decide +kernel
theorem zd_86_201 : decode (zm_cc 86) 201 = .ok (.goto (-96), 3) := by decide +kernel
theorem zd_86_204 : decode (zm_cc 86) 204 = .ok (.aload_n 0, 1) := by decide +kernel
theorem zd_86_205 : decode (zm_cc 86) 205 = .ok (.getfield 135, 3) := by decide +kernel
theorem zd_86_208 : decode (zm_cc 86) 208 = .ok (.ifCond .ne 18, 3) := by decide +kernel
theorem zd_86_211 : decode (zm_cc 86) 211 = .ok (.aload_n 0, 1) := by decide +kernel
theorem zd_86_212 : decode (zm_cc 86) 212 = .ok (.iconst 4, 1) := by decide +kernel
theorem zd_86_213 : decode (zm_cc 86) 213 = .ok (.invokevirtual 264, 3) := by decide +kernel
theorem zd_86_216 : decode (zm_cc 86) 216 = .ok (.ifCond .eq 10, 3) := by decide +kernel
theorem zd_86_219 : decode (zm_cc 86) 219 = .ok (.aload_n 0, 1) := by decide +kernel
theorem zd_86_220 : decode (zm_cc 86) 220 = .ok (.invokevirtual 329, 3) := by decide +kernel
theorem zd_86_223 : decode (zm_cc 86) 223 = .ok (.goto (-19), 3) := by decide +kernel
theorem zd_86_226 : decode (zm_cc 86) 226 = .ok (.aload_n 0, 1) := by decide +kernel
theorem zd_86_227 : decode (zm_cc 86) 227 = .ok (.getfield 135, 3) := by decide +kernel
theorem zd_86_230 : decode (zm_cc 86) 230 = .ok (.ifCond .ne 14, 3) := by decide +kernel
theorem zd_86_233 : decode (zm_cc 86) 233 = .ok (.aload_n 0, 1) := by decide +kernel
theorem zd_86_234 : decode (zm_cc 86) 234 = .ok (.getfield 148, 3) := by decide +kernel
theorem zd_86_237 : decode (zm_cc 86) 237 = .ok (.ifCond .eq 7, 3) := by decide +kernel
theorem zd_86_240 : decode (zm_cc 86) 240 = .ok (.aload_n 0, 1) := by decide +kernel
theorem zd_86_241 : decode (zm_cc 86) 241 = .ok (.invokevirtual 212, 3) := by decide +kernel
theorem zd_86_244 : decode (zm_cc 86) 244 = .ok (.aload_n 0, 1) := by decide +kernel
theorem zd_86_245 : decode (zm_cc 86) 245 = .ok (.getfield 135, 3) := by decide +kernel
theorem zd_86_248 : decode (zm_cc 86) 248 = .ok (.ifCond .ne 7, 3) := by decide +kernel
theorem zd_86_251 : decode (zm_cc 86) 251 = .ok (.aload_n 0, 1) := by decide +kernel
theorem zd_86_252 : decode (zm_cc 86) 252 = .ok (.invokevirtual 332, 3) := by decide +kernel
theorem zd_86_255 : decode (zm_cc 86) 255 = .ok (.aload_n 0, 1) := by decide +kernel
theorem zd_86_256 : decode (zm_cc 86) 256 = .ok (.aload_n 0, 1) := by decide +kernel
theorem zd_86_257 : decode (zm_cc 86) 257 = .ok (.getfield 135, 3) := by decide +kernel
theorem zd_86_260 : decode (zm_cc 86) 260 = .ok (.ifCond .ne 7, 3) := by decide +kernel
theorem zd_86_263 : decode (zm_cc 86) 263 = .ok (.iconst 1, 1) := by decide +kernel
theorem zd_86_264 : decode (zm_cc 86) 264 = .ok (.goto 4, 3) := by decide +kernel
theorem zd_86_267 : decode (zm_cc 86) 267 = .ok (.iconst 0, 1) := by decide +kernel
theorem zd_86_268 : decode (zm_cc 86) 268 = .ok (.putfield 335, 3) := by decide +kernel
theorem zd_86_271 : decode (zm_cc 86) 271 = .ok (.aload_n 0, 1) := by decide +kernel
theorem zd_86_272 : decode (zm_cc 86) 272 = .ok (.aload_n 0, 1) := by decide +kernel
theorem zd_86_273 : decode (zm_cc 86) 273 = .ok (.getfield 139, 3) := by decide +kernel
theorem zd_86_276 : decode (zm_cc 86) 276 = .ok (.putfield 338, 3) := by decide +kernel
theorem zd_86_279 : decode (zm_cc 86) 279 = .ok (.aload_n 0, 1) := by decide +kernel
theorem zd_86_280 : decode (zm_cc 86) 280 = .ok (.getfield 135, 3) := by decide +kernel
theorem zd_86_283 : decode (zm_cc 86) 283 = .ok (.ifCond .eq 14, 3) := by decide +kernel
theorem zd_86_286 : decode (zm_cc 86) 286 = .ok (.sipush (-1000), 3) := by decide +kernel
theorem zd_86_289 : decode (zm_cc 86) 289 = .ok (.aload_n 0, 1) := by decide +kernel
theorem zd_86_290 : decode (zm_cc 86) 290 = .ok (.getfield 145, 3) := by decide +kernel
theorem zd_86_293 : decode (zm_cc 86) 293 = .ok (.isub, 1) := by decide +kernel
theorem zd_86_294 : decode (zm_cc 86) 294 = .ok (.goto 7, 3) := by decide +kernel
theorem zd_86_297 : decode (zm_cc 86) 297 = .ok (.aload_n 0, 1) := by decide +kernel
theorem zd_86_298 : decode (zm_cc 86) 298 = .ok (.invokevirtual 341, 3) := by decide +kernel
theorem zd_86_301 : decode (zm_cc 86) 301 = .ok (.ireturn, 1) := by decide +kernel
theorem zd_87_0 : decode (zm_cc 87) 0 = .ok (.aload_n 0, 1) := by decide +kernel
theorem zd_87_1 : decode (zm_cc 87) 1 = .ok (.getfield 142, 3) := by decide +kernel
theorem zd_87_4 : decode (zm_cc 87) 4 = .ok (.aload_n 0, 1) := by decide +kernel
theorem zd_87_5 : decode (zm_cc 87) 5 = .ok (.getfield 155, 3) := by decide +kernel
theorem zd_87_8 : decode (zm_cc 87) 8 = .ok (.iadd, 1) := by decide +kernel
theorem zd_87_9 : decode (zm_cc 87) 9 = .ok (.istore_n 1, 1) := by decide +kernel
theorem zd_87_10 : decode (zm_cc 87) 10 = .ok (.iload_n 1, 1) := by decide +kernel
theorem zd_87_11 : decode (zm_cc 87) 11 = .ok (.aload_n 0, 1) := by decide +kernel
theorem zd_87_12 : decode (zm_cc 87) 12 = .ok (.getfield 132, 3) := by decide +kernel
theorem zd_87_15 : decode (zm_cc 87) 15 = .ok (.if_icmp .ge 29, 3) := by decide +kernel
theorem zd_87_18 : decode (zm_cc 87) 18 = .ok (.aload_n 0, 1) := by decide +kernel
theorem zd_87_19 : decode (zm_cc 87) 19 = .ok (.iload_n 1, 1) := by decide +kernel
theorem zd_87_20 : decode (zm_cc 87) 20 = .ok (.invokevirtual 158, 3) := by decide +kernel
theorem zd_87_23 : decode (zm_cc 87) 23 = .ok (.bipush 32, 2) := by decide +kernel
theorem zd_87_25 : decode (zm_cc 87) 25 = .ok (.if_icmp .eq 13, 3) := by decide +kernel
theorem zd_87_28 : decode (zm_cc 87) 28 = .ok (.aload_n 0, 1) := by decide +kernel
theorem zd_87_29 : decode (zm_cc 87) 29 = .ok (.iload_n 1, 1) := by decide +kernel
theorem zd_87_30 : decode (zm_cc 87) 30 = .ok (.invokevirtual 158, 3) := by decide +kernel
theorem zd_87_33 : decode (zm_cc 87) 33 = .ok (.bipush 10, 2) := by decide +kernel
theorem zd_87_35 : decode (zm_cc 87) 35 = .ok (.if_icmp .ne 9, 3) := by decide +kernel
theorem zd_87_38 : decode (zm_cc 87) 38 = .ok (.iinc 1 1, 3) := by decide +kernel
theorem zd_87_41 : decode (zm_cc 87) 41 = .ok (.goto (-31), 3) := by decide +kernel
theorem zd_87_44 : decode (zm_cc 87) 44 = .ok (.aload_n 0, 1) := by decide +kernel
theorem zd_87_45 : decode (zm_cc 87) 45 = .ok (.iload_n 1, 1) := by decide +kernel
theorem zd_87_46 : decode (zm_cc 87) 46 = .ok (.putfield 142, 3) := by decide +kernel
theorem zd_87_49 : decode (zm_cc 87) 49 = .ok (.aload_n 0, 1) := by decide +kernel
theorem zd_87_50 : decode (zm_cc 87) 50 = .ok (.iconst 1, 1) := by decide +kernel
theorem zd_87_51 : decode (zm_cc 87) 51 = .ok (.putfield 155, 3) := by decide +kernel
theorem zd_87_54 : decode (zm_cc 87) 54 = .ok (.aload_n 0, 1) := by decide +kernel
theorem zd_87_55 : decode (zm_cc 87) 55 = .ok (.iconst 0, 1) := by decide +kernel
theorem zd_87_56 : decode (zm_cc 87) 56 = .ok (.putfield 192, 3) := by decide +kernel
theorem zd_87_59 : decode (zm_cc 87) 59 = .ok (.aload_n 0, 1) := by decide +kernel
theorem zd_87_60 : decode (zm_cc 87) 60 = .ok (.iload_n 1, 1) := by decide +kernel
theorem zd_87_61 : decode (zm_cc 87) 61 = .ok (.invokevirtual 158, 3) := by decide +kernel
theorem zd_87_64 : decode (zm_cc 87) 64 = .ok (.istore_n 2, 1) := by decide +kernel
theorem zd_87_65 : decode (zm_cc 87) 65 = .ok (.aload_n 0, 1) := by decide +kernel
theorem zd_87_66 : decode (zm_cc 87) 66 = .ok (.iload_n 1, 1) := by decide +kernel
theorem zd_87_67 : decode (zm_cc 87) 67 = .ok (.iconst 1, 1) := by decide +kernel
theorem zd_87_68 : decode (zm_cc 87) 68 = .ok (.iadd, 1) := by decide +kernel
theorem zd_87_69 : decode (zm_cc 87) 69 = .ok (.invokevirtual 158, 3) := by decide +kernel
theorem zd_87_72 : decode (zm_cc 87) 72 = .ok (.istore_n 3, 1) := by decide +kernel
theorem zd_87_73 : decode (zm_cc 87) 73 = .ok (.iload_n 1, 1) := by decide +kernel
theorem zd_87_74 : decode (zm_cc 87) 74 = .ok (.aload_n 0, 1) := by decide +kernel
theorem zd_87_75 : decode (zm_cc 87) 75 = .ok (.getfield 132, 3) := by decide +kernel
theorem zd_87_78 : decode (zm_cc 87) 78 = .ok (.if_icmp .lt 16, 3) := by decide +kernel
theorem zd_87_81 : decode (zm_cc 87) 81 = .ok (.aload_n 0, 1) := by decide +kernel
theorem zd_87_82 : decode (zm_cc 87) 82 = .ok (.iconst 0, 1) := by decide +kernel
theorem zd_87_83 : decode (zm_cc 87) 83 = .ok (.putfield 155, 3) := by decide +kernel
theorem zd_87_86 : decode (zm_cc 87) 86 = .ok (.aload_n 0, 1) := by decide +kernel
theorem zd_87_87 : decode (zm_cc 87) 87 = .ok (.iconst 0, 1) := by decide +kernel
theorem zd_87_88 : decode (zm_cc 87) 88 = .ok (.putfield 148, 3) := by decide +kernel
theorem zd_87_91 : decode (zm_cc 87) 91 = .ok (.goto 278, 3) := by decide +kernel
theorem zd_87_94 : decode (zm_cc 87) 94 = .ok (.iload_n 2, 1) := by decide +kernel
theorem zd_87_95 : decode (zm_cc 87) 95 = .ok (.invokestatic 195, 3) := by decide +kernel
theorem zd_87_98 : decode (zm_cc 87) 98 = .ok (.ifCond .eq 97, 3) := by decide +kernel
theorem zd_87_101 : decode (zm_cc 87) 101 = .ok (.aload_n 0, 1) := by decide +kernel
theorem zd_87_102 : decode (zm_cc 87) 102 = .ok (.iload_n 1, 1) := by decide +kernel
theorem zd_87_103 : decode (zm_cc 87) 103 = .ok (.aload_n 0, 1) := by decide +kernel
