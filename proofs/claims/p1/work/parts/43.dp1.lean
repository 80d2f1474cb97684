/-! decode rows -/
theorem zd_13_0 : decode (zm_cc 13) 0 = .ok (.aload_n 0, 1) := by decide +kernel
theorem zd_13_1 : decode (zm_cc 13) 1 = .ok (.getfield 84, 3) := by decide +kernel
theorem zd_13_4 : decode (zm_cc 13) 4 = .ok (.ifCond .lt 16, 3) := by decide +kernel
theorem zd_13_7 : decode (zm_cc 13) 7 = .ok (.aload_n 0, 1) := by decide +kernel
theorem zd_13_8 : decode (zm_cc 13) 8 = .ok (.getfield 84, 3) := by decide +kernel
theorem zd_13_11 : decode (zm_cc 13) 11 = .ok (.bipush 20, 2) := by decide +kernel
theorem zd_13_13 : decode (zm_cc 13) 13 = .ok (.iadd, 1) := by decide +kernel
theorem zd_13_14 : decode (zm_cc 13) 14 = .ok (.sipush 1500, 3) := by decide +kernel
theorem zd_13_17 : decode (zm_cc 13) 17 = .ok (.if_icmp .le 13, 3) := by decide +kernel
theorem zd_13_30 : decode (zm_cc 13) 30 = .ok (.aload_n 0, 1) := by decide +kernel
theorem zd_13_31 : decode (zm_cc 13) 31 = .ok (.iload_n 1, 1) := by decide +kernel
theorem zd_13_32 : decode (zm_cc 13) 32 = .ok (.invokevirtual 94, 3) := by decide +kernel
theorem zd_13_35 : decode (zm_cc 13) 35 = .ok (.aload_n 0, 1) := by decide +kernel
theorem zd_13_36 : decode (zm_cc 13) 36 = .ok (.iload_n 2, 1) := by decide +kernel
theorem zd_13_37 : decode (zm_cc 13) 37 = .ok (.invokevirtual 94, 3) := by decide +kernel
theorem zd_13_40 : decode (zm_cc 13) 40 = .ok (.aload_n 0, 1) := by decide +kernel
theorem zd_13_41 : decode (zm_cc 13) 41 = .ok (.iload_n 3, 1) := by decide +kernel
theorem zd_13_42 : decode (zm_cc 13) 42 = .ok (.invokevirtual 94, 3) := by decide +kernel
theorem zd_13_45 : decode (zm_cc 13) 45 = .ok (.aload_n 0, 1) := by decide +kernel
theorem zd_13_46 : decode (zm_cc 13) 46 = .ok (.iload 4, 2) := by decide +kernel
theorem zd_13_48 : decode (zm_cc 13) 48 = .ok (.invokevirtual 94, 3) := by decide +kernel
theorem zd_13_51 : decode (zm_cc 13) 51 = .ok (.aload_n 0, 1) := by decide +kernel
theorem zd_13_52 : decode (zm_cc 13) 52 = .ok (.iload 5, 2) := by decide +kernel
theorem zd_13_54 : decode (zm_cc 13) 54 = .ok (.invokevirtual 94, 3) := by decide +kernel
theorem zd_13_57 : decode (zm_cc 13) 57 = .ok (.aload_n 0, 1) := by decide +kernel
theorem zd_13_58 : decode (zm_cc 13) 58 = .ok (.getfield 84, 3) := by decide +kernel
theorem zd_13_61 : decode (zm_cc 13) 61 = .ok (.ireturn, 1) := by decide +kernel
theorem zd_14_0 : decode (zm_cc 14) 0 = .ok (.bipush 24, 2) := by decide +kernel
theorem zd_14_2 : decode (zm_cc 14) 2 = .ok (.istore_n 2, 1) := by decide +kernel
theorem zd_14_3 : decode (zm_cc 14) 3 = .ok (.iload_n 2, 1) := by decide +kernel
theorem zd_14_4 : decode (zm_cc 14) 4 = .ok (.ifCond .lt 42, 3) := by decide +kernel
theorem zd_14_7 : decode (zm_cc 14) 7 = .ok (.aload_n 0, 1) := by decide +kernel
theorem zd_14_8 : decode (zm_cc 14) 8 = .ok (.getfield 84, 3) := by decide +kernel
theorem zd_14_11 : decode (zm_cc 14) 11 = .ok (.sipush 1500, 3) := by decide +kernel
theorem zd_14_14 : decode (zm_cc 14) 14 = .ok (.if_icmp .ge 32, 3) := by decide +kernel
theorem zd_14_17 : decode (zm_cc 14) 17 = .ok (.aload_n 0, 1) := by decide +kernel
theorem zd_14_18 : decode (zm_cc 14) 18 = .ok (.getfield 9, 3) := by decide +kernel
theorem zd_14_21 : decode (zm_cc 14) 21 = .ok (.aload_n 0, 1) := by decide +kernel
theorem zd_14_22 : decode (zm_cc 14) 22 = .ok (.getfield 84, 3) := by decide +kernel
theorem zd_14_25 : decode (zm_cc 14) 25 = .ok (.iload_n 1, 1) := by decide +kernel
theorem zd_14_26 : decode (zm_cc 14) 26 = .ok (.iload_n 2, 1) := by decide +kernel
theorem zd_14_27 : decode (zm_cc 14) 27 = .ok (.iushr, 1) := by decide +kernel
theorem zd_14_28 : decode (zm_cc 14) 28 = .ok (.i2b, 1) := by decide +kernel
theorem zd_14_29 : decode (zm_cc 14) 29 = .ok (.bastore, 1) := by decide +kernel
theorem zd_14_30 : decode (zm_cc 14) 30 = .ok (.aload_n 0, 1) := by decide +kernel
theorem zd_14_31 : decode (zm_cc 14) 31 = .ok (.dup, 1) := by decide +kernel
theorem zd_14_32 : decode (zm_cc 14) 32 = .ok (.getfield 84, 3) := by decide +kernel
theorem zd_14_35 : decode (zm_cc 14) 35 = .ok (.iconst 1, 1) := by decide +kernel
theorem zd_14_36 : decode (zm_cc 14) 36 = .ok (.iadd, 1) := by decide +kernel
theorem zd_14_37 : decode (zm_cc 14) 37 = .ok (.putfield 84, 3) := by decide +kernel
theorem zd_14_40 : decode (zm_cc 14) 40 = .ok (.iinc 2 (-8), 3) := by decide +kernel
theorem zd_14_43 : decode (zm_cc 14) 43 = .ok (.goto (-40), 3) := by decide +kernel
theorem zd_14_46 : decode (zm_cc 14) 46 = .ok (.return_, 1) := by decide +kernel
theorem zd_15_0 : decode (zm_cc 15) 0 = .ok (.aload_n 0, 1) := by decide +kernel
theorem zd_15_1 : decode (zm_cc 15) 1 = .ok (.aload_n 0, 1) := by decide +kernel
theorem zd_15_2 : decode (zm_cc 15) 2 = .ok (.getfield 125, 3) := by decide +kernel
theorem zd_15_5 : decode (zm_cc 15) 5 = .ok (.bipush 20, 2) := by decide +kernel
theorem zd_15_7 : decode (zm_cc 15) 7 = .ok (.iadd, 1) := by decide +kernel
theorem zd_15_8 : decode (zm_cc 15) 8 = .ok (.sipush 1500, 3) := by decide +kernel
theorem zd_15_11 : decode (zm_cc 15) 11 = .ok (.if_icmp .le 7, 3) := by decide +kernel
theorem zd_15_18 : decode (zm_cc 15) 18 = .ok (.iconst 0, 1) := by decide +kernel
theorem zd_15_19 : decode (zm_cc 15) 19 = .ok (.putfield 1, 3) := by decide +kernel
theorem zd_15_22 : decode (zm_cc 15) 22 = .ok (.aload_n 0, 1) := by decide +kernel
theorem zd_15_23 : decode (zm_cc 15) 23 = .ok (.getfield 1, 3) := by decide +kernel
theorem zd_15_26 : decode (zm_cc 15) 26 = .ok (.ifCond .le 5, 3) := by decide +kernel
theorem zd_15_31 : decode (zm_cc 15) 31 = .ok (.iconst 0, 1) := by decide +kernel
theorem zd_15_32 : decode (zm_cc 15) 32 = .ok (.istore 6, 2) := by decide +kernel
theorem zd_15_34 : decode (zm_cc 15) 34 = .ok (.iload 6, 2) := by decide +kernel
theorem zd_15_36 : decode (zm_cc 15) 36 = .ok (.bipush 20, 2) := by decide +kernel
theorem zd_15_38 : decode (zm_cc 15) 38 = .ok (.if_icmp .ge 90, 3) := by decide +kernel
theorem zd_15_41 : decode (zm_cc 15) 41 = .ok (.iload 6, 2) := by decide +kernel
theorem zd_15_43 : decode (zm_cc 15) 43 = .ok (.iconst 4, 1) := by decide +kernel
theorem zd_15_44 : decode (zm_cc 15) 44 = .ok (.if_icmp .ge 7, 3) := by decide +kernel
theorem zd_15_47 : decode (zm_cc 15) 47 = .ok (.iload_n 1, 1) := by decide +kernel
theorem zd_15_48 : decode (zm_cc 15) 48 = .ok (.goto 39, 3) := by decide +kernel
theorem zd_15_51 : decode (zm_cc 15) 51 = .ok (.iload 6, 2) := by decide +kernel
theorem zd_15_53 : decode (zm_cc 15) 53 = .ok (.bipush 8, 2) := by decide +kernel
theorem zd_15_55 : decode (zm_cc 15) 55 = .ok (.if_icmp .ge 7, 3) := by decide +kernel
theorem zd_15_58 : decode (zm_cc 15) 58 = .ok (.iload_n 2, 1) := by decide +kernel
theorem zd_15_59 : decode (zm_cc 15) 59 = .ok (.goto 28, 3) := by decide +kernel
theorem zd_15_62 : decode (zm_cc 15) 62 = .ok (.iload 6, 2) := by decide +kernel
theorem zd_15_64 : decode (zm_cc 15) 64 = .ok (.bipush 12, 2) := by decide +kernel
theorem zd_15_66 : decode (zm_cc 15) 66 = .ok (.if_icmp .ge 7, 3) := by decide +kernel
theorem zd_15_69 : decode (zm_cc 15) 69 = .ok (.iload_n 3, 1) := by decide +kernel
theorem zd_15_70 : decode (zm_cc 15) 70 = .ok (.goto 17, 3) := by decide +kernel
theorem zd_15_73 : decode (zm_cc 15) 73 = .ok (.iload 6, 2) := by decide +kernel
theorem zd_15_75 : decode (zm_cc 15) 75 = .ok (.bipush 16, 2) := by decide +kernel
theorem zd_15_77 : decode (zm_cc 15) 77 = .ok (.if_icmp .ge 8, 3) := by decide +kernel
theorem zd_15_80 : decode (zm_cc 15) 80 = .ok (.iload 4, 2) := by decide +kernel
theorem zd_15_82 : decode (zm_cc 15) 82 = .ok (.goto 5, 3) := by decide +kernel
theorem zd_15_85 : decode (zm_cc 15) 85 = .ok (.iload 5, 2) := by decide +kernel
theorem zd_15_87 : decode (zm_cc 15) 87 = .ok (.istore 7, 2) := by decide +kernel
theorem zd_15_89 : decode (zm_cc 15) 89 = .ok (.aload_n 0, 1) := by decide +kernel
theorem zd_15_90 : decode (zm_cc 15) 90 = .ok (.getfield 13, 3) := by decide +kernel
theorem zd_15_93 : decode (zm_cc 15) 93 = .ok (.aload_n 0, 1) := by decide +kernel
theorem zd_15_94 : decode (zm_cc 15) 94 = .ok (.getfield 125, 3) := by decide +kernel
theorem zd_15_97 : decode (zm_cc 15) 97 = .ok (.iload 7, 2) := by decide +kernel
theorem zd_15_99 : decode (zm_cc 15) 99 = .ok (.bipush 24, 2) := by decide +kernel
theorem zd_15_101 : decode (zm_cc 15) 101 = .ok (.bipush 8, 2) := by decide +kernel
theorem zd_15_103 : decode (zm_cc 15) 103 = .ok (.iload 6, 2) := by decide +kernel
theorem zd_15_105 : decode (zm_cc 15) 105 = .ok (.iconst 4, 1) := by decide +kernel
theorem zd_15_106 : decode (zm_cc 15) 106 = .ok (.irem, 1) := by decide +kernel
theorem zd_15_107 : decode (zm_cc 15) 107 = .ok (.imul, 1) := by decide +kernel
theorem zd_15_108 : decode (zm_cc 15) 108 = .ok (.isub, 1) := by decide +kernel
theorem zd_15_109 : decode (zm_cc 15) 109 = .ok (.ishr, 1) := by decide +kernel
theorem zd_15_110 : decode (zm_cc 15) 110 = .ok (.i2b, 1) := by decide +kernel
theorem zd_15_111 : decode (zm_cc 15) 111 = .ok (.bastore, 1) := by decide +kernel
theorem zd_15_112 : decode (zm_cc 15) 112 = .ok (.aload_n 0, 1) := by decide +kernel
theorem zd_15_113 : decode (zm_cc 15) 113 = .ok (.dup, 1) := by decide +kernel
theorem zd_15_114 : decode (zm_cc 15) 114 = .ok (.getfield 125, 3) := by decide +kernel
theorem zd_15_117 : decode (zm_cc 15) 117 = .ok (.iconst 1, 1) := by decide +kernel
theorem zd_15_118 : decode (zm_cc 15) 118 = .ok (.iadd, 1) := by decide +kernel
theorem zd_15_119 : decode (zm_cc 15) 119 = .ok (.putfield 125, 3) := by decide +kernel
theorem zd_15_122 : decode (zm_cc 15) 122 = .ok (.iinc 6 1, 3) := by decide +kernel
theorem zd_15_125 : decode (zm_cc 15) 125 = .ok (.goto (-91), 3) := by decide +kernel
theorem zd_15_128 : decode (zm_cc 15) 128 = .ok (.aload_n 0, 1) := by decide +kernel
theorem zd_15_129 : decode (zm_cc 15) 129 = .ok (.getfield 125, 3) := by decide +kernel
theorem zd_15_132 : decode (zm_cc 15) 132 = .ok (.ireturn, 1) := by decide +kernel
theorem zd_16_0 : decode (zm_cc 16) 0 = .ok (.aload_n 0, 1) := by decide +kernel
theorem zd_16_1 : decode (zm_cc 16) 1 = .ok (.getfield 1, 3) := by decide +kernel
theorem zd_16_4 : decode (zm_cc 16) 4 = .ok (.ireturn, 1) := by decide +kernel
theorem zd_17_0 : decode (zm_cc 17) 0 = .ok (.iload_n 1, 1) := by decide +kernel
theorem zd_17_1 : decode (zm_cc 17) 1 = .ok (.ifCond .lt 11, 3) := by decide +kernel
theorem zd_17_4 : decode (zm_cc 17) 4 = .ok (.iload_n 1, 1) := by decide +kernel
theorem zd_17_5 : decode (zm_cc 17) 5 = .ok (.aload_n 0, 1) := by decide +kernel
theorem zd_17_6 : decode (zm_cc 17) 6 = .ok (.getfield 84, 3) := by decide +kernel
theorem zd_17_9 : decode (zm_cc 17) 9 = .ok (.if_icmp .le 13, 3) := by decide +kernel
theorem zd_17_22 : decode (zm_cc 17) 22 = .ok (.aload_n 0, 1) := by decide +kernel
theorem zd_17_23 : decode (zm_cc 17) 23 = .ok (.iload_n 1, 1) := by decide +kernel
theorem zd_17_24 : decode (zm_cc 17) 24 = .ok (.putfield 84, 3) := by decide +kernel
theorem zd_17_27 : decode (zm_cc 17) 27 = .ok (.return_, 1) := by decide +kernel
theorem zd_18_0 : decode (zm_cc 18) 0 = .ok (.aload_n 0, 1) := by decide +kernel
theorem zd_18_1 : decode (zm_cc 18) 1 = .ok (.iload_n 1, 1) := by decide +kernel
theorem zd_18_2 : decode (zm_cc 18) 2 = .ok (.iconst 0, 1) := by decide +kernel
theorem zd_18_3 : decode (zm_cc 18) 3 = .ok (.aload_n 0, 1) := by decide +kernel
theorem zd_18_4 : decode (zm_cc 18) 4 = .ok (.getfield 125, 3) := by decide +kernel
theorem zd_18_7 : decode (zm_cc 18) 7 = .ok (.invokestatic 128, 3) := by decide +kernel
theorem zd_18_10 : decode (zm_cc 18) 10 = .ok (.ifCond .eq 7, 3) := by decide +kernel
theorem zd_18_13 : decode (zm_cc 18) 13 = .ok (.iconst 0, 1) := by decide +kernel
theorem zd_18_14 : decode (zm_cc 18) 14 = .ok (.goto 4, 3) := by decide +kernel
theorem zd_18_17 : decode (zm_cc 18) 17 = .ok (.iconst 1, 1) := by decide +kernel
theorem zd_18_18 : decode (zm_cc 18) 18 = .ok (.putfield 1, 3) := by decide +kernel
theorem zd_18_21 : decode (zm_cc 18) 21 = .ok (.aload_n 0, 1) := by decide +kernel
theorem zd_18_22 : decode (zm_cc 18) 22 = .ok (.aload_n 0, 1) := by decide +kernel
theorem zd_18_23 : decode (zm_cc 18) 23 = .ok (.getfield 1, 3) := by decide +kernel
theorem zd_18_26 : decode (zm_cc 18) 26 = .ok (.ifCond .le 10, 3) := by decide +kernel
theorem zd_18_29 : decode (zm_cc 18) 29 = .ok (.aload_n 0, 1) := by decide +kernel
theorem zd_18_30 : decode (zm_cc 18) 30 = .ok (.getfield 125, 3) := by decide +kernel
theorem zd_18_33 : decode (zm_cc 18) 33 = .ok (.goto 4, 3) := by decide +kernel
theorem zd_18_36 : decode (zm_cc 18) 36 = .ok (.iload_n 1, 1) := by decide +kernel
theorem zd_18_37 : decode (zm_cc 18) 37 = .ok (.putfield 125, 3) := by decide +kernel
theorem zd_18_40 : decode (zm_cc 18) 40 = .ok (.return_, 1) := by decide +kernel
theorem zd_19_0 : decode (zm_cc 19) 0 = .ok (.iload_n 0, 1) := by decide +kernel
theorem zd_19_1 : decode (zm_cc 19) 1 = .ok (.iload_n 1, 1) := by decide +kernel
theorem zd_19_2 : decode (zm_cc 19) 2 = .ok (.if_icmp .lt 12, 3) := by decide +kernel
theorem zd_19_5 : decode (zm_cc 19) 5 = .ok (.iload_n 0, 1) := by decide +kernel
theorem zd_19_6 : decode (zm_cc 19) 6 = .ok (.iload_n 2, 1) := by decide +kernel
theorem zd_19_7 : decode (zm_cc 19) 7 = .ok (.if_icmp .gt 7, 3) := by decide +kernel
theorem zd_19_10 : decode (zm_cc 19) 10 = .ok (.iconst 1, 1) := by decide +kernel
theorem zd_19_11 : decode (zm_cc 19) 11 = .ok (.goto 4, 3) := by decide +kernel
theorem zd_19_14 : decode (zm_cc 19) 14 = .ok (.iconst 0, 1) := by decide +kernel
theorem zd_19_15 : decode (zm_cc 19) 15 = .ok (.ireturn, 1) := by decide +kernel
theorem zd_20_0 : decode (zm_cc 20) 0 = .ok (.aload_n 0, 1) := by decide +kernel
theorem zd_20_1 : decode (zm_cc 20) 1 = .ok (.getfield 25, 3) := by decide +kernel
theorem zd_20_4 : decode (zm_cc 20) 4 = .ok (.aload_n 0, 1) := by decide +kernel
theorem zd_20_5 : decode (zm_cc 20) 5 = .ok (.getfield 84, 3) := by decide +kernel
theorem zd_20_8 : decode (zm_cc 20) 8 = .ok (.invokevirtual 103, 3) := by decide +kernel
theorem zd_20_11 : decode (zm_cc 20) 11 = .ok (.aload_n 0, 1) := by decide +kernel
theorem zd_20_12 : decode (zm_cc 20) 12 = .ok (.iconst 0, 1) := by decide +kernel
theorem zd_20_13 : decode (zm_cc 20) 13 = .ok (.putfield 84, 3) := by decide +kernel
theorem zd_20_16 : decode (zm_cc 20) 16 = .ok (.aload_n 0, 1) := by decide +kernel
theorem zd_20_17 : decode (zm_cc 20) 17 = .ok (.aload_n 0, 1) := by decide +kernel
theorem zd_20_18 : decode (zm_cc 20) 18 = .ok (.getfield 25, 3) := by decide +kernel
theorem zd_20_21 : decode (zm_cc 20) 21 = .ok (.getfield 106, 3) := by decide +kernel
theorem zd_20_24 : decode (zm_cc 20) 24 = .ok (.putfield 109, 3) := by decide +kernel
theorem zd_20_27 : decode (zm_cc 20) 27 = .ok (.aload_n 0, 1) := by decide +kernel
theorem zd_20_28 : decode (zm_cc 20) 28 = .ok (.aload_n 0, 1) := by decide +kernel
theorem zd_20_29 : decode (zm_cc 20) 29 = .ok (.getfield 109, 3) := by decide +kernel
theorem zd_20_32 : decode (zm_cc 20) 32 = .ok (.ifCond .ne 7, 3) := by decide +kernel
theorem zd_20_35 : decode (zm_cc 20) 35 = .ok (.iconst 1, 1) := by decide +kernel
theorem zd_20_36 : decode (zm_cc 20) 36 = .ok (.goto 4, 3) := by decide +kernel
theorem zd_20_40 : decode (zm_cc 20) 40 = .ok (.putfield 110, 3) := by decide +kernel
theorem zd_20_43 : decode (zm_cc 20) 43 = .ok (.aload_n 0, 1) := by decide +kernel
theorem zd_20_44 : decode (zm_cc 20) 44 = .ok (.iconst 0, 1) := by decide +kernel
theorem zd_20_45 : decode (zm_cc 20) 45 = .ok (.putfield 114, 3) := by decide +kernel
theorem zd_20_48 : decode (zm_cc 20) 48 = .ok (.aload_n 0, 1) := by decide +kernel
theorem zd_20_49 : decode (zm_cc 20) 49 = .ok (.iconst 0, 1) := by decide +kernel
theorem zd_20_50 : decode (zm_cc 20) 50 = .ok (.putfield 117, 3) := by decide +kernel
theorem zd_20_53 : decode (zm_cc 20) 53 = .ok (.aload_n 0, 1) := by decide +kernel
theorem zd_20_54 : decode (zm_cc 20) 54 = .ok (.iconst (-1), 1) := by decide +kernel
theorem zd_20_55 : decode (zm_cc 20) 55 = .ok (.putfield 80, 3) := by decide +kernel
theorem zd_20_58 : decode (zm_cc 20) 58 = .ok (.aload_n 0, 1) := by decide +kernel
theorem zd_20_59 : decode (zm_cc 20) 59 = .ok (.getfield 73, 3) := by decide +kernel
theorem zd_20_62 : decode (zm_cc 20) 62 = .ok (.invokevirtual 120, 3) := by decide +kernel
theorem zd_20_65 : decode (zm_cc 20) 65 = .ok (.aload_n 0, 1) := by decide +kernel
theorem zd_20_66 : decode (zm_cc 20) 66 = .ok (.getfield 66, 3) := by decide +kernel
theorem zd_20_69 : decode (zm_cc 20) 69 = .ok (.iconst (-1), 1) := by decide +kernel
theorem zd_20_70 : decode (zm_cc 20) 70 = .ok (.invokestatic 123, 3) := by decide +kernel
theorem zd_20_73 : decode (zm_cc 20) 73 = .ok (.aload_n 0, 1) := by decide +kernel
theorem zd_20_74 : decode (zm_cc 20) 74 = .ok (.getfield 110, 3) := by decide +kernel
theorem zd_20_77 : decode (zm_cc 20) 77 = .ok (.ifCond .eq 13, 3) := by decide +kernel
theorem zd_20_80 : decode (zm_cc 20) 80 = .ok (.aload_n 0, 1) := by decide +kernel
theorem zd_20_81 : decode (zm_cc 20) 81 = .ok (.getfield 16, 3) := by decide +kernel
theorem zd_20_84 : decode (zm_cc 20) 84 = .ok (.getfield 129, 3) := by decide +kernel
theorem zd_20_87 : decode (zm_cc 20) 87 = .ok (.goto 14, 3) := by decide +kernel
theorem zd_20_101 : decode (zm_cc 20) 101 = .ok (.ireturn, 1) := by decide +kernel
theorem zd_21_0 : decode (zm_cc 21) 0 = .ok (.aload_n 0, 1) := by decide +kernel
theorem zd_21_1 : decode (zm_cc 21) 1 = .ok (.iconst 0, 1) := by decide +kernel
theorem zd_21_2 : decode (zm_cc 21) 2 = .ok (.putfield 48, 3) := by decide +kernel
theorem zd_21_5 : decode (zm_cc 21) 5 = .ok (.aload_n 0, 1) := by decide +kernel
theorem zd_21_6 : decode (zm_cc 21) 6 = .ok (.iconst 0, 1) := by decide +kernel
theorem zd_21_7 : decode (zm_cc 21) 7 = .ok (.putfield 52, 3) := by decide +kernel
theorem zd_21_10 : decode (zm_cc 21) 10 = .ok (.aload_n 0, 1) := by decide +kernel
theorem zd_21_11 : decode (zm_cc 21) 11 = .ok (.getfield 26, 3) := by decide +kernel
theorem zd_21_14 : decode (zm_cc 21) 14 = .ok (.invokevirtual 55, 3) := by decide +kernel
theorem zd_21_17 : decode (zm_cc 21) 17 = .ok (.aload_n 0, 1) := by decide +kernel
theorem zd_21_18 : decode (zm_cc 21) 18 = .ok (.getfield 12, 3) := by decide +kernel
theorem zd_21_21 : decode (zm_cc 21) 21 = .ok (.invokevirtual 60, 3) := by decide +kernel
theorem zd_21_24 : decode (zm_cc 21) 24 = .ok (.aload_n 0, 1) := by decide +kernel
theorem zd_21_25 : decode (zm_cc 21) 25 = .ok (.getfield 44, 3) := by decide +kernel
theorem zd_21_28 : decode (zm_cc 21) 28 = .ok (.iconst 0, 1) := by decide +kernel
theorem zd_21_29 : decode (zm_cc 21) 29 = .ok (.invokevirtual 61, 3) := by decide +kernel
theorem zd_21_32 : decode (zm_cc 21) 32 = .ok (.aload_n 0, 1) := by decide +kernel
theorem zd_21_33 : decode (zm_cc 21) 33 = .ok (.getfield 35, 3) := by decide +kernel
theorem zd_21_36 : decode (zm_cc 21) 36 = .ok (.iload_n 1, 1) := by decide +kernel
theorem zd_21_37 : decode (zm_cc 21) 37 = .ok (.invokevirtual 65, 3) := by decide +kernel
theorem zd_21_40 : decode (zm_cc 21) 40 = .ok (.iconst 0, 1) := by decide +kernel
theorem zd_21_41 : decode (zm_cc 21) 41 = .ok (.istore_n 2, 1) := by decide +kernel
theorem zd_21_42 : decode (zm_cc 21) 42 = .ok (.iload_n 2, 1) := by decide +kernel
theorem zd_21_43 : decode (zm_cc 21) 43 = .ok (.sipush 1500, 3) := by decide +kernel
theorem zd_21_46 : decode (zm_cc 21) 46 = .ok (.if_icmp .gt 47, 3) := by decide +kernel
theorem zd_21_49 : decode (zm_cc 21) 49 = .ok (.aload_n 0, 1) := by decide +kernel
theorem zd_21_50 : decode (zm_cc 21) 50 = .ok (.getfield 48, 3) := by decide +kernel
theorem zd_21_53 : decode (zm_cc 21) 53 = .ok (.ifCond .ne 40, 3) := by decide +kernel
theorem zd_21_56 : decode (zm_cc 21) 56 = .ok (.aload_n 0, 1) := by decide +kernel
theorem zd_21_57 : decode (zm_cc 21) 57 = .ok (.getfield 44, 3) := by decide +kernel
theorem zd_21_60 : decode (zm_cc 21) 60 = .ok (.getfield 68, 3) := by decide +kernel
theorem zd_21_63 : decode (zm_cc 21) 63 = .ok (.ifCond .le 10, 3) := by decide +kernel
theorem zd_21_73 : decode (zm_cc 21) 73 = .ok (.aload_n 0, 1) := by decide +kernel
theorem zd_21_74 : decode (zm_cc 21) 74 = .ok (.getfield 35, 3) := by decide +kernel
theorem zd_21_77 : decode (zm_cc 21) 77 = .ok (.getfield 74, 3) := by decide +kernel
theorem zd_21_80 : decode (zm_cc 21) 80 = .ok (.ifCond .eq 13, 3) := by decide +kernel
theorem zd_21_93 : decode (zm_cc 21) 93 = .ok (.iconst 0, 1) := by decide +kernel
theorem zd_21_94 : decode (zm_cc 21) 94 = .ok (.istore_n 2, 1) := by decide +kernel
theorem zd_21_95 : decode (zm_cc 21) 95 = .ok (.iload_n 2, 1) := by decide +kernel
theorem zd_21_96 : decode (zm_cc 21) 96 = .ok (.bipush 96, 2) := by decide +kernel
theorem zd_21_98 : decode (zm_cc 21) 98 = .ok (.if_icmp .ge 21, 3) := by decide +kernel
theorem zd_21_101 : decode (zm_cc 21) 101 = .ok (.aload_n 0, 1) := by decide +kernel
theorem zd_21_102 : decode (zm_cc 21) 102 = .ok (.getfield 48, 3) := by decide +kernel
theorem zd_21_105 : decode (zm_cc 21) 105 = .ok (.ifCond .ne 14, 3) := by decide +kernel
theorem zd_21_108 : decode (zm_cc 21) 108 = .ok (.aload_n 0, 1) := by decide +kernel
theorem zd_21_109 : decode (zm_cc 21) 109 = .ok (.iload_n 2, 1) := by decide +kernel
theorem zd_21_110 : decode (zm_cc 21) 110 = .ok (.invokevirtual 80, 3) := by decide +kernel
theorem zd_21_113 : decode (zm_cc 21) 113 = .ok (.iinc 2 1, 3) := by decide +kernel
theorem zd_21_116 : decode (zm_cc 21) 116 = .ok (.goto (-21), 3) := by decide +kernel
theorem zd_21_119 : decode (zm_cc 21) 119 = .ok (.return_, 1) := by decide +kernel
theorem zd_22_0 : decode (zm_cc 22) 0 = .ok (.aload_n 0, 1) := by decide +kernel
theorem zd_22_1 : decode (zm_cc 22) 1 = .ok (.iconst 0, 1) := by decide +kernel
theorem zd_22_2 : decode (zm_cc 22) 2 = .ok (.putfield 48, 3) := by decide +kernel
theorem zd_22_5 : decode (zm_cc 22) 5 = .ok (.aload_n 0, 1) := by decide +kernel
theorem zd_22_6 : decode (zm_cc 22) 6 = .ok (.iconst 0, 1) := by decide +kernel
theorem zd_22_7 : decode (zm_cc 22) 7 = .ok (.putfield 52, 3) := by decide +kernel
theorem zd_22_10 : decode (zm_cc 22) 10 = .ok (.aload_n 0, 1) := by decide +kernel
theorem zd_22_11 : decode (zm_cc 22) 11 = .ok (.iconst 0, 1) := by decide +kernel
theorem zd_22_12 : decode (zm_cc 22) 12 = .ok (.putfield 55, 3) := by decide +kernel
theorem zd_22_15 : decode (zm_cc 22) 15 = .ok (.aload_n 0, 1) := by decide +kernel
theorem zd_22_16 : decode (zm_cc 22) 16 = .ok (.iconst 0, 1) := by decide +kernel
theorem zd_22_17 : decode (zm_cc 22) 17 = .ok (.putfield 58, 3) := by decide +kernel
theorem zd_22_20 : decode (zm_cc 22) 20 = .ok (.aload_n 0, 1) := by decide +kernel
theorem zd_22_21 : decode (zm_cc 22) 21 = .ok (.iconst 0, 1) := by decide +kernel
theorem zd_22_22 : decode (zm_cc 22) 22 = .ok (.putfield 61, 3) := by decide +kernel
theorem zd_22_25 : decode (zm_cc 22) 25 = .ok (.aload_n 0, 1) := by decide +kernel
theorem zd_22_26 : decode (zm_cc 22) 26 = .ok (.iconst 0, 1) := by decide +kernel
theorem zd_22_27 : decode (zm_cc 22) 27 = .ok (.putfield 64, 3) := by decide +kernel
theorem zd_22_30 : decode (zm_cc 22) 30 = .ok (.aload_n 0, 1) := by decide +kernel
theorem zd_22_31 : decode (zm_cc 22) 31 = .ok (.iconst 0, 1) := by decide +kernel
theorem zd_22_32 : decode (zm_cc 22) 32 = .ok (.putfield 67, 3) := by decide +kernel
theorem zd_22_35 : decode (zm_cc 22) 35 = .ok (.aload_n 0, 1) := by decide +kernel
theorem zd_22_36 : decode (zm_cc 22) 36 = .ok (.getfield 9, 3) := by decide +kernel
theorem zd_22_39 : decode (zm_cc 22) 39 = .ok (.iconst 0, 1) := by decide +kernel
theorem zd_22_40 : decode (zm_cc 22) 40 = .ok (.invokestatic 70, 3) := by decide +kernel
theorem zd_22_43 : decode (zm_cc 22) 43 = .ok (.aload_n 0, 1) := by decide +kernel
theorem zd_22_44 : decode (zm_cc 22) 44 = .ok (.getfield 15, 3) := by decide +kernel
theorem zd_22_47 : decode (zm_cc 22) 47 = .ok (.iconst 0, 1) := by decide +kernel
theorem zd_22_48 : decode (zm_cc 22) 48 = .ok (.invokestatic 70, 3) := by decide +kernel
theorem zd_22_51 : decode (zm_cc 22) 51 = .ok (.return_, 1) := by decide +kernel
theorem zd_23_0 : decode (zm_cc 23) 0 = .ok (.iconst 0, 1) := by decide +kernel
theorem zd_23_1 : decode (zm_cc 23) 1 = .ok (.istore_n 2, 1) := by decide +kernel
theorem zd_23_2 : decode (zm_cc 23) 2 = .ok (.aload_n 0, 1) := by decide +kernel
theorem zd_23_3 : decode (zm_cc 23) 3 = .ok (.arraylength, 1) := by decide +kernel
theorem zd_23_4 : decode (zm_cc 23) 4 = .ok (.istore_n 3, 1) := by decide +kernel
theorem zd_23_5 : decode (zm_cc 23) 5 = .ok (.iload_n 2, 1) := by decide +kernel
theorem zd_23_6 : decode (zm_cc 23) 6 = .ok (.iload_n 3, 1) := by decide +kernel
theorem zd_23_7 : decode (zm_cc 23) 7 = .ok (.if_icmp .ge 13, 3) := by decide +kernel
theorem zd_23_10 : decode (zm_cc 23) 10 = .ok (.aload_n 0, 1) := by decide +kernel
theorem zd_23_11 : decode (zm_cc 23) 11 = .ok (.iload_n 2, 1) := by decide +kernel
theorem zd_23_12 : decode (zm_cc 23) 12 = .ok (.iload_n 1, 1) := by decide +kernel
theorem zd_23_13 : decode (zm_cc 23) 13 = .ok (.iastore, 1) := by decide +kernel
theorem zd_23_14 : decode (zm_cc 23) 14 = .ok (.iinc 2 1, 3) := by decide +kernel
theorem zd_23_17 : decode (zm_cc 23) 17 = .ok (.goto (-12), 3) := by decide +kernel
theorem zd_23_20 : decode (zm_cc 23) 20 = .ok (.return_, 1) := by decide +kernel
theorem zd_24_0 : decode (zm_cc 24) 0 = .ok (.aload_n 0, 1) := by decide +kernel
theorem zd_24_1 : decode (zm_cc 24) 1 = .ok (.iconst 0, 1) := by decide +kernel
theorem zd_24_2 : decode (zm_cc 24) 2 = .ok (.putfield 25, 3) := by decide +kernel
theorem zd_24_5 : decode (zm_cc 24) 5 = .ok (.aload_n 0, 1) := by decide +kernel
theorem zd_24_6 : decode (zm_cc 24) 6 = .ok (.iconst 0, 1) := by decide +kernel
theorem zd_24_7 : decode (zm_cc 24) 7 = .ok (.putfield 29, 3) := by decide +kernel
theorem zd_24_10 : decode (zm_cc 24) 10 = .ok (.return_, 1) := by decide +kernel
theorem zd_25_0 : decode (zm_cc 25) 0 = .ok (.aload_n 0, 1) := by decide +kernel
theorem zd_25_1 : decode (zm_cc 25) 1 = .ok (.iload_n 1, 1) := by decide +kernel
theorem zd_25_2 : decode (zm_cc 25) 2 = .ok (.putfield 31, 3) := by decide +kernel
theorem zd_25_5 : decode (zm_cc 25) 5 = .ok (.aload_n 0, 1) := by decide +kernel
theorem zd_25_6 : decode (zm_cc 25) 6 = .ok (.iconst 0, 1) := by decide +kernel
theorem zd_25_7 : decode (zm_cc 25) 7 = .ok (.putfield 35, 3) := by decide +kernel
theorem zd_25_10 : decode (zm_cc 25) 10 = .ok (.aload_n 0, 1) := by decide +kernel
theorem zd_25_11 : decode (zm_cc 25) 11 = .ok (.iconst (-1), 1) := by decide +kernel
theorem zd_25_12 : decode (zm_cc 25) 12 = .ok (.putfield 38, 3) := by decide +kernel
theorem zd_25_15 : decode (zm_cc 25) 15 = .ok (.aload_n 0, 1) := by decide +kernel
theorem zd_25_16 : decode (zm_cc 25) 16 = .ok (.iconst 0, 1) := by decide +kernel
theorem zd_25_17 : decode (zm_cc 25) 17 = .ok (.putfield 41, 3) := by decide +kernel
theorem zd_25_20 : decode (zm_cc 25) 20 = .ok (.aload_n 0, 1) := by decide +kernel
theorem zd_25_21 : decode (zm_cc 25) 21 = .ok (.iconst 0, 1) := by decide +kernel
theorem zd_25_22 : decode (zm_cc 25) 22 = .ok (.putfield 44, 3) := by decide +kernel
theorem zd_25_25 : decode (zm_cc 25) 25 = .ok (.aload_n 0, 1) := by decide +kernel
theorem zd_25_26 : decode (zm_cc 25) 26 = .ok (.iconst 0, 1) := by decide +kernel
theorem zd_25_27 : decode (zm_cc 25) 27 = .ok (.putfield 47, 3) := by decide +kernel
theorem zd_25_30 : decode (zm_cc 25) 30 = .ok (.aload_n 0, 1) := by decide +kernel
theorem zd_25_31 : decode (zm_cc 25) 31 = .ok (.iconst (-1), 1) := by decide +kernel
theorem zd_25_32 : decode (zm_cc 25) 32 = .ok (.putfield 50, 3) := by decide +kernel
theorem zd_25_35 : decode (zm_cc 25) 35 = .ok (.return_, 1) := by decide +kernel
theorem zd_26_0 : decode (zm_cc 26) 0 = .ok (.aload_n 0, 1) := by decide +kernel
theorem zd_26_1 : decode (zm_cc 26) 1 = .ok (.iload_n 1, 1) := by decide +kernel
theorem zd_26_2 : decode (zm_cc 26) 2 = .ok (.putfield 26, 3) := by decide +kernel
theorem zd_26_5 : decode (zm_cc 26) 5 = .ok (.aload_n 0, 1) := by decide +kernel
theorem zd_26_6 : decode (zm_cc 26) 6 = .ok (.iconst 0, 1) := by decide +kernel
theorem zd_26_7 : decode (zm_cc 26) 7 = .ok (.putfield 30, 3) := by decide +kernel
theorem zd_26_10 : decode (zm_cc 26) 10 = .ok (.iconst 0, 1) := by decide +kernel
theorem zd_26_11 : decode (zm_cc 26) 11 = .ok (.istore_n 2, 1) := by decide +kernel
theorem zd_26_12 : decode (zm_cc 26) 12 = .ok (.aload_n 0, 1) := by decide +kernel
theorem zd_26_13 : decode (zm_cc 26) 13 = .ok (.iconst 3, 1) := by decide +kernel
theorem zd_26_14 : decode (zm_cc 26) 14 = .ok (.putfield 33, 3) := by decide +kernel
theorem zd_26_17 : decode (zm_cc 26) 17 = .ok (.iconst 0, 1) := by decide +kernel
theorem zd_26_18 : decode (zm_cc 26) 18 = .ok (.istore_n 3, 1) := by decide +kernel
theorem zd_26_19 : decode (zm_cc 26) 19 = .ok (.iload_n 3, 1) := by decide +kernel
theorem zd_26_20 : decode (zm_cc 26) 20 = .ok (.sipush 1500, 3) := by decide +kernel
theorem zd_26_23 : decode (zm_cc 26) 23 = .ok (.if_icmp .gt 70, 3) := by decide +kernel
theorem zd_26_26 : decode (zm_cc 26) 26 = .ok (.aload_n 0, 1) := by decide +kernel
theorem zd_26_27 : decode (zm_cc 26) 27 = .ok (.getfield 33, 3) := by decide +kernel
theorem zd_26_30 : decode (zm_cc 26) 30 = .ok (.ifCond .eq 63, 3) := by decide +kernel
theorem zd_26_33 : decode (zm_cc 26) 33 = .ok (.aload_n 0, 1) := by decide +kernel
theorem zd_26_34 : decode (zm_cc 26) 34 = .ok (.getfield 33, 3) := by decide +kernel
theorem zd_26_37 : decode (zm_cc 26) 37 = .ok (.iconst 1, 1) := by decide +kernel
theorem zd_26_38 : decode (zm_cc 26) 38 = .ok (.if_icmp .eq 55, 3) := by decide +kernel
theorem zd_26_41 : decode (zm_cc 26) 41 = .ok (.aload_n 0, 1) := by decide +kernel
theorem zd_26_42 : decode (zm_cc 26) 42 = .ok (.iload_n 2, 1) := by decide +kernel
theorem zd_26_43 : decode (zm_cc 26) 43 = .ok (.invokevirtual 36, 3) := by decide +kernel
theorem zd_26_46 : decode (zm_cc 26) 46 = .ok (.istore_n 2, 1) := by decide +kernel
theorem zd_26_47 : decode (zm_cc 26) 47 = .ok (.aload_n 0, 1) := by decide +kernel
theorem zd_26_48 : decode (zm_cc 26) 48 = .ok (.getfield 9, 3) := by decide +kernel
theorem zd_26_51 : decode (zm_cc 26) 51 = .ok (.iload_n 3, 1) := by decide +kernel
theorem zd_26_52 : decode (zm_cc 26) 52 = .ok (.aload_n 0, 1) := by decide +kernel
theorem zd_26_53 : decode (zm_cc 26) 53 = .ok (.getfield 33, 3) := by decide +kernel
theorem zd_26_56 : decode (zm_cc 26) 56 = .ok (.iastore, 1) := by decide +kernel
theorem zd_26_57 : decode (zm_cc 26) 57 = .ok (.aload_n 0, 1) := by decide +kernel
theorem zd_26_58 : decode (zm_cc 26) 58 = .ok (.getfield 15, 3) := by decide +kernel
theorem zd_26_61 : decode (zm_cc 26) 61 = .ok (.iload_n 3, 1) := by decide +kernel
theorem zd_26_62 : decode (zm_cc 26) 62 = .ok (.aload_n 0, 1) := by decide +kernel
theorem zd_26_63 : decode (zm_cc 26) 63 = .ok (.getfield 40, 3) := by decide +kernel
theorem zd_26_66 : decode (zm_cc 26) 66 = .ok (.iastore, 1) := by decide +kernel
theorem zd_26_67 : decode (zm_cc 26) 67 = .ok (.aload_n 0, 1) := by decide +kernel
theorem zd_26_68 : decode (zm_cc 26) 68 = .ok (.getfield 18, 3) := by decide +kernel
theorem zd_26_71 : decode (zm_cc 26) 71 = .ok (.iload_n 3, 1) := by decide +kernel
theorem zd_26_72 : decode (zm_cc 26) 72 = .ok (.aload_n 0, 1) := by decide +kernel
theorem zd_26_73 : decode (zm_cc 26) 73 = .ok (.getfield 43, 3) := by decide +kernel
theorem zd_26_76 : decode (zm_cc 26) 76 = .ok (.lastore, 1) := by decide +kernel
theorem zd_26_77 : decode (zm_cc 26) 77 = .ok (.aload_n 0, 1) := by decide +kernel
theorem zd_26_78 : decode (zm_cc 26) 78 = .ok (.dup, 1) := by decide +kernel
theorem zd_26_79 : decode (zm_cc 26) 79 = .ok (.getfield 30, 3) := by decide +kernel
theorem zd_26_82 : decode (zm_cc 26) 82 = .ok (.iconst 1, 1) := by decide +kernel
theorem zd_26_83 : decode (zm_cc 26) 83 = .ok (.iadd, 1) := by decide +kernel
theorem zd_26_84 : decode (zm_cc 26) 84 = .ok (.putfield 30, 3) := by decide +kernel
theorem zd_26_87 : decode (zm_cc 26) 87 = .ok (.iinc 3 1, 3) := by decide +kernel
theorem zd_26_90 : decode (zm_cc 26) 90 = .ok (.goto (-71), 3) := by decide +kernel
theorem zd_26_93 : decode (zm_cc 26) 93 = .ok (.aload_n 0, 1) := by decide +kernel
theorem zd_26_94 : decode (zm_cc 26) 94 = .ok (.iconst (-1), 1) := by decide +kernel
theorem zd_26_95 : decode (zm_cc 26) 95 = .ok (.putfield 47, 3) := by decide +kernel
theorem zd_26_98 : decode (zm_cc 26) 98 = .ok (.aload_n 0, 1) := by decide +kernel
theorem zd_26_99 : decode (zm_cc 26) 99 = .ok (.invokevirtual 50, 3) := by decide +kernel
theorem zd_26_102 : decode (zm_cc 26) 102 = .ok (.return_, 1) := by decide +kernel
theorem zd_27_0 : decode (zm_cc 27) 0 = .ok (.aload_n 0, 1) := by decide +kernel
theorem zd_27_1 : decode (zm_cc 27) 1 = .ok (.iload_n 1, 1) := by decide +kernel
theorem zd_27_2 : decode (zm_cc 27) 2 = .ok (.putfield 40, 3) := by decide +kernel
theorem zd_27_5 : decode (zm_cc 27) 5 = .ok (.aload_n 0, 1) := by decide +kernel
theorem zd_27_6 : decode (zm_cc 27) 6 = .ok (.getfield 40, 3) := by decide +kernel
theorem zd_27_9 : decode (zm_cc 27) 9 = .ok (.aload_n 0, 1) := by decide +kernel
theorem zd_27_10 : decode (zm_cc 27) 10 = .ok (.getfield 26, 3) := by decide +kernel
theorem zd_27_13 : decode (zm_cc 27) 13 = .ok (.if_icmp .ge 30, 3) := by decide +kernel
theorem zd_27_43 : decode (zm_cc 27) 43 = .ok (.aload_n 0, 1) := by decide +kernel
theorem zd_27_44 : decode (zm_cc 27) 44 = .ok (.aload_n 0, 1) := by decide +kernel
theorem zd_27_45 : decode (zm_cc 27) 45 = .ok (.getfield 40, 3) := by decide +kernel
theorem zd_27_48 : decode (zm_cc 27) 48 = .ok (.invokevirtual 53, 3) := by decide +kernel
theorem zd_27_51 : decode (zm_cc 27) 51 = .ok (.istore_n 2, 1) := by decide +kernel
theorem zd_27_52 : decode (zm_cc 27) 52 = .ok (.aload_n 0, 1) := by decide +kernel
theorem zd_27_53 : decode (zm_cc 27) 53 = .ok (.lconst 0, 1) := by decide +kernel
theorem zd_27_54 : decode (zm_cc 27) 54 = .ok (.putfield 43, 3) := by decide +kernel
theorem zd_27_57 : decode (zm_cc 27) 57 = .ok (.iload_n 2, 1) := by decide +kernel
theorem zd_27_58 : decode (zm_cc 27) 58 = .ok (.iconst (-1), 1) := by decide +kernel
theorem zd_27_59 : decode (zm_cc 27) 59 = .ok (.if_icmp .ne 13, 3) := by decide +kernel
theorem zd_27_62 : decode (zm_cc 27) 62 = .ok (.aload_n 0, 1) := by decide +kernel
theorem zd_27_63 : decode (zm_cc 27) 63 = .ok (.iconst 0, 1) := by decide +kernel
theorem zd_27_64 : decode (zm_cc 27) 64 = .ok (.putfield 33, 3) := by decide +kernel
theorem zd_27_67 : decode (zm_cc 27) 67 = .ok (.aload_n 0, 1) := by decide +kernel
theorem zd_27_68 : decode (zm_cc 27) 68 = .ok (.getfield 40, 3) := by decide +kernel
theorem zd_27_71 : decode (zm_cc 27) 71 = .ok (.ireturn, 1) := by decide +kernel
theorem zd_28_0 : decode (zm_cc 28) 0 = .ok (.iload_n 1, 1) := by decide +kernel
theorem zd_28_1 : decode (zm_cc 28) 1 = .ok (.ifCond .lt 20, 3) := by decide +kernel
theorem zd_28_4 : decode (zm_cc 28) 4 = .ok (.iload_n 1, 1) := by decide +kernel
theorem zd_28_5 : decode (zm_cc 28) 5 = .ok (.aload_n 0, 1) := by decide +kernel
theorem zd_28_6 : decode (zm_cc 28) 6 = .ok (.getfield 26, 3) := by decide +kernel
theorem zd_28_9 : decode (zm_cc 28) 9 = .ok (.if_icmp .ge 12, 3) := by decide +kernel
theorem zd_28_21 : decode (zm_cc 28) 21 = .ok (.iconst (-1), 1) := by decide +kernel
theorem zd_28_22 : decode (zm_cc 28) 22 = .ok (.goto 13, 3) := by decide +kernel
theorem zd_28_35 : decode (zm_cc 28) 35 = .ok (.ireturn, 1) := by decide +kernel
theorem zd_35_0 : decode (zm_cc 35) 0 = .ok (.aload_n 0, 1) := by decide +kernel
theorem zd_35_1 : decode (zm_cc 35) 1 = .ok (.getfield 47, 3) := by decide +kernel
theorem zd_35_4 : decode (zm_cc 35) 4 = .ok (.aload_n 0, 1) := by decide +kernel
theorem zd_35_5 : decode (zm_cc 35) 5 = .ok (.getfield 30, 3) := by decide +kernel
theorem zd_35_8 : decode (zm_cc 35) 8 = .ok (.iconst 1, 1) := by decide +kernel
theorem zd_35_9 : decode (zm_cc 35) 9 = .ok (.isub, 1) := by decide +kernel
theorem zd_35_10 : decode (zm_cc 35) 10 = .ok (.if_icmp .ge 23, 3) := by decide +kernel
theorem zd_35_13 : decode (zm_cc 35) 13 = .ok (.aload_n 0, 1) := by decide +kernel
theorem zd_35_14 : decode (zm_cc 35) 14 = .ok (.getfield 47, 3) := by decide +kernel
theorem zd_35_17 : decode (zm_cc 35) 17 = .ok (.sipush 1500, 3) := by decide +kernel
theorem zd_35_20 : decode (zm_cc 35) 20 = .ok (.if_icmp .ge 13, 3) := by decide +kernel
theorem zd_35_23 : decode (zm_cc 35) 23 = .ok (.aload_n 0, 1) := by decide +kernel
theorem zd_35_24 : decode (zm_cc 35) 24 = .ok (.dup, 1) := by decide +kernel
theorem zd_35_25 : decode (zm_cc 35) 25 = .ok (.getfield 47, 3) := by decide +kernel
theorem zd_35_28 : decode (zm_cc 35) 28 = .ok (.iconst 1, 1) := by decide +kernel
theorem zd_35_29 : decode (zm_cc 35) 29 = .ok (.iadd, 1) := by decide +kernel
theorem zd_35_30 : decode (zm_cc 35) 30 = .ok (.putfield 47, 3) := by decide +kernel
theorem zd_35_33 : decode (zm_cc 35) 33 = .ok (.aload_n 0, 1) := by decide +kernel
theorem zd_35_34 : decode (zm_cc 35) 34 = .ok (.getfield 47, 3) := by decide +kernel
theorem zd_35_37 : decode (zm_cc 35) 37 = .ok (.ifCond .lt 52, 3) := by decide +kernel
theorem zd_35_40 : decode (zm_cc 35) 40 = .ok (.aload_n 0, 1) := by decide +kernel
theorem zd_35_41 : decode (zm_cc 35) 41 = .ok (.getfield 47, 3) := by decide +kernel
theorem zd_35_44 : decode (zm_cc 35) 44 = .ok (.sipush 1500, 3) := by decide +kernel
theorem zd_35_47 : decode (zm_cc 35) 47 = .ok (.if_icmp .gt 42, 3) := by decide +kernel
theorem zd_35_50 : decode (zm_cc 35) 50 = .ok (.aload_n 0, 1) := by decide +kernel
theorem zd_35_51 : decode (zm_cc 35) 51 = .ok (.aload_n 0, 1) := by decide +kernel
theorem zd_35_52 : decode (zm_cc 35) 52 = .ok (.getfield 9, 3) := by decide +kernel
theorem zd_35_55 : decode (zm_cc 35) 55 = .ok (.aload_n 0, 1) := by decide +kernel
theorem zd_35_56 : decode (zm_cc 35) 56 = .ok (.getfield 47, 3) := by decide +kernel
theorem zd_35_59 : decode (zm_cc 35) 59 = .ok (.iaload, 1) := by decide +kernel
theorem zd_35_60 : decode (zm_cc 35) 60 = .ok (.putfield 33, 3) := by decide +kernel
theorem zd_35_63 : decode (zm_cc 35) 63 = .ok (.aload_n 0, 1) := by decide +kernel
theorem zd_35_64 : decode (zm_cc 35) 64 = .ok (.aload_n 0, 1) := by decide +kernel
theorem zd_35_65 : decode (zm_cc 35) 65 = .ok (.getfield 15, 3) := by decide +kernel
theorem zd_35_68 : decode (zm_cc 35) 68 = .ok (.aload_n 0, 1) := by decide +kernel
theorem zd_35_69 : decode (zm_cc 35) 69 = .ok (.getfield 47, 3) := by decide +kernel
theorem zd_35_72 : decode (zm_cc 35) 72 = .ok (.iaload, 1) := by decide +kernel
theorem zd_35_73 : decode (zm_cc 35) 73 = .ok (.putfield 40, 3) := by decide +kernel
theorem zd_35_76 : decode (zm_cc 35) 76 = .ok (.aload_n 0, 1) := by decide +kernel
theorem zd_35_77 : decode (zm_cc 35) 77 = .ok (.aload_n 0, 1) := by decide +kernel
theorem zd_35_78 : decode (zm_cc 35) 78 = .ok (.getfield 18, 3) := by decide +kernel
theorem zd_35_81 : decode (zm_cc 35) 81 = .ok (.aload_n 0, 1) := by decide +kernel
theorem zd_35_82 : decode (zm_cc 35) 82 = .ok (.getfield 47, 3) := by decide +kernel
theorem zd_35_85 : decode (zm_cc 35) 85 = .ok (.laload, 1) := by decide +kernel
theorem zd_35_86 : decode (zm_cc 35) 86 = .ok (.putfield 43, 3) := by decide +kernel
theorem zd_35_89 : decode (zm_cc 35) 89 = .ok (.return_, 1) := by decide +kernel
theorem zd_48_0 : decode (zm_cc 48) 0 = .ok (.iload_n 1, 1) := by decide +kernel
theorem zd_48_1 : decode (zm_cc 48) 1 = .ok (.ifCond .lt 32, 3) := by decide +kernel
theorem zd_48_4 : decode (zm_cc 48) 4 = .ok (.iload_n 1, 1) := by decide +kernel
theorem zd_48_5 : decode (zm_cc 48) 5 = .ok (.iconst 4, 1) := by decide +kernel
theorem zd_48_6 : decode (zm_cc 48) 6 = .ok (.if_icmp .ge 27, 3) := by decide +kernel
theorem zd_48_9 : decode (zm_cc 48) 9 = .ok (.iload_n 2, 1) := by decide +kernel
theorem zd_48_10 : decode (zm_cc 48) 10 = .ok (.ifCond .lt 23, 3) := by decide +kernel
theorem zd_48_13 : decode (zm_cc 48) 13 = .ok (.iload_n 2, 1) := by decide +kernel
theorem zd_48_14 : decode (zm_cc 48) 14 = .ok (.bipush 24, 2) := by decide +kernel
theorem zd_48_16 : decode (zm_cc 48) 16 = .ok (.if_icmp .ge 17, 3) := by decide +kernel
theorem zd_48_19 : decode (zm_cc 48) 19 = .ok (.iload_n 2, 1) := by decide +kernel
theorem zd_48_20 : decode (zm_cc 48) 20 = .ok (.aload_n 0, 1) := by decide +kernel
theorem zd_48_21 : decode (zm_cc 48) 21 = .ok (.getfield 9, 3) := by decide +kernel
theorem zd_48_24 : decode (zm_cc 48) 24 = .ok (.iload_n 1, 1) := by decide +kernel
theorem zd_48_25 : decode (zm_cc 48) 25 = .ok (.iaload, 1) := by decide +kernel
theorem zd_48_26 : decode (zm_cc 48) 26 = .ok (.if_icmp .ge 7, 3) := by decide +kernel
theorem zd_48_33 : decode (zm_cc 48) 33 = .ok (.iconst 0, 1) := by decide +kernel
theorem zd_48_34 : decode (zm_cc 48) 34 = .ok (.istore_n 3, 1) := by decide +kernel
theorem zd_48_35 : decode (zm_cc 48) 35 = .ok (.iload_n 3, 1) := by decide +kernel
theorem zd_48_36 : decode (zm_cc 48) 36 = .ok (.ifCond .eq 12, 3) := by decide +kernel
theorem zd_48_48 : decode (zm_cc 48) 48 = .ok (.bipush 96, 2) := by decide +kernel
theorem zd_48_50 : decode (zm_cc 48) 50 = .ok (.ireturn, 1) := by decide +kernel
theorem zd_83_0 : decode (zm_cc 83) 0 = .ok (.aload_n 0, 1) := by decide +kernel
theorem zd_83_1 : decode (zm_cc 83) 1 = .ok (.getfield 26, 3) := by decide +kernel
theorem zd_83_4 : decode (zm_cc 83) 4 = .ok (.iload_n 1, 1) := by decide +kernel
theorem zd_83_5 : decode (zm_cc 83) 5 = .ok (.bipush 24, 2) := by decide +kernel
theorem zd_83_7 : decode (zm_cc 83) 7 = .ok (.idiv, 1) := by decide +kernel
theorem zd_83_8 : decode (zm_cc 83) 8 = .ok (.iload_n 1, 1) := by decide +kernel
theorem zd_83_9 : decode (zm_cc 83) 9 = .ok (.bipush 24, 2) := by decide +kernel
theorem zd_83_11 : decode (zm_cc 83) 11 = .ok (.irem, 1) := by decide +kernel
theorem zd_83_12 : decode (zm_cc 83) 12 = .ok (.invokevirtual 239, 3) := by decide +kernel
theorem zd_83_15 : decode (zm_cc 83) 15 = .ok (.istore_n 2, 1) := by decide +kernel
theorem zd_83_16 : decode (zm_cc 83) 16 = .ok (.aload_n 0, 1) := by decide +kernel
theorem zd_83_17 : decode (zm_cc 83) 17 = .ok (.getfield 26, 3) := by decide +kernel
theorem zd_83_20 : decode (zm_cc 83) 20 = .ok (.getfield 243, 3) := by decide +kernel
theorem zd_83_23 : decode (zm_cc 83) 23 = .ok (.iload_n 2, 1) := by decide +kernel
theorem zd_83_24 : decode (zm_cc 83) 24 = .ok (.iaload, 1) := by decide +kernel
theorem zd_83_25 : decode (zm_cc 83) 25 = .ok (.istore_n 3, 1) := by decide +kernel
theorem zd_83_26 : decode (zm_cc 83) 26 = .ok (.iload_n 2, 1) := by decide +kernel
theorem zd_83_27 : decode (zm_cc 83) 27 = .ok (.bipush 96, 2) := by decide +kernel
theorem zd_83_29 : decode (zm_cc 83) 29 = .ok (.if_icmp .ge 15, 3) := by decide +kernel
theorem zd_83_44 : decode (zm_cc 83) 44 = .ok (.return_, 1) := by decide +kernel
theorem zd_85_0 : decode (zm_cc 85) 0 = .ok (.aload_n 0, 1) := by decide +kernel
theorem zd_85_1 : decode (zm_cc 85) 1 = .ok (.iconst 0, 1) := by decide +kernel
theorem zd_85_2 : decode (zm_cc 85) 2 = .ok (.putfield 31, 3) := by decide +kernel
theorem zd_85_5 : decode (zm_cc 85) 5 = .ok (.return_, 1) := by decide +kernel
theorem zd_86_0 : decode (zm_cc 86) 0 = .ok (.aload_n 0, 1) := by decide +kernel
theorem zd_86_1 : decode (zm_cc 86) 1 = .ok (.iconst 0, 1) := by decide +kernel
theorem zd_86_2 : decode (zm_cc 86) 2 = .ok (.putfield 1, 3) := by decide +kernel
theorem zd_86_5 : decode (zm_cc 86) 5 = .ok (.aload_n 0, 1) := by decide +kernel
theorem zd_86_6 : decode (zm_cc 86) 6 = .ok (.aload_n 0, 1) := by decide +kernel
theorem zd_86_7 : decode (zm_cc 86) 7 = .ok (.getfield 125, 3) := by decide +kernel
theorem zd_86_10 : decode (zm_cc 86) 10 = .ok (.putfield 132, 3) := by decide +kernel
theorem zd_86_13 : decode (zm_cc 86) 13 = .ok (.aload_n 0, 1) := by decide +kernel
theorem zd_86_14 : decode (zm_cc 86) 14 = .ok (.iconst 0, 1) := by decide +kernel
theorem zd_86_15 : decode (zm_cc 86) 15 = .ok (.putfield 125, 3) := by decide +kernel
theorem zd_86_18 : decode (zm_cc 86) 18 = .ok (.iconst 0, 1) := by decide +kernel
theorem zd_86_19 : decode (zm_cc 86) 19 = .ok (.istore_n 1, 1) := by decide +kernel
theorem zd_86_20 : decode (zm_cc 86) 20 = .ok (.iload_n 1, 1) := by decide +kernel
theorem zd_86_21 : decode (zm_cc 86) 21 = .ok (.aload_n 0, 1) := by decide +kernel
theorem zd_86_22 : decode (zm_cc 86) 22 = .ok (.getfield 132, 3) := by decide +kernel
theorem zd_86_25 : decode (zm_cc 86) 25 = .ok (.if_icmp .ge 21, 3) := by decide +kernel
theorem zd_86_46 : decode (zm_cc 86) 46 = .ok (.aload_n 0, 1) := by decide +kernel
theorem zd_86_47 : decode (zm_cc 86) 47 = .ok (.iconst 0, 1) := by decide +kernel
theorem zd_86_48 : decode (zm_cc 86) 48 = .ok (.putfield 135, 3) := by decide +kernel
theorem zd_86_51 : decode (zm_cc 86) 51 = .ok (.aload_n 0, 1) := by decide +kernel
theorem zd_86_52 : decode (zm_cc 86) 52 = .ok (.iconst 0, 1) := by decide +kernel
theorem zd_86_53 : decode (zm_cc 86) 53 = .ok (.putfield 139, 3) := by decide +kernel
theorem zd_86_56 : decode (zm_cc 86) 56 = .ok (.aload_n 0, 1) := by decide +kernel
theorem zd_86_57 : decode (zm_cc 86) 57 = .ok (.iconst 0, 1) := by decide +kernel
theorem zd_86_58 : decode (zm_cc 86) 58 = .ok (.putfield 215, 3) := by decide +kernel
theorem zd_86_61 : decode (zm_cc 86) 61 = .ok (.aload_n 0, 1) := by decide +kernel
theorem zd_86_62 : decode (zm_cc 86) 62 = .ok (.iconst 0, 1) := by decide +kernel
theorem zd_86_63 : decode (zm_cc 86) 63 = .ok (.putfield 222, 3) := by decide +kernel
theorem zd_86_66 : decode (zm_cc 86) 66 = .ok (.aload_n 0, 1) := by decide +kernel
theorem zd_86_67 : decode (zm_cc 86) 67 = .ok (.iconst 0, 1) := by decide +kernel
theorem zd_86_68 : decode (zm_cc 86) 68 = .ok (.putfield 225, 3) := by decide +kernel
theorem zd_86_71 : decode (zm_cc 86) 71 = .ok (.aload_n 0, 1) := by decide +kernel
theorem zd_86_72 : decode (zm_cc 86) 72 = .ok (.iconst 0, 1) := by decide +kernel
theorem zd_86_73 : decode (zm_cc 86) 73 = .ok (.putfield 303, 3) := by decide +kernel
theorem zd_86_76 : decode (zm_cc 86) 76 = .ok (.aload_n 0, 1) := by decide +kernel
theorem zd_86_77 : decode (zm_cc 86) 77 = .ok (.iconst 0, 1) := by decide +kernel
theorem zd_86_78 : decode (zm_cc 86) 78 = .ok (.putfield 291, 3) := by decide +kernel
theorem zd_86_81 : decode (zm_cc 86) 81 = .ok (.aload_n 0, 1) := by decide +kernel
theorem zd_86_82 : decode (zm_cc 86) 82 = .ok (.iconst 0, 1) := by decide +kernel
theorem zd_86_83 : decode (zm_cc 86) 83 = .ok (.putfield 142, 3) := by decide +kernel
theorem zd_86_86 : decode (zm_cc 86) 86 = .ok (.aload_n 0, 1) := by decide +kernel
theorem zd_86_87 : decode (zm_cc 86) 87 = .ok (.iconst 0, 1) := by decide +kernel
theorem zd_86_88 : decode (zm_cc 86) 88 = .ok (.putfield 155, 3) := by decide +kernel
theorem zd_86_91 : decode (zm_cc 86) 91 = .ok (.aload_n 0, 1) := by decide +kernel
theorem zd_86_92 : decode (zm_cc 86) 92 = .ok (.iconst 0, 1) := by decide +kernel
theorem zd_86_93 : decode (zm_cc 86) 93 = .ok (.putfield 322, 3) := by decide +kernel
theorem zd_86_96 : decode (zm_cc 86) 96 = .ok (.aload_n 0, 1) := by decide +kernel
theorem zd_86_97 : decode (zm_cc 86) 97 = .ok (.iconst (-1), 1) := by decide +kernel
theorem zd_86_98 : decode (zm_cc 86) 98 = .ok (.putfield 119, 3) := by decide +kernel
theorem zd_86_101 : decode (zm_cc 86) 101 = .ok (.aload_n 0, 1) := by decide +kernel
theorem zd_86_102 : decode (zm_cc 86) 102 = .ok (.invokevirtual 209, 3) := by decide +kernel
theorem zd_86_105 : decode (zm_cc 86) 105 = .ok (.aload_n 0, 1) := by decide +kernel
theorem zd_86_106 : decode (zm_cc 86) 106 = .ok (.getfield 135, 3) := by decide +kernel
theorem zd_86_109 : decode (zm_cc 86) 109 = .ok (.ifCond .ne 95, 3) := by decide +kernel
theorem zd_86_112 : decode (zm_cc 86) 112 = .ok (.aload_n 0, 1) := by decide +kernel
theorem zd_86_113 : decode (zm_cc 86) 113 = .ok (.iconst 1, 1) := by decide +kernel
theorem zd_86_114 : decode (zm_cc 86) 114 = .ok (.invokevirtual 264, 3) := by decide +kernel
theorem zd_86_117 : decode (zm_cc 86) 117 = .ok (.ifCond .ne 19, 3) := by decide +kernel
theorem zd_86_120 : decode (zm_cc 86) 120 = .ok (.aload_n 0, 1) := by decide +kernel
theorem zd_86_121 : decode (zm_cc 86) 121 = .ok (.iconst 2, 1) := by decide +kernel
theorem zd_86_122 : decode (zm_cc 86) 122 = .ok (.invokevirtual 264, 3) := by decide +kernel
theorem zd_86_125 : decode (zm_cc 86) 125 = .ok (.ifCond .ne 11, 3) := by decide +kernel
theorem zd_86_128 : decode (zm_cc 86) 128 = .ok (.aload_n 0, 1) := by decide +kernel
theorem zd_86_129 : decode (zm_cc 86) 129 = .ok (.iconst 3, 1) := by decide +kernel
theorem zd_86_130 : decode (zm_cc 86) 130 = .ok (.invokevirtual 264, 3) := by decide +kernel
theorem zd_86_133 : decode (zm_cc 86) 133 = .ok (.ifCond .eq 71, 3) := by decide +kernel
theorem zd_86_204 : decode (zm_cc 86) 204 = .ok (.aload_n 0, 1) := by decide +kernel
theorem zd_86_205 : decode (zm_cc 86) 205 = .ok (.getfield 135, 3) := by decide +kernel
theorem zd_86_208 : decode (zm_cc 86) 208 = .ok (.ifCond .ne 18, 3) := by decide +kernel
theorem zd_86_211 : decode (zm_cc 86) 211 = .ok (.aload_n 0, 1) := by decide +kernel
theorem zd_86_212 : decode (zm_cc 86) 212 = .ok (.iconst 4, 1) := by decide +kernel
theorem zd_86_213 : decode (zm_cc 86) 213 = .ok (.invokevirtual 264, 3) := by decide +kernel
theorem zd_86_216 : decode (zm_cc 86) 216 = .ok (.ifCond .eq 10, 3) := by decide +kernel
theorem zd_86_226 : decode (zm_cc 86) 226 = .ok (.aload_n 0, 1) := by decide +kernel
theorem zd_86_227 : decode (zm_cc 86) 227 = .ok (.getfield 135, 3) := by decide +kernel
theorem zd_86_230 : decode (zm_cc 86) 230 = .ok (.ifCond .ne 14, 3) := by decide +kernel
theorem zd_86_233 : decode (zm_cc 86) 233 = .ok (.aload_n 0, 1) := by decide +kernel
theorem zd_86_234 : decode (zm_cc 86) 234 = .ok (.getfield 148, 3) := by decide +kernel
theorem zd_86_237 : decode (zm_cc 86) 237 = .ok (.ifCond .eq 7, 3) := by decide +kernel
theorem zd_86_244 : decode (zm_cc 86) 244 = .ok (.aload_n 0, 1) := by decide +kernel
theorem zd_86_245 : decode (zm_cc 86) 245 = .ok (.getfield 135, 3) := by decide +kernel
theorem zd_86_248 : decode (zm_cc 86) 248 = .ok (.ifCond .ne 7, 3) := by decide +kernel
theorem zd_86_251 : decode (zm_cc 86) 251 = .ok (.aload_n 0, 1) := by decide +kernel
theorem zd_86_252 : decode (zm_cc 86) 252 = .ok (.invokevirtual 332, 3) := by decide +kernel
theorem zd_86_255 : decode (zm_cc 86) 255 = .ok (.aload_n 0, 1) := by decide +kernel
theorem zd_86_256 : decode (zm_cc 86) 256 = .ok (.aload_n 0, 1) := by decide +kernel
theorem zd_86_257 : decode (zm_cc 86) 257 = .ok (.getfield 135, 3) := by decide +kernel
theorem zd_86_260 : decode (zm_cc 86) 260 = .ok (.ifCond .ne 7, 3) := by decide +kernel
theorem zd_86_263 : decode (zm_cc 86) 263 = .ok (.iconst 1, 1) := by decide +kernel
theorem zd_86_264 : decode (zm_cc 86) 264 = .ok (.goto 4, 3) := by decide +kernel
theorem zd_86_268 : decode (zm_cc 86) 268 = .ok (.putfield 335, 3) := by decide +kernel
theorem zd_86_271 : decode (zm_cc 86) 271 = .ok (.aload_n 0, 1) := by decide +kernel
theorem zd_86_272 : decode (zm_cc 86) 272 = .ok (.aload_n 0, 1) := by decide +kernel
theorem zd_86_273 : decode (zm_cc 86) 273 = .ok (.getfield 139, 3) := by decide +kernel
theorem zd_86_276 : decode (zm_cc 86) 276 = .ok (.putfield 338, 3) := by decide +kernel
theorem zd_86_279 : decode (zm_cc 86) 279 = .ok (.aload_n 0, 1) := by decide +kernel
theorem zd_86_280 : decode (zm_cc 86) 280 = .ok (.getfield 135, 3) := by decide +kernel
theorem zd_86_283 : decode (zm_cc 86) 283 = .ok (.ifCond .eq 14, 3) := by decide +kernel
theorem zd_86_297 : decode (zm_cc 86) 297 = .ok (.aload_n 0, 1) := by decide +kernel
theorem zd_86_298 : decode (zm_cc 86) 298 = .ok (.invokevirtual 341, 3) := by decide +kernel
theorem zd_86_301 : decode (zm_cc 86) 301 = .ok (.ireturn, 1) := by decide +kernel
theorem zd_87_0 : decode (zm_cc 87) 0 = .ok (.aload_n 0, 1) := by decide +kernel
theorem zd_87_1 : decode (zm_cc 87) 1 = .ok (.getfield 142, 3) := by decide +kernel
theorem zd_87_4 : decode (zm_cc 87) 4 = .ok (.aload_n 0, 1) := by decide +kernel
theorem zd_87_5 : decode (zm_cc 87) 5 = .ok (.getfield 155, 3) := by decide +kernel
theorem zd_87_8 : decode (zm_cc 87) 8 = .ok (.iadd, 1) := by decide +kernel
theorem zd_87_9 : decode (zm_cc 87) 9 = .ok (.istore_n 1, 1) := by decide +kernel
theorem zd_87_10 : decode (zm_cc 87) 10 = .ok (.iload_n 1, 1) := by decide +kernel
theorem zd_87_11 : decode (zm_cc 87) 11 = .ok (.aload_n 0, 1) := by decide +kernel
theorem zd_87_12 : decode (zm_cc 87) 12 = .ok (.getfield 132, 3) := by decide +kernel
theorem zd_87_15 : decode (zm_cc 87) 15 = .ok (.if_icmp .ge 29, 3) := by decide +kernel
theorem zd_87_44 : decode (zm_cc 87) 44 = .ok (.aload_n 0, 1) := by decide +kernel
theorem zd_87_45 : decode (zm_cc 87) 45 = .ok (.iload_n 1, 1) := by decide +kernel
theorem zd_87_46 : decode (zm_cc 87) 46 = .ok (.putfield 142, 3) := by decide +kernel
theorem zd_87_49 : decode (zm_cc 87) 49 = .ok (.aload_n 0, 1) := by decide +kernel
theorem zd_87_50 : decode (zm_cc 87) 50 = .ok (.iconst 1, 1) := by decide +kernel
theorem zd_87_51 : decode (zm_cc 87) 51 = .ok (.putfield 155, 3) := by decide +kernel
theorem zd_87_54 : decode (zm_cc 87) 54 = .ok (.aload_n 0, 1) := by decide +kernel
theorem zd_87_55 : decode (zm_cc 87) 55 = .ok (.iconst 0, 1) := by decide +kernel
theorem zd_87_56 : decode (zm_cc 87) 56 = .ok (.putfield 192, 3) := by decide +kernel
theorem zd_87_59 : decode (zm_cc 87) 59 = .ok (.aload_n 0, 1) := by decide +kernel
theorem zd_87_60 : decode (zm_cc 87) 60 = .ok (.iload_n 1, 1) := by decide +kernel
theorem zd_87_61 : decode (zm_cc 87) 61 = .ok (.invokevirtual 158, 3) := by decide +kernel
theorem zd_87_64 : decode (zm_cc 87) 64 = .ok (.istore_n 2, 1) := by decide +kernel
theorem zd_87_65 : decode (zm_cc 87) 65 = .ok (.aload_n 0, 1) := by decide +kernel
theorem zd_87_66 : decode (zm_cc 87) 66 = .ok (.iload_n 1, 1) := by decide +kernel
theorem zd_87_67 : decode (zm_cc 87) 67 = .ok (.iconst 1, 1) := by decide +kernel
theorem zd_87_68 : decode (zm_cc 87) 68 = .ok (.iadd, 1) := by decide +kernel
theorem zd_87_69 : decode (zm_cc 87) 69 = .ok (.invokevirtual 158, 3) := by decide +kernel
theorem zd_87_72 : decode (zm_cc 87) 72 = .ok (.istore_n 3, 1) := by decide +kernel
theorem zd_87_73 : decode (zm_cc 87) 73 = .ok (.iload_n 1, 1) := by decide +kernel
theorem zd_87_74 : decode (zm_cc 87) 74 = .ok (.aload_n 0, 1) := by decide +kernel
theorem zd_87_75 : decode (zm_cc 87) 75 = .ok (.getfield 132, 3) := by decide +kernel
theorem zd_87_78 : decode (zm_cc 87) 78 = .ok (.if_icmp .lt 16, 3) := by decide +kernel
theorem zd_87_81 : decode (zm_cc 87) 81 = .ok (.aload_n 0, 1) := by decide +kernel
theorem zd_87_82 : decode (zm_cc 87) 82 = .ok (.iconst 0, 1) := by decide +kernel
theorem zd_87_83 : decode (zm_cc 87) 83 = .ok (.putfield 155, 3) := by decide +kernel
theorem zd_87_86 : decode (zm_cc 87) 86 = .ok (.aload_n 0, 1) := by decide +kernel
theorem zd_87_87 : decode (zm_cc 87) 87 = .ok (.iconst 0, 1) := by decide +kernel
theorem zd_87_88 : decode (zm_cc 87) 88 = .ok (.putfield 148, 3) := by decide +kernel
theorem zd_87_91 : decode (zm_cc 87) 91 = .ok (.goto 278, 3) := by decide +kernel
theorem zd_87_369 : decode (zm_cc 87) 369 = .ok (.return_, 1) := by decide +kernel
theorem zd_88_0 : decode (zm_cc 88) 0 = .ok (.iload_n 1, 1) := by decide +kernel
theorem zd_88_1 : decode (zm_cc 88) 1 = .ok (.aload_n 0, 1) := by decide +kernel
theorem zd_88_2 : decode (zm_cc 88) 2 = .ok (.getfield 132, 3) := by decide +kernel
theorem zd_88_5 : decode (zm_cc 88) 5 = .ok (.if_icmp .ge 16, 3) := by decide +kernel
theorem zd_88_21 : decode (zm_cc 88) 21 = .ok (.iconst 0, 1) := by decide +kernel
theorem zd_88_22 : decode (zm_cc 88) 22 = .ok (.ireturn, 1) := by decide +kernel
theorem zd_92_0 : decode (zm_cc 92) 0 = .ok (.aload_n 0, 1) := by decide +kernel
theorem zd_92_1 : decode (zm_cc 92) 1 = .ok (.getfield 148, 3) := by decide +kernel
theorem zd_92_4 : decode (zm_cc 92) 4 = .ok (.iconst 5, 1) := by decide +kernel
theorem zd_92_5 : decode (zm_cc 92) 5 = .ok (.if_icmp .ne 15, 3) := by decide +kernel
theorem zd_92_20 : decode (zm_cc 92) 20 = .ok (.iconst 0, 1) := by decide +kernel
theorem zd_92_21 : decode (zm_cc 92) 21 = .ok (.ireturn, 1) := by decide +kernel
theorem zd_120_0 : decode (zm_cc 120) 0 = .ok (.iconst 0, 1) := by decide +kernel
theorem zd_120_1 : decode (zm_cc 120) 1 = .ok (.istore_n 1, 1) := by decide +kernel
theorem zd_120_2 : decode (zm_cc 120) 2 = .ok (.iload_n 1, 1) := by decide +kernel
theorem zd_120_3 : decode (zm_cc 120) 3 = .ok (.aload_n 0, 1) := by decide +kernel
theorem zd_120_4 : decode (zm_cc 120) 4 = .ok (.getfield 291, 3) := by decide +kernel
theorem zd_120_7 : decode (zm_cc 120) 7 = .ok (.if_icmp .ge 256, 3) := by decide +kernel
theorem zd_120_263 : decode (zm_cc 120) 263 = .ok (.return_, 1) := by decide +kernel
theorem zd_121_0 : decode (zm_cc 121) 0 = .ok (.iconst 0, 1) := by decide +kernel
theorem zd_121_1 : decode (zm_cc 121) 1 = .ok (.istore_n 1, 1) := by decide +kernel
theorem zd_121_2 : decode (zm_cc 121) 2 = .ok (.iconst 0, 1) := by decide +kernel
theorem zd_121_3 : decode (zm_cc 121) 3 = .ok (.istore_n 2, 1) := by decide +kernel
theorem zd_121_4 : decode (zm_cc 121) 4 = .ok (.iload_n 2, 1) := by decide +kernel
theorem zd_121_5 : decode (zm_cc 121) 5 = .ok (.aload_n 0, 1) := by decide +kernel
theorem zd_121_6 : decode (zm_cc 121) 6 = .ok (.getfield 225, 3) := by decide +kernel
theorem zd_121_9 : decode (zm_cc 121) 9 = .ok (.if_icmp .ge 18, 3) := by decide +kernel
theorem zd_121_27 : decode (zm_cc 121) 27 = .ok (.iload_n 1, 1) := by decide +kernel
theorem zd_121_28 : decode (zm_cc 121) 28 = .ok (.ireturn, 1) := by decide +kernel
theorem zd_122_0 : decode (zm_cc 122) 0 = .ok (.aload_n 0, 1) := by decide +kernel
theorem zd_122_1 : decode (zm_cc 122) 1 = .ok (.getfield 109, 3) := by decide +kernel
theorem zd_122_4 : decode (zm_cc 122) 4 = .ok (.ireturn, 1) := by decide +kernel
theorem zd_123_0 : decode (zm_cc 123) 0 = .ok (.aload_n 0, 1) := by decide +kernel
theorem zd_123_1 : decode (zm_cc 123) 1 = .ok (.iconst 0, 1) := by decide +kernel
theorem zd_123_2 : decode (zm_cc 123) 2 = .ok (.putfield 1, 3) := by decide +kernel
theorem zd_123_5 : decode (zm_cc 123) 5 = .ok (.aload_n 0, 1) := by decide +kernel
theorem zd_123_6 : decode (zm_cc 123) 6 = .ok (.getfield 338, 3) := by decide +kernel
theorem zd_123_9 : decode (zm_cc 123) 9 = .ok (.ireturn, 1) := by decide +kernel
theorem zd_124_0 : decode (zm_cc 124) 0 = .ok (.aload_n 0, 1) := by decide +kernel
theorem zd_124_1 : decode (zm_cc 124) 1 = .ok (.getfield 110, 3) := by decide +kernel
theorem zd_124_4 : decode (zm_cc 124) 4 = .ok (.ifCond .ne 6, 3) := by decide +kernel
theorem zd_124_7 : decode (zm_cc 124) 7 = .ok (.bipush (-101), 2) := by decide +kernel
theorem zd_124_9 : decode (zm_cc 124) 9 = .ok (.ireturn, 1) := by decide +kernel
theorem zd_125_0 : decode (zm_cc 125) 0 = .ok (.aload_n 0, 1) := by decide +kernel
theorem zd_125_1 : decode (zm_cc 125) 1 = .ok (.iconst 0, 1) := by decide +kernel
theorem zd_125_2 : decode (zm_cc 125) 2 = .ok (.putfield 1, 3) := by decide +kernel
theorem zd_125_5 : decode (zm_cc 125) 5 = .ok (.aload_n 0, 1) := by decide +kernel
theorem zd_125_6 : decode (zm_cc 125) 6 = .ok (.getfield 335, 3) := by decide +kernel
theorem zd_125_9 : decode (zm_cc 125) 9 = .ok (.ifCond .ne 6, 3) := by decide +kernel
theorem zd_125_12 : decode (zm_cc 125) 12 = .ok (.bipush (-101), 2) := by decide +kernel
theorem zd_125_14 : decode (zm_cc 125) 14 = .ok (.ireturn, 1) := by decide +kernel
theorem zd_126_0 : decode (zm_cc 126) 0 = .ok (.aload_n 0, 1) := by decide +kernel
theorem zd_126_1 : decode (zm_cc 126) 1 = .ok (.getfield 110, 3) := by decide +kernel
theorem zd_126_4 : decode (zm_cc 126) 4 = .ok (.ifCond .ne 6, 3) := by decide +kernel
theorem zd_126_7 : decode (zm_cc 126) 7 = .ok (.bipush (-101), 2) := by decide +kernel
theorem zd_126_9 : decode (zm_cc 126) 9 = .ok (.ireturn, 1) := by decide +kernel
theorem zd_127_0 : decode (zm_cc 127) 0 = .ok (.aload_n 0, 1) := by decide +kernel
theorem zd_127_1 : decode (zm_cc 127) 1 = .ok (.iconst 0, 1) := by decide +kernel
theorem zd_127_2 : decode (zm_cc 127) 2 = .ok (.putfield 1, 3) := by decide +kernel
theorem zd_127_5 : decode (zm_cc 127) 5 = .ok (.aload_n 0, 1) := by decide +kernel
theorem zd_127_6 : decode (zm_cc 127) 6 = .ok (.getfield 335, 3) := by decide +kernel
theorem zd_127_9 : decode (zm_cc 127) 9 = .ok (.ifCond .ne 6, 3) := by decide +kernel
theorem zd_127_12 : decode (zm_cc 127) 12 = .ok (.bipush (-101), 2) := by decide +kernel
theorem zd_127_14 : decode (zm_cc 127) 14 = .ok (.ireturn, 1) := by decide +kernel
theorem zd_129_0 : decode (zm_cc 129) 0 = .ok (.aload_n 0, 1) := by decide +kernel
theorem zd_129_1 : decode (zm_cc 129) 1 = .ok (.getfield 110, 3) := by decide +kernel
theorem zd_129_4 : decode (zm_cc 129) 4 = .ok (.ifCond .ne 6, 3) := by decide +kernel
theorem zd_129_7 : decode (zm_cc 129) 7 = .ok (.bipush (-101), 2) := by decide +kernel
theorem zd_129_9 : decode (zm_cc 129) 9 = .ok (.ireturn, 1) := by decide +kernel
theorem zd_174_0 : decode (zm_cc 174) 0 = .ok (.aload_n 0, 1) := by decide +kernel
theorem zd_174_1 : decode (zm_cc 174) 1 = .ok (.iconst 0, 1) := by decide +kernel
theorem zd_174_2 : decode (zm_cc 174) 2 = .ok (.putfield 1, 3) := by decide +kernel
theorem zd_174_5 : decode (zm_cc 174) 5 = .ok (.aload_n 0, 1) := by decide +kernel
theorem zd_174_6 : decode (zm_cc 174) 6 = .ok (.getfield 335, 3) := by decide +kernel
theorem zd_174_9 : decode (zm_cc 174) 9 = .ok (.ifCond .ne 6, 3) := by decide +kernel
theorem zd_174_12 : decode (zm_cc 174) 12 = .ok (.bipush (-101), 2) := by decide +kernel
theorem zd_174_14 : decode (zm_cc 174) 14 = .ok (.ireturn, 1) := by decide +kernel
theorem zd_195_0 : decode (zm_cc 195) 0 = .ok (.aload_n 0, 1) := by decide +kernel
theorem zd_195_1 : decode (zm_cc 195) 1 = .ok (.getfield 117, 3) := by decide +kernel
theorem zd_195_4 : decode (zm_cc 195) 4 = .ok (.ifCond .ne 6, 3) := by decide +kernel
theorem zd_195_7 : decode (zm_cc 195) 7 = .ok (.bipush (-101), 2) := by decide +kernel
theorem zd_195_9 : decode (zm_cc 195) 9 = .ok (.ireturn, 1) := by decide +kernel
theorem zd_196_0 : decode (zm_cc 196) 0 = .ok (.aload_n 0, 1) := by decide +kernel
theorem zd_196_1 : decode (zm_cc 196) 1 = .ok (.iconst 0, 1) := by decide +kernel
theorem zd_196_2 : decode (zm_cc 196) 2 = .ok (.putfield 1, 3) := by decide +kernel
theorem zd_196_5 : decode (zm_cc 196) 5 = .ok (.aload_n 0, 1) := by decide +kernel
theorem zd_196_6 : decode (zm_cc 196) 6 = .ok (.getfield 322, 3) := by decide +kernel
theorem zd_196_9 : decode (zm_cc 196) 9 = .ok (.ifCond .ne 6, 3) := by decide +kernel
theorem zd_196_12 : decode (zm_cc 196) 12 = .ok (.bipush (-101), 2) := by decide +kernel
theorem zd_196_14 : decode (zm_cc 196) 14 = .ok (.ireturn, 1) := by decide +kernel
theorem zd_200_0 : decode (zm_cc 200) 0 = .ok (.aload_n 0, 1) := by decide +kernel
theorem zd_200_1 : decode (zm_cc 200) 1 = .ok (.getfield 117, 3) := by decide +kernel
theorem zd_200_4 : decode (zm_cc 200) 4 = .ok (.ifCond .ne 6, 3) := by decide +kernel
theorem zd_200_7 : decode (zm_cc 200) 7 = .ok (.bipush (-101), 2) := by decide +kernel
theorem zd_200_9 : decode (zm_cc 200) 9 = .ok (.ireturn, 1) := by decide +kernel
theorem zd_203_0 : decode (zm_cc 203) 0 = .ok (.aload_n 0, 1) := by decide +kernel
theorem zd_203_1 : decode (zm_cc 203) 1 = .ok (.iconst 0, 1) := by decide +kernel
theorem zd_203_2 : decode (zm_cc 203) 2 = .ok (.putfield 1, 3) := by decide +kernel
theorem zd_203_5 : decode (zm_cc 203) 5 = .ok (.aload_n 0, 1) := by decide +kernel
theorem zd_203_6 : decode (zm_cc 203) 6 = .ok (.getfield 322, 3) := by decide +kernel
theorem zd_203_9 : decode (zm_cc 203) 9 = .ok (.ifCond .ne 6, 3) := by decide +kernel
theorem zd_203_12 : decode (zm_cc 203) 12 = .ok (.bipush (-101), 2) := by decide +kernel
theorem zd_203_14 : decode (zm_cc 203) 14 = .ok (.ireturn, 1) := by decide +kernel
theorem zd_206_0 : decode (zm_cc 206) 0 = .ok (.aload_n 0, 1) := by decide +kernel
theorem zd_206_1 : decode (zm_cc 206) 1 = .ok (.getfield 80, 3) := by decide +kernel
theorem zd_206_4 : decode (zm_cc 206) 4 = .ok (.iconst (-1), 1) := by decide +kernel
theorem zd_206_5 : decode (zm_cc 206) 5 = .ok (.if_icmp .ne 8, 3) := by decide +kernel
theorem zd_206_8 : decode (zm_cc 206) 8 = .ok (.bipush (-101), 2) := by decide +kernel
theorem zd_206_10 : decode (zm_cc 206) 10 = .ok (.goto 7, 3) := by decide +kernel
theorem zd_206_17 : decode (zm_cc 206) 17 = .ok (.ireturn, 1) := by decide +kernel
theorem zd_207_0 : decode (zm_cc 207) 0 = .ok (.aload_n 0, 1) := by decide +kernel
theorem zd_207_1 : decode (zm_cc 207) 1 = .ok (.iconst 0, 1) := by decide +kernel
theorem zd_207_2 : decode (zm_cc 207) 2 = .ok (.putfield 1, 3) := by decide +kernel
theorem zd_207_5 : decode (zm_cc 207) 5 = .ok (.aload_n 0, 1) := by decide +kernel
theorem zd_207_6 : decode (zm_cc 207) 6 = .ok (.getfield 322, 3) := by decide +kernel
theorem zd_207_9 : decode (zm_cc 207) 9 = .ok (.ifCond .eq 18, 3) := by decide +kernel
theorem zd_207_27 : decode (zm_cc 207) 27 = .ok (.bipush (-101), 2) := by decide +kernel
theorem zd_207_29 : decode (zm_cc 207) 29 = .ok (.ireturn, 1) := by decide +kernel
theorem zd_208_0 : decode (zm_cc 208) 0 = .ok (.aload_n 0, 1) := by decide +kernel
theorem zd_208_1 : decode (zm_cc 208) 1 = .ok (.getfield 80, 3) := by decide +kernel
theorem zd_208_4 : decode (zm_cc 208) 4 = .ok (.iconst (-1), 1) := by decide +kernel
theorem zd_208_5 : decode (zm_cc 208) 5 = .ok (.if_icmp .ne 6, 3) := by decide +kernel
theorem zd_208_8 : decode (zm_cc 208) 8 = .ok (.bipush (-101), 2) := by decide +kernel
theorem zd_208_10 : decode (zm_cc 208) 10 = .ok (.ireturn, 1) := by decide +kernel
theorem zd_209_0 : decode (zm_cc 209) 0 = .ok (.aload_n 0, 1) := by decide +kernel
theorem zd_209_1 : decode (zm_cc 209) 1 = .ok (.iconst 0, 1) := by decide +kernel
theorem zd_209_2 : decode (zm_cc 209) 2 = .ok (.putfield 1, 3) := by decide +kernel
theorem zd_209_5 : decode (zm_cc 209) 5 = .ok (.aload_n 0, 1) := by decide +kernel
theorem zd_209_6 : decode (zm_cc 209) 6 = .ok (.getfield 322, 3) := by decide +kernel
theorem zd_209_9 : decode (zm_cc 209) 9 = .ok (.ifCond .eq 11, 3) := by decide +kernel
theorem zd_209_20 : decode (zm_cc 209) 20 = .ok (.bipush (-101), 2) := by decide +kernel
theorem zd_209_22 : decode (zm_cc 209) 22 = .ok (.ireturn, 1) := by decide +kernel
theorem zd_210_0 : decode (zm_cc 210) 0 = .ok (.aload_n 0, 1) := by decide +kernel
theorem zd_210_1 : decode (zm_cc 210) 1 = .ok (.getfield 117, 3) := by decide +kernel
theorem zd_210_4 : decode (zm_cc 210) 4 = .ok (.ifCond .ne 6, 3) := by decide +kernel
theorem zd_210_7 : decode (zm_cc 210) 7 = .ok (.bipush (-101), 2) := by decide +kernel
theorem zd_210_9 : decode (zm_cc 210) 9 = .ok (.ireturn, 1) := by decide +kernel
theorem zd_212_0 : decode (zm_cc 212) 0 = .ok (.aload_n 0, 1) := by decide +kernel
theorem zd_212_1 : decode (zm_cc 212) 1 = .ok (.iconst 0, 1) := by decide +kernel
theorem zd_212_2 : decode (zm_cc 212) 2 = .ok (.putfield 1, 3) := by decide +kernel
theorem zd_212_5 : decode (zm_cc 212) 5 = .ok (.aload_n 0, 1) := by decide +kernel
theorem zd_212_6 : decode (zm_cc 212) 6 = .ok (.getfield 322, 3) := by decide +kernel
theorem zd_212_9 : decode (zm_cc 212) 9 = .ok (.ifCond .ne 6, 3) := by decide +kernel
theorem zd_212_12 : decode (zm_cc 212) 12 = .ok (.bipush (-101), 2) := by decide +kernel
theorem zd_212_14 : decode (zm_cc 212) 14 = .ok (.ireturn, 1) := by decide +kernel
theorem zd_214_0 : decode (zm_cc 214) 0 = .ok (.aload_n 0, 1) := by decide +kernel
theorem zd_214_1 : decode (zm_cc 214) 1 = .ok (.getfield 117, 3) := by decide +kernel
theorem zd_214_4 : decode (zm_cc 214) 4 = .ok (.ifCond .ne 6, 3) := by decide +kernel
theorem zd_214_7 : decode (zm_cc 214) 7 = .ok (.bipush (-101), 2) := by decide +kernel
theorem zd_214_9 : decode (zm_cc 214) 9 = .ok (.ireturn, 1) := by decide +kernel
theorem zd_216_0 : decode (zm_cc 216) 0 = .ok (.aload_n 0, 1) := by decide +kernel
theorem zd_216_1 : decode (zm_cc 216) 1 = .ok (.iconst 0, 1) := by decide +kernel
theorem zd_216_2 : decode (zm_cc 216) 2 = .ok (.putfield 1, 3) := by decide +kernel
theorem zd_216_5 : decode (zm_cc 216) 5 = .ok (.aload_n 0, 1) := by decide +kernel
theorem zd_216_6 : decode (zm_cc 216) 6 = .ok (.getfield 322, 3) := by decide +kernel
theorem zd_216_9 : decode (zm_cc 216) 9 = .ok (.ifCond .ne 6, 3) := by decide +kernel
theorem zd_216_12 : decode (zm_cc 216) 12 = .ok (.bipush (-101), 2) := by decide +kernel
theorem zd_216_14 : decode (zm_cc 216) 14 = .ok (.ireturn, 1) := by decide +kernel
theorem zd_218_0 : decode (zm_cc 218) 0 = .ok (.aload_n 0, 1) := by decide +kernel
theorem zd_218_1 : decode (zm_cc 218) 1 = .ok (.getfield 117, 3) := by decide +kernel
theorem zd_218_4 : decode (zm_cc 218) 4 = .ok (.ifCond .ne 6, 3) := by decide +kernel
theorem zd_218_7 : decode (zm_cc 218) 7 = .ok (.bipush (-101), 2) := by decide +kernel
theorem zd_218_9 : decode (zm_cc 218) 9 = .ok (.ireturn, 1) := by decide +kernel
theorem zd_219_0 : decode (zm_cc 219) 0 = .ok (.aload_n 0, 1) := by decide +kernel
theorem zd_219_1 : decode (zm_cc 219) 1 = .ok (.iconst 0, 1) := by decide +kernel
theorem zd_219_2 : decode (zm_cc 219) 2 = .ok (.putfield 1, 3) := by decide +kernel
theorem zd_219_5 : decode (zm_cc 219) 5 = .ok (.aload_n 0, 1) := by decide +kernel
theorem zd_219_6 : decode (zm_cc 219) 6 = .ok (.getfield 322, 3) := by decide +kernel
theorem zd_219_9 : decode (zm_cc 219) 9 = .ok (.ifCond .ne 6, 3) := by decide +kernel
theorem zd_219_12 : decode (zm_cc 219) 12 = .ok (.bipush (-101), 2) := by decide +kernel
theorem zd_219_14 : decode (zm_cc 219) 14 = .ok (.ireturn, 1) := by decide +kernel
theorem zd_220_0 : decode (zm_cc 220) 0 = .ok (.aload_n 0, 1) := by decide +kernel
theorem zd_220_1 : decode (zm_cc 220) 1 = .ok (.getfield 117, 3) := by decide +kernel
theorem zd_220_4 : decode (zm_cc 220) 4 = .ok (.ifCond .ne 6, 3) := by decide +kernel
theorem zd_220_7 : decode (zm_cc 220) 7 = .ok (.bipush (-101), 2) := by decide +kernel
theorem zd_220_9 : decode (zm_cc 220) 9 = .ok (.ireturn, 1) := by decide +kernel
theorem zd_221_0 : decode (zm_cc 221) 0 = .ok (.aload_n 0, 1) := by decide +kernel
theorem zd_221_1 : decode (zm_cc 221) 1 = .ok (.iconst 0, 1) := by decide +kernel
theorem zd_221_2 : decode (zm_cc 221) 2 = .ok (.putfield 1, 3) := by decide +kernel
theorem zd_221_5 : decode (zm_cc 221) 5 = .ok (.aload_n 0, 1) := by decide +kernel
theorem zd_221_6 : decode (zm_cc 221) 6 = .ok (.getfield 322, 3) := by decide +kernel
theorem zd_221_9 : decode (zm_cc 221) 9 = .ok (.ifCond .ne 6, 3) := by decide +kernel
theorem zd_221_12 : decode (zm_cc 221) 12 = .ok (.bipush (-101), 2) := by decide +kernel
theorem zd_221_14 : decode (zm_cc 221) 14 = .ok (.ireturn, 1) := by decide +kernel
theorem zd_222_0 : decode (zm_cc 222) 0 = .ok (.aload_n 0, 1) := by decide +kernel
theorem zd_222_1 : decode (zm_cc 222) 1 = .ok (.getfield 117, 3) := by decide +kernel
theorem zd_222_4 : decode (zm_cc 222) 4 = .ok (.ifCond .ne 6, 3) := by decide +kernel
theorem zd_222_7 : decode (zm_cc 222) 7 = .ok (.bipush (-101), 2) := by decide +kernel
theorem zd_222_9 : decode (zm_cc 222) 9 = .ok (.ireturn, 1) := by decide +kernel
theorem zd_226_0 : decode (zm_cc 226) 0 = .ok (.aload_n 0, 1) := by decide +kernel
theorem zd_226_1 : decode (zm_cc 226) 1 = .ok (.iconst 0, 1) := by decide +kernel
theorem zd_226_2 : decode (zm_cc 226) 2 = .ok (.putfield 1, 3) := by decide +kernel
theorem zd_226_5 : decode (zm_cc 226) 5 = .ok (.aload_n 0, 1) := by decide +kernel
theorem zd_226_6 : decode (zm_cc 226) 6 = .ok (.getfield 322, 3) := by decide +kernel
theorem zd_226_9 : decode (zm_cc 226) 9 = .ok (.ifCond .ne 6, 3) := by decide +kernel
theorem zd_226_12 : decode (zm_cc 226) 12 = .ok (.bipush (-101), 2) := by decide +kernel
theorem zd_226_14 : decode (zm_cc 226) 14 = .ok (.ireturn, 1) := by decide +kernel
theorem zd_228_0 : decode (zm_cc 228) 0 = .ok (.aload_n 0, 1) := by decide +kernel
theorem zd_228_1 : decode (zm_cc 228) 1 = .ok (.getfield 117, 3) := by decide +kernel
theorem zd_228_4 : decode (zm_cc 228) 4 = .ok (.ifCond .ne 6, 3) := by decide +kernel
theorem zd_228_7 : decode (zm_cc 228) 7 = .ok (.bipush (-101), 2) := by decide +kernel
theorem zd_228_9 : decode (zm_cc 228) 9 = .ok (.ireturn, 1) := by decide +kernel
theorem zd_230_0 : decode (zm_cc 230) 0 = .ok (.aload_n 0, 1) := by decide +kernel
theorem zd_230_1 : decode (zm_cc 230) 1 = .ok (.iconst 0, 1) := by decide +kernel
theorem zd_230_2 : decode (zm_cc 230) 2 = .ok (.putfield 1, 3) := by decide +kernel
theorem zd_230_5 : decode (zm_cc 230) 5 = .ok (.aload_n 0, 1) := by decide +kernel
theorem zd_230_6 : decode (zm_cc 230) 6 = .ok (.getfield 322, 3) := by decide +kernel
theorem zd_230_9 : decode (zm_cc 230) 9 = .ok (.ifCond .ne 6, 3) := by decide +kernel
theorem zd_230_12 : decode (zm_cc 230) 12 = .ok (.bipush (-101), 2) := by decide +kernel
theorem zd_230_14 : decode (zm_cc 230) 14 = .ok (.ireturn, 1) := by decide +kernel
theorem zd_231_0 : decode (zm_cc 231) 0 = .ok (.aload_n 0, 1) := by decide +kernel
theorem zd_231_1 : decode (zm_cc 231) 1 = .ok (.getfield 110, 3) := by decide +kernel
theorem zd_231_4 : decode (zm_cc 231) 4 = .ok (.ifCond .ne 6, 3) := by decide +kernel
theorem zd_231_7 : decode (zm_cc 231) 7 = .ok (.bipush (-101), 2) := by decide +kernel
theorem zd_231_9 : decode (zm_cc 231) 9 = .ok (.ireturn, 1) := by decide +kernel
theorem zd_245_0 : decode (zm_cc 245) 0 = .ok (.aload_n 0, 1) := by decide +kernel
theorem zd_245_1 : decode (zm_cc 245) 1 = .ok (.iconst 0, 1) := by decide +kernel
theorem zd_245_2 : decode (zm_cc 245) 2 = .ok (.putfield 1, 3) := by decide +kernel
theorem zd_245_5 : decode (zm_cc 245) 5 = .ok (.aload_n 0, 1) := by decide +kernel
theorem zd_245_6 : decode (zm_cc 245) 6 = .ok (.getfield 335, 3) := by decide +kernel
theorem zd_245_9 : decode (zm_cc 245) 9 = .ok (.ifCond .eq 12, 3) := by decide +kernel
theorem zd_245_21 : decode (zm_cc 245) 21 = .ok (.bipush (-101), 2) := by decide +kernel
theorem zd_245_23 : decode (zm_cc 245) 23 = .ok (.ireturn, 1) := by decide +kernel
theorem zd_252_0 : decode (zm_cc 252) 0 = .ok (.aload_n 0, 1) := by decide +kernel
theorem zd_252_1 : decode (zm_cc 252) 1 = .ok (.getfield 110, 3) := by decide +kernel
theorem zd_252_4 : decode (zm_cc 252) 4 = .ok (.ifCond .ne 6, 3) := by decide +kernel
theorem zd_252_7 : decode (zm_cc 252) 7 = .ok (.bipush (-101), 2) := by decide +kernel
theorem zd_252_9 : decode (zm_cc 252) 9 = .ok (.ireturn, 1) := by decide +kernel
theorem zd_253_0 : decode (zm_cc 253) 0 = .ok (.aload_n 0, 1) := by decide +kernel
theorem zd_253_1 : decode (zm_cc 253) 1 = .ok (.iconst 0, 1) := by decide +kernel
theorem zd_253_2 : decode (zm_cc 253) 2 = .ok (.putfield 1, 3) := by decide +kernel
theorem zd_253_5 : decode (zm_cc 253) 5 = .ok (.aload_n 0, 1) := by decide +kernel
theorem zd_253_6 : decode (zm_cc 253) 6 = .ok (.getfield 335, 3) := by decide +kernel
theorem zd_253_9 : decode (zm_cc 253) 9 = .ok (.ifCond .ne 6, 3) := by decide +kernel
theorem zd_253_12 : decode (zm_cc 253) 12 = .ok (.bipush (-101), 2) := by decide +kernel
theorem zd_253_14 : decode (zm_cc 253) 14 = .ok (.ireturn, 1) := by decide +kernel
theorem zd_254_0 : decode (zm_cc 254) 0 = .ok (.aload_n 0, 1) := by decide +kernel
theorem zd_254_1 : decode (zm_cc 254) 1 = .ok (.getfield 110, 3) := by decide +kernel
theorem zd_254_4 : decode (zm_cc 254) 4 = .ok (.ifCond .ne 6, 3) := by decide +kernel
theorem zd_254_7 : decode (zm_cc 254) 7 = .ok (.bipush (-101), 2) := by decide +kernel
theorem zd_254_9 : decode (zm_cc 254) 9 = .ok (.ireturn, 1) := by decide +kernel
theorem zd_255_0 : decode (zm_cc 255) 0 = .ok (.aload_n 0, 1) := by decide +kernel
theorem zd_255_1 : decode (zm_cc 255) 1 = .ok (.iconst 0, 1) := by decide +kernel
theorem zd_255_2 : decode (zm_cc 255) 2 = .ok (.putfield 1, 3) := by decide +kernel
theorem zd_255_5 : decode (zm_cc 255) 5 = .ok (.aload_n 0, 1) := by decide +kernel
theorem zd_255_6 : decode (zm_cc 255) 6 = .ok (.getfield 335, 3) := by decide +kernel
theorem zd_255_9 : decode (zm_cc 255) 9 = .ok (.ifCond .ne 6, 3) := by decide +kernel
theorem zd_255_12 : decode (zm_cc 255) 12 = .ok (.bipush (-101), 2) := by decide +kernel
theorem zd_255_14 : decode (zm_cc 255) 14 = .ok (.ireturn, 1) := by decide +kernel
theorem zd_256_0 : decode (zm_cc 256) 0 = .ok (.aload_n 0, 1) := by decide +kernel
theorem zd_256_1 : decode (zm_cc 256) 1 = .ok (.getfield 110, 3) := by decide +kernel
theorem zd_256_4 : decode (zm_cc 256) 4 = .ok (.ifCond .ne 6, 3) := by decide +kernel
theorem zd_256_7 : decode (zm_cc 256) 7 = .ok (.bipush (-101), 2) := by decide +kernel
theorem zd_256_9 : decode (zm_cc 256) 9 = .ok (.ireturn, 1) := by decide +kernel
theorem zd_258_0 : decode (zm_cc 258) 0 = .ok (.aload_n 0, 1) := by decide +kernel
theorem zd_258_1 : decode (zm_cc 258) 1 = .ok (.iconst 0, 1) := by decide +kernel
theorem zd_258_2 : decode (zm_cc 258) 2 = .ok (.putfield 1, 3) := by decide +kernel
theorem zd_258_5 : decode (zm_cc 258) 5 = .ok (.aload_n 0, 1) := by decide +kernel
theorem zd_258_6 : decode (zm_cc 258) 6 = .ok (.getfield 335, 3) := by decide +kernel
theorem zd_258_9 : decode (zm_cc 258) 9 = .ok (.ifCond .ne 6, 3) := by decide +kernel
theorem zd_258_12 : decode (zm_cc 258) 12 = .ok (.bipush (-101), 2) := by decide +kernel
theorem zd_258_14 : decode (zm_cc 258) 14 = .ok (.ireturn, 1) := by decide +kernel
theorem zd_259_0 : decode (zm_cc 259) 0 = .ok (.aload_n 0, 1) := by decide +kernel
theorem zd_259_1 : decode (zm_cc 259) 1 = .ok (.getfield 110, 3) := by decide +kernel
theorem zd_259_4 : decode (zm_cc 259) 4 = .ok (.ifCond .ne 6, 3) := by decide +kernel
theorem zd_259_7 : decode (zm_cc 259) 7 = .ok (.bipush (-101), 2) := by decide +kernel
theorem zd_259_9 : decode (zm_cc 259) 9 = .ok (.ireturn, 1) := by decide +kernel
theorem zd_260_0 : decode (zm_cc 260) 0 = .ok (.aload_n 0, 1) := by decide +kernel
theorem zd_260_1 : decode (zm_cc 260) 1 = .ok (.iconst 0, 1) := by decide +kernel
theorem zd_260_2 : decode (zm_cc 260) 2 = .ok (.putfield 1, 3) := by decide +kernel
theorem zd_260_5 : decode (zm_cc 260) 5 = .ok (.aload_n 0, 1) := by decide +kernel
theorem zd_260_6 : decode (zm_cc 260) 6 = .ok (.getfield 335, 3) := by decide +kernel
theorem zd_260_9 : decode (zm_cc 260) 9 = .ok (.ifCond .ne 6, 3) := by decide +kernel
theorem zd_260_12 : decode (zm_cc 260) 12 = .ok (.bipush (-101), 2) := by decide +kernel
theorem zd_260_14 : decode (zm_cc 260) 14 = .ok (.ireturn, 1) := by decide +kernel
theorem zd_264_25 : decode (zm_cc 264) 25 = .ok (.aload_n 0, 1) := by decide +kernel
theorem zd_264_26 : decode (zm_cc 264) 26 = .ok (.arraylength, 1) := by decide +kernel
theorem zd_264_27 : decode (zm_cc 264) 27 = .ok (.bipush 6, 2) := by decide +kernel
theorem zd_264_29 : decode (zm_cc 264) 29 = .ok (.isub, 1) := by decide +kernel
theorem zd_264_30 : decode (zm_cc 264) 30 = .ok (.if_icmp .gt 832, 3) := by decide +kernel
theorem zd_264_33 : decode (zm_cc 264) 33 = .ok (.aload_n 0, 1) := by decide +kernel
theorem zd_264_34 : decode (zm_cc 264) 34 = .ok (.iload 4, 2) := by decide +kernel
theorem zd_264_36 : decode (zm_cc 264) 36 = .ok (.iaload, 1) := by decide +kernel
theorem zd_264_37 : decode (zm_cc 264) 37 = .ok (.bipush 31, 2) := by decide +kernel
theorem zd_264_39 : decode (zm_cc 264) 39 = .ok (.iand, 1) := by decide +kernel
theorem zd_264_40 : decode (zm_cc 264) 40 = .ok (.tableswitch 816 0 21 #[104, 208, 244, 257, 270, 295, 344, 357, 382, 419, 432, 457, 494, 543, 580, 617, 642, 667, 680, 717, 778, 803], 104) := by decide +kernel
theorem zd_264_144 : decode (zm_cc 264) 144 = .ok (.aload_n 1, 1) := by decide +kernel
theorem zd_264_145 : decode (zm_cc 264) 145 = .ok (.aload_n 0, 1) := by decide +kernel
theorem zd_264_146 : decode (zm_cc 264) 146 = .ok (.iload 4, 2) := by decide +kernel
theorem zd_264_148 : decode (zm_cc 264) 148 = .ok (.iconst 1, 1) := by decide +kernel
theorem zd_264_149 : decode (zm_cc 264) 149 = .ok (.iadd, 1) := by decide +kernel
theorem zd_264_150 : decode (zm_cc 264) 150 = .ok (.iaload, 1) := by decide +kernel
theorem zd_264_151 : decode (zm_cc 264) 151 = .ok (.aload_n 0, 1) := by decide +kernel
theorem zd_264_152 : decode (zm_cc 264) 152 = .ok (.iload 4, 2) := by decide +kernel
theorem zd_264_154 : decode (zm_cc 264) 154 = .ok (.iconst 2, 1) := by decide +kernel
theorem zd_264_155 : decode (zm_cc 264) 155 = .ok (.iadd, 1) := by decide +kernel
theorem zd_264_156 : decode (zm_cc 264) 156 = .ok (.iaload, 1) := by decide +kernel
theorem zd_264_157 : decode (zm_cc 264) 157 = .ok (.aload_n 0, 1) := by decide +kernel
theorem zd_264_158 : decode (zm_cc 264) 158 = .ok (.iload 4, 2) := by decide +kernel
theorem zd_264_160 : decode (zm_cc 264) 160 = .ok (.iconst 3, 1) := by decide +kernel
theorem zd_264_161 : decode (zm_cc 264) 161 = .ok (.iadd, 1) := by decide +kernel
theorem zd_264_162 : decode (zm_cc 264) 162 = .ok (.iaload, 1) := by decide +kernel
theorem zd_264_163 : decode (zm_cc 264) 163 = .ok (.aload_n 0, 1) := by decide +kernel
theorem zd_264_164 : decode (zm_cc 264) 164 = .ok (.iload 4, 2) := by decide +kernel
theorem zd_264_166 : decode (zm_cc 264) 166 = .ok (.iconst 4, 1) := by decide +kernel
theorem zd_264_167 : decode (zm_cc 264) 167 = .ok (.iadd, 1) := by decide +kernel
theorem zd_264_168 : decode (zm_cc 264) 168 = .ok (.iaload, 1) := by decide +kernel
theorem zd_264_169 : decode (zm_cc 264) 169 = .ok (.aload_n 0, 1) := by decide +kernel
theorem zd_264_170 : decode (zm_cc 264) 170 = .ok (.iload 4, 2) := by decide +kernel
theorem zd_264_172 : decode (zm_cc 264) 172 = .ok (.iconst 5, 1) := by decide +kernel
theorem zd_264_173 : decode (zm_cc 264) 173 = .ok (.iadd, 1) := by decide +kernel
theorem zd_264_174 : decode (zm_cc 264) 174 = .ok (.iaload, 1) := by decide +kernel
theorem zd_264_175 : decode (zm_cc 264) 175 = .ok (.aload_n 3, 1) := by decide +kernel
theorem zd_264_176 : decode (zm_cc 264) 176 = .ok (.invokestatic 25, 3) := by decide +kernel
theorem zd_264_179 : decode (zm_cc 264) 179 = .ok (.istore 5, 2) := by decide +kernel
theorem zd_264_181 : decode (zm_cc 264) 181 = .ok (.aload_n 2, 1) := by decide +kernel
theorem zd_264_182 : decode (zm_cc 264) 182 = .ok (.aload_n 0, 1) := by decide +kernel
theorem zd_264_183 : decode (zm_cc 264) 183 = .ok (.iload 4, 2) := by decide +kernel
theorem zd_264_185 : decode (zm_cc 264) 185 = .ok (.iconst 1, 1) := by decide +kernel
theorem zd_264_186 : decode (zm_cc 264) 186 = .ok (.iadd, 1) := by decide +kernel
theorem zd_264_187 : decode (zm_cc 264) 187 = .ok (.iaload, 1) := by decide +kernel
theorem zd_264_188 : decode (zm_cc 264) 188 = .ok (.aload_n 0, 1) := by decide +kernel
theorem zd_264_189 : decode (zm_cc 264) 189 = .ok (.iload 4, 2) := by decide +kernel
theorem zd_264_191 : decode (zm_cc 264) 191 = .ok (.iconst 2, 1) := by decide +kernel
theorem zd_264_192 : decode (zm_cc 264) 192 = .ok (.iadd, 1) := by decide +kernel
theorem zd_264_193 : decode (zm_cc 264) 193 = .ok (.iaload, 1) := by decide +kernel
theorem zd_264_194 : decode (zm_cc 264) 194 = .ok (.aload_n 0, 1) := by decide +kernel
theorem zd_264_195 : decode (zm_cc 264) 195 = .ok (.iload 4, 2) := by decide +kernel
theorem zd_264_197 : decode (zm_cc 264) 197 = .ok (.iconst 3, 1) := by decide +kernel
theorem zd_264_198 : decode (zm_cc 264) 198 = .ok (.iadd, 1) := by decide +kernel
theorem zd_264_199 : decode (zm_cc 264) 199 = .ok (.iaload, 1) := by decide +kernel
theorem zd_264_200 : decode (zm_cc 264) 200 = .ok (.aload_n 0, 1) := by decide +kernel
theorem zd_264_201 : decode (zm_cc 264) 201 = .ok (.iload 4, 2) := by decide +kernel
theorem zd_264_203 : decode (zm_cc 264) 203 = .ok (.iconst 4, 1) := by decide +kernel
theorem zd_264_204 : decode (zm_cc 264) 204 = .ok (.iadd, 1) := by decide +kernel
theorem zd_264_205 : decode (zm_cc 264) 205 = .ok (.iaload, 1) := by decide +kernel
theorem zd_264_206 : decode (zm_cc 264) 206 = .ok (.aload_n 0, 1) := by decide +kernel
theorem zd_264_207 : decode (zm_cc 264) 207 = .ok (.iload 4, 2) := by decide +kernel
theorem zd_264_209 : decode (zm_cc 264) 209 = .ok (.iconst 5, 1) := by decide +kernel
theorem zd_264_210 : decode (zm_cc 264) 210 = .ok (.iadd, 1) := by decide +kernel
theorem zd_264_211 : decode (zm_cc 264) 211 = .ok (.iaload, 1) := by decide +kernel
theorem zd_264_212 : decode (zm_cc 264) 212 = .ok (.invokevirtual 30, 3) := by decide +kernel
theorem zd_264_215 : decode (zm_cc 264) 215 = .ok (.istore 6, 2) := by decide +kernel
theorem zd_264_217 : decode (zm_cc 264) 217 = .ok (.aload_n 2, 1) := by decide +kernel
theorem zd_264_218 : decode (zm_cc 264) 218 = .ok (.invokevirtual 31, 3) := by decide +kernel
theorem zd_264_221 : decode (zm_cc 264) 221 = .ok (.iload 5, 2) := by decide +kernel
theorem zd_264_223 : decode (zm_cc 264) 223 = .ok (.if_icmp .eq 5, 3) := by decide +kernel
theorem zd_264_228 : decode (zm_cc 264) 228 = .ok (.iload 5, 2) := by decide +kernel
theorem zd_264_230 : decode (zm_cc 264) 230 = .ok (.ifCond .ne 15, 3) := by decide +kernel
theorem zd_264_233 : decode (zm_cc 264) 233 = .ok (.aload_n 3, 1) := by decide +kernel
theorem zd_264_234 : decode (zm_cc 264) 234 = .ok (.iconst 0, 1) := by decide +kernel
theorem zd_264_235 : decode (zm_cc 264) 235 = .ok (.laload, 1) := by decide +kernel
theorem zd_264_236 : decode (zm_cc 264) 236 = .ok (.iload 6, 2) := by decide +kernel
theorem zd_264_238 : decode (zm_cc 264) 238 = .ok (.i2l, 1) := by decide +kernel
theorem zd_264_239 : decode (zm_cc 264) 239 = .ok (.lcmp, 1) := by decide +kernel
theorem zd_264_240 : decode (zm_cc 264) 240 = .ok (.ifCond .eq 5, 3) := by decide +kernel
theorem zd_264_245 : decode (zm_cc 264) 245 = .ok (.goto 611, 3) := by decide +kernel
theorem zd_264_248 : decode (zm_cc 264) 248 = .ok (.aload_n 1, 1) := by decide +kernel
theorem zd_264_249 : decode (zm_cc 264) 249 = .ok (.aload_n 0, 1) := by decide +kernel
theorem zd_264_250 : decode (zm_cc 264) 250 = .ok (.iload 4, 2) := by decide +kernel
theorem zd_264_252 : decode (zm_cc 264) 252 = .ok (.iconst 1, 1) := by decide +kernel
theorem zd_264_253 : decode (zm_cc 264) 253 = .ok (.iadd, 1) := by decide +kernel
theorem zd_264_254 : decode (zm_cc 264) 254 = .ok (.iaload, 1) := by decide +kernel
theorem zd_264_255 : decode (zm_cc 264) 255 = .ok (.invokestatic 35, 3) := by decide +kernel
theorem zd_264_258 : decode (zm_cc 264) 258 = .ok (.istore 5, 2) := by decide +kernel
theorem zd_264_260 : decode (zm_cc 264) 260 = .ok (.aload_n 2, 1) := by decide +kernel
theorem zd_264_261 : decode (zm_cc 264) 261 = .ok (.aload_n 0, 1) := by decide +kernel
theorem zd_264_262 : decode (zm_cc 264) 262 = .ok (.iload 4, 2) := by decide +kernel
theorem zd_264_264 : decode (zm_cc 264) 264 = .ok (.iconst 1, 1) := by decide +kernel
theorem zd_264_265 : decode (zm_cc 264) 265 = .ok (.iadd, 1) := by decide +kernel
theorem zd_264_266 : decode (zm_cc 264) 266 = .ok (.iaload, 1) := by decide +kernel
theorem zd_264_267 : decode (zm_cc 264) 267 = .ok (.invokevirtual 38, 3) := by decide +kernel
theorem zd_264_270 : decode (zm_cc 264) 270 = .ok (.aload_n 2, 1) := by decide +kernel
theorem zd_264_271 : decode (zm_cc 264) 271 = .ok (.invokevirtual 31, 3) := by decide +kernel
theorem zd_264_274 : decode (zm_cc 264) 274 = .ok (.iload 5, 2) := by decide +kernel
theorem zd_264_276 : decode (zm_cc 264) 276 = .ok (.if_icmp .eq 5, 3) := by decide +kernel
theorem zd_264_281 : decode (zm_cc 264) 281 = .ok (.goto 575, 3) := by decide +kernel
theorem zd_264_284 : decode (zm_cc 264) 284 = .ok (.aload_n 1, 1) := by decide +kernel
theorem zd_264_285 : decode (zm_cc 264) 285 = .ok (.invokevirtual 39, 3) := by decide +kernel
theorem zd_264_288 : decode (zm_cc 264) 288 = .ok (.aload_n 2, 1) := by decide +kernel
theorem zd_264_289 : decode (zm_cc 264) 289 = .ok (.invokevirtual 42, 3) := by decide +kernel
theorem zd_264_292 : decode (zm_cc 264) 292 = .ok (.if_icmp .eq 564, 3) := by decide +kernel
theorem zd_264_297 : decode (zm_cc 264) 297 = .ok (.aload_n 1, 1) := by decide +kernel
theorem zd_264_298 : decode (zm_cc 264) 298 = .ok (.invokevirtual 43, 3) := by decide +kernel
theorem zd_264_301 : decode (zm_cc 264) 301 = .ok (.aload_n 2, 1) := by decide +kernel
theorem zd_264_302 : decode (zm_cc 264) 302 = .ok (.invokevirtual 46, 3) := by decide +kernel
theorem zd_264_305 : decode (zm_cc 264) 305 = .ok (.if_icmp .eq 551, 3) := by decide +kernel
theorem zd_264_310 : decode (zm_cc 264) 310 = .ok (.aload_n 1, 1) := by decide +kernel
theorem zd_264_311 : decode (zm_cc 264) 311 = .ok (.aload_n 0, 1) := by decide +kernel
theorem zd_264_312 : decode (zm_cc 264) 312 = .ok (.iload 4, 2) := by decide +kernel
theorem zd_264_314 : decode (zm_cc 264) 314 = .ok (.iconst 1, 1) := by decide +kernel
theorem zd_264_315 : decode (zm_cc 264) 315 = .ok (.iadd, 1) := by decide +kernel
theorem zd_264_316 : decode (zm_cc 264) 316 = .ok (.iaload, 1) := by decide +kernel
theorem zd_264_317 : decode (zm_cc 264) 317 = .ok (.invokevirtual 47, 3) := by decide +kernel
theorem zd_264_320 : decode (zm_cc 264) 320 = .ok (.aload_n 2, 1) := by decide +kernel
theorem zd_264_321 : decode (zm_cc 264) 321 = .ok (.aload_n 0, 1) := by decide +kernel
theorem zd_264_322 : decode (zm_cc 264) 322 = .ok (.iload 4, 2) := by decide +kernel
theorem zd_264_324 : decode (zm_cc 264) 324 = .ok (.iconst 1, 1) := by decide +kernel
theorem zd_264_325 : decode (zm_cc 264) 325 = .ok (.iadd, 1) := by decide +kernel
theorem zd_264_326 : decode (zm_cc 264) 326 = .ok (.iaload, 1) := by decide +kernel
theorem zd_264_327 : decode (zm_cc 264) 327 = .ok (.invokevirtual 51, 3) := by decide +kernel
theorem zd_264_330 : decode (zm_cc 264) 330 = .ok (.if_icmp .eq 526, 3) := by decide +kernel
theorem zd_264_335 : decode (zm_cc 264) 335 = .ok (.aload_n 1, 1) := by decide +kernel
theorem zd_264_336 : decode (zm_cc 264) 336 = .ok (.aload_n 0, 1) := by decide +kernel
theorem zd_264_337 : decode (zm_cc 264) 337 = .ok (.iload 4, 2) := by decide +kernel
theorem zd_264_339 : decode (zm_cc 264) 339 = .ok (.iconst 1, 1) := by decide +kernel
theorem zd_264_340 : decode (zm_cc 264) 340 = .ok (.iadd, 1) := by decide +kernel
theorem zd_264_341 : decode (zm_cc 264) 341 = .ok (.iaload, 1) := by decide +kernel
theorem zd_264_342 : decode (zm_cc 264) 342 = .ok (.aload_n 0, 1) := by decide +kernel
theorem zd_264_343 : decode (zm_cc 264) 343 = .ok (.iload 4, 2) := by decide +kernel
theorem zd_264_345 : decode (zm_cc 264) 345 = .ok (.iconst 2, 1) := by decide +kernel
theorem zd_264_346 : decode (zm_cc 264) 346 = .ok (.iadd, 1) := by decide +kernel
theorem zd_264_347 : decode (zm_cc 264) 347 = .ok (.iaload, 1) := by decide +kernel
theorem zd_264_348 : decode (zm_cc 264) 348 = .ok (.aload_n 0, 1) := by decide +kernel
theorem zd_264_349 : decode (zm_cc 264) 349 = .ok (.iload 4, 2) := by decide +kernel
theorem zd_264_351 : decode (zm_cc 264) 351 = .ok (.iconst 3, 1) := by decide +kernel
theorem zd_264_352 : decode (zm_cc 264) 352 = .ok (.iadd, 1) := by decide +kernel
theorem zd_264_353 : decode (zm_cc 264) 353 = .ok (.iaload, 1) := by decide +kernel
theorem zd_264_354 : decode (zm_cc 264) 354 = .ok (.invokevirtual 52, 3) := by decide +kernel
theorem zd_264_357 : decode (zm_cc 264) 357 = .ok (.aload_n 2, 1) := by decide +kernel
theorem zd_264_358 : decode (zm_cc 264) 358 = .ok (.aload_n 0, 1) := by decide +kernel
theorem zd_264_359 : decode (zm_cc 264) 359 = .ok (.iload 4, 2) := by decide +kernel
theorem zd_264_361 : decode (zm_cc 264) 361 = .ok (.iconst 1, 1) := by decide +kernel
theorem zd_264_362 : decode (zm_cc 264) 362 = .ok (.iadd, 1) := by decide +kernel
theorem zd_264_363 : decode (zm_cc 264) 363 = .ok (.iaload, 1) := by decide +kernel
theorem zd_264_364 : decode (zm_cc 264) 364 = .ok (.aload_n 0, 1) := by decide +kernel
theorem zd_264_365 : decode (zm_cc 264) 365 = .ok (.iload 4, 2) := by decide +kernel
theorem zd_264_367 : decode (zm_cc 264) 367 = .ok (.iconst 2, 1) := by decide +kernel
theorem zd_264_368 : decode (zm_cc 264) 368 = .ok (.iadd, 1) := by decide +kernel
theorem zd_264_369 : decode (zm_cc 264) 369 = .ok (.iaload, 1) := by decide +kernel
theorem zd_264_370 : decode (zm_cc 264) 370 = .ok (.aload_n 0, 1) := by decide +kernel
theorem zd_264_371 : decode (zm_cc 264) 371 = .ok (.iload 4, 2) := by decide +kernel
theorem zd_264_373 : decode (zm_cc 264) 373 = .ok (.iconst 3, 1) := by decide +kernel
theorem zd_264_374 : decode (zm_cc 264) 374 = .ok (.iadd, 1) := by decide +kernel
theorem zd_264_375 : decode (zm_cc 264) 375 = .ok (.iaload, 1) := by decide +kernel
theorem zd_264_376 : decode (zm_cc 264) 376 = .ok (.invokevirtual 56, 3) := by decide +kernel
theorem zd_264_379 : decode (zm_cc 264) 379 = .ok (.if_icmp .eq 477, 3) := by decide +kernel
theorem zd_264_384 : decode (zm_cc 264) 384 = .ok (.aload_n 1, 1) := by decide +kernel
theorem zd_264_385 : decode (zm_cc 264) 385 = .ok (.invokevirtual 57, 3) := by decide +kernel
theorem zd_264_388 : decode (zm_cc 264) 388 = .ok (.aload_n 2, 1) := by decide +kernel
theorem zd_264_389 : decode (zm_cc 264) 389 = .ok (.invokevirtual 60, 3) := by decide +kernel
theorem zd_264_392 : decode (zm_cc 264) 392 = .ok (.if_icmp .eq 464, 3) := by decide +kernel
theorem zd_264_397 : decode (zm_cc 264) 397 = .ok (.aload_n 1, 1) := by decide +kernel
theorem zd_264_398 : decode (zm_cc 264) 398 = .ok (.aload_n 0, 1) := by decide +kernel
theorem zd_264_399 : decode (zm_cc 264) 399 = .ok (.iload 4, 2) := by decide +kernel
theorem zd_264_401 : decode (zm_cc 264) 401 = .ok (.iconst 1, 1) := by decide +kernel
theorem zd_264_402 : decode (zm_cc 264) 402 = .ok (.iadd, 1) := by decide +kernel
theorem zd_264_403 : decode (zm_cc 264) 403 = .ok (.iaload, 1) := by decide +kernel
theorem zd_264_404 : decode (zm_cc 264) 404 = .ok (.invokevirtual 61, 3) := by decide +kernel
theorem zd_264_407 : decode (zm_cc 264) 407 = .ok (.aload_n 2, 1) := by decide +kernel
theorem zd_264_408 : decode (zm_cc 264) 408 = .ok (.aload_n 0, 1) := by decide +kernel
theorem zd_264_409 : decode (zm_cc 264) 409 = .ok (.iload 4, 2) := by decide +kernel
theorem zd_264_411 : decode (zm_cc 264) 411 = .ok (.iconst 1, 1) := by decide +kernel
theorem zd_264_412 : decode (zm_cc 264) 412 = .ok (.iadd, 1) := by decide +kernel
theorem zd_264_413 : decode (zm_cc 264) 413 = .ok (.iaload, 1) := by decide +kernel
theorem zd_264_414 : decode (zm_cc 264) 414 = .ok (.invokevirtual 64, 3) := by decide +kernel
theorem zd_264_417 : decode (zm_cc 264) 417 = .ok (.if_icmp .eq 439, 3) := by decide +kernel
theorem zd_264_422 : decode (zm_cc 264) 422 = .ok (.aload_n 1, 1) := by decide +kernel
theorem zd_264_423 : decode (zm_cc 264) 423 = .ok (.aload_n 0, 1) := by decide +kernel
theorem zd_264_424 : decode (zm_cc 264) 424 = .ok (.iload 4, 2) := by decide +kernel
theorem zd_264_426 : decode (zm_cc 264) 426 = .ok (.iconst 1, 1) := by decide +kernel
theorem zd_264_427 : decode (zm_cc 264) 427 = .ok (.iadd, 1) := by decide +kernel
theorem zd_264_428 : decode (zm_cc 264) 428 = .ok (.iaload, 1) := by decide +kernel
theorem zd_264_429 : decode (zm_cc 264) 429 = .ok (.aload_n 0, 1) := by decide +kernel
theorem zd_264_430 : decode (zm_cc 264) 430 = .ok (.iload 4, 2) := by decide +kernel
theorem zd_264_432 : decode (zm_cc 264) 432 = .ok (.iconst 2, 1) := by decide +kernel
theorem zd_264_433 : decode (zm_cc 264) 433 = .ok (.iadd, 1) := by decide +kernel
theorem zd_264_434 : decode (zm_cc 264) 434 = .ok (.iaload, 1) := by decide +kernel
theorem zd_264_435 : decode (zm_cc 264) 435 = .ok (.invokevirtual 65, 3) := by decide +kernel
theorem zd_264_438 : decode (zm_cc 264) 438 = .ok (.aload_n 2, 1) := by decide +kernel
theorem zd_264_439 : decode (zm_cc 264) 439 = .ok (.aload_n 0, 1) := by decide +kernel
theorem zd_264_440 : decode (zm_cc 264) 440 = .ok (.iload 4, 2) := by decide +kernel
theorem zd_264_442 : decode (zm_cc 264) 442 = .ok (.iconst 1, 1) := by decide +kernel
theorem zd_264_443 : decode (zm_cc 264) 443 = .ok (.iadd, 1) := by decide +kernel
theorem zd_264_444 : decode (zm_cc 264) 444 = .ok (.iaload, 1) := by decide +kernel
theorem zd_264_445 : decode (zm_cc 264) 445 = .ok (.aload_n 0, 1) := by decide +kernel
theorem zd_264_446 : decode (zm_cc 264) 446 = .ok (.iload 4, 2) := by decide +kernel
theorem zd_264_448 : decode (zm_cc 264) 448 = .ok (.iconst 2, 1) := by decide +kernel
theorem zd_264_449 : decode (zm_cc 264) 449 = .ok (.iadd, 1) := by decide +kernel
theorem zd_264_450 : decode (zm_cc 264) 450 = .ok (.iaload, 1) := by decide +kernel
theorem zd_264_451 : decode (zm_cc 264) 451 = .ok (.invokevirtual 69, 3) := by decide +kernel
theorem zd_264_454 : decode (zm_cc 264) 454 = .ok (.if_icmp .eq 402, 3) := by decide +kernel
theorem zd_264_459 : decode (zm_cc 264) 459 = .ok (.aload_n 1, 1) := by decide +kernel
theorem zd_264_460 : decode (zm_cc 264) 460 = .ok (.invokevirtual 70, 3) := by decide +kernel
theorem zd_264_463 : decode (zm_cc 264) 463 = .ok (.aload_n 2, 1) := by decide +kernel
theorem zd_264_464 : decode (zm_cc 264) 464 = .ok (.invokevirtual 73, 3) := by decide +kernel
theorem zd_264_467 : decode (zm_cc 264) 467 = .ok (.if_icmp .eq 389, 3) := by decide +kernel
theorem zd_264_472 : decode (zm_cc 264) 472 = .ok (.aload_n 1, 1) := by decide +kernel
theorem zd_264_473 : decode (zm_cc 264) 473 = .ok (.aload_n 0, 1) := by decide +kernel
theorem zd_264_474 : decode (zm_cc 264) 474 = .ok (.iload 4, 2) := by decide +kernel
theorem zd_264_476 : decode (zm_cc 264) 476 = .ok (.iconst 1, 1) := by decide +kernel
theorem zd_264_477 : decode (zm_cc 264) 477 = .ok (.iadd, 1) := by decide +kernel
theorem zd_264_478 : decode (zm_cc 264) 478 = .ok (.iaload, 1) := by decide +kernel
theorem zd_264_479 : decode (zm_cc 264) 479 = .ok (.invokevirtual 74, 3) := by decide +kernel
theorem zd_264_482 : decode (zm_cc 264) 482 = .ok (.aload_n 2, 1) := by decide +kernel
theorem zd_264_483 : decode (zm_cc 264) 483 = .ok (.aload_n 0, 1) := by decide +kernel
theorem zd_264_484 : decode (zm_cc 264) 484 = .ok (.iload 4, 2) := by decide +kernel
theorem zd_264_486 : decode (zm_cc 264) 486 = .ok (.iconst 1, 1) := by decide +kernel
theorem zd_264_487 : decode (zm_cc 264) 487 = .ok (.iadd, 1) := by decide +kernel
theorem zd_264_488 : decode (zm_cc 264) 488 = .ok (.iaload, 1) := by decide +kernel
theorem zd_264_489 : decode (zm_cc 264) 489 = .ok (.invokevirtual 77, 3) := by decide +kernel
theorem zd_264_492 : decode (zm_cc 264) 492 = .ok (.if_icmp .eq 364, 3) := by decide +kernel
theorem zd_264_497 : decode (zm_cc 264) 497 = .ok (.aload_n 1, 1) := by decide +kernel
theorem zd_264_498 : decode (zm_cc 264) 498 = .ok (.aload_n 0, 1) := by decide +kernel
theorem zd_264_499 : decode (zm_cc 264) 499 = .ok (.iload 4, 2) := by decide +kernel
theorem zd_264_501 : decode (zm_cc 264) 501 = .ok (.iconst 1, 1) := by decide +kernel
theorem zd_264_502 : decode (zm_cc 264) 502 = .ok (.iadd, 1) := by decide +kernel
theorem zd_264_503 : decode (zm_cc 264) 503 = .ok (.iaload, 1) := by decide +kernel
theorem zd_264_504 : decode (zm_cc 264) 504 = .ok (.aload_n 0, 1) := by decide +kernel
theorem zd_264_505 : decode (zm_cc 264) 505 = .ok (.iload 4, 2) := by decide +kernel
theorem zd_264_507 : decode (zm_cc 264) 507 = .ok (.iconst 2, 1) := by decide +kernel
theorem zd_264_508 : decode (zm_cc 264) 508 = .ok (.iadd, 1) := by decide +kernel
theorem zd_264_509 : decode (zm_cc 264) 509 = .ok (.iaload, 1) := by decide +kernel
theorem zd_264_510 : decode (zm_cc 264) 510 = .ok (.invokevirtual 78, 3) := by decide +kernel
theorem zd_264_513 : decode (zm_cc 264) 513 = .ok (.aload_n 2, 1) := by decide +kernel
theorem zd_264_514 : decode (zm_cc 264) 514 = .ok (.aload_n 0, 1) := by decide +kernel
theorem zd_264_515 : decode (zm_cc 264) 515 = .ok (.iload 4, 2) := by decide +kernel
theorem zd_264_517 : decode (zm_cc 264) 517 = .ok (.iconst 1, 1) := by decide +kernel
theorem zd_264_518 : decode (zm_cc 264) 518 = .ok (.iadd, 1) := by decide +kernel
theorem zd_264_519 : decode (zm_cc 264) 519 = .ok (.iaload, 1) := by decide +kernel
theorem zd_264_520 : decode (zm_cc 264) 520 = .ok (.aload_n 0, 1) := by decide +kernel
theorem zd_264_521 : decode (zm_cc 264) 521 = .ok (.iload 4, 2) := by decide +kernel
theorem zd_264_523 : decode (zm_cc 264) 523 = .ok (.iconst 2, 1) := by decide +kernel
theorem zd_264_524 : decode (zm_cc 264) 524 = .ok (.iadd, 1) := by decide +kernel
theorem zd_264_525 : decode (zm_cc 264) 525 = .ok (.iaload, 1) := by decide +kernel
theorem zd_264_526 : decode (zm_cc 264) 526 = .ok (.invokevirtual 81, 3) := by decide +kernel
theorem zd_264_529 : decode (zm_cc 264) 529 = .ok (.if_icmp .eq 327, 3) := by decide +kernel
theorem zd_264_534 : decode (zm_cc 264) 534 = .ok (.aload_n 1, 1) := by decide +kernel
theorem zd_264_535 : decode (zm_cc 264) 535 = .ok (.aload_n 0, 1) := by decide +kernel
theorem zd_264_536 : decode (zm_cc 264) 536 = .ok (.iload 4, 2) := by decide +kernel
theorem zd_264_538 : decode (zm_cc 264) 538 = .ok (.iconst 1, 1) := by decide +kernel
theorem zd_264_539 : decode (zm_cc 264) 539 = .ok (.iadd, 1) := by decide +kernel
theorem zd_264_540 : decode (zm_cc 264) 540 = .ok (.iaload, 1) := by decide +kernel
theorem zd_264_541 : decode (zm_cc 264) 541 = .ok (.aload_n 0, 1) := by decide +kernel
theorem zd_264_542 : decode (zm_cc 264) 542 = .ok (.iload 4, 2) := by decide +kernel
theorem zd_264_544 : decode (zm_cc 264) 544 = .ok (.iconst 2, 1) := by decide +kernel
theorem zd_264_545 : decode (zm_cc 264) 545 = .ok (.iadd, 1) := by decide +kernel
theorem zd_264_546 : decode (zm_cc 264) 546 = .ok (.iaload, 1) := by decide +kernel
theorem zd_264_547 : decode (zm_cc 264) 547 = .ok (.aload_n 0, 1) := by decide +kernel
theorem zd_264_548 : decode (zm_cc 264) 548 = .ok (.iload 4, 2) := by decide +kernel
theorem zd_264_550 : decode (zm_cc 264) 550 = .ok (.iconst 3, 1) := by decide +kernel
theorem zd_264_551 : decode (zm_cc 264) 551 = .ok (.iadd, 1) := by decide +kernel
theorem zd_264_552 : decode (zm_cc 264) 552 = .ok (.iaload, 1) := by decide +kernel
theorem zd_264_553 : decode (zm_cc 264) 553 = .ok (.invokevirtual 82, 3) := by decide +kernel
theorem zd_264_556 : decode (zm_cc 264) 556 = .ok (.aload_n 2, 1) := by decide +kernel
theorem zd_264_557 : decode (zm_cc 264) 557 = .ok (.aload_n 0, 1) := by decide +kernel
theorem zd_264_558 : decode (zm_cc 264) 558 = .ok (.iload 4, 2) := by decide +kernel
theorem zd_264_560 : decode (zm_cc 264) 560 = .ok (.iconst 1, 1) := by decide +kernel
theorem zd_264_561 : decode (zm_cc 264) 561 = .ok (.iadd, 1) := by decide +kernel
theorem zd_264_562 : decode (zm_cc 264) 562 = .ok (.iaload, 1) := by decide +kernel
theorem zd_264_563 : decode (zm_cc 264) 563 = .ok (.aload_n 0, 1) := by decide +kernel
theorem zd_264_564 : decode (zm_cc 264) 564 = .ok (.iload 4, 2) := by decide +kernel
theorem zd_264_566 : decode (zm_cc 264) 566 = .ok (.iconst 2, 1) := by decide +kernel
theorem zd_264_567 : decode (zm_cc 264) 567 = .ok (.iadd, 1) := by decide +kernel
theorem zd_264_568 : decode (zm_cc 264) 568 = .ok (.iaload, 1) := by decide +kernel
theorem zd_264_569 : decode (zm_cc 264) 569 = .ok (.aload_n 0, 1) := by decide +kernel
theorem zd_264_570 : decode (zm_cc 264) 570 = .ok (.iload 4, 2) := by decide +kernel
theorem zd_264_572 : decode (zm_cc 264) 572 = .ok (.iconst 3, 1) := by decide +kernel
theorem zd_264_573 : decode (zm_cc 264) 573 = .ok (.iadd, 1) := by decide +kernel
theorem zd_264_574 : decode (zm_cc 264) 574 = .ok (.iaload, 1) := by decide +kernel
theorem zd_264_575 : decode (zm_cc 264) 575 = .ok (.invokevirtual 85, 3) := by decide +kernel
theorem zd_264_578 : decode (zm_cc 264) 578 = .ok (.if_icmp .eq 278, 3) := by decide +kernel
theorem zd_264_583 : decode (zm_cc 264) 583 = .ok (.aload_n 1, 1) := by decide +kernel
theorem zd_264_584 : decode (zm_cc 264) 584 = .ok (.aload_n 0, 1) := by decide +kernel
theorem zd_264_585 : decode (zm_cc 264) 585 = .ok (.iload 4, 2) := by decide +kernel
theorem zd_264_587 : decode (zm_cc 264) 587 = .ok (.iconst 1, 1) := by decide +kernel
theorem zd_264_588 : decode (zm_cc 264) 588 = .ok (.iadd, 1) := by decide +kernel
theorem zd_264_589 : decode (zm_cc 264) 589 = .ok (.iaload, 1) := by decide +kernel
theorem zd_264_590 : decode (zm_cc 264) 590 = .ok (.aload_n 0, 1) := by decide +kernel
theorem zd_264_591 : decode (zm_cc 264) 591 = .ok (.iload 4, 2) := by decide +kernel
theorem zd_264_593 : decode (zm_cc 264) 593 = .ok (.iconst 2, 1) := by decide +kernel
theorem zd_264_594 : decode (zm_cc 264) 594 = .ok (.iadd, 1) := by decide +kernel
theorem zd_264_595 : decode (zm_cc 264) 595 = .ok (.iaload, 1) := by decide +kernel
theorem zd_264_596 : decode (zm_cc 264) 596 = .ok (.invokevirtual 86, 3) := by decide +kernel
theorem zd_264_599 : decode (zm_cc 264) 599 = .ok (.aload_n 2, 1) := by decide +kernel
theorem zd_264_600 : decode (zm_cc 264) 600 = .ok (.aload_n 0, 1) := by decide +kernel
theorem zd_264_601 : decode (zm_cc 264) 601 = .ok (.iload 4, 2) := by decide +kernel
theorem zd_264_603 : decode (zm_cc 264) 603 = .ok (.iconst 1, 1) := by decide +kernel
theorem zd_264_604 : decode (zm_cc 264) 604 = .ok (.iadd, 1) := by decide +kernel
theorem zd_264_605 : decode (zm_cc 264) 605 = .ok (.iaload, 1) := by decide +kernel
theorem zd_264_606 : decode (zm_cc 264) 606 = .ok (.aload_n 0, 1) := by decide +kernel
theorem zd_264_607 : decode (zm_cc 264) 607 = .ok (.iload 4, 2) := by decide +kernel
theorem zd_264_609 : decode (zm_cc 264) 609 = .ok (.iconst 2, 1) := by decide +kernel
theorem zd_264_610 : decode (zm_cc 264) 610 = .ok (.iadd, 1) := by decide +kernel
theorem zd_264_611 : decode (zm_cc 264) 611 = .ok (.iaload, 1) := by decide +kernel
theorem zd_264_612 : decode (zm_cc 264) 612 = .ok (.invokevirtual 89, 3) := by decide +kernel
theorem zd_264_615 : decode (zm_cc 264) 615 = .ok (.if_icmp .eq 241, 3) := by decide +kernel
theorem zd_264_620 : decode (zm_cc 264) 620 = .ok (.aload_n 1, 1) := by decide +kernel
theorem zd_264_621 : decode (zm_cc 264) 621 = .ok (.aload_n 0, 1) := by decide +kernel
theorem zd_264_622 : decode (zm_cc 264) 622 = .ok (.iload 4, 2) := by decide +kernel
theorem zd_264_624 : decode (zm_cc 264) 624 = .ok (.iconst 1, 1) := by decide +kernel
theorem zd_264_625 : decode (zm_cc 264) 625 = .ok (.iadd, 1) := by decide +kernel
theorem zd_264_626 : decode (zm_cc 264) 626 = .ok (.iaload, 1) := by decide +kernel
theorem zd_264_627 : decode (zm_cc 264) 627 = .ok (.aload_n 0, 1) := by decide +kernel
theorem zd_264_628 : decode (zm_cc 264) 628 = .ok (.iload 4, 2) := by decide +kernel
theorem zd_264_630 : decode (zm_cc 264) 630 = .ok (.iconst 2, 1) := by decide +kernel
theorem zd_264_631 : decode (zm_cc 264) 631 = .ok (.iadd, 1) := by decide +kernel
theorem zd_264_632 : decode (zm_cc 264) 632 = .ok (.iaload, 1) := by decide +kernel
theorem zd_264_633 : decode (zm_cc 264) 633 = .ok (.invokevirtual 90, 3) := by decide +kernel
theorem zd_264_636 : decode (zm_cc 264) 636 = .ok (.aload_n 2, 1) := by decide +kernel
theorem zd_264_637 : decode (zm_cc 264) 637 = .ok (.aload_n 0, 1) := by decide +kernel
theorem zd_264_638 : decode (zm_cc 264) 638 = .ok (.iload 4, 2) := by decide +kernel
theorem zd_264_640 : decode (zm_cc 264) 640 = .ok (.iconst 1, 1) := by decide +kernel
theorem zd_264_641 : decode (zm_cc 264) 641 = .ok (.iadd, 1) := by decide +kernel
theorem zd_264_642 : decode (zm_cc 264) 642 = .ok (.iaload, 1) := by decide +kernel
theorem zd_264_643 : decode (zm_cc 264) 643 = .ok (.aload_n 0, 1) := by decide +kernel
theorem zd_264_644 : decode (zm_cc 264) 644 = .ok (.iload 4, 2) := by decide +kernel
theorem zd_264_646 : decode (zm_cc 264) 646 = .ok (.iconst 2, 1) := by decide +kernel
theorem zd_264_647 : decode (zm_cc 264) 647 = .ok (.iadd, 1) := by decide +kernel
theorem zd_264_648 : decode (zm_cc 264) 648 = .ok (.iaload, 1) := by decide +kernel
theorem zd_264_649 : decode (zm_cc 264) 649 = .ok (.invokevirtual 93, 3) := by decide +kernel
theorem zd_264_652 : decode (zm_cc 264) 652 = .ok (.if_icmp .eq 204, 3) := by decide +kernel
theorem zd_264_657 : decode (zm_cc 264) 657 = .ok (.aload_n 1, 1) := by decide +kernel
theorem zd_264_658 : decode (zm_cc 264) 658 = .ok (.aload_n 0, 1) := by decide +kernel
theorem zd_264_659 : decode (zm_cc 264) 659 = .ok (.iload 4, 2) := by decide +kernel
theorem zd_264_661 : decode (zm_cc 264) 661 = .ok (.iconst 1, 1) := by decide +kernel
theorem zd_264_662 : decode (zm_cc 264) 662 = .ok (.iadd, 1) := by decide +kernel
theorem zd_264_663 : decode (zm_cc 264) 663 = .ok (.iaload, 1) := by decide +kernel
theorem zd_264_664 : decode (zm_cc 264) 664 = .ok (.invokevirtual 94, 3) := by decide +kernel
theorem zd_264_667 : decode (zm_cc 264) 667 = .ok (.aload_n 2, 1) := by decide +kernel
theorem zd_264_668 : decode (zm_cc 264) 668 = .ok (.aload_n 0, 1) := by decide +kernel
theorem zd_264_669 : decode (zm_cc 264) 669 = .ok (.iload 4, 2) := by decide +kernel
theorem zd_264_671 : decode (zm_cc 264) 671 = .ok (.iconst 1, 1) := by decide +kernel
theorem zd_264_672 : decode (zm_cc 264) 672 = .ok (.iadd, 1) := by decide +kernel
theorem zd_264_673 : decode (zm_cc 264) 673 = .ok (.iaload, 1) := by decide +kernel
theorem zd_264_674 : decode (zm_cc 264) 674 = .ok (.invokevirtual 97, 3) := by decide +kernel
theorem zd_264_677 : decode (zm_cc 264) 677 = .ok (.if_icmp .eq 179, 3) := by decide +kernel
theorem zd_264_682 : decode (zm_cc 264) 682 = .ok (.aload_n 1, 1) := by decide +kernel
theorem zd_264_683 : decode (zm_cc 264) 683 = .ok (.aload_n 0, 1) := by decide +kernel
theorem zd_264_684 : decode (zm_cc 264) 684 = .ok (.iload 4, 2) := by decide +kernel
theorem zd_264_686 : decode (zm_cc 264) 686 = .ok (.iconst 1, 1) := by decide +kernel
theorem zd_264_687 : decode (zm_cc 264) 687 = .ok (.iadd, 1) := by decide +kernel
theorem zd_264_688 : decode (zm_cc 264) 688 = .ok (.iaload, 1) := by decide +kernel
theorem zd_264_689 : decode (zm_cc 264) 689 = .ok (.invokevirtual 98, 3) := by decide +kernel
theorem zd_264_692 : decode (zm_cc 264) 692 = .ok (.aload_n 2, 1) := by decide +kernel
theorem zd_264_693 : decode (zm_cc 264) 693 = .ok (.aload_n 0, 1) := by decide +kernel
theorem zd_264_694 : decode (zm_cc 264) 694 = .ok (.iload 4, 2) := by decide +kernel
theorem zd_264_696 : decode (zm_cc 264) 696 = .ok (.iconst 1, 1) := by decide +kernel
theorem zd_264_697 : decode (zm_cc 264) 697 = .ok (.iadd, 1) := by decide +kernel
theorem zd_264_698 : decode (zm_cc 264) 698 = .ok (.iaload, 1) := by decide +kernel
theorem zd_264_699 : decode (zm_cc 264) 699 = .ok (.invokevirtual 101, 3) := by decide +kernel
theorem zd_264_702 : decode (zm_cc 264) 702 = .ok (.if_icmp .eq 154, 3) := by decide +kernel
theorem zd_264_707 : decode (zm_cc 264) 707 = .ok (.aload_n 1, 1) := by decide +kernel
theorem zd_264_708 : decode (zm_cc 264) 708 = .ok (.invokevirtual 102, 3) := by decide +kernel
theorem zd_264_711 : decode (zm_cc 264) 711 = .ok (.aload_n 2, 1) := by decide +kernel
theorem zd_264_712 : decode (zm_cc 264) 712 = .ok (.invokevirtual 105, 3) := by decide +kernel
theorem zd_264_715 : decode (zm_cc 264) 715 = .ok (.if_icmp .eq 141, 3) := by decide +kernel
theorem zd_264_720 : decode (zm_cc 264) 720 = .ok (.aload_n 1, 1) := by decide +kernel
theorem zd_264_721 : decode (zm_cc 264) 721 = .ok (.aload_n 0, 1) := by decide +kernel
theorem zd_264_722 : decode (zm_cc 264) 722 = .ok (.iload 4, 2) := by decide +kernel
theorem zd_264_724 : decode (zm_cc 264) 724 = .ok (.iconst 1, 1) := by decide +kernel
theorem zd_264_725 : decode (zm_cc 264) 725 = .ok (.iadd, 1) := by decide +kernel
theorem zd_264_726 : decode (zm_cc 264) 726 = .ok (.iaload, 1) := by decide +kernel
theorem zd_264_727 : decode (zm_cc 264) 727 = .ok (.aload_n 0, 1) := by decide +kernel
theorem zd_264_728 : decode (zm_cc 264) 728 = .ok (.iload 4, 2) := by decide +kernel
theorem zd_264_730 : decode (zm_cc 264) 730 = .ok (.iconst 2, 1) := by decide +kernel
theorem zd_264_731 : decode (zm_cc 264) 731 = .ok (.iadd, 1) := by decide +kernel
theorem zd_264_732 : decode (zm_cc 264) 732 = .ok (.iaload, 1) := by decide +kernel
theorem zd_264_733 : decode (zm_cc 264) 733 = .ok (.invokevirtual 106, 3) := by decide +kernel
theorem zd_264_736 : decode (zm_cc 264) 736 = .ok (.aload_n 2, 1) := by decide +kernel
theorem zd_264_737 : decode (zm_cc 264) 737 = .ok (.aload_n 0, 1) := by decide +kernel
theorem zd_264_738 : decode (zm_cc 264) 738 = .ok (.iload 4, 2) := by decide +kernel
theorem zd_264_740 : decode (zm_cc 264) 740 = .ok (.iconst 1, 1) := by decide +kernel
theorem zd_264_741 : decode (zm_cc 264) 741 = .ok (.iadd, 1) := by decide +kernel
theorem zd_264_742 : decode (zm_cc 264) 742 = .ok (.iaload, 1) := by decide +kernel
theorem zd_264_743 : decode (zm_cc 264) 743 = .ok (.aload_n 0, 1) := by decide +kernel
theorem zd_264_744 : decode (zm_cc 264) 744 = .ok (.iload 4, 2) := by decide +kernel
theorem zd_264_746 : decode (zm_cc 264) 746 = .ok (.iconst 2, 1) := by decide +kernel
theorem zd_264_747 : decode (zm_cc 264) 747 = .ok (.iadd, 1) := by decide +kernel
theorem zd_264_748 : decode (zm_cc 264) 748 = .ok (.iaload, 1) := by decide +kernel
theorem zd_264_749 : decode (zm_cc 264) 749 = .ok (.invokevirtual 109, 3) := by decide +kernel
theorem zd_264_752 : decode (zm_cc 264) 752 = .ok (.if_icmp .eq 104, 3) := by decide +kernel
theorem zd_264_757 : decode (zm_cc 264) 757 = .ok (.aload_n 1, 1) := by decide +kernel
theorem zd_264_758 : decode (zm_cc 264) 758 = .ok (.aload_n 0, 1) := by decide +kernel
theorem zd_264_759 : decode (zm_cc 264) 759 = .ok (.iload 4, 2) := by decide +kernel
theorem zd_264_761 : decode (zm_cc 264) 761 = .ok (.iconst 1, 1) := by decide +kernel
theorem zd_264_762 : decode (zm_cc 264) 762 = .ok (.iadd, 1) := by decide +kernel
theorem zd_264_763 : decode (zm_cc 264) 763 = .ok (.iaload, 1) := by decide +kernel
theorem zd_264_764 : decode (zm_cc 264) 764 = .ok (.aload_n 0, 1) := by decide +kernel
theorem zd_264_765 : decode (zm_cc 264) 765 = .ok (.iload 4, 2) := by decide +kernel
theorem zd_264_767 : decode (zm_cc 264) 767 = .ok (.iconst 2, 1) := by decide +kernel
theorem zd_264_768 : decode (zm_cc 264) 768 = .ok (.iadd, 1) := by decide +kernel
theorem zd_264_769 : decode (zm_cc 264) 769 = .ok (.iaload, 1) := by decide +kernel
theorem zd_264_770 : decode (zm_cc 264) 770 = .ok (.aload_n 0, 1) := by decide +kernel
theorem zd_264_771 : decode (zm_cc 264) 771 = .ok (.iload 4, 2) := by decide +kernel
theorem zd_264_773 : decode (zm_cc 264) 773 = .ok (.iconst 3, 1) := by decide +kernel
theorem zd_264_774 : decode (zm_cc 264) 774 = .ok (.iadd, 1) := by decide +kernel
theorem zd_264_775 : decode (zm_cc 264) 775 = .ok (.iaload, 1) := by decide +kernel
theorem zd_264_776 : decode (zm_cc 264) 776 = .ok (.aload_n 0, 1) := by decide +kernel
theorem zd_264_777 : decode (zm_cc 264) 777 = .ok (.iload 4, 2) := by decide +kernel
theorem zd_264_779 : decode (zm_cc 264) 779 = .ok (.iconst 4, 1) := by decide +kernel
theorem zd_264_780 : decode (zm_cc 264) 780 = .ok (.iadd, 1) := by decide +kernel
theorem zd_264_781 : decode (zm_cc 264) 781 = .ok (.iaload, 1) := by decide +kernel
theorem zd_264_782 : decode (zm_cc 264) 782 = .ok (.invokevirtual 110, 3) := by decide +kernel
theorem zd_264_785 : decode (zm_cc 264) 785 = .ok (.aload_n 2, 1) := by decide +kernel
theorem zd_264_786 : decode (zm_cc 264) 786 = .ok (.aload_n 0, 1) := by decide +kernel
theorem zd_264_787 : decode (zm_cc 264) 787 = .ok (.iload 4, 2) := by decide +kernel
theorem zd_264_789 : decode (zm_cc 264) 789 = .ok (.iconst 1, 1) := by decide +kernel
theorem zd_264_790 : decode (zm_cc 264) 790 = .ok (.iadd, 1) := by decide +kernel
theorem zd_264_791 : decode (zm_cc 264) 791 = .ok (.iaload, 1) := by decide +kernel
theorem zd_264_792 : decode (zm_cc 264) 792 = .ok (.aload_n 0, 1) := by decide +kernel
theorem zd_264_793 : decode (zm_cc 264) 793 = .ok (.iload 4, 2) := by decide +kernel
theorem zd_264_795 : decode (zm_cc 264) 795 = .ok (.iconst 2, 1) := by decide +kernel
theorem zd_264_796 : decode (zm_cc 264) 796 = .ok (.iadd, 1) := by decide +kernel
theorem zd_264_797 : decode (zm_cc 264) 797 = .ok (.iaload, 1) := by decide +kernel
theorem zd_264_798 : decode (zm_cc 264) 798 = .ok (.aload_n 0, 1) := by decide +kernel
theorem zd_264_799 : decode (zm_cc 264) 799 = .ok (.iload 4, 2) := by decide +kernel
theorem zd_264_801 : decode (zm_cc 264) 801 = .ok (.iconst 3, 1) := by decide +kernel
theorem zd_264_802 : decode (zm_cc 264) 802 = .ok (.iadd, 1) := by decide +kernel
theorem zd_264_803 : decode (zm_cc 264) 803 = .ok (.iaload, 1) := by decide +kernel
theorem zd_264_804 : decode (zm_cc 264) 804 = .ok (.aload_n 0, 1) := by decide +kernel
theorem zd_264_805 : decode (zm_cc 264) 805 = .ok (.iload 4, 2) := by decide +kernel
theorem zd_264_807 : decode (zm_cc 264) 807 = .ok (.iconst 4, 1) := by decide +kernel
theorem zd_264_808 : decode (zm_cc 264) 808 = .ok (.iadd, 1) := by decide +kernel
theorem zd_264_809 : decode (zm_cc 264) 809 = .ok (.iaload, 1) := by decide +kernel
theorem zd_264_810 : decode (zm_cc 264) 810 = .ok (.invokevirtual 114, 3) := by decide +kernel
theorem zd_264_813 : decode (zm_cc 264) 813 = .ok (.if_icmp .eq 43, 3) := by decide +kernel
theorem zd_264_818 : decode (zm_cc 264) 818 = .ok (.aload_n 1, 1) := by decide +kernel
theorem zd_264_819 : decode (zm_cc 264) 819 = .ok (.aload_n 0, 1) := by decide +kernel
theorem zd_264_820 : decode (zm_cc 264) 820 = .ok (.iload 4, 2) := by decide +kernel
theorem zd_264_822 : decode (zm_cc 264) 822 = .ok (.iconst 1, 1) := by decide +kernel
theorem zd_264_823 : decode (zm_cc 264) 823 = .ok (.iadd, 1) := by decide +kernel
theorem zd_264_824 : decode (zm_cc 264) 824 = .ok (.iaload, 1) := by decide +kernel
theorem zd_264_825 : decode (zm_cc 264) 825 = .ok (.invokevirtual 115, 3) := by decide +kernel
theorem zd_264_828 : decode (zm_cc 264) 828 = .ok (.aload_n 2, 1) := by decide +kernel
theorem zd_264_829 : decode (zm_cc 264) 829 = .ok (.aload_n 0, 1) := by decide +kernel
theorem zd_264_830 : decode (zm_cc 264) 830 = .ok (.iload 4, 2) := by decide +kernel
theorem zd_264_832 : decode (zm_cc 264) 832 = .ok (.iconst 1, 1) := by decide +kernel
theorem zd_264_833 : decode (zm_cc 264) 833 = .ok (.iadd, 1) := by decide +kernel
theorem zd_264_834 : decode (zm_cc 264) 834 = .ok (.iaload, 1) := by decide +kernel
theorem zd_264_835 : decode (zm_cc 264) 835 = .ok (.invokevirtual 118, 3) := by decide +kernel
theorem zd_264_838 : decode (zm_cc 264) 838 = .ok (.if_icmp .eq 18, 3) := by decide +kernel
theorem zd_264_843 : decode (zm_cc 264) 843 = .ok (.aload_n 1, 1) := by decide +kernel
theorem zd_264_844 : decode (zm_cc 264) 844 = .ok (.invokevirtual 119, 3) := by decide +kernel
theorem zd_264_847 : decode (zm_cc 264) 847 = .ok (.aload_n 2, 1) := by decide +kernel
theorem zd_264_848 : decode (zm_cc 264) 848 = .ok (.invokevirtual 122, 3) := by decide +kernel
theorem zd_264_851 : decode (zm_cc 264) 851 = .ok (.if_icmp .eq 5, 3) := by decide +kernel
theorem zd_264_856 : decode (zm_cc 264) 856 = .ok (.iinc 4 6, 3) := by decide +kernel
theorem zd_264_859 : decode (zm_cc 264) 859 = .ok (.goto (-836), 3) := by decide +kernel
theorem zd_264_862 : decode (zm_cc 264) 862 = .ok (.iconst 1, 1) := by decide +kernel
theorem zd_264_863 : decode (zm_cc 264) 863 = .ok (.ireturn, 1) := by decide +kernel
theorem zd_265_0 : decode (zm_cc 265) 0 = .ok (.aload 6, 2) := by decide +kernel
theorem zd_265_2 : decode (zm_cc 265) 2 = .ok (.iconst 0, 1) := by decide +kernel
theorem zd_265_3 : decode (zm_cc 265) 3 = .ok (.aload_n 0, 1) := by decide +kernel
theorem zd_265_4 : decode (zm_cc 265) 4 = .ok (.iload_n 1, 1) := by decide +kernel
theorem zd_265_5 : decode (zm_cc 265) 5 = .ok (.iload_n 2, 1) := by decide +kernel
theorem zd_265_6 : decode (zm_cc 265) 6 = .ok (.iload_n 3, 1) := by decide +kernel
theorem zd_265_7 : decode (zm_cc 265) 7 = .ok (.iload 4, 2) := by decide +kernel
theorem zd_265_9 : decode (zm_cc 265) 9 = .ok (.iload 5, 2) := by decide +kernel
theorem zd_265_11 : decode (zm_cc 265) 11 = .ok (.invokevirtual 7, 3) := by decide +kernel
theorem zd_265_14 : decode (zm_cc 265) 14 = .ok (.i2l, 1) := by decide +kernel
theorem zd_265_15 : decode (zm_cc 265) 15 = .ok (.lastore, 1) := by decide +kernel
theorem zd_265_16 : decode (zm_cc 265) 16 = .ok (.goto 7, 3) := by decide +kernel
theorem zd_265_23 : decode (zm_cc 265) 23 = .ok (.iconst 0, 1) := by decide +kernel
theorem zd_265_24 : decode (zm_cc 265) 24 = .ok (.ireturn, 1) := by decide +kernel
theorem zd_266_0 : decode (zm_cc 266) 0 = .ok (.aload_n 0, 1) := by decide +kernel
theorem zd_266_1 : decode (zm_cc 266) 1 = .ok (.iload_n 1, 1) := by decide +kernel
theorem zd_266_2 : decode (zm_cc 266) 2 = .ok (.invokevirtual 15, 3) := by decide +kernel
theorem zd_266_5 : decode (zm_cc 266) 5 = .ok (.goto 6, 3) := by decide +kernel
theorem zd_266_11 : decode (zm_cc 266) 11 = .ok (.iconst 0, 1) := by decide +kernel
theorem zd_266_12 : decode (zm_cc 266) 12 = .ok (.ireturn, 1) := by decide +kernel
