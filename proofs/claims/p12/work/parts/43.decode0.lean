/-! decode rows -/
theorem zd_13_0 : decode (zm_cc 13) 0 = .ok (.aload_n 0, 1) := by decide +kernel
theorem zd_13_1 : decode (zm_cc 13) 1 = .ok (.getfield 84, 3) := by decide +kernel
theorem zd_13_4 : decode (zm_cc 13) 4 = .ok (.ifCond .lt 16, 3) := by decide +kernel
theorem zd_13_7 : decode (zm_cc 13) 7 = .ok (.aload_n 0, 1) := by decide +kernel
theorem zd_13_8 : decode (zm_cc 13) 8 = .ok (.getfield 84, 3) := by decide +kernel
theorem zd_13_11 : decode (zm_cc 13) 11 = .ok (.bipush 20, 2) := by decide +kernel
theorem zd_13_13 : decode (zm_cc 13) 13 = .ok (.iadd, 1) := by decide +kernel
theorem zd_13_14 : decode (zm_cc 13) 14 = .ok (.sipush 1500, 3) := by decide +kernel
theorem zd_13_17 : decode (zm_cc 13) 17 = .ok (.if_icmp .le 13, 3) := by decide +kernel
theorem zd_13_20 : decode (zm_cc 13) 20 = .ok (.new 87, 3) := by decide +kernel
theorem zd_13_30 : decode (zm_cc 13) 30 = .ok (.aload_n 0, 1) := by decide +kernel
theorem zd_13_31 : decode (zm_cc 13) 31 = .ok (.iload_n 1, 1) := by decide +kernel
theorem zd_13_32 : decode (zm_cc 13) 32 = .ok (.invokevirtual 94, 3) := by decide +kernel
theorem zd_13_35 : decode (zm_cc 13) 35 = .ok (.aload_n 0, 1) := by decide +kernel
theorem zd_13_36 : decode (zm_cc 13) 36 = .ok (.iload_n 2, 1) := by decide +kernel
theorem zd_13_37 : decode (zm_cc 13) 37 = .ok (.invokevirtual 94, 3) := by decide +kernel
theorem zd_13_40 : decode (zm_cc 13) 40 = .ok (.aload_n 0, 1) := by decide +kernel
theorem zd_13_41 : decode (zm_cc 13) 41 = .ok (.iload_n 3, 1) := by decide +kernel
theorem zd_13_42 : decode (zm_cc 13) 42 = .ok (.invokevirtual 94, 3) := by decide +kernel
theorem zd_13_45 : decode (zm_cc 13) 45 = .ok (.aload_n 0, 1) := by decide +kernel
theorem zd_13_46 : decode (zm_cc 13) 46 = .ok (.iload 4, 2) := by decide +kernel
theorem zd_13_48 : decode (zm_cc 13) 48 = .ok (.invokevirtual 94, 3) := by decide +kernel
theorem zd_13_51 : decode (zm_cc 13) 51 = .ok (.aload_n 0, 1) := by decide +kernel
theorem zd_13_52 : decode (zm_cc 13) 52 = .ok (.iload 5, 2) := by decide +kernel
theorem zd_13_54 : decode (zm_cc 13) 54 = .ok (.invokevirtual 94, 3) := by decide +kernel
theorem zd_13_57 : decode (zm_cc 13) 57 = .ok (.aload_n 0, 1) := by decide +kernel
theorem zd_13_58 : decode (zm_cc 13) 58 = .ok (.getfield 84, 3) := by decide +kernel
theorem zd_13_61 : decode (zm_cc 13) 61 = .ok (.ireturn, 1) := by decide +kernel
theorem zd_14_0 : decode (zm_cc 14) 0 = .ok (.bipush 24, 2) := by decide +kernel
theorem zd_14_2 : decode (zm_cc 14) 2 = .ok (.istore_n 2, 1) := by decide +kernel
theorem zd_14_3 : decode (zm_cc 14) 3 = .ok (.iload_n 2, 1) := by decide +kernel
theorem zd_14_4 : decode (zm_cc 14) 4 = .ok (.ifCond .lt 42, 3) := by decide +kernel
theorem zd_14_7 : decode (zm_cc 14) 7 = .ok (.aload_n 0, 1) := by decide +kernel
theorem zd_14_8 : decode (zm_cc 14) 8 = .ok (.getfield 84, 3) := by decide +kernel
theorem zd_14_11 : decode (zm_cc 14) 11 = .ok (.sipush 1500, 3) := by decide +kernel
theorem zd_14_14 : decode (zm_cc 14) 14 = .ok (.if_icmp .ge 32, 3) := by decide +kernel
theorem zd_14_17 : decode (zm_cc 14) 17 = .ok (.aload_n 0, 1) := by decide +kernel
theorem zd_14_18 : decode (zm_cc 14) 18 = .ok (.getfield 9, 3) := by decide +kernel
theorem zd_14_21 : decode (zm_cc 14) 21 = .ok (.aload_n 0, 1) := by decide +kernel
theorem zd_14_22 : decode (zm_cc 14) 22 = .ok (.getfield 84, 3) := by decide +kernel
theorem zd_14_25 : decode (zm_cc 14) 25 = .ok (.iload_n 1, 1) := by decide +kernel
theorem zd_14_26 : decode (zm_cc 14) 26 = .ok (.iload_n 2, 1) := by decide +kernel
theorem zd_14_27 : decode (zm_cc 14) 27 = .ok (.iushr, 1) := by decide +kernel
theorem zd_14_28 : decode (zm_cc 14) 28 = .ok (.i2b, 1) := by decide +kernel
theorem zd_14_29 : decode (zm_cc 14) 29 = .ok (.bastore, 1) := by decide +kernel
theorem zd_14_30 : decode (zm_cc 14) 30 = .ok (.aload_n 0, 1) := by decide +kernel
theorem zd_14_31 : decode (zm_cc 14) 31 = .ok (.dup, 1) := by decide +kernel
theorem zd_14_32 : decode (zm_cc 14) 32 = .ok (.getfield 84, 3) := by decide +kernel
theorem zd_14_35 : decode (zm_cc 14) 35 = .ok (.iconst 1, 1) := by decide +kernel
theorem zd_14_36 : decode (zm_cc 14) 36 = .ok (.iadd, 1) := by decide +kernel
theorem zd_14_37 : decode (zm_cc 14) 37 = .ok (.putfield 84, 3) := by decide +kernel
theorem zd_14_40 : decode (zm_cc 14) 40 = .ok (.iinc 2 (-8), 3) := by decide +kernel
theorem zd_14_43 : decode (zm_cc 14) 43 = .ok (.goto (-40), 3) := by decide +kernel
theorem zd_14_46 : decode (zm_cc 14) 46 = .ok (.return_, 1) := by decide +kernel
theorem zd_15_0 : decode (zm_cc 15) 0 = .ok (.aload_n 0, 1) := by decide +kernel
theorem zd_15_1 : decode (zm_cc 15) 1 = .ok (.aload_n 0, 1) := by decide +kernel
theorem zd_15_2 : decode (zm_cc 15) 2 = .ok (.getfield 125, 3) := by decide +kernel
theorem zd_15_5 : decode (zm_cc 15) 5 = .ok (.bipush 20, 2) := by decide +kernel
theorem zd_15_7 : decode (zm_cc 15) 7 = .ok (.iadd, 1) := by decide +kernel
theorem zd_15_8 : decode (zm_cc 15) 8 = .ok (.sipush 1500, 3) := by decide +kernel
theorem zd_15_11 : decode (zm_cc 15) 11 = .ok (.if_icmp .le 7, 3) := by decide +kernel
theorem zd_15_14 : decode (zm_cc 15) 14 = .ok (.iconst 1, 1) := by decide +kernel
theorem zd_15_15 : decode (zm_cc 15) 15 = .ok (.goto 4, 3) := by decide +kernel
theorem zd_15_18 : decode (zm_cc 15) 18 = .ok (.iconst 0, 1) := by decide +kernel
theorem zd_15_19 : decode (zm_cc 15) 19 = .ok (.putfield 1, 3) := by decide +kernel
theorem zd_15_22 : decode (zm_cc 15) 22 = .ok (.aload_n 0, 1) := by decide +kernel
theorem zd_15_23 : decode (zm_cc 15) 23 = .ok (.getfield 1, 3) := by decide +kernel
theorem zd_15_26 : decode (zm_cc 15) 26 = .ok (.ifCond .le 5, 3) := by decide +kernel
theorem zd_15_29 : decode (zm_cc 15) 29 = .ok (.iconst 0, 1) := by decide +kernel
theorem zd_15_30 : decode (zm_cc 15) 30 = .ok (.ireturn, 1) := by decide +kernel
theorem zd_15_31 : decode (zm_cc 15) 31 = .ok (.iconst 0, 1) := by decide +kernel
theorem zd_15_32 : decode (zm_cc 15) 32 = .ok (.istore 6, 2) := by decide +kernel
theorem zd_15_34 : decode (zm_cc 15) 34 = .ok (.iload 6, 2) := by decide +kernel
theorem zd_15_36 : decode (zm_cc 15) 36 = .ok (.bipush 20, 2) := by decide +kernel
theorem zd_15_38 : decode (zm_cc 15) 38 = .ok (.if_icmp .ge 90, 3) := by decide +kernel
theorem zd_15_41 : decode (zm_cc 15) 41 = .ok (.iload 6, 2) := by decide +kernel
theorem zd_15_43 : decode (zm_cc 15) 43 = .ok (.iconst 4, 1) := by decide +kernel
theorem zd_15_44 : decode (zm_cc 15) 44 = .ok (.if_icmp .ge 7, 3) := by decide +kernel
theorem zd_15_47 : decode (zm_cc 15) 47 = .ok (.iload_n 1, 1) := by decide +kernel
theorem zd_15_48 : decode (zm_cc 15) 48 = .ok (.goto 39, 3) := by decide +kernel
theorem zd_15_51 : decode (zm_cc 15) 51 = .ok (.iload 6, 2) := by decide +kernel
theorem zd_15_53 : decode (zm_cc 15) 53 = .ok (.bipush 8, 2) := by decide +kernel
theorem zd_15_55 : decode (zm_cc 15) 55 = .ok (.if_icmp .ge 7, 3) := by decide +kernel
theorem zd_15_58 : decode (zm_cc 15) 58 = .ok (.iload_n 2, 1) := by decide +kernel
theorem zd_15_59 : decode (zm_cc 15) 59 = .ok (.goto 28, 3) := by decide +kernel
theorem zd_15_62 : decode (zm_cc 15) 62 = .ok (.iload 6, 2) := by decide +kernel
theorem zd_15_64 : decode (zm_cc 15) 64 = .ok (.bipush 12, 2) := by decide +kernel
theorem zd_15_66 : decode (zm_cc 15) 66 = .ok (.if_icmp .ge 7, 3) := by decide +kernel
theorem zd_15_69 : decode (zm_cc 15) 69 = .ok (.iload_n 3, 1) := by decide +kernel
theorem zd_15_70 : decode (zm_cc 15) 70 = .ok (.goto 17, 3) := by decide +kernel
theorem zd_15_73 : decode (zm_cc 15) 73 = .ok (.iload 6, 2) := by decide +kernel
theorem zd_15_75 : decode (zm_cc 15) 75 = .ok (.bipush 16, 2) := by decide +kernel
theorem zd_15_77 : decode (zm_cc 15) 77 = .ok (.if_icmp .ge 8, 3) := by decide +kernel
theorem zd_15_80 : decode (zm_cc 15) 80 = .ok (.iload 4, 2) := by decide +kernel
theorem zd_15_82 : decode (zm_cc 15) 82 = .ok (.goto 5, 3) := by decide +kernel
theorem zd_15_85 : decode (zm_cc 15) 85 = .ok (.iload 5, 2) := by decide +kernel
theorem zd_15_87 : decode (zm_cc 15) 87 = .ok (.istore 7, 2) := by decide +kernel
theorem zd_15_89 : decode (zm_cc 15) 89 = .ok (.aload_n 0, 1) := by decide +kernel
theorem zd_15_90 : decode (zm_cc 15) 90 = .ok (.getfield 13, 3) := by decide +kernel
theorem zd_15_93 : decode (zm_cc 15) 93 = .ok (.aload_n 0, 1) := by decide +kernel
theorem zd_15_94 : decode (zm_cc 15) 94 = .ok (.getfield 125, 3) := by decide +kernel
theorem zd_15_97 : decode (zm_cc 15) 97 = .ok (.iload 7, 2) := by decide +kernel
theorem zd_15_99 : decode (zm_cc 15) 99 = .ok (.bipush 24, 2) := by decide +kernel
theorem zd_15_101 : decode (zm_cc 15) 101 = .ok (.bipush 8, 2) := by decide +kernel
theorem zd_15_103 : decode (zm_cc 15) 103 = .ok (.iload 6, 2) := by decide +kernel
theorem zd_15_105 : decode (zm_cc 15) 105 = .ok (.iconst 4, 1) := by decide +kernel
theorem zd_15_106 : decode (zm_cc 15) 106 = .ok (.irem, 1) := by decide +kernel
theorem zd_15_107 : decode (zm_cc 15) 107 = .ok (.imul, 1) := by decide +kernel
theorem zd_15_108 : decode (zm_cc 15) 108 = .ok (.isub, 1) := by decide +kernel
theorem zd_15_109 : decode (zm_cc 15) 109 = .ok (.ishr, 1) := by decide +kernel
theorem zd_15_110 : decode (zm_cc 15) 110 = .ok (.i2b, 1) := by decide +kernel
theorem zd_15_111 : decode (zm_cc 15) 111 = .ok (.bastore, 1) := by decide +kernel
theorem zd_15_112 : decode (zm_cc 15) 112 = .ok (.aload_n 0, 1) := by decide +kernel
theorem zd_15_113 : decode (zm_cc 15) 113 = .ok (.dup, 1) := by decide +kernel
theorem zd_15_114 : decode (zm_cc 15) 114 = .ok (.getfield 125, 3) := by decide +kernel
theorem zd_15_117 : decode (zm_cc 15) 117 = .ok (.iconst 1, 1) := by decide +kernel
theorem zd_15_118 : decode (zm_cc 15) 118 = .ok (.iadd, 1) := by decide +kernel
theorem zd_15_119 : decode (zm_cc 15) 119 = .ok (.putfield 125, 3) := by decide +kernel
theorem zd_15_122 : decode (zm_cc 15) 122 = .ok (.iinc 6 1, 3) := by decide +kernel
theorem zd_15_125 : decode (zm_cc 15) 125 = .ok (.goto (-91), 3) := by decide +kernel
theorem zd_15_128 : decode (zm_cc 15) 128 = .ok (.aload_n 0, 1) := by decide +kernel
theorem zd_15_129 : decode (zm_cc 15) 129 = .ok (.getfield 125, 3) := by decide +kernel
theorem zd_15_132 : decode (zm_cc 15) 132 = .ok (.ireturn, 1) := by decide +kernel
theorem zd_16_0 : decode (zm_cc 16) 0 = .ok (.iload_n 1, 1) := by decide +kernel
theorem zd_16_1 : decode (zm_cc 16) 1 = .ok (.ifCond .lt 11, 3) := by decide +kernel
theorem zd_16_4 : decode (zm_cc 16) 4 = .ok (.iload_n 1, 1) := by decide +kernel
theorem zd_16_5 : decode (zm_cc 16) 5 = .ok (.aload_n 0, 1) := by decide +kernel
theorem zd_16_6 : decode (zm_cc 16) 6 = .ok (.getfield 84, 3) := by decide +kernel
theorem zd_16_9 : decode (zm_cc 16) 9 = .ok (.if_icmp .le 13, 3) := by decide +kernel
theorem zd_16_12 : decode (zm_cc 16) 12 = .ok (.new 98, 3) := by decide +kernel
theorem zd_16_22 : decode (zm_cc 16) 22 = .ok (.aload_n 0, 1) := by decide +kernel
theorem zd_16_23 : decode (zm_cc 16) 23 = .ok (.iload_n 1, 1) := by decide +kernel
theorem zd_16_24 : decode (zm_cc 16) 24 = .ok (.putfield 84, 3) := by decide +kernel
theorem zd_16_27 : decode (zm_cc 16) 27 = .ok (.return_, 1) := by decide +kernel
theorem zd_17_0 : decode (zm_cc 17) 0 = .ok (.aload_n 0, 1) := by decide +kernel
theorem zd_17_1 : decode (zm_cc 17) 1 = .ok (.iload_n 1, 1) := by decide +kernel
theorem zd_17_2 : decode (zm_cc 17) 2 = .ok (.iconst 0, 1) := by decide +kernel
theorem zd_17_3 : decode (zm_cc 17) 3 = .ok (.aload_n 0, 1) := by decide +kernel
theorem zd_17_4 : decode (zm_cc 17) 4 = .ok (.getfield 125, 3) := by decide +kernel
theorem zd_17_7 : decode (zm_cc 17) 7 = .ok (.invokestatic 128, 3) := by decide +kernel
theorem zd_17_10 : decode (zm_cc 17) 10 = .ok (.ifCond .eq 7, 3) := by decide +kernel
theorem zd_17_13 : decode (zm_cc 17) 13 = .ok (.iconst 0, 1) := by decide +kernel
theorem zd_17_14 : decode (zm_cc 17) 14 = .ok (.goto 4, 3) := by decide +kernel
theorem zd_17_17 : decode (zm_cc 17) 17 = .ok (.iconst 1, 1) := by decide +kernel
theorem zd_17_18 : decode (zm_cc 17) 18 = .ok (.putfield 1, 3) := by decide +kernel
theorem zd_17_21 : decode (zm_cc 17) 21 = .ok (.aload_n 0, 1) := by decide +kernel
theorem zd_17_22 : decode (zm_cc 17) 22 = .ok (.aload_n 0, 1) := by decide +kernel
theorem zd_17_23 : decode (zm_cc 17) 23 = .ok (.getfield 1, 3) := by decide +kernel
theorem zd_17_26 : decode (zm_cc 17) 26 = .ok (.ifCond .le 10, 3) := by decide +kernel
theorem zd_17_29 : decode (zm_cc 17) 29 = .ok (.aload_n 0, 1) := by decide +kernel
theorem zd_17_30 : decode (zm_cc 17) 30 = .ok (.getfield 125, 3) := by decide +kernel
theorem zd_17_33 : decode (zm_cc 17) 33 = .ok (.goto 4, 3) := by decide +kernel
theorem zd_17_36 : decode (zm_cc 17) 36 = .ok (.iload_n 1, 1) := by decide +kernel
theorem zd_17_37 : decode (zm_cc 17) 37 = .ok (.putfield 125, 3) := by decide +kernel
theorem zd_17_40 : decode (zm_cc 17) 40 = .ok (.return_, 1) := by decide +kernel
theorem zd_18_0 : decode (zm_cc 18) 0 = .ok (.iload_n 0, 1) := by decide +kernel
theorem zd_18_1 : decode (zm_cc 18) 1 = .ok (.iload_n 1, 1) := by decide +kernel
theorem zd_18_2 : decode (zm_cc 18) 2 = .ok (.if_icmp .lt 12, 3) := by decide +kernel
theorem zd_18_5 : decode (zm_cc 18) 5 = .ok (.iload_n 0, 1) := by decide +kernel
theorem zd_18_6 : decode (zm_cc 18) 6 = .ok (.iload_n 2, 1) := by decide +kernel
theorem zd_18_7 : decode (zm_cc 18) 7 = .ok (.if_icmp .gt 7, 3) := by decide +kernel
theorem zd_18_10 : decode (zm_cc 18) 10 = .ok (.iconst 1, 1) := by decide +kernel
theorem zd_18_11 : decode (zm_cc 18) 11 = .ok (.goto 4, 3) := by decide +kernel
theorem zd_18_14 : decode (zm_cc 18) 14 = .ok (.iconst 0, 1) := by decide +kernel
theorem zd_18_15 : decode (zm_cc 18) 15 = .ok (.ireturn, 1) := by decide +kernel
theorem zd_19_0 : decode (zm_cc 19) 0 = .ok (.aload_n 0, 1) := by decide +kernel
theorem zd_19_1 : decode (zm_cc 19) 1 = .ok (.getfield 25, 3) := by decide +kernel
theorem zd_19_4 : decode (zm_cc 19) 4 = .ok (.aload_n 0, 1) := by decide +kernel
theorem zd_19_5 : decode (zm_cc 19) 5 = .ok (.getfield 84, 3) := by decide +kernel
theorem zd_19_8 : decode (zm_cc 19) 8 = .ok (.invokevirtual 103, 3) := by decide +kernel
theorem zd_19_11 : decode (zm_cc 19) 11 = .ok (.aload_n 0, 1) := by decide +kernel
theorem zd_19_12 : decode (zm_cc 19) 12 = .ok (.iconst 0, 1) := by decide +kernel
theorem zd_19_13 : decode (zm_cc 19) 13 = .ok (.putfield 84, 3) := by decide +kernel
theorem zd_19_16 : decode (zm_cc 19) 16 = .ok (.aload_n 0, 1) := by decide +kernel
theorem zd_19_17 : decode (zm_cc 19) 17 = .ok (.aload_n 0, 1) := by decide +kernel
theorem zd_19_18 : decode (zm_cc 19) 18 = .ok (.getfield 25, 3) := by decide +kernel
theorem zd_19_21 : decode (zm_cc 19) 21 = .ok (.getfield 106, 3) := by decide +kernel
theorem zd_19_24 : decode (zm_cc 19) 24 = .ok (.putfield 109, 3) := by decide +kernel
theorem zd_19_27 : decode (zm_cc 19) 27 = .ok (.aload_n 0, 1) := by decide +kernel
theorem zd_19_28 : decode (zm_cc 19) 28 = .ok (.aload_n 0, 1) := by decide +kernel
theorem zd_19_29 : decode (zm_cc 19) 29 = .ok (.getfield 109, 3) := by decide +kernel
theorem zd_19_32 : decode (zm_cc 19) 32 = .ok (.ifCond .ne 7, 3) := by decide +kernel
theorem zd_19_35 : decode (zm_cc 19) 35 = .ok (.iconst 1, 1) := by decide +kernel
theorem zd_19_36 : decode (zm_cc 19) 36 = .ok (.goto 4, 3) := by decide +kernel
theorem zd_19_39 : decode (zm_cc 19) 39 = .ok (.iconst 0, 1) := by decide +kernel
theorem zd_19_40 : decode (zm_cc 19) 40 = .ok (.putfield 110, 3) := by decide +kernel
theorem zd_19_43 : decode (zm_cc 19) 43 = .ok (.aload_n 0, 1) := by decide +kernel
theorem zd_19_44 : decode (zm_cc 19) 44 = .ok (.iconst 0, 1) := by decide +kernel
theorem zd_19_45 : decode (zm_cc 19) 45 = .ok (.putfield 114, 3) := by decide +kernel
theorem zd_19_48 : decode (zm_cc 19) 48 = .ok (.aload_n 0, 1) := by decide +kernel
theorem zd_19_49 : decode (zm_cc 19) 49 = .ok (.iconst 0, 1) := by decide +kernel
theorem zd_19_50 : decode (zm_cc 19) 50 = .ok (.putfield 117, 3) := by decide +kernel
theorem zd_19_53 : decode (zm_cc 19) 53 = .ok (.aload_n 0, 1) := by decide +kernel
theorem zd_19_54 : decode (zm_cc 19) 54 = .ok (.iconst (-1), 1) := by decide +kernel
theorem zd_19_55 : decode (zm_cc 19) 55 = .ok (.putfield 80, 3) := by decide +kernel
theorem zd_19_58 : decode (zm_cc 19) 58 = .ok (.aload_n 0, 1) := by decide +kernel
theorem zd_19_59 : decode (zm_cc 19) 59 = .ok (.getfield 73, 3) := by decide +kernel
theorem zd_19_62 : decode (zm_cc 19) 62 = .ok (.invokevirtual 120, 3) := by decide +kernel
theorem zd_19_65 : decode (zm_cc 19) 65 = .ok (.aload_n 0, 1) := by decide +kernel
theorem zd_19_66 : decode (zm_cc 19) 66 = .ok (.getfield 66, 3) := by decide +kernel
theorem zd_19_69 : decode (zm_cc 19) 69 = .ok (.iconst (-1), 1) := by decide +kernel
theorem zd_19_70 : decode (zm_cc 19) 70 = .ok (.invokestatic 123, 3) := by decide +kernel
theorem zd_19_73 : decode (zm_cc 19) 73 = .ok (.aload_n 0, 1) := by decide +kernel
theorem zd_19_74 : decode (zm_cc 19) 74 = .ok (.getfield 110, 3) := by decide +kernel
theorem zd_19_77 : decode (zm_cc 19) 77 = .ok (.ifCond .eq 13, 3) := by decide +kernel
theorem zd_19_80 : decode (zm_cc 19) 80 = .ok (.aload_n 0, 1) := by decide +kernel
theorem zd_19_81 : decode (zm_cc 19) 81 = .ok (.getfield 16, 3) := by decide +kernel
theorem zd_19_84 : decode (zm_cc 19) 84 = .ok (.getfield 129, 3) := by decide +kernel
theorem zd_19_87 : decode (zm_cc 19) 87 = .ok (.goto 14, 3) := by decide +kernel
theorem zd_19_90 : decode (zm_cc 19) 90 = .ok (.sipush (-1000), 3) := by decide +kernel
theorem zd_19_93 : decode (zm_cc 19) 93 = .ok (.aload_n 0, 1) := by decide +kernel
theorem zd_19_94 : decode (zm_cc 19) 94 = .ok (.getfield 25, 3) := by decide +kernel
theorem zd_19_97 : decode (zm_cc 19) 97 = .ok (.getfield 132, 3) := by decide +kernel
theorem zd_19_100 : decode (zm_cc 19) 100 = .ok (.isub, 1) := by decide +kernel
theorem zd_19_101 : decode (zm_cc 19) 101 = .ok (.ireturn, 1) := by decide +kernel
theorem zd_20_0 : decode (zm_cc 20) 0 = .ok (.aload_n 0, 1) := by decide +kernel
theorem zd_20_1 : decode (zm_cc 20) 1 = .ok (.iconst 0, 1) := by decide +kernel
theorem zd_20_2 : decode (zm_cc 20) 2 = .ok (.putfield 48, 3) := by decide +kernel
theorem zd_20_5 : decode (zm_cc 20) 5 = .ok (.aload_n 0, 1) := by decide +kernel
theorem zd_20_6 : decode (zm_cc 20) 6 = .ok (.iconst 0, 1) := by decide +kernel
theorem zd_20_7 : decode (zm_cc 20) 7 = .ok (.putfield 52, 3) := by decide +kernel
theorem zd_20_10 : decode (zm_cc 20) 10 = .ok (.aload_n 0, 1) := by decide +kernel
theorem zd_20_11 : decode (zm_cc 20) 11 = .ok (.getfield 26, 3) := by decide +kernel
theorem zd_20_14 : decode (zm_cc 20) 14 = .ok (.invokevirtual 55, 3) := by decide +kernel
theorem zd_20_17 : decode (zm_cc 20) 17 = .ok (.aload_n 0, 1) := by decide +kernel
theorem zd_20_18 : decode (zm_cc 20) 18 = .ok (.getfield 12, 3) := by decide +kernel
theorem zd_20_21 : decode (zm_cc 20) 21 = .ok (.invokevirtual 60, 3) := by decide +kernel
theorem zd_20_24 : decode (zm_cc 20) 24 = .ok (.aload_n 0, 1) := by decide +kernel
theorem zd_20_25 : decode (zm_cc 20) 25 = .ok (.getfield 44, 3) := by decide +kernel
theorem zd_20_28 : decode (zm_cc 20) 28 = .ok (.iconst 0, 1) := by decide +kernel
theorem zd_20_29 : decode (zm_cc 20) 29 = .ok (.invokevirtual 61, 3) := by decide +kernel
theorem zd_20_32 : decode (zm_cc 20) 32 = .ok (.aload_n 0, 1) := by decide +kernel
theorem zd_20_33 : decode (zm_cc 20) 33 = .ok (.getfield 35, 3) := by decide +kernel
theorem zd_20_36 : decode (zm_cc 20) 36 = .ok (.iload_n 1, 1) := by decide +kernel
theorem zd_20_37 : decode (zm_cc 20) 37 = .ok (.invokevirtual 65, 3) := by decide +kernel
theorem zd_20_40 : decode (zm_cc 20) 40 = .ok (.iconst 0, 1) := by decide +kernel
theorem zd_20_41 : decode (zm_cc 20) 41 = .ok (.istore_n 2, 1) := by decide +kernel
theorem zd_20_42 : decode (zm_cc 20) 42 = .ok (.iload_n 2, 1) := by decide +kernel
theorem zd_20_43 : decode (zm_cc 20) 43 = .ok (.sipush 1500, 3) := by decide +kernel
theorem zd_20_46 : decode (zm_cc 20) 46 = .ok (.if_icmp .gt 47, 3) := by decide +kernel
theorem zd_20_49 : decode (zm_cc 20) 49 = .ok (.aload_n 0, 1) := by decide +kernel
theorem zd_20_50 : decode (zm_cc 20) 50 = .ok (.getfield 48, 3) := by decide +kernel
theorem zd_20_53 : decode (zm_cc 20) 53 = .ok (.ifCond .ne 40, 3) := by decide +kernel
theorem zd_20_56 : decode (zm_cc 20) 56 = .ok (.aload_n 0, 1) := by decide +kernel
theorem zd_20_57 : decode (zm_cc 20) 57 = .ok (.getfield 44, 3) := by decide +kernel
theorem zd_20_60 : decode (zm_cc 20) 60 = .ok (.getfield 68, 3) := by decide +kernel
theorem zd_20_63 : decode (zm_cc 20) 63 = .ok (.ifCond .le 10, 3) := by decide +kernel
theorem zd_20_66 : decode (zm_cc 20) 66 = .ok (.aload_n 0, 1) := by decide +kernel
theorem zd_20_67 : decode (zm_cc 20) 67 = .ok (.invokevirtual 71, 3) := by decide +kernel
theorem zd_20_70 : decode (zm_cc 20) 70 = .ok (.goto 17, 3) := by decide +kernel
theorem zd_20_73 : decode (zm_cc 20) 73 = .ok (.aload_n 0, 1) := by decide +kernel
theorem zd_20_74 : decode (zm_cc 20) 74 = .ok (.getfield 35, 3) := by decide +kernel
theorem zd_20_77 : decode (zm_cc 20) 77 = .ok (.getfield 74, 3) := by decide +kernel
theorem zd_20_80 : decode (zm_cc 20) 80 = .ok (.ifCond .eq 13, 3) := by decide +kernel
theorem zd_20_83 : decode (zm_cc 20) 83 = .ok (.aload_n 0, 1) := by decide +kernel
theorem zd_20_84 : decode (zm_cc 20) 84 = .ok (.invokevirtual 77, 3) := by decide +kernel
theorem zd_20_87 : decode (zm_cc 20) 87 = .ok (.iinc 2 1, 3) := by decide +kernel
theorem zd_20_90 : decode (zm_cc 20) 90 = .ok (.goto (-48), 3) := by decide +kernel
theorem zd_20_93 : decode (zm_cc 20) 93 = .ok (.iconst 0, 1) := by decide +kernel
theorem zd_20_94 : decode (zm_cc 20) 94 = .ok (.istore_n 2, 1) := by decide +kernel
theorem zd_20_95 : decode (zm_cc 20) 95 = .ok (.iload_n 2, 1) := by decide +kernel
theorem zd_20_96 : decode (zm_cc 20) 96 = .ok (.bipush 96, 2) := by decide +kernel
theorem zd_20_98 : decode (zm_cc 20) 98 = .ok (.if_icmp .ge 21, 3) := by decide +kernel
theorem zd_20_101 : decode (zm_cc 20) 101 = .ok (.aload_n 0, 1) := by decide +kernel
theorem zd_20_102 : decode (zm_cc 20) 102 = .ok (.getfield 48, 3) := by decide +kernel
theorem zd_20_105 : decode (zm_cc 20) 105 = .ok (.ifCond .ne 14, 3) := by decide +kernel
theorem zd_20_108 : decode (zm_cc 20) 108 = .ok (.aload_n 0, 1) := by decide +kernel
theorem zd_20_109 : decode (zm_cc 20) 109 = .ok (.iload_n 2, 1) := by decide +kernel
theorem zd_20_110 : decode (zm_cc 20) 110 = .ok (.invokevirtual 80, 3) := by decide +kernel
theorem zd_20_113 : decode (zm_cc 20) 113 = .ok (.iinc 2 1, 3) := by decide +kernel
theorem zd_20_116 : decode (zm_cc 20) 116 = .ok (.goto (-21), 3) := by decide +kernel
theorem zd_20_119 : decode (zm_cc 20) 119 = .ok (.return_, 1) := by decide +kernel
theorem zd_21_0 : decode (zm_cc 21) 0 = .ok (.aload_n 0, 1) := by decide +kernel
theorem zd_21_1 : decode (zm_cc 21) 1 = .ok (.iconst 0, 1) := by decide +kernel
theorem zd_21_2 : decode (zm_cc 21) 2 = .ok (.putfield 48, 3) := by decide +kernel
theorem zd_21_5 : decode (zm_cc 21) 5 = .ok (.aload_n 0, 1) := by decide +kernel
theorem zd_21_6 : decode (zm_cc 21) 6 = .ok (.iconst 0, 1) := by decide +kernel
theorem zd_21_7 : decode (zm_cc 21) 7 = .ok (.putfield 52, 3) := by decide +kernel
theorem zd_21_10 : decode (zm_cc 21) 10 = .ok (.aload_n 0, 1) := by decide +kernel
theorem zd_21_11 : decode (zm_cc 21) 11 = .ok (.iconst 0, 1) := by decide +kernel
theorem zd_21_12 : decode (zm_cc 21) 12 = .ok (.putfield 55, 3) := by decide +kernel
theorem zd_21_15 : decode (zm_cc 21) 15 = .ok (.aload_n 0, 1) := by decide +kernel
theorem zd_21_16 : decode (zm_cc 21) 16 = .ok (.iconst 0, 1) := by decide +kernel
theorem zd_21_17 : decode (zm_cc 21) 17 = .ok (.putfield 58, 3) := by decide +kernel
theorem zd_21_20 : decode (zm_cc 21) 20 = .ok (.aload_n 0, 1) := by decide +kernel
theorem zd_21_21 : decode (zm_cc 21) 21 = .ok (.iconst 0, 1) := by decide +kernel
theorem zd_21_22 : decode (zm_cc 21) 22 = .ok (.putfield 61, 3) := by decide +kernel
theorem zd_21_25 : decode (zm_cc 21) 25 = .ok (.aload_n 0, 1) := by decide +kernel
theorem zd_21_26 : decode (zm_cc 21) 26 = .ok (.iconst 0, 1) := by decide +kernel
theorem zd_21_27 : decode (zm_cc 21) 27 = .ok (.putfield 64, 3) := by decide +kernel
theorem zd_21_30 : decode (zm_cc 21) 30 = .ok (.aload_n 0, 1) := by decide +kernel
theorem zd_21_31 : decode (zm_cc 21) 31 = .ok (.iconst 0, 1) := by decide +kernel
theorem zd_21_32 : decode (zm_cc 21) 32 = .ok (.putfield 67, 3) := by decide +kernel
theorem zd_21_35 : decode (zm_cc 21) 35 = .ok (.aload_n 0, 1) := by decide +kernel
theorem zd_21_36 : decode (zm_cc 21) 36 = .ok (.getfield 9, 3) := by decide +kernel
theorem zd_21_39 : decode (zm_cc 21) 39 = .ok (.iconst 0, 1) := by decide +kernel
theorem zd_21_40 : decode (zm_cc 21) 40 = .ok (.invokestatic 70, 3) := by decide +kernel
theorem zd_21_43 : decode (zm_cc 21) 43 = .ok (.aload_n 0, 1) := by decide +kernel
theorem zd_21_44 : decode (zm_cc 21) 44 = .ok (.getfield 15, 3) := by decide +kernel
theorem zd_21_47 : decode (zm_cc 21) 47 = .ok (.iconst 0, 1) := by decide +kernel
theorem zd_21_48 : decode (zm_cc 21) 48 = .ok (.invokestatic 70, 3) := by decide +kernel
theorem zd_21_51 : decode (zm_cc 21) 51 = .ok (.return_, 1) := by decide +kernel
theorem zd_22_0 : decode (zm_cc 22) 0 = .ok (.iconst 0, 1) := by decide +kernel
theorem zd_22_1 : decode (zm_cc 22) 1 = .ok (.istore_n 2, 1) := by decide +kernel
theorem zd_22_2 : decode (zm_cc 22) 2 = .ok (.aload_n 0, 1) := by decide +kernel
theorem zd_22_3 : decode (zm_cc 22) 3 = .ok (.arraylength, 1) := by decide +kernel
theorem zd_22_4 : decode (zm_cc 22) 4 = .ok (.istore_n 3, 1) := by decide +kernel
theorem zd_22_5 : decode (zm_cc 22) 5 = .ok (.iload_n 2, 1) := by decide +kernel
theorem zd_22_6 : decode (zm_cc 22) 6 = .ok (.iload_n 3, 1) := by decide +kernel
theorem zd_22_7 : decode (zm_cc 22) 7 = .ok (.if_icmp .ge 13, 3) := by decide +kernel
theorem zd_22_10 : decode (zm_cc 22) 10 = .ok (.aload_n 0, 1) := by decide +kernel
theorem zd_22_11 : decode (zm_cc 22) 11 = .ok (.iload_n 2, 1) := by decide +kernel
theorem zd_22_12 : decode (zm_cc 22) 12 = .ok (.iload_n 1, 1) := by decide +kernel
theorem zd_22_13 : decode (zm_cc 22) 13 = .ok (.iastore, 1) := by decide +kernel
theorem zd_22_14 : decode (zm_cc 22) 14 = .ok (.iinc 2 1, 3) := by decide +kernel
theorem zd_22_17 : decode (zm_cc 22) 17 = .ok (.goto (-12), 3) := by decide +kernel
theorem zd_22_20 : decode (zm_cc 22) 20 = .ok (.return_, 1) := by decide +kernel
theorem zd_23_0 : decode (zm_cc 23) 0 = .ok (.aload_n 0, 1) := by decide +kernel
theorem zd_23_1 : decode (zm_cc 23) 1 = .ok (.iconst 0, 1) := by decide +kernel
theorem zd_23_2 : decode (zm_cc 23) 2 = .ok (.putfield 25, 3) := by decide +kernel
theorem zd_23_5 : decode (zm_cc 23) 5 = .ok (.aload_n 0, 1) := by decide +kernel
theorem zd_23_6 : decode (zm_cc 23) 6 = .ok (.iconst 0, 1) := by decide +kernel
theorem zd_23_7 : decode (zm_cc 23) 7 = .ok (.putfield 29, 3) := by decide +kernel
theorem zd_23_10 : decode (zm_cc 23) 10 = .ok (.return_, 1) := by decide +kernel
theorem zd_24_0 : decode (zm_cc 24) 0 = .ok (.aload_n 0, 1) := by decide +kernel
theorem zd_24_1 : decode (zm_cc 24) 1 = .ok (.iload_n 1, 1) := by decide +kernel
theorem zd_24_2 : decode (zm_cc 24) 2 = .ok (.putfield 31, 3) := by decide +kernel
theorem zd_24_5 : decode (zm_cc 24) 5 = .ok (.aload_n 0, 1) := by decide +kernel
theorem zd_24_6 : decode (zm_cc 24) 6 = .ok (.iconst 0, 1) := by decide +kernel
theorem zd_24_7 : decode (zm_cc 24) 7 = .ok (.putfield 35, 3) := by decide +kernel
theorem zd_24_10 : decode (zm_cc 24) 10 = .ok (.aload_n 0, 1) := by decide +kernel
theorem zd_24_11 : decode (zm_cc 24) 11 = .ok (.iconst (-1), 1) := by decide +kernel
theorem zd_24_12 : decode (zm_cc 24) 12 = .ok (.putfield 38, 3) := by decide +kernel
theorem zd_24_15 : decode (zm_cc 24) 15 = .ok (.aload_n 0, 1) := by decide +kernel
theorem zd_24_16 : decode (zm_cc 24) 16 = .ok (.iconst 0, 1) := by decide +kernel
theorem zd_24_17 : decode (zm_cc 24) 17 = .ok (.putfield 41, 3) := by decide +kernel
theorem zd_24_20 : decode (zm_cc 24) 20 = .ok (.aload_n 0, 1) := by decide +kernel
theorem zd_24_21 : decode (zm_cc 24) 21 = .ok (.iconst 0, 1) := by decide +kernel
theorem zd_24_22 : decode (zm_cc 24) 22 = .ok (.putfield 44, 3) := by decide +kernel
theorem zd_24_25 : decode (zm_cc 24) 25 = .ok (.aload_n 0, 1) := by decide +kernel
theorem zd_24_26 : decode (zm_cc 24) 26 = .ok (.iconst 0, 1) := by decide +kernel
theorem zd_24_27 : decode (zm_cc 24) 27 = .ok (.putfield 47, 3) := by decide +kernel
theorem zd_24_30 : decode (zm_cc 24) 30 = .ok (.aload_n 0, 1) := by decide +kernel
theorem zd_24_31 : decode (zm_cc 24) 31 = .ok (.iconst (-1), 1) := by decide +kernel
theorem zd_24_32 : decode (zm_cc 24) 32 = .ok (.putfield 50, 3) := by decide +kernel
theorem zd_24_35 : decode (zm_cc 24) 35 = .ok (.return_, 1) := by decide +kernel
theorem zd_25_0 : decode (zm_cc 25) 0 = .ok (.aload_n 0, 1) := by decide +kernel
theorem zd_25_1 : decode (zm_cc 25) 1 = .ok (.iload_n 1, 1) := by decide +kernel
theorem zd_25_2 : decode (zm_cc 25) 2 = .ok (.putfield 26, 3) := by decide +kernel
theorem zd_25_5 : decode (zm_cc 25) 5 = .ok (.aload_n 0, 1) := by decide +kernel
theorem zd_25_6 : decode (zm_cc 25) 6 = .ok (.iconst 0, 1) := by decide +kernel
theorem zd_25_7 : decode (zm_cc 25) 7 = .ok (.putfield 30, 3) := by decide +kernel
theorem zd_25_10 : decode (zm_cc 25) 10 = .ok (.iconst 0, 1) := by decide +kernel
theorem zd_25_11 : decode (zm_cc 25) 11 = .ok (.istore_n 2, 1) := by decide +kernel
theorem zd_25_12 : decode (zm_cc 25) 12 = .ok (.aload_n 0, 1) := by decide +kernel
theorem zd_25_13 : decode (zm_cc 25) 13 = .ok (.iconst 3, 1) := by decide +kernel
theorem zd_25_14 : decode (zm_cc 25) 14 = .ok (.putfield 33, 3) := by decide +kernel
theorem zd_25_17 : decode (zm_cc 25) 17 = .ok (.iconst 0, 1) := by decide +kernel
theorem zd_25_18 : decode (zm_cc 25) 18 = .ok (.istore_n 3, 1) := by decide +kernel
theorem zd_25_19 : decode (zm_cc 25) 19 = .ok (.iload_n 3, 1) := by decide +kernel
theorem zd_25_20 : decode (zm_cc 25) 20 = .ok (.sipush 1500, 3) := by decide +kernel
theorem zd_25_23 : decode (zm_cc 25) 23 = .ok (.if_icmp .gt 70, 3) := by decide +kernel
theorem zd_25_26 : decode (zm_cc 25) 26 = .ok (.aload_n 0, 1) := by decide +kernel
theorem zd_25_27 : decode (zm_cc 25) 27 = .ok (.getfield 33, 3) := by decide +kernel
theorem zd_25_30 : decode (zm_cc 25) 30 = .ok (.ifCond .eq 63, 3) := by decide +kernel
theorem zd_25_33 : decode (zm_cc 25) 33 = .ok (.aload_n 0, 1) := by decide +kernel
theorem zd_25_34 : decode (zm_cc 25) 34 = .ok (.getfield 33, 3) := by decide +kernel
theorem zd_25_37 : decode (zm_cc 25) 37 = .ok (.iconst 1, 1) := by decide +kernel
theorem zd_25_38 : decode (zm_cc 25) 38 = .ok (.if_icmp .eq 55, 3) := by decide +kernel
theorem zd_25_41 : decode (zm_cc 25) 41 = .ok (.aload_n 0, 1) := by decide +kernel
theorem zd_25_42 : decode (zm_cc 25) 42 = .ok (.iload_n 2, 1) := by decide +kernel
theorem zd_25_43 : decode (zm_cc 25) 43 = .ok (.invokevirtual 36, 3) := by decide +kernel
theorem zd_25_46 : decode (zm_cc 25) 46 = .ok (.istore_n 2, 1) := by decide +kernel
theorem zd_25_47 : decode (zm_cc 25) 47 = .ok (.aload_n 0, 1) := by decide +kernel
theorem zd_25_48 : decode (zm_cc 25) 48 = .ok (.getfield 9, 3) := by decide +kernel
theorem zd_25_51 : decode (zm_cc 25) 51 = .ok (.iload_n 3, 1) := by decide +kernel
theorem zd_25_52 : decode (zm_cc 25) 52 = .ok (.aload_n 0, 1) := by decide +kernel
theorem zd_25_53 : decode (zm_cc 25) 53 = .ok (.getfield 33, 3) := by decide +kernel
theorem zd_25_56 : decode (zm_cc 25) 56 = .ok (.iastore, 1) := by decide +kernel
theorem zd_25_57 : decode (zm_cc 25) 57 = .ok (.aload_n 0, 1) := by decide +kernel
theorem zd_25_58 : decode (zm_cc 25) 58 = .ok (.getfield 15, 3) := by decide +kernel
theorem zd_25_61 : decode (zm_cc 25) 61 = .ok (.iload_n 3, 1) := by decide +kernel
theorem zd_25_62 : decode (zm_cc 25) 62 = .ok (.aload_n 0, 1) := by decide +kernel
theorem zd_25_63 : decode (zm_cc 25) 63 = .ok (.getfield 40, 3) := by decide +kernel
theorem zd_25_66 : decode (zm_cc 25) 66 = .ok (.iastore, 1) := by decide +kernel
theorem zd_25_67 : decode (zm_cc 25) 67 = .ok (.aload_n 0, 1) := by decide +kernel
theorem zd_25_68 : decode (zm_cc 25) 68 = .ok (.getfield 18, 3) := by decide +kernel
theorem zd_25_71 : decode (zm_cc 25) 71 = .ok (.iload_n 3, 1) := by decide +kernel
theorem zd_25_72 : decode (zm_cc 25) 72 = .ok (.aload_n 0, 1) := by decide +kernel
theorem zd_25_73 : decode (zm_cc 25) 73 = .ok (.getfield 43, 3) := by decide +kernel
theorem zd_25_76 : decode (zm_cc 25) 76 = .ok (.lastore, 1) := by decide +kernel
theorem zd_25_77 : decode (zm_cc 25) 77 = .ok (.aload_n 0, 1) := by decide +kernel
theorem zd_25_78 : decode (zm_cc 25) 78 = .ok (.dup, 1) := by decide +kernel
theorem zd_25_79 : decode (zm_cc 25) 79 = .ok (.getfield 30, 3) := by decide +kernel
theorem zd_25_82 : decode (zm_cc 25) 82 = .ok (.iconst 1, 1) := by decide +kernel
theorem zd_25_83 : decode (zm_cc 25) 83 = .ok (.iadd, 1) := by decide +kernel
theorem zd_25_84 : decode (zm_cc 25) 84 = .ok (.putfield 30, 3) := by decide +kernel
theorem zd_25_87 : decode (zm_cc 25) 87 = .ok (.iinc 3 1, 3) := by decide +kernel
theorem zd_25_90 : decode (zm_cc 25) 90 = .ok (.goto (-71), 3) := by decide +kernel
theorem zd_25_93 : decode (zm_cc 25) 93 = .ok (.aload_n 0, 1) := by decide +kernel
theorem zd_25_94 : decode (zm_cc 25) 94 = .ok (.iconst (-1), 1) := by decide +kernel
theorem zd_25_95 : decode (zm_cc 25) 95 = .ok (.putfield 47, 3) := by decide +kernel
theorem zd_25_98 : decode (zm_cc 25) 98 = .ok (.aload_n 0, 1) := by decide +kernel
theorem zd_25_99 : decode (zm_cc 25) 99 = .ok (.invokevirtual 50, 3) := by decide +kernel
theorem zd_25_102 : decode (zm_cc 25) 102 = .ok (.return_, 1) := by decide +kernel
theorem zd_26_0 : decode (zm_cc 26) 0 = .ok (.aload_n 0, 1) := by decide +kernel
theorem zd_26_1 : decode (zm_cc 26) 1 = .ok (.iload_n 1, 1) := by decide +kernel
theorem zd_26_2 : decode (zm_cc 26) 2 = .ok (.putfield 40, 3) := by decide +kernel
theorem zd_26_5 : decode (zm_cc 26) 5 = .ok (.aload_n 0, 1) := by decide +kernel
theorem zd_26_6 : decode (zm_cc 26) 6 = .ok (.getfield 40, 3) := by decide +kernel
theorem zd_26_9 : decode (zm_cc 26) 9 = .ok (.aload_n 0, 1) := by decide +kernel
theorem zd_26_10 : decode (zm_cc 26) 10 = .ok (.getfield 26, 3) := by decide +kernel
theorem zd_26_13 : decode (zm_cc 26) 13 = .ok (.if_icmp .ge 30, 3) := by decide +kernel
theorem zd_26_16 : decode (zm_cc 26) 16 = .ok (.aload_n 0, 1) := by decide +kernel
theorem zd_26_17 : decode (zm_cc 26) 17 = .ok (.aload_n 0, 1) := by decide +kernel
theorem zd_26_18 : decode (zm_cc 26) 18 = .ok (.getfield 40, 3) := by decide +kernel
theorem zd_26_21 : decode (zm_cc 26) 21 = .ok (.invokevirtual 53, 3) := by decide +kernel
theorem zd_26_24 : decode (zm_cc 26) 24 = .ok (.invokestatic 56, 3) := by decide +kernel
theorem zd_26_27 : decode (zm_cc 26) 27 = .ok (.ifCond .eq 16, 3) := by decide +kernel
theorem zd_26_30 : decode (zm_cc 26) 30 = .ok (.aload_n 0, 1) := by decide +kernel
theorem zd_26_31 : decode (zm_cc 26) 31 = .ok (.dup, 1) := by decide +kernel
theorem zd_26_32 : decode (zm_cc 26) 32 = .ok (.getfield 40, 3) := by decide +kernel
theorem zd_26_35 : decode (zm_cc 26) 35 = .ok (.iconst 1, 1) := by decide +kernel
theorem zd_26_36 : decode (zm_cc 26) 36 = .ok (.iadd, 1) := by decide +kernel
theorem zd_26_37 : decode (zm_cc 26) 37 = .ok (.putfield 40, 3) := by decide +kernel
theorem zd_26_40 : decode (zm_cc 26) 40 = .ok (.goto (-35), 3) := by decide +kernel
theorem zd_26_43 : decode (zm_cc 26) 43 = .ok (.aload_n 0, 1) := by decide +kernel
theorem zd_26_44 : decode (zm_cc 26) 44 = .ok (.aload_n 0, 1) := by decide +kernel
theorem zd_26_45 : decode (zm_cc 26) 45 = .ok (.getfield 40, 3) := by decide +kernel
theorem zd_26_48 : decode (zm_cc 26) 48 = .ok (.invokevirtual 53, 3) := by decide +kernel
theorem zd_26_51 : decode (zm_cc 26) 51 = .ok (.istore_n 2, 1) := by decide +kernel
theorem zd_26_52 : decode (zm_cc 26) 52 = .ok (.aload_n 0, 1) := by decide +kernel
theorem zd_26_53 : decode (zm_cc 26) 53 = .ok (.lconst 0, 1) := by decide +kernel
theorem zd_26_54 : decode (zm_cc 26) 54 = .ok (.putfield 43, 3) := by decide +kernel
theorem zd_26_57 : decode (zm_cc 26) 57 = .ok (.iload_n 2, 1) := by decide +kernel
theorem zd_26_58 : decode (zm_cc 26) 58 = .ok (.iconst (-1), 1) := by decide +kernel
theorem zd_26_59 : decode (zm_cc 26) 59 = .ok (.if_icmp .ne 13, 3) := by decide +kernel
theorem zd_26_62 : decode (zm_cc 26) 62 = .ok (.aload_n 0, 1) := by decide +kernel
theorem zd_26_63 : decode (zm_cc 26) 63 = .ok (.iconst 0, 1) := by decide +kernel
theorem zd_26_64 : decode (zm_cc 26) 64 = .ok (.putfield 33, 3) := by decide +kernel
theorem zd_26_67 : decode (zm_cc 26) 67 = .ok (.aload_n 0, 1) := by decide +kernel
theorem zd_26_68 : decode (zm_cc 26) 68 = .ok (.getfield 40, 3) := by decide +kernel
theorem zd_26_71 : decode (zm_cc 26) 71 = .ok (.ireturn, 1) := by decide +kernel
theorem zd_26_72 : decode (zm_cc 26) 72 = .ok (.iload_n 2, 1) := by decide +kernel
theorem zd_26_73 : decode (zm_cc 26) 73 = .ok (.invokestatic 60, 3) := by decide +kernel
theorem zd_26_76 : decode (zm_cc 26) 76 = .ok (.ifCond .eq 22, 3) := by decide +kernel
theorem zd_26_79 : decode (zm_cc 26) 79 = .ok (.iload_n 2, 1) := by decide +kernel
theorem zd_26_80 : decode (zm_cc 26) 80 = .ok (.bipush 57, 2) := by decide +kernel
theorem zd_26_82 : decode (zm_cc 26) 82 = .ok (.if_icmp .gt 11, 3) := by decide +kernel
theorem zd_26_85 : decode (zm_cc 26) 85 = .ok (.aload_n 0, 1) := by decide +kernel
theorem zd_26_86 : decode (zm_cc 26) 86 = .ok (.iload_n 2, 1) := by decide +kernel
theorem zd_26_87 : decode (zm_cc 26) 87 = .ok (.invokevirtual 63, 3) := by decide +kernel
theorem zd_26_90 : decode (zm_cc 26) 90 = .ok (.goto 7, 3) := by decide +kernel
theorem zd_26_93 : decode (zm_cc 26) 93 = .ok (.aload_n 0, 1) := by decide +kernel
theorem zd_26_94 : decode (zm_cc 26) 94 = .ok (.invokevirtual 66, 3) := by decide +kernel
theorem zd_26_97 : decode (zm_cc 26) 97 = .ok (.ireturn, 1) := by decide +kernel
theorem zd_26_98 : decode (zm_cc 26) 98 = .ok (.aload_n 0, 1) := by decide +kernel
theorem zd_26_99 : decode (zm_cc 26) 99 = .ok (.iload_n 2, 1) := by decide +kernel
theorem zd_26_100 : decode (zm_cc 26) 100 = .ok (.invokevirtual 70, 3) := by decide +kernel
theorem zd_26_103 : decode (zm_cc 26) 103 = .ok (.ireturn, 1) := by decide +kernel
theorem zd_27_0 : decode (zm_cc 27) 0 = .ok (.iload_n 1, 1) := by decide +kernel
theorem zd_27_1 : decode (zm_cc 27) 1 = .ok (.ifCond .lt 20, 3) := by decide +kernel
theorem zd_27_4 : decode (zm_cc 27) 4 = .ok (.iload_n 1, 1) := by decide +kernel
theorem zd_27_5 : decode (zm_cc 27) 5 = .ok (.aload_n 0, 1) := by decide +kernel
theorem zd_27_6 : decode (zm_cc 27) 6 = .ok (.getfield 26, 3) := by decide +kernel
theorem zd_27_9 : decode (zm_cc 27) 9 = .ok (.if_icmp .ge 12, 3) := by decide +kernel
theorem zd_27_12 : decode (zm_cc 27) 12 = .ok (.iload_n 1, 1) := by decide +kernel
theorem zd_27_13 : decode (zm_cc 27) 13 = .ok (.aload_n 0, 1) := by decide +kernel
theorem zd_27_14 : decode (zm_cc 27) 14 = .ok (.getfield 22, 3) := by decide +kernel
theorem zd_27_17 : decode (zm_cc 27) 17 = .ok (.arraylength, 1) := by decide +kernel
theorem zd_27_18 : decode (zm_cc 27) 18 = .ok (.if_icmp .lt 7, 3) := by decide +kernel
theorem zd_27_21 : decode (zm_cc 27) 21 = .ok (.iconst (-1), 1) := by decide +kernel
theorem zd_27_22 : decode (zm_cc 27) 22 = .ok (.goto 13, 3) := by decide +kernel
theorem zd_27_25 : decode (zm_cc 27) 25 = .ok (.aload_n 0, 1) := by decide +kernel
theorem zd_27_26 : decode (zm_cc 27) 26 = .ok (.getfield 22, 3) := by decide +kernel
theorem zd_27_29 : decode (zm_cc 27) 29 = .ok (.iload_n 1, 1) := by decide +kernel
theorem zd_27_30 : decode (zm_cc 27) 30 = .ok (.baload, 1) := by decide +kernel
theorem zd_27_31 : decode (zm_cc 27) 31 = .ok (.sipush 255, 3) := by decide +kernel
theorem zd_27_34 : decode (zm_cc 27) 34 = .ok (.iand, 1) := by decide +kernel
theorem zd_27_35 : decode (zm_cc 27) 35 = .ok (.ireturn, 1) := by decide +kernel
theorem zd_28_0 : decode (zm_cc 28) 0 = .ok (.iload_n 0, 1) := by decide +kernel
theorem zd_28_1 : decode (zm_cc 28) 1 = .ok (.bipush 32, 2) := by decide +kernel
theorem zd_28_3 : decode (zm_cc 28) 3 = .ok (.if_icmp .eq 9, 3) := by decide +kernel
theorem zd_28_6 : decode (zm_cc 28) 6 = .ok (.iload_n 0, 1) := by decide +kernel
theorem zd_28_7 : decode (zm_cc 28) 7 = .ok (.bipush 10, 2) := by decide +kernel
theorem zd_28_9 : decode (zm_cc 28) 9 = .ok (.if_icmp .ne 7, 3) := by decide +kernel
theorem zd_28_12 : decode (zm_cc 28) 12 = .ok (.iconst 1, 1) := by decide +kernel
theorem zd_28_13 : decode (zm_cc 28) 13 = .ok (.goto 4, 3) := by decide +kernel
theorem zd_28_16 : decode (zm_cc 28) 16 = .ok (.iconst 0, 1) := by decide +kernel
theorem zd_28_17 : decode (zm_cc 28) 17 = .ok (.ireturn, 1) := by decide +kernel
theorem zd_29_0 : decode (zm_cc 29) 0 = .ok (.iload_n 0, 1) := by decide +kernel
theorem zd_29_1 : decode (zm_cc 29) 1 = .ok (.bipush 97, 2) := by decide +kernel
theorem zd_29_3 : decode (zm_cc 29) 3 = .ok (.if_icmp .lt 9, 3) := by decide +kernel
theorem zd_29_6 : decode (zm_cc 29) 6 = .ok (.iload_n 0, 1) := by decide +kernel
theorem zd_29_7 : decode (zm_cc 29) 7 = .ok (.bipush 122, 2) := by decide +kernel
theorem zd_29_9 : decode (zm_cc 29) 9 = .ok (.if_icmp .le 15, 3) := by decide +kernel
theorem zd_29_12 : decode (zm_cc 29) 12 = .ok (.iload_n 0, 1) := by decide +kernel
theorem zd_29_13 : decode (zm_cc 29) 13 = .ok (.bipush 48, 2) := by decide +kernel
theorem zd_29_15 : decode (zm_cc 29) 15 = .ok (.if_icmp .lt 13, 3) := by decide +kernel
theorem zd_29_18 : decode (zm_cc 29) 18 = .ok (.iload_n 0, 1) := by decide +kernel
theorem zd_29_19 : decode (zm_cc 29) 19 = .ok (.bipush 57, 2) := by decide +kernel
theorem zd_29_21 : decode (zm_cc 29) 21 = .ok (.if_icmp .gt 7, 3) := by decide +kernel
theorem zd_29_24 : decode (zm_cc 29) 24 = .ok (.iconst 1, 1) := by decide +kernel
theorem zd_29_25 : decode (zm_cc 29) 25 = .ok (.goto 4, 3) := by decide +kernel
theorem zd_29_28 : decode (zm_cc 29) 28 = .ok (.iconst 0, 1) := by decide +kernel
theorem zd_29_29 : decode (zm_cc 29) 29 = .ok (.ireturn, 1) := by decide +kernel
theorem zd_30_0 : decode (zm_cc 30) 0 = .ok (.aload_n 0, 1) := by decide +kernel
theorem zd_30_1 : decode (zm_cc 30) 1 = .ok (.iload_n 1, 1) := by decide +kernel
theorem zd_30_2 : decode (zm_cc 30) 2 = .ok (.bipush 48, 2) := by decide +kernel
theorem zd_30_4 : decode (zm_cc 30) 4 = .ok (.isub, 1) := by decide +kernel
theorem zd_30_5 : decode (zm_cc 30) 5 = .ok (.i2l, 1) := by decide +kernel
theorem zd_30_6 : decode (zm_cc 30) 6 = .ok (.putfield 43, 3) := by decide +kernel
theorem zd_30_9 : decode (zm_cc 30) 9 = .ok (.aload_n 0, 1) := by decide +kernel
theorem zd_30_10 : decode (zm_cc 30) 10 = .ok (.iload_n 1, 1) := by decide +kernel
theorem zd_30_11 : decode (zm_cc 30) 11 = .ok (.bipush 55, 2) := by decide +kernel
theorem zd_30_13 : decode (zm_cc 30) 13 = .ok (.if_icmp .gt 19, 3) := by decide +kernel
theorem zd_30_16 : decode (zm_cc 30) 16 = .ok (.aload_n 0, 1) := by decide +kernel
theorem zd_30_17 : decode (zm_cc 30) 17 = .ok (.aload_n 0, 1) := by decide +kernel
theorem zd_30_18 : decode (zm_cc 30) 18 = .ok (.getfield 40, 3) := by decide +kernel
theorem zd_30_21 : decode (zm_cc 30) 21 = .ok (.iconst 1, 1) := by decide +kernel
theorem zd_30_22 : decode (zm_cc 30) 22 = .ok (.iadd, 1) := by decide +kernel
theorem zd_30_23 : decode (zm_cc 30) 23 = .ok (.invokevirtual 53, 3) := by decide +kernel
theorem zd_30_26 : decode (zm_cc 30) 26 = .ok (.invokestatic 60, 3) := by decide +kernel
theorem zd_30_29 : decode (zm_cc 30) 29 = .ok (.ifCond .eq 7, 3) := by decide +kernel
theorem zd_30_32 : decode (zm_cc 30) 32 = .ok (.iconst 1, 1) := by decide +kernel
theorem zd_30_33 : decode (zm_cc 30) 33 = .ok (.goto 4, 3) := by decide +kernel
theorem zd_30_36 : decode (zm_cc 30) 36 = .ok (.iconst 2, 1) := by decide +kernel
theorem zd_30_37 : decode (zm_cc 30) 37 = .ok (.putfield 33, 3) := by decide +kernel
theorem zd_30_40 : decode (zm_cc 30) 40 = .ok (.aload_n 0, 1) := by decide +kernel
theorem zd_30_41 : decode (zm_cc 30) 41 = .ok (.getfield 40, 3) := by decide +kernel
theorem zd_30_44 : decode (zm_cc 30) 44 = .ok (.iconst 1, 1) := by decide +kernel
theorem zd_30_45 : decode (zm_cc 30) 45 = .ok (.iadd, 1) := by decide +kernel
theorem zd_30_46 : decode (zm_cc 30) 46 = .ok (.ireturn, 1) := by decide +kernel
theorem zd_31_0 : decode (zm_cc 31) 0 = .ok (.aload_n 0, 1) := by decide +kernel
theorem zd_31_1 : decode (zm_cc 31) 1 = .ok (.getfield 40, 3) := by decide +kernel
theorem zd_31_4 : decode (zm_cc 31) 4 = .ok (.istore_n 1, 1) := by decide +kernel
theorem zd_31_5 : decode (zm_cc 31) 5 = .ok (.iload_n 1, 1) := by decide +kernel
theorem zd_31_6 : decode (zm_cc 31) 6 = .ok (.aload_n 0, 1) := by decide +kernel
theorem zd_31_7 : decode (zm_cc 31) 7 = .ok (.getfield 26, 3) := by decide +kernel
theorem zd_31_10 : decode (zm_cc 31) 10 = .ok (.if_icmp .ge 38, 3) := by decide +kernel
theorem zd_31_13 : decode (zm_cc 31) 13 = .ok (.aload_n 0, 1) := by decide +kernel
theorem zd_31_14 : decode (zm_cc 31) 14 = .ok (.iload_n 1, 1) := by decide +kernel
theorem zd_31_15 : decode (zm_cc 31) 15 = .ok (.invokevirtual 53, 3) := by decide +kernel
theorem zd_31_18 : decode (zm_cc 31) 18 = .ok (.invokestatic 60, 3) := by decide +kernel
theorem zd_31_21 : decode (zm_cc 31) 21 = .ok (.ifCond .eq 27, 3) := by decide +kernel
theorem zd_31_24 : decode (zm_cc 31) 24 = .ok (.aload_n 0, 1) := by decide +kernel
theorem zd_31_25 : decode (zm_cc 31) 25 = .ok (.aload_n 0, 1) := by decide +kernel
theorem zd_31_26 : decode (zm_cc 31) 26 = .ok (.getfield 43, 3) := by decide +kernel
theorem zd_31_29 : decode (zm_cc 31) 29 = .ok (.bipush 8, 2) := by decide +kernel
theorem zd_31_31 : decode (zm_cc 31) 31 = .ok (.lshl, 1) := by decide +kernel
theorem zd_31_32 : decode (zm_cc 31) 32 = .ok (.aload_n 0, 1) := by decide +kernel
theorem zd_31_33 : decode (zm_cc 31) 33 = .ok (.iload_n 1, 1) := by decide +kernel
theorem zd_31_34 : decode (zm_cc 31) 34 = .ok (.invokevirtual 53, 3) := by decide +kernel
theorem zd_31_37 : decode (zm_cc 31) 37 = .ok (.i2l, 1) := by decide +kernel
theorem zd_31_38 : decode (zm_cc 31) 38 = .ok (.lor, 1) := by decide +kernel
theorem zd_31_39 : decode (zm_cc 31) 39 = .ok (.putfield 43, 3) := by decide +kernel
theorem zd_31_42 : decode (zm_cc 31) 42 = .ok (.iinc 1 1, 3) := by decide +kernel
theorem zd_31_45 : decode (zm_cc 31) 45 = .ok (.goto (-40), 3) := by decide +kernel
theorem zd_31_48 : decode (zm_cc 31) 48 = .ok (.aload_n 0, 1) := by decide +kernel
theorem zd_31_49 : decode (zm_cc 31) 49 = .ok (.iload_n 1, 1) := by decide +kernel
theorem zd_31_50 : decode (zm_cc 31) 50 = .ok (.aload_n 0, 1) := by decide +kernel
theorem zd_31_51 : decode (zm_cc 31) 51 = .ok (.getfield 40, 3) := by decide +kernel
theorem zd_31_54 : decode (zm_cc 31) 54 = .ok (.isub, 1) := by decide +kernel
theorem zd_31_55 : decode (zm_cc 31) 55 = .ok (.bipush 6, 2) := by decide +kernel
theorem zd_31_57 : decode (zm_cc 31) 57 = .ok (.if_icmp .le 7, 3) := by decide +kernel
theorem zd_31_60 : decode (zm_cc 31) 60 = .ok (.iconst 1, 1) := by decide +kernel
theorem zd_31_61 : decode (zm_cc 31) 61 = .ok (.goto 4, 3) := by decide +kernel
theorem zd_31_64 : decode (zm_cc 31) 64 = .ok (.iconst 3, 1) := by decide +kernel
theorem zd_31_65 : decode (zm_cc 31) 65 = .ok (.putfield 33, 3) := by decide +kernel
theorem zd_31_68 : decode (zm_cc 31) 68 = .ok (.iconst 0, 1) := by decide +kernel
theorem zd_31_69 : decode (zm_cc 31) 69 = .ok (.istore_n 2, 1) := by decide +kernel
theorem zd_31_70 : decode (zm_cc 31) 70 = .ok (.iload_n 2, 1) := by decide +kernel
theorem zd_31_71 : decode (zm_cc 31) 71 = .ok (.getstatic 73, 3) := by decide +kernel
theorem zd_31_74 : decode (zm_cc 31) 74 = .ok (.arraylength, 1) := by decide +kernel
theorem zd_31_75 : decode (zm_cc 31) 75 = .ok (.if_icmp .ge 39, 3) := by decide +kernel
theorem zd_31_78 : decode (zm_cc 31) 78 = .ok (.aload_n 0, 1) := by decide +kernel
theorem zd_31_79 : decode (zm_cc 31) 79 = .ok (.getfield 33, 3) := by decide +kernel
theorem zd_31_82 : decode (zm_cc 31) 82 = .ok (.iconst 3, 1) := by decide +kernel
theorem zd_31_83 : decode (zm_cc 31) 83 = .ok (.if_icmp .ne 31, 3) := by decide +kernel
theorem zd_31_86 : decode (zm_cc 31) 86 = .ok (.getstatic 73, 3) := by decide +kernel
theorem zd_31_89 : decode (zm_cc 31) 89 = .ok (.iload_n 2, 1) := by decide +kernel
theorem zd_31_90 : decode (zm_cc 31) 90 = .ok (.laload, 1) := by decide +kernel
theorem zd_31_91 : decode (zm_cc 31) 91 = .ok (.aload_n 0, 1) := by decide +kernel
theorem zd_31_92 : decode (zm_cc 31) 92 = .ok (.getfield 43, 3) := by decide +kernel
theorem zd_31_95 : decode (zm_cc 31) 95 = .ok (.lcmp, 1) := by decide +kernel
theorem zd_31_96 : decode (zm_cc 31) 96 = .ok (.ifCond .ne 12, 3) := by decide +kernel
theorem zd_31_99 : decode (zm_cc 31) 99 = .ok (.aload_n 0, 1) := by decide +kernel
theorem zd_31_100 : decode (zm_cc 31) 100 = .ok (.sipush 300, 3) := by decide +kernel
theorem zd_31_103 : decode (zm_cc 31) 103 = .ok (.iload_n 2, 1) := by decide +kernel
theorem zd_31_104 : decode (zm_cc 31) 104 = .ok (.iadd, 1) := by decide +kernel
theorem zd_31_105 : decode (zm_cc 31) 105 = .ok (.putfield 33, 3) := by decide +kernel
theorem zd_31_108 : decode (zm_cc 31) 108 = .ok (.iinc 2 1, 3) := by decide +kernel
theorem zd_31_111 : decode (zm_cc 31) 111 = .ok (.goto (-41), 3) := by decide +kernel
theorem zd_31_114 : decode (zm_cc 31) 114 = .ok (.iload_n 1, 1) := by decide +kernel
theorem zd_31_115 : decode (zm_cc 31) 115 = .ok (.ireturn, 1) := by decide +kernel
theorem zd_32_0 : decode (zm_cc 32) 0 = .ok (.iload_n 1, 1) := by decide +kernel
theorem zd_32_1 : decode (zm_cc 32) 1 = .ok (.bipush 61, 2) := by decide +kernel
theorem zd_32_3 : decode (zm_cc 32) 3 = .ok (.if_icmp .eq 9, 3) := by decide +kernel
theorem zd_32_6 : decode (zm_cc 32) 6 = .ok (.iload_n 1, 1) := by decide +kernel
theorem zd_32_7 : decode (zm_cc 32) 7 = .ok (.bipush 33, 2) := by decide +kernel
theorem zd_32_9 : decode (zm_cc 32) 9 = .ok (.if_icmp .ne 44, 3) := by decide +kernel
theorem zd_32_12 : decode (zm_cc 32) 12 = .ok (.aload_n 0, 1) := by decide +kernel
theorem zd_32_13 : decode (zm_cc 32) 13 = .ok (.aload_n 0, 1) := by decide +kernel
theorem zd_32_14 : decode (zm_cc 32) 14 = .ok (.getfield 40, 3) := by decide +kernel
theorem zd_32_17 : decode (zm_cc 32) 17 = .ok (.iconst 1, 1) := by decide +kernel
theorem zd_32_18 : decode (zm_cc 32) 18 = .ok (.iadd, 1) := by decide +kernel
theorem zd_32_19 : decode (zm_cc 32) 19 = .ok (.invokevirtual 53, 3) := by decide +kernel
theorem zd_32_22 : decode (zm_cc 32) 22 = .ok (.bipush 61, 2) := by decide +kernel
theorem zd_32_24 : decode (zm_cc 32) 24 = .ok (.if_icmp .ne 29, 3) := by decide +kernel
theorem zd_32_27 : decode (zm_cc 32) 27 = .ok (.aload_n 0, 1) := by decide +kernel
theorem zd_32_28 : decode (zm_cc 32) 28 = .ok (.iload_n 1, 1) := by decide +kernel
theorem zd_32_29 : decode (zm_cc 32) 29 = .ok (.bipush 61, 2) := by decide +kernel
theorem zd_32_31 : decode (zm_cc 32) 31 = .ok (.if_icmp .ne 9, 3) := by decide +kernel
theorem zd_32_34 : decode (zm_cc 32) 34 = .ok (.sipush 256, 3) := by decide +kernel
theorem zd_32_37 : decode (zm_cc 32) 37 = .ok (.goto 6, 3) := by decide +kernel
theorem zd_32_40 : decode (zm_cc 32) 40 = .ok (.sipush 257, 3) := by decide +kernel
theorem zd_32_43 : decode (zm_cc 32) 43 = .ok (.putfield 33, 3) := by decide +kernel
theorem zd_32_46 : decode (zm_cc 32) 46 = .ok (.aload_n 0, 1) := by decide +kernel
theorem zd_32_47 : decode (zm_cc 32) 47 = .ok (.getfield 40, 3) := by decide +kernel
theorem zd_32_50 : decode (zm_cc 32) 50 = .ok (.iconst 2, 1) := by decide +kernel
theorem zd_32_51 : decode (zm_cc 32) 51 = .ok (.iadd, 1) := by decide +kernel
theorem zd_32_52 : decode (zm_cc 32) 52 = .ok (.ireturn, 1) := by decide +kernel
theorem zd_32_53 : decode (zm_cc 32) 53 = .ok (.aload_n 0, 1) := by decide +kernel
theorem zd_32_54 : decode (zm_cc 32) 54 = .ok (.iload_n 1, 1) := by decide +kernel
theorem zd_32_55 : decode (zm_cc 32) 55 = .ok (.invokestatic 76, 3) := by decide +kernel
theorem zd_32_58 : decode (zm_cc 32) 58 = .ok (.ifCond .eq 7, 3) := by decide +kernel
theorem zd_32_61 : decode (zm_cc 32) 61 = .ok (.iload_n 1, 1) := by decide +kernel
theorem zd_32_62 : decode (zm_cc 32) 62 = .ok (.goto 4, 3) := by decide +kernel
theorem zd_32_65 : decode (zm_cc 32) 65 = .ok (.iconst 1, 1) := by decide +kernel
theorem zd_32_66 : decode (zm_cc 32) 66 = .ok (.putfield 33, 3) := by decide +kernel
theorem zd_32_69 : decode (zm_cc 32) 69 = .ok (.aload_n 0, 1) := by decide +kernel
theorem zd_32_70 : decode (zm_cc 32) 70 = .ok (.getfield 40, 3) := by decide +kernel
theorem zd_32_73 : decode (zm_cc 32) 73 = .ok (.iconst 1, 1) := by decide +kernel
theorem zd_32_74 : decode (zm_cc 32) 74 = .ok (.iadd, 1) := by decide +kernel
theorem zd_32_75 : decode (zm_cc 32) 75 = .ok (.ireturn, 1) := by decide +kernel
theorem zd_33_0 : decode (zm_cc 33) 0 = .ok (.iload_n 0, 1) := by decide +kernel
theorem zd_33_1 : decode (zm_cc 33) 1 = .ok (.lookupswitch 77 #[(43, 75), (45, 75), (59, 75), (60, 75), (61, 75), (62, 75), (123, 75), (125, 75)], 75) := by decide +kernel
theorem zd_33_76 : decode (zm_cc 33) 76 = .ok (.iconst 1, 1) := by decide +kernel
theorem zd_33_77 : decode (zm_cc 33) 77 = .ok (.ireturn, 1) := by decide +kernel
theorem zd_33_78 : decode (zm_cc 33) 78 = .ok (.iconst 0, 1) := by decide +kernel
theorem zd_33_79 : decode (zm_cc 33) 79 = .ok (.ireturn, 1) := by decide +kernel
theorem zd_34_0 : decode (zm_cc 34) 0 = .ok (.aload_n 0, 1) := by decide +kernel
theorem zd_34_1 : decode (zm_cc 34) 1 = .ok (.getfield 47, 3) := by decide +kernel
theorem zd_34_4 : decode (zm_cc 34) 4 = .ok (.aload_n 0, 1) := by decide +kernel
theorem zd_34_5 : decode (zm_cc 34) 5 = .ok (.getfield 30, 3) := by decide +kernel
theorem zd_34_8 : decode (zm_cc 34) 8 = .ok (.iconst 1, 1) := by decide +kernel
theorem zd_34_9 : decode (zm_cc 34) 9 = .ok (.isub, 1) := by decide +kernel
theorem zd_34_10 : decode (zm_cc 34) 10 = .ok (.if_icmp .ge 23, 3) := by decide +kernel
theorem zd_34_13 : decode (zm_cc 34) 13 = .ok (.aload_n 0, 1) := by decide +kernel
theorem zd_34_14 : decode (zm_cc 34) 14 = .ok (.getfield 47, 3) := by decide +kernel
theorem zd_34_17 : decode (zm_cc 34) 17 = .ok (.sipush 1500, 3) := by decide +kernel
theorem zd_34_20 : decode (zm_cc 34) 20 = .ok (.if_icmp .ge 13, 3) := by decide +kernel
theorem zd_34_23 : decode (zm_cc 34) 23 = .ok (.aload_n 0, 1) := by decide +kernel
theorem zd_34_24 : decode (zm_cc 34) 24 = .ok (.dup, 1) := by decide +kernel
theorem zd_34_25 : decode (zm_cc 34) 25 = .ok (.getfield 47, 3) := by decide +kernel
theorem zd_34_28 : decode (zm_cc 34) 28 = .ok (.iconst 1, 1) := by decide +kernel
theorem zd_34_29 : decode (zm_cc 34) 29 = .ok (.iadd, 1) := by decide +kernel
theorem zd_34_30 : decode (zm_cc 34) 30 = .ok (.putfield 47, 3) := by decide +kernel
theorem zd_34_33 : decode (zm_cc 34) 33 = .ok (.aload_n 0, 1) := by decide +kernel
theorem zd_34_34 : decode (zm_cc 34) 34 = .ok (.getfield 47, 3) := by decide +kernel
theorem zd_34_37 : decode (zm_cc 34) 37 = .ok (.ifCond .lt 52, 3) := by decide +kernel
theorem zd_34_40 : decode (zm_cc 34) 40 = .ok (.aload_n 0, 1) := by decide +kernel
theorem zd_34_41 : decode (zm_cc 34) 41 = .ok (.getfield 47, 3) := by decide +kernel
theorem zd_34_44 : decode (zm_cc 34) 44 = .ok (.sipush 1500, 3) := by decide +kernel
theorem zd_34_47 : decode (zm_cc 34) 47 = .ok (.if_icmp .gt 42, 3) := by decide +kernel
theorem zd_34_50 : decode (zm_cc 34) 50 = .ok (.aload_n 0, 1) := by decide +kernel
theorem zd_34_51 : decode (zm_cc 34) 51 = .ok (.aload_n 0, 1) := by decide +kernel
theorem zd_34_52 : decode (zm_cc 34) 52 = .ok (.getfield 9, 3) := by decide +kernel
theorem zd_34_55 : decode (zm_cc 34) 55 = .ok (.aload_n 0, 1) := by decide +kernel
theorem zd_34_56 : decode (zm_cc 34) 56 = .ok (.getfield 47, 3) := by decide +kernel
theorem zd_34_59 : decode (zm_cc 34) 59 = .ok (.iaload, 1) := by decide +kernel
theorem zd_34_60 : decode (zm_cc 34) 60 = .ok (.putfield 33, 3) := by decide +kernel
theorem zd_34_63 : decode (zm_cc 34) 63 = .ok (.aload_n 0, 1) := by decide +kernel
theorem zd_34_64 : decode (zm_cc 34) 64 = .ok (.aload_n 0, 1) := by decide +kernel
theorem zd_34_65 : decode (zm_cc 34) 65 = .ok (.getfield 15, 3) := by decide +kernel
theorem zd_34_68 : decode (zm_cc 34) 68 = .ok (.aload_n 0, 1) := by decide +kernel
theorem zd_34_69 : decode (zm_cc 34) 69 = .ok (.getfield 47, 3) := by decide +kernel
theorem zd_34_72 : decode (zm_cc 34) 72 = .ok (.iaload, 1) := by decide +kernel
theorem zd_34_73 : decode (zm_cc 34) 73 = .ok (.putfield 40, 3) := by decide +kernel
theorem zd_34_76 : decode (zm_cc 34) 76 = .ok (.aload_n 0, 1) := by decide +kernel
theorem zd_34_77 : decode (zm_cc 34) 77 = .ok (.aload_n 0, 1) := by decide +kernel
theorem zd_34_78 : decode (zm_cc 34) 78 = .ok (.getfield 18, 3) := by decide +kernel
theorem zd_34_81 : decode (zm_cc 34) 81 = .ok (.aload_n 0, 1) := by decide +kernel
theorem zd_34_82 : decode (zm_cc 34) 82 = .ok (.getfield 47, 3) := by decide +kernel
theorem zd_34_85 : decode (zm_cc 34) 85 = .ok (.laload, 1) := by decide +kernel
theorem zd_34_86 : decode (zm_cc 34) 86 = .ok (.putfield 43, 3) := by decide +kernel
theorem zd_34_89 : decode (zm_cc 34) 89 = .ok (.return_, 1) := by decide +kernel
theorem zd_35_0 : decode (zm_cc 35) 0 = .ok (.aload_n 0, 1) := by decide +kernel
theorem zd_35_1 : decode (zm_cc 35) 1 = .ok (.getfield 35, 3) := by decide +kernel
theorem zd_35_4 : decode (zm_cc 35) 4 = .ok (.getfield 74, 3) := by decide +kernel
theorem zd_35_7 : decode (zm_cc 35) 7 = .ok (.lookupswitch 202 #[(3, 112), (125, 105), (302, 126), (304, 133), (306, 142), (307, 152), (308, 161), (310, 170), (311, 179), (312, 188), (313, 195), (314, 119)], 105) := by decide +kernel
theorem zd_35_112 : decode (zm_cc 35) 112 = .ok (.aload_n 0, 1) := by decide +kernel
theorem zd_35_113 : decode (zm_cc 35) 113 = .ok (.invokevirtual 145, 3) := by decide +kernel
theorem zd_35_116 : decode (zm_cc 35) 116 = .ok (.goto 99, 3) := by decide +kernel
theorem zd_35_119 : decode (zm_cc 35) 119 = .ok (.aload_n 0, 1) := by decide +kernel
theorem zd_35_120 : decode (zm_cc 35) 120 = .ok (.invokevirtual 148, 3) := by decide +kernel
theorem zd_35_123 : decode (zm_cc 35) 123 = .ok (.goto 92, 3) := by decide +kernel
theorem zd_35_126 : decode (zm_cc 35) 126 = .ok (.aload_n 0, 1) := by decide +kernel
theorem zd_35_127 : decode (zm_cc 35) 127 = .ok (.invokevirtual 151, 3) := by decide +kernel
theorem zd_35_130 : decode (zm_cc 35) 130 = .ok (.goto 85, 3) := by decide +kernel
theorem zd_35_133 : decode (zm_cc 35) 133 = .ok (.aload_n 0, 1) := by decide +kernel
theorem zd_35_134 : decode (zm_cc 35) 134 = .ok (.invokevirtual 154, 3) := by decide +kernel
theorem zd_35_137 : decode (zm_cc 35) 137 = .ok (.goto 78, 3) := by decide +kernel
theorem zd_35_140 : decode (zm_cc 35) 140 = .ok (.aload_n 0, 1) := by decide +kernel
theorem zd_35_141 : decode (zm_cc 35) 141 = .ok (.iconst 5, 1) := by decide +kernel
theorem zd_35_142 : decode (zm_cc 35) 142 = .ok (.iconst 3, 1) := by decide +kernel
theorem zd_35_143 : decode (zm_cc 35) 143 = .ok (.invokevirtual 157, 3) := by decide +kernel
theorem zd_35_146 : decode (zm_cc 35) 146 = .ok (.goto 69, 3) := by decide +kernel
theorem zd_35_149 : decode (zm_cc 35) 149 = .ok (.aload_n 0, 1) := by decide +kernel
theorem zd_35_150 : decode (zm_cc 35) 150 = .ok (.bipush 6, 2) := by decide +kernel
theorem zd_35_152 : decode (zm_cc 35) 152 = .ok (.iconst 5, 1) := by decide +kernel
theorem zd_35_153 : decode (zm_cc 35) 153 = .ok (.invokevirtual 157, 3) := by decide +kernel
theorem zd_35_156 : decode (zm_cc 35) 156 = .ok (.goto 59, 3) := by decide +kernel
theorem zd_35_159 : decode (zm_cc 35) 159 = .ok (.aload_n 0, 1) := by decide +kernel
theorem zd_35_160 : decode (zm_cc 35) 160 = .ok (.bipush 7, 2) := by decide +kernel
theorem zd_35_162 : decode (zm_cc 35) 162 = .ok (.invokevirtual 160, 3) := by decide +kernel
theorem zd_35_165 : decode (zm_cc 35) 165 = .ok (.goto 50, 3) := by decide +kernel
theorem zd_35_168 : decode (zm_cc 35) 168 = .ok (.aload_n 0, 1) := by decide +kernel
theorem zd_35_169 : decode (zm_cc 35) 169 = .ok (.bipush 8, 2) := by decide +kernel
theorem zd_35_171 : decode (zm_cc 35) 171 = .ok (.invokevirtual 160, 3) := by decide +kernel
theorem zd_35_174 : decode (zm_cc 35) 174 = .ok (.goto 41, 3) := by decide +kernel
theorem zd_35_177 : decode (zm_cc 35) 177 = .ok (.aload_n 0, 1) := by decide +kernel
theorem zd_35_178 : decode (zm_cc 35) 178 = .ok (.bipush 10, 2) := by decide +kernel
theorem zd_35_180 : decode (zm_cc 35) 180 = .ok (.invokevirtual 163, 3) := by decide +kernel
theorem zd_35_183 : decode (zm_cc 35) 183 = .ok (.goto 32, 3) := by decide +kernel
theorem zd_35_186 : decode (zm_cc 35) 186 = .ok (.aload_n 0, 1) := by decide +kernel
theorem zd_35_187 : decode (zm_cc 35) 187 = .ok (.bipush 11, 2) := by decide +kernel
theorem zd_35_189 : decode (zm_cc 35) 189 = .ok (.invokevirtual 163, 3) := by decide +kernel
theorem zd_35_192 : decode (zm_cc 35) 192 = .ok (.goto 23, 3) := by decide +kernel
theorem zd_35_195 : decode (zm_cc 35) 195 = .ok (.aload_n 0, 1) := by decide +kernel
theorem zd_35_196 : decode (zm_cc 35) 196 = .ok (.invokevirtual 166, 3) := by decide +kernel
theorem zd_35_199 : decode (zm_cc 35) 199 = .ok (.goto 16, 3) := by decide +kernel
theorem zd_35_202 : decode (zm_cc 35) 202 = .ok (.aload_n 0, 1) := by decide +kernel
theorem zd_35_203 : decode (zm_cc 35) 203 = .ok (.invokevirtual 169, 3) := by decide +kernel
theorem zd_35_206 : decode (zm_cc 35) 206 = .ok (.goto 9, 3) := by decide +kernel
theorem zd_35_209 : decode (zm_cc 35) 209 = .ok (.aload_n 0, 1) := by decide +kernel
theorem zd_35_210 : decode (zm_cc 35) 210 = .ok (.iconst 2, 1) := by decide +kernel
theorem zd_35_211 : decode (zm_cc 35) 211 = .ok (.invokevirtual 86, 3) := by decide +kernel
theorem zd_35_214 : decode (zm_cc 35) 214 = .ok (.pop, 1) := by decide +kernel
theorem zd_35_215 : decode (zm_cc 35) 215 = .ok (.return_, 1) := by decide +kernel
theorem zd_36_0 : decode (zm_cc 36) 0 = .ok (.aload_n 0, 1) := by decide +kernel
theorem zd_36_1 : decode (zm_cc 36) 1 = .ok (.getfield 44, 3) := by decide +kernel
theorem zd_36_4 : decode (zm_cc 36) 4 = .ok (.invokevirtual 176, 3) := by decide +kernel
theorem zd_36_7 : decode (zm_cc 36) 7 = .ok (.istore_n 1, 1) := by decide +kernel
theorem zd_36_8 : decode (zm_cc 36) 8 = .ok (.iload_n 1, 1) := by decide +kernel
theorem zd_36_9 : decode (zm_cc 36) 9 = .ok (.iconst 1, 1) := by decide +kernel
theorem zd_36_10 : decode (zm_cc 36) 10 = .ok (.if_icmp .ne 11, 3) := by decide +kernel
theorem zd_36_13 : decode (zm_cc 36) 13 = .ok (.aload_n 0, 1) := by decide +kernel
theorem zd_36_14 : decode (zm_cc 36) 14 = .ok (.invokevirtual 180, 3) := by decide +kernel
theorem zd_36_17 : decode (zm_cc 36) 17 = .ok (.ifCond .ne 4, 3) := by decide +kernel
theorem zd_36_20 : decode (zm_cc 36) 20 = .ok (.return_, 1) := by decide +kernel
theorem zd_36_21 : decode (zm_cc 36) 21 = .ok (.aload_n 0, 1) := by decide +kernel
theorem zd_36_22 : decode (zm_cc 36) 22 = .ok (.getfield 35, 3) := by decide +kernel
theorem zd_36_25 : decode (zm_cc 36) 25 = .ok (.invokevirtual 90, 3) := by decide +kernel
theorem zd_36_28 : decode (zm_cc 36) 28 = .ok (.iload_n 1, 1) := by decide +kernel
theorem zd_36_29 : decode (zm_cc 36) 29 = .ok (.iconst 3, 1) := by decide +kernel
theorem zd_36_30 : decode (zm_cc 36) 30 = .ok (.if_icmp .ne 40, 3) := by decide +kernel
theorem zd_36_33 : decode (zm_cc 36) 33 = .ok (.aload_n 0, 1) := by decide +kernel
theorem zd_36_34 : decode (zm_cc 36) 34 = .ok (.getfield 35, 3) := by decide +kernel
theorem zd_36_37 : decode (zm_cc 36) 37 = .ok (.getfield 74, 3) := by decide +kernel
theorem zd_36_40 : decode (zm_cc 36) 40 = .ok (.sipush 305, 3) := by decide +kernel
theorem zd_36_43 : decode (zm_cc 36) 43 = .ok (.if_icmp .ne 27, 3) := by decide +kernel
theorem zd_36_46 : decode (zm_cc 36) 46 = .ok (.aload_n 0, 1) := by decide +kernel
theorem zd_36_47 : decode (zm_cc 36) 47 = .ok (.getfield 35, 3) := by decide +kernel
theorem zd_36_50 : decode (zm_cc 36) 50 = .ok (.invokevirtual 90, 3) := by decide +kernel
theorem zd_36_53 : decode (zm_cc 36) 53 = .ok (.aload_n 0, 1) := by decide +kernel
theorem zd_36_54 : decode (zm_cc 36) 54 = .ok (.getfield 44, 3) := by decide +kernel
theorem zd_36_57 : decode (zm_cc 36) 57 = .ok (.invokevirtual 183, 3) := by decide +kernel
theorem zd_36_60 : decode (zm_cc 36) 60 = .ok (.aload_n 0, 1) := by decide +kernel
theorem zd_36_61 : decode (zm_cc 36) 61 = .ok (.bipush 123, 2) := by decide +kernel
theorem zd_36_63 : decode (zm_cc 36) 63 = .ok (.invokevirtual 117, 3) := by decide +kernel
theorem zd_36_66 : decode (zm_cc 36) 66 = .ok (.pop, 1) := by decide +kernel
theorem zd_36_67 : decode (zm_cc 36) 67 = .ok (.goto 10, 3) := by decide +kernel
theorem zd_36_70 : decode (zm_cc 36) 70 = .ok (.aload_n 0, 1) := by decide +kernel
theorem zd_36_71 : decode (zm_cc 36) 71 = .ok (.getfield 44, 3) := by decide +kernel
theorem zd_36_74 : decode (zm_cc 36) 74 = .ok (.invokevirtual 186, 3) := by decide +kernel
theorem zd_36_77 : decode (zm_cc 36) 77 = .ok (.return_, 1) := by decide +kernel
theorem zd_37_0 : decode (zm_cc 37) 0 = .ok (.aload_n 0, 1) := by decide +kernel
theorem zd_37_1 : decode (zm_cc 37) 1 = .ok (.getfield 35, 3) := by decide +kernel
theorem zd_37_4 : decode (zm_cc 37) 4 = .ok (.ifCond .le 26, 3) := by decide +kernel
theorem zd_37_7 : decode (zm_cc 37) 7 = .ok (.aload_n 0, 1) := by decide +kernel
theorem zd_37_8 : decode (zm_cc 37) 8 = .ok (.getfield 35, 3) := by decide +kernel
theorem zd_37_11 : decode (zm_cc 37) 11 = .ok (.bipush 8, 2) := by decide +kernel
theorem zd_37_13 : decode (zm_cc 37) 13 = .ok (.if_icmp .gt 17, 3) := by decide +kernel
theorem zd_37_16 : decode (zm_cc 37) 16 = .ok (.aload_n 0, 1) := by decide +kernel
theorem zd_37_17 : decode (zm_cc 37) 17 = .ok (.getfield 9, 3) := by decide +kernel
theorem zd_37_20 : decode (zm_cc 37) 20 = .ok (.aload_n 0, 1) := by decide +kernel
theorem zd_37_21 : decode (zm_cc 37) 21 = .ok (.getfield 35, 3) := by decide +kernel
theorem zd_37_24 : decode (zm_cc 37) 24 = .ok (.iconst 1, 1) := by decide +kernel
theorem zd_37_25 : decode (zm_cc 37) 25 = .ok (.isub, 1) := by decide +kernel
theorem zd_37_26 : decode (zm_cc 37) 26 = .ok (.iaload, 1) := by decide +kernel
theorem zd_37_27 : decode (zm_cc 37) 27 = .ok (.goto 4, 3) := by decide +kernel
theorem zd_37_30 : decode (zm_cc 37) 30 = .ok (.iconst (-1), 1) := by decide +kernel
theorem zd_37_31 : decode (zm_cc 37) 31 = .ok (.ireturn, 1) := by decide +kernel
theorem zd_38_0 : decode (zm_cc 38) 0 = .ok (.aload_n 0, 1) := by decide +kernel
theorem zd_38_1 : decode (zm_cc 38) 1 = .ok (.getfield 44, 3) := by decide +kernel
theorem zd_38_4 : decode (zm_cc 38) 4 = .ok (.invokevirtual 172, 3) := by decide +kernel
theorem zd_38_7 : decode (zm_cc 38) 7 = .ok (.ifCond .ne 11, 3) := by decide +kernel
theorem zd_38_10 : decode (zm_cc 38) 10 = .ok (.aload_n 0, 1) := by decide +kernel
theorem zd_38_11 : decode (zm_cc 38) 11 = .ok (.iconst 4, 1) := by decide +kernel
theorem zd_38_12 : decode (zm_cc 38) 12 = .ok (.invokevirtual 86, 3) := by decide +kernel
theorem zd_38_15 : decode (zm_cc 38) 15 = .ok (.ifCond .eq 7, 3) := by decide +kernel
theorem zd_38_18 : decode (zm_cc 38) 18 = .ok (.iconst 1, 1) := by decide +kernel
theorem zd_38_19 : decode (zm_cc 38) 19 = .ok (.goto 4, 3) := by decide +kernel
theorem zd_38_22 : decode (zm_cc 38) 22 = .ok (.iconst 0, 1) := by decide +kernel
theorem zd_38_23 : decode (zm_cc 38) 23 = .ok (.ireturn, 1) := by decide +kernel
theorem zd_39_0 : decode (zm_cc 39) 0 = .ok (.aload_n 0, 1) := by decide +kernel
theorem zd_39_1 : decode (zm_cc 39) 1 = .ok (.getfield 27, 3) := by decide +kernel
theorem zd_39_4 : decode (zm_cc 39) 4 = .ok (.aload_n 0, 1) := by decide +kernel
theorem zd_39_5 : decode (zm_cc 39) 5 = .ok (.getfield 31, 3) := by decide +kernel
theorem zd_39_8 : decode (zm_cc 39) 8 = .ok (.invokevirtual 53, 3) := by decide +kernel
theorem zd_39_11 : decode (zm_cc 39) 11 = .ok (.bipush 24, 2) := by decide +kernel
theorem zd_39_13 : decode (zm_cc 39) 13 = .ok (.if_icmp .ge 7, 3) := by decide +kernel
theorem zd_39_16 : decode (zm_cc 39) 16 = .ok (.iconst 1, 1) := by decide +kernel
theorem zd_39_17 : decode (zm_cc 39) 17 = .ok (.goto 4, 3) := by decide +kernel
theorem zd_39_20 : decode (zm_cc 39) 20 = .ok (.iconst 0, 1) := by decide +kernel
theorem zd_39_21 : decode (zm_cc 39) 21 = .ok (.ireturn, 1) := by decide +kernel
theorem zd_40_0 : decode (zm_cc 40) 0 = .ok (.iload_n 1, 1) := by decide +kernel
theorem zd_40_1 : decode (zm_cc 40) 1 = .ok (.ifCond .lt 17, 3) := by decide +kernel
theorem zd_40_4 : decode (zm_cc 40) 4 = .ok (.iload_n 1, 1) := by decide +kernel
theorem zd_40_5 : decode (zm_cc 40) 5 = .ok (.iconst 4, 1) := by decide +kernel
theorem zd_40_6 : decode (zm_cc 40) 6 = .ok (.if_icmp .ge 12, 3) := by decide +kernel
theorem zd_40_9 : decode (zm_cc 40) 9 = .ok (.aload_n 0, 1) := by decide +kernel
theorem zd_40_10 : decode (zm_cc 40) 10 = .ok (.getfield 9, 3) := by decide +kernel
theorem zd_40_13 : decode (zm_cc 40) 13 = .ok (.iload_n 1, 1) := by decide +kernel
theorem zd_40_14 : decode (zm_cc 40) 14 = .ok (.iaload, 1) := by decide +kernel
theorem zd_40_15 : decode (zm_cc 40) 15 = .ok (.goto 4, 3) := by decide +kernel
theorem zd_40_18 : decode (zm_cc 40) 18 = .ok (.iconst 0, 1) := by decide +kernel
theorem zd_40_19 : decode (zm_cc 40) 19 = .ok (.ireturn, 1) := by decide +kernel
theorem zd_41_0 : decode (zm_cc 41) 0 = .ok (.aload_n 0, 1) := by decide +kernel
theorem zd_41_1 : decode (zm_cc 41) 1 = .ok (.aload_n 0, 1) := by decide +kernel
theorem zd_41_2 : decode (zm_cc 41) 2 = .ok (.getfield 35, 3) := by decide +kernel
theorem zd_41_5 : decode (zm_cc 41) 5 = .ok (.getfield 74, 3) := by decide +kernel
theorem zd_41_8 : decode (zm_cc 41) 8 = .ok (.iconst 1, 1) := by decide +kernel
theorem zd_41_9 : decode (zm_cc 41) 9 = .ok (.if_icmp .ne 7, 3) := by decide +kernel
theorem zd_41_12 : decode (zm_cc 41) 12 = .ok (.iconst 1, 1) := by decide +kernel
theorem zd_41_13 : decode (zm_cc 41) 13 = .ok (.goto 4, 3) := by decide +kernel
theorem zd_41_16 : decode (zm_cc 41) 16 = .ok (.iload_n 1, 1) := by decide +kernel
theorem zd_41_17 : decode (zm_cc 41) 17 = .ok (.putfield 48, 3) := by decide +kernel
theorem zd_41_20 : decode (zm_cc 41) 20 = .ok (.aload_n 0, 1) := by decide +kernel
theorem zd_41_21 : decode (zm_cc 41) 21 = .ok (.aload_n 0, 1) := by decide +kernel
theorem zd_41_22 : decode (zm_cc 41) 22 = .ok (.getfield 35, 3) := by decide +kernel
theorem zd_41_25 : decode (zm_cc 41) 25 = .ok (.getfield 83, 3) := by decide +kernel
theorem zd_41_28 : decode (zm_cc 41) 28 = .ok (.putfield 52, 3) := by decide +kernel
theorem zd_41_31 : decode (zm_cc 41) 31 = .ok (.iconst 0, 1) := by decide +kernel
theorem zd_41_32 : decode (zm_cc 41) 32 = .ok (.ireturn, 1) := by decide +kernel
theorem zd_42_0 : decode (zm_cc 42) 0 = .ok (.aload_n 0, 1) := by decide +kernel
theorem zd_42_1 : decode (zm_cc 42) 1 = .ok (.getfield 35, 3) := by decide +kernel
theorem zd_42_4 : decode (zm_cc 42) 4 = .ok (.ifCond .le 63, 3) := by decide +kernel
theorem zd_42_7 : decode (zm_cc 42) 7 = .ok (.aload_n 0, 1) := by decide +kernel
theorem zd_42_8 : decode (zm_cc 42) 8 = .ok (.getfield 35, 3) := by decide +kernel
theorem zd_42_11 : decode (zm_cc 42) 11 = .ok (.bipush 8, 2) := by decide +kernel
theorem zd_42_13 : decode (zm_cc 42) 13 = .ok (.if_icmp .gt 54, 3) := by decide +kernel
theorem zd_42_16 : decode (zm_cc 42) 16 = .ok (.aload_n 0, 1) := by decide +kernel
theorem zd_42_17 : decode (zm_cc 42) 17 = .ok (.getfield 35, 3) := by decide +kernel
theorem zd_42_20 : decode (zm_cc 42) 20 = .ok (.iconst 1, 1) := by decide +kernel
theorem zd_42_21 : decode (zm_cc 42) 21 = .ok (.isub, 1) := by decide +kernel
theorem zd_42_22 : decode (zm_cc 42) 22 = .ok (.istore_n 1, 1) := by decide +kernel
theorem zd_42_23 : decode (zm_cc 42) 23 = .ok (.aload_n 0, 1) := by decide +kernel
theorem zd_42_24 : decode (zm_cc 42) 24 = .ok (.getfield 9, 3) := by decide +kernel
theorem zd_42_27 : decode (zm_cc 42) 27 = .ok (.iload_n 1, 1) := by decide +kernel
theorem zd_42_28 : decode (zm_cc 42) 28 = .ok (.iconst 4, 1) := by decide +kernel
theorem zd_42_29 : decode (zm_cc 42) 29 = .ok (.iastore, 1) := by decide +kernel
theorem zd_42_30 : decode (zm_cc 42) 30 = .ok (.aload_n 0, 1) := by decide +kernel
theorem zd_42_31 : decode (zm_cc 42) 31 = .ok (.getfield 18, 3) := by decide +kernel
theorem zd_42_34 : decode (zm_cc 42) 34 = .ok (.iload_n 1, 1) := by decide +kernel
theorem zd_42_35 : decode (zm_cc 42) 35 = .ok (.aload_n 0, 1) := by decide +kernel
theorem zd_42_36 : decode (zm_cc 42) 36 = .ok (.getfield 41, 3) := by decide +kernel
theorem zd_42_39 : decode (zm_cc 42) 39 = .ok (.iastore, 1) := by decide +kernel
theorem zd_42_40 : decode (zm_cc 42) 40 = .ok (.aload_n 0, 1) := by decide +kernel
theorem zd_42_41 : decode (zm_cc 42) 41 = .ok (.getfield 21, 3) := by decide +kernel
theorem zd_42_44 : decode (zm_cc 42) 44 = .ok (.iload_n 1, 1) := by decide +kernel
theorem zd_42_45 : decode (zm_cc 42) 45 = .ok (.aload_n 0, 1) := by decide +kernel
theorem zd_42_46 : decode (zm_cc 42) 46 = .ok (.getfield 44, 3) := by decide +kernel
theorem zd_42_49 : decode (zm_cc 42) 49 = .ok (.iastore, 1) := by decide +kernel
theorem zd_42_50 : decode (zm_cc 42) 50 = .ok (.aload_n 0, 1) := by decide +kernel
theorem zd_42_51 : decode (zm_cc 42) 51 = .ok (.iconst 0, 1) := by decide +kernel
theorem zd_42_52 : decode (zm_cc 42) 52 = .ok (.putfield 41, 3) := by decide +kernel
theorem zd_42_55 : decode (zm_cc 42) 55 = .ok (.aload_n 0, 1) := by decide +kernel
theorem zd_42_56 : decode (zm_cc 42) 56 = .ok (.iconst 1, 1) := by decide +kernel
theorem zd_42_57 : decode (zm_cc 42) 57 = .ok (.aload_n 0, 1) := by decide +kernel
theorem zd_42_58 : decode (zm_cc 42) 58 = .ok (.getfield 15, 3) := by decide +kernel
theorem zd_42_61 : decode (zm_cc 42) 61 = .ok (.iload_n 1, 1) := by decide +kernel
theorem zd_42_62 : decode (zm_cc 42) 62 = .ok (.iaload, 1) := by decide +kernel
theorem zd_42_63 : decode (zm_cc 42) 63 = .ok (.ishl, 1) := by decide +kernel
theorem zd_42_64 : decode (zm_cc 42) 64 = .ok (.putfield 44, 3) := by decide +kernel
theorem zd_42_67 : decode (zm_cc 42) 67 = .ok (.return_, 1) := by decide +kernel
theorem zd_43_0 : decode (zm_cc 43) 0 = .ok (.aload_n 0, 1) := by decide +kernel
theorem zd_43_1 : decode (zm_cc 43) 1 = .ok (.getfield 35, 3) := by decide +kernel
theorem zd_43_4 : decode (zm_cc 43) 4 = .ok (.getfield 74, 3) := by decide +kernel
theorem zd_43_7 : decode (zm_cc 43) 7 = .ok (.iload_n 1, 1) := by decide +kernel
theorem zd_43_8 : decode (zm_cc 43) 8 = .ok (.if_icmp .eq 9, 3) := by decide +kernel
theorem zd_43_11 : decode (zm_cc 43) 11 = .ok (.aload_n 0, 1) := by decide +kernel
theorem zd_43_12 : decode (zm_cc 43) 12 = .ok (.iconst 2, 1) := by decide +kernel
theorem zd_43_13 : decode (zm_cc 43) 13 = .ok (.invokevirtual 86, 3) := by decide +kernel
theorem zd_43_16 : decode (zm_cc 43) 16 = .ok (.ireturn, 1) := by decide +kernel
theorem zd_43_17 : decode (zm_cc 43) 17 = .ok (.aload_n 0, 1) := by decide +kernel
theorem zd_43_18 : decode (zm_cc 43) 18 = .ok (.getfield 35, 3) := by decide +kernel
theorem zd_43_21 : decode (zm_cc 43) 21 = .ok (.invokevirtual 90, 3) := by decide +kernel
theorem zd_43_24 : decode (zm_cc 43) 24 = .ok (.iconst 1, 1) := by decide +kernel
theorem zd_43_25 : decode (zm_cc 43) 25 = .ok (.ireturn, 1) := by decide +kernel
theorem zd_44_0 : decode (zm_cc 44) 0 = .ok (.aload_n 0, 1) := by decide +kernel
theorem zd_44_1 : decode (zm_cc 44) 1 = .ok (.getfield 35, 3) := by decide +kernel
theorem zd_44_4 : decode (zm_cc 44) 4 = .ok (.ifCond .le 12, 3) := by decide +kernel
theorem zd_44_7 : decode (zm_cc 44) 7 = .ok (.aload_n 0, 1) := by decide +kernel
theorem zd_44_8 : decode (zm_cc 44) 8 = .ok (.getfield 35, 3) := by decide +kernel
theorem zd_44_11 : decode (zm_cc 44) 11 = .ok (.bipush 8, 2) := by decide +kernel
theorem zd_44_13 : decode (zm_cc 44) 13 = .ok (.if_icmp .le 4, 3) := by decide +kernel
theorem zd_44_16 : decode (zm_cc 44) 16 = .ok (.return_, 1) := by decide +kernel
theorem zd_44_17 : decode (zm_cc 44) 17 = .ok (.aload_n 0, 1) := by decide +kernel
theorem zd_44_18 : decode (zm_cc 44) 18 = .ok (.getfield 35, 3) := by decide +kernel
theorem zd_44_21 : decode (zm_cc 44) 21 = .ok (.iconst 1, 1) := by decide +kernel
theorem zd_44_22 : decode (zm_cc 44) 22 = .ok (.isub, 1) := by decide +kernel
theorem zd_44_23 : decode (zm_cc 44) 23 = .ok (.istore_n 1, 1) := by decide +kernel
theorem zd_44_24 : decode (zm_cc 44) 24 = .ok (.aload_n 0, 1) := by decide +kernel
theorem zd_44_25 : decode (zm_cc 44) 25 = .ok (.getfield 15, 3) := by decide +kernel
theorem zd_44_28 : decode (zm_cc 44) 28 = .ok (.iload_n 1, 1) := by decide +kernel
theorem zd_44_29 : decode (zm_cc 44) 29 = .ok (.iaload, 1) := by decide +kernel
theorem zd_44_30 : decode (zm_cc 44) 30 = .ok (.istore_n 2, 1) := by decide +kernel
theorem zd_44_31 : decode (zm_cc 44) 31 = .ok (.aload_n 0, 1) := by decide +kernel
theorem zd_44_32 : decode (zm_cc 44) 32 = .ok (.getfield 9, 3) := by decide +kernel
theorem zd_44_35 : decode (zm_cc 44) 35 = .ok (.iload_n 1, 1) := by decide +kernel
theorem zd_44_36 : decode (zm_cc 44) 36 = .ok (.iaload, 1) := by decide +kernel
theorem zd_44_37 : decode (zm_cc 44) 37 = .ok (.tableswitch 117 0 4 #[35, 42, 61, 69, 84], 35) := by decide +kernel
theorem zd_44_72 : decode (zm_cc 44) 72 = .ok (.aload_n 0, 1) := by decide +kernel
theorem zd_44_73 : decode (zm_cc 44) 73 = .ok (.invokevirtual 92, 3) := by decide +kernel
theorem zd_44_76 : decode (zm_cc 44) 76 = .ok (.goto 90, 3) := by decide +kernel
theorem zd_44_79 : decode (zm_cc 44) 79 = .ok (.aload_n 0, 1) := by decide +kernel
theorem zd_44_80 : decode (zm_cc 44) 80 = .ok (.iconst 4, 1) := by decide +kernel
theorem zd_44_81 : decode (zm_cc 44) 81 = .ok (.iload_n 2, 1) := by decide +kernel
theorem zd_44_82 : decode (zm_cc 44) 82 = .ok (.invokevirtual 95, 3) := by decide +kernel
theorem zd_44_85 : decode (zm_cc 44) 85 = .ok (.aload_n 0, 1) := by decide +kernel
theorem zd_44_86 : decode (zm_cc 44) 86 = .ok (.aload_n 0, 1) := by decide +kernel
theorem zd_44_87 : decode (zm_cc 44) 87 = .ok (.getfield 24, 3) := by decide +kernel
theorem zd_44_90 : decode (zm_cc 44) 90 = .ok (.iload_n 1, 1) := by decide +kernel
theorem zd_44_91 : decode (zm_cc 44) 91 = .ok (.iaload, 1) := by decide +kernel
theorem zd_44_92 : decode (zm_cc 44) 92 = .ok (.putfield 47, 3) := by decide +kernel
theorem zd_44_95 : decode (zm_cc 44) 95 = .ok (.goto 71, 3) := by decide +kernel
theorem zd_44_98 : decode (zm_cc 44) 98 = .ok (.aload_n 0, 1) := by decide +kernel
theorem zd_44_99 : decode (zm_cc 44) 99 = .ok (.iconst (-1), 1) := by decide +kernel
theorem zd_44_100 : decode (zm_cc 44) 100 = .ok (.putfield 50, 3) := by decide +kernel
theorem zd_44_103 : decode (zm_cc 44) 103 = .ok (.goto 63, 3) := by decide +kernel
theorem zd_44_106 : decode (zm_cc 44) 106 = .ok (.aload_n 0, 1) := by decide +kernel
theorem zd_44_107 : decode (zm_cc 44) 107 = .ok (.dup, 1) := by decide +kernel
theorem zd_44_108 : decode (zm_cc 44) 108 = .ok (.getfield 44, 3) := by decide +kernel
theorem zd_44_111 : decode (zm_cc 44) 111 = .ok (.iconst 1, 1) := by decide +kernel
theorem zd_44_112 : decode (zm_cc 44) 112 = .ok (.iload_n 2, 1) := by decide +kernel
theorem zd_44_113 : decode (zm_cc 44) 113 = .ok (.ishl, 1) := by decide +kernel
theorem zd_44_114 : decode (zm_cc 44) 114 = .ok (.ior, 1) := by decide +kernel
theorem zd_44_115 : decode (zm_cc 44) 115 = .ok (.putfield 44, 3) := by decide +kernel
theorem zd_44_118 : decode (zm_cc 44) 118 = .ok (.goto 48, 3) := by decide +kernel
theorem zd_44_121 : decode (zm_cc 44) 121 = .ok (.aload_n 0, 1) := by decide +kernel
theorem zd_44_122 : decode (zm_cc 44) 122 = .ok (.dup, 1) := by decide +kernel
theorem zd_44_123 : decode (zm_cc 44) 123 = .ok (.getfield 41, 3) := by decide +kernel
theorem zd_44_126 : decode (zm_cc 44) 126 = .ok (.aload_n 0, 1) := by decide +kernel
theorem zd_44_127 : decode (zm_cc 44) 127 = .ok (.getfield 18, 3) := by decide +kernel
theorem zd_44_130 : decode (zm_cc 44) 130 = .ok (.iload_n 1, 1) := by decide +kernel
theorem zd_44_131 : decode (zm_cc 44) 131 = .ok (.iaload, 1) := by decide +kernel
theorem zd_44_132 : decode (zm_cc 44) 132 = .ok (.ior, 1) := by decide +kernel
theorem zd_44_133 : decode (zm_cc 44) 133 = .ok (.putfield 41, 3) := by decide +kernel
theorem zd_44_136 : decode (zm_cc 44) 136 = .ok (.aload_n 0, 1) := by decide +kernel
theorem zd_44_137 : decode (zm_cc 44) 137 = .ok (.dup, 1) := by decide +kernel
theorem zd_44_138 : decode (zm_cc 44) 138 = .ok (.getfield 44, 3) := by decide +kernel
theorem zd_44_141 : decode (zm_cc 44) 141 = .ok (.aload_n 0, 1) := by decide +kernel
theorem zd_44_142 : decode (zm_cc 44) 142 = .ok (.getfield 21, 3) := by decide +kernel
theorem zd_44_145 : decode (zm_cc 44) 145 = .ok (.iload_n 1, 1) := by decide +kernel
theorem zd_44_146 : decode (zm_cc 44) 146 = .ok (.iaload, 1) := by decide +kernel
theorem zd_44_147 : decode (zm_cc 44) 147 = .ok (.ior, 1) := by decide +kernel
theorem zd_44_148 : decode (zm_cc 44) 148 = .ok (.putfield 44, 3) := by decide +kernel
theorem zd_44_151 : decode (zm_cc 44) 151 = .ok (.goto 15, 3) := by decide +kernel
theorem zd_44_154 : decode (zm_cc 44) 154 = .ok (.aload_n 0, 1) := by decide +kernel
theorem zd_44_155 : decode (zm_cc 44) 155 = .ok (.iload_n 2, 1) := by decide +kernel
theorem zd_44_156 : decode (zm_cc 44) 156 = .ok (.invokevirtual 59, 3) := by decide +kernel
theorem zd_44_159 : decode (zm_cc 44) 159 = .ok (.aload_n 0, 1) := by decide +kernel
theorem zd_44_160 : decode (zm_cc 44) 160 = .ok (.iconst 1, 1) := by decide +kernel
theorem zd_44_161 : decode (zm_cc 44) 161 = .ok (.iload_n 2, 1) := by decide +kernel
theorem zd_44_162 : decode (zm_cc 44) 162 = .ok (.ishl, 1) := by decide +kernel
theorem zd_44_163 : decode (zm_cc 44) 163 = .ok (.putfield 44, 3) := by decide +kernel
theorem zd_44_166 : decode (zm_cc 44) 166 = .ok (.aload_n 0, 1) := by decide +kernel
theorem zd_44_167 : decode (zm_cc 44) 167 = .ok (.iload_n 1, 1) := by decide +kernel
theorem zd_44_168 : decode (zm_cc 44) 168 = .ok (.putfield 35, 3) := by decide +kernel
theorem zd_44_171 : decode (zm_cc 44) 171 = .ok (.return_, 1) := by decide +kernel
theorem zd_45_0 : decode (zm_cc 45) 0 = .ok (.aload_n 0, 1) := by decide +kernel
theorem zd_45_1 : decode (zm_cc 45) 1 = .ok (.getfield 27, 3) := by decide +kernel
theorem zd_45_4 : decode (zm_cc 45) 4 = .ok (.aload_n 0, 1) := by decide +kernel
theorem zd_45_5 : decode (zm_cc 45) 5 = .ok (.getfield 31, 3) := by decide +kernel
theorem zd_45_8 : decode (zm_cc 45) 8 = .ok (.invokevirtual 53, 3) := by decide +kernel
theorem zd_45_11 : decode (zm_cc 45) 11 = .ok (.istore_n 1, 1) := by decide +kernel
theorem zd_45_12 : decode (zm_cc 45) 12 = .ok (.aload_n 0, 1) := by decide +kernel
theorem zd_45_13 : decode (zm_cc 45) 13 = .ok (.iload_n 1, 1) := by decide +kernel
theorem zd_45_14 : decode (zm_cc 45) 14 = .ok (.invokevirtual 59, 3) := by decide +kernel
theorem zd_45_17 : decode (zm_cc 45) 17 = .ok (.iconst 0, 1) := by decide +kernel
theorem zd_45_18 : decode (zm_cc 45) 18 = .ok (.istore_n 2, 1) := by decide +kernel
theorem zd_45_19 : decode (zm_cc 45) 19 = .ok (.iload_n 2, 1) := by decide +kernel
theorem zd_45_20 : decode (zm_cc 45) 20 = .ok (.iload_n 1, 1) := by decide +kernel
theorem zd_45_21 : decode (zm_cc 45) 21 = .ok (.if_icmp .ge 52, 3) := by decide +kernel
theorem zd_45_24 : decode (zm_cc 45) 24 = .ok (.iload_n 2, 1) := by decide +kernel
theorem zd_45_25 : decode (zm_cc 45) 25 = .ok (.bipush 24, 2) := by decide +kernel
theorem zd_45_27 : decode (zm_cc 45) 27 = .ok (.if_icmp .ge 46, 3) := by decide +kernel
theorem zd_45_30 : decode (zm_cc 45) 30 = .ok (.aload_n 0, 1) := by decide +kernel
theorem zd_45_31 : decode (zm_cc 45) 31 = .ok (.getfield 27, 3) := by decide +kernel
theorem zd_45_34 : decode (zm_cc 45) 34 = .ok (.aload_n 0, 1) := by decide +kernel
theorem zd_45_35 : decode (zm_cc 45) 35 = .ok (.getfield 31, 3) := by decide +kernel
theorem zd_45_38 : decode (zm_cc 45) 38 = .ok (.iload_n 2, 1) := by decide +kernel
theorem zd_45_39 : decode (zm_cc 45) 39 = .ok (.invokevirtual 67, 3) := by decide +kernel
theorem zd_45_42 : decode (zm_cc 45) 42 = .ok (.istore_n 3, 1) := by decide +kernel
theorem zd_45_43 : decode (zm_cc 45) 43 = .ok (.aload_n 0, 1) := by decide +kernel
theorem zd_45_44 : decode (zm_cc 45) 44 = .ok (.getfield 27, 3) := by decide +kernel
theorem zd_45_47 : decode (zm_cc 45) 47 = .ok (.getfield 99, 3) := by decide +kernel
theorem zd_45_50 : decode (zm_cc 45) 50 = .ok (.iload_n 3, 1) := by decide +kernel
theorem zd_45_51 : decode (zm_cc 45) 51 = .ok (.iaload, 1) := by decide +kernel
theorem zd_45_52 : decode (zm_cc 45) 52 = .ok (.bipush 13, 2) := by decide +kernel
theorem zd_45_54 : decode (zm_cc 45) 54 = .ok (.if_icmp .ne 13, 3) := by decide +kernel
theorem zd_45_57 : decode (zm_cc 45) 57 = .ok (.aload_n 0, 1) := by decide +kernel
theorem zd_45_58 : decode (zm_cc 45) 58 = .ok (.getfield 27, 3) := by decide +kernel
theorem zd_45_61 : decode (zm_cc 45) 61 = .ok (.getfield 83, 3) := by decide +kernel
theorem zd_45_64 : decode (zm_cc 45) 64 = .ok (.iload_n 3, 1) := by decide +kernel
theorem zd_45_65 : decode (zm_cc 45) 65 = .ok (.iload_n 1, 1) := by decide +kernel
theorem zd_45_66 : decode (zm_cc 45) 66 = .ok (.iastore, 1) := by decide +kernel
theorem zd_45_67 : decode (zm_cc 45) 67 = .ok (.iinc 2 1, 3) := by decide +kernel
theorem zd_45_70 : decode (zm_cc 45) 70 = .ok (.goto (-51), 3) := by decide +kernel
theorem zd_45_73 : decode (zm_cc 45) 73 = .ok (.return_, 1) := by decide +kernel
theorem zd_46_0 : decode (zm_cc 46) 0 = .ok (.iconst 0, 1) := by decide +kernel
theorem zd_46_1 : decode (zm_cc 46) 1 = .ok (.istore_n 2, 1) := by decide +kernel
theorem zd_46_2 : decode (zm_cc 46) 2 = .ok (.iload_n 2, 1) := by decide +kernel
theorem zd_46_3 : decode (zm_cc 46) 3 = .ok (.bipush 24, 2) := by decide +kernel
theorem zd_46_5 : decode (zm_cc 46) 5 = .ok (.if_icmp .ge 71, 3) := by decide +kernel
theorem zd_46_8 : decode (zm_cc 46) 8 = .ok (.aload_n 0, 1) := by decide +kernel
theorem zd_46_9 : decode (zm_cc 46) 9 = .ok (.getfield 31, 3) := by decide +kernel
theorem zd_46_12 : decode (zm_cc 46) 12 = .ok (.bipush 24, 2) := by decide +kernel
theorem zd_46_14 : decode (zm_cc 46) 14 = .ok (.imul, 1) := by decide +kernel
theorem zd_46_15 : decode (zm_cc 46) 15 = .ok (.iload_n 2, 1) := by decide +kernel
theorem zd_46_16 : decode (zm_cc 46) 16 = .ok (.iadd, 1) := by decide +kernel
theorem zd_46_17 : decode (zm_cc 46) 17 = .ok (.istore_n 3, 1) := by decide +kernel
theorem zd_46_18 : decode (zm_cc 46) 18 = .ok (.iload_n 3, 1) := by decide +kernel
theorem zd_46_19 : decode (zm_cc 46) 19 = .ok (.ifCond .lt 51, 3) := by decide +kernel
theorem zd_46_22 : decode (zm_cc 46) 22 = .ok (.iload_n 3, 1) := by decide +kernel
theorem zd_46_23 : decode (zm_cc 46) 23 = .ok (.bipush 96, 2) := by decide +kernel
theorem zd_46_25 : decode (zm_cc 46) 25 = .ok (.if_icmp .ge 45, 3) := by decide +kernel
theorem zd_46_28 : decode (zm_cc 46) 28 = .ok (.aload_n 0, 1) := by decide +kernel
theorem zd_46_29 : decode (zm_cc 46) 29 = .ok (.getfield 41, 3) := by decide +kernel
theorem zd_46_32 : decode (zm_cc 46) 32 = .ok (.iload_n 2, 1) := by decide +kernel
theorem zd_46_33 : decode (zm_cc 46) 33 = .ok (.iushr, 1) := by decide +kernel
theorem zd_46_34 : decode (zm_cc 46) 34 = .ok (.iconst 1, 1) := by decide +kernel
theorem zd_46_35 : decode (zm_cc 46) 35 = .ok (.iand, 1) := by decide +kernel
theorem zd_46_36 : decode (zm_cc 46) 36 = .ok (.ifCond .eq 13, 3) := by decide +kernel
theorem zd_46_39 : decode (zm_cc 46) 39 = .ok (.aload_n 0, 1) := by decide +kernel
theorem zd_46_40 : decode (zm_cc 46) 40 = .ok (.getfield 27, 3) := by decide +kernel
theorem zd_46_43 : decode (zm_cc 46) 43 = .ok (.getfield 83, 3) := by decide +kernel
theorem zd_46_46 : decode (zm_cc 46) 46 = .ok (.iload_n 3, 1) := by decide +kernel
theorem zd_46_47 : decode (zm_cc 46) 47 = .ok (.iload_n 1, 1) := by decide +kernel
theorem zd_46_48 : decode (zm_cc 46) 48 = .ok (.iastore, 1) := by decide +kernel
theorem zd_46_49 : decode (zm_cc 46) 49 = .ok (.aload_n 0, 1) := by decide +kernel
theorem zd_46_50 : decode (zm_cc 46) 50 = .ok (.getfield 44, 3) := by decide +kernel
theorem zd_46_53 : decode (zm_cc 46) 53 = .ok (.iload_n 2, 1) := by decide +kernel
theorem zd_46_54 : decode (zm_cc 46) 54 = .ok (.iushr, 1) := by decide +kernel
theorem zd_46_55 : decode (zm_cc 46) 55 = .ok (.iconst 1, 1) := by decide +kernel
theorem zd_46_56 : decode (zm_cc 46) 56 = .ok (.iand, 1) := by decide +kernel
theorem zd_46_57 : decode (zm_cc 46) 57 = .ok (.ifCond .eq 13, 3) := by decide +kernel
theorem zd_46_60 : decode (zm_cc 46) 60 = .ok (.aload_n 0, 1) := by decide +kernel
theorem zd_46_61 : decode (zm_cc 46) 61 = .ok (.getfield 27, 3) := by decide +kernel
theorem zd_46_64 : decode (zm_cc 46) 64 = .ok (.getfield 86, 3) := by decide +kernel
theorem zd_46_67 : decode (zm_cc 46) 67 = .ok (.iload_n 3, 1) := by decide +kernel
theorem zd_46_68 : decode (zm_cc 46) 68 = .ok (.iload_n 1, 1) := by decide +kernel
theorem zd_46_69 : decode (zm_cc 46) 69 = .ok (.iastore, 1) := by decide +kernel
theorem zd_46_70 : decode (zm_cc 46) 70 = .ok (.iinc 2 1, 3) := by decide +kernel
theorem zd_46_73 : decode (zm_cc 46) 73 = .ok (.goto (-71), 3) := by decide +kernel
theorem zd_46_76 : decode (zm_cc 46) 76 = .ok (.aload_n 0, 1) := by decide +kernel
theorem zd_46_77 : decode (zm_cc 46) 77 = .ok (.iconst 0, 1) := by decide +kernel
theorem zd_46_78 : decode (zm_cc 46) 78 = .ok (.putfield 41, 3) := by decide +kernel
theorem zd_46_81 : decode (zm_cc 46) 81 = .ok (.aload_n 0, 1) := by decide +kernel
theorem zd_46_82 : decode (zm_cc 46) 82 = .ok (.iconst 0, 1) := by decide +kernel
theorem zd_46_83 : decode (zm_cc 46) 83 = .ok (.putfield 44, 3) := by decide +kernel
theorem zd_46_86 : decode (zm_cc 46) 86 = .ok (.return_, 1) := by decide +kernel
theorem zd_47_0 : decode (zm_cc 47) 0 = .ok (.iload_n 1, 1) := by decide +kernel
theorem zd_47_1 : decode (zm_cc 47) 1 = .ok (.ifCond .lt 32, 3) := by decide +kernel
theorem zd_47_4 : decode (zm_cc 47) 4 = .ok (.iload_n 1, 1) := by decide +kernel
theorem zd_47_5 : decode (zm_cc 47) 5 = .ok (.iconst 4, 1) := by decide +kernel
theorem zd_47_6 : decode (zm_cc 47) 6 = .ok (.if_icmp .ge 27, 3) := by decide +kernel
theorem zd_47_9 : decode (zm_cc 47) 9 = .ok (.iload_n 2, 1) := by decide +kernel
theorem zd_47_10 : decode (zm_cc 47) 10 = .ok (.ifCond .lt 23, 3) := by decide +kernel
theorem zd_47_13 : decode (zm_cc 47) 13 = .ok (.iload_n 2, 1) := by decide +kernel
theorem zd_47_14 : decode (zm_cc 47) 14 = .ok (.bipush 24, 2) := by decide +kernel
theorem zd_47_16 : decode (zm_cc 47) 16 = .ok (.if_icmp .ge 17, 3) := by decide +kernel
theorem zd_47_19 : decode (zm_cc 47) 19 = .ok (.iload_n 2, 1) := by decide +kernel
theorem zd_47_20 : decode (zm_cc 47) 20 = .ok (.aload_n 0, 1) := by decide +kernel
theorem zd_47_21 : decode (zm_cc 47) 21 = .ok (.getfield 9, 3) := by decide +kernel
theorem zd_47_24 : decode (zm_cc 47) 24 = .ok (.iload_n 1, 1) := by decide +kernel
theorem zd_47_25 : decode (zm_cc 47) 25 = .ok (.iaload, 1) := by decide +kernel
theorem zd_47_26 : decode (zm_cc 47) 26 = .ok (.if_icmp .ge 7, 3) := by decide +kernel
theorem zd_47_29 : decode (zm_cc 47) 29 = .ok (.iconst 1, 1) := by decide +kernel
theorem zd_47_30 : decode (zm_cc 47) 30 = .ok (.goto 4, 3) := by decide +kernel
theorem zd_47_33 : decode (zm_cc 47) 33 = .ok (.iconst 0, 1) := by decide +kernel
theorem zd_47_34 : decode (zm_cc 47) 34 = .ok (.istore_n 3, 1) := by decide +kernel
theorem zd_47_35 : decode (zm_cc 47) 35 = .ok (.iload_n 3, 1) := by decide +kernel
theorem zd_47_36 : decode (zm_cc 47) 36 = .ok (.ifCond .eq 12, 3) := by decide +kernel
theorem zd_47_39 : decode (zm_cc 47) 39 = .ok (.iload_n 1, 1) := by decide +kernel
theorem zd_47_40 : decode (zm_cc 47) 40 = .ok (.bipush 24, 2) := by decide +kernel
theorem zd_47_42 : decode (zm_cc 47) 42 = .ok (.imul, 1) := by decide +kernel
theorem zd_47_43 : decode (zm_cc 47) 43 = .ok (.iload_n 2, 1) := by decide +kernel
theorem zd_47_44 : decode (zm_cc 47) 44 = .ok (.iadd, 1) := by decide +kernel
theorem zd_47_45 : decode (zm_cc 47) 45 = .ok (.goto 5, 3) := by decide +kernel
theorem zd_47_48 : decode (zm_cc 47) 48 = .ok (.bipush 96, 2) := by decide +kernel
theorem zd_47_50 : decode (zm_cc 47) 50 = .ok (.ireturn, 1) := by decide +kernel
theorem zd_48_0 : decode (zm_cc 48) 0 = .ok (.aload_n 0, 1) := by decide +kernel
theorem zd_48_1 : decode (zm_cc 48) 1 = .ok (.aload_n 0, 1) := by decide +kernel
theorem zd_48_2 : decode (zm_cc 48) 2 = .ok (.getfield 27, 3) := by decide +kernel
theorem zd_48_5 : decode (zm_cc 48) 5 = .ok (.aload_n 0, 1) := by decide +kernel
theorem zd_48_6 : decode (zm_cc 48) 6 = .ok (.getfield 31, 3) := by decide +kernel
theorem zd_48_9 : decode (zm_cc 48) 9 = .ok (.invokevirtual 53, 3) := by decide +kernel
theorem zd_48_12 : decode (zm_cc 48) 12 = .ok (.invokevirtual 59, 3) := by decide +kernel
theorem zd_48_15 : decode (zm_cc 48) 15 = .ok (.aload_n 0, 1) := by decide +kernel
theorem zd_48_16 : decode (zm_cc 48) 16 = .ok (.aload_n 0, 1) := by decide +kernel
theorem zd_48_17 : decode (zm_cc 48) 17 = .ok (.getfield 27, 3) := by decide +kernel
theorem zd_48_20 : decode (zm_cc 48) 20 = .ok (.aload_n 0, 1) := by decide +kernel
theorem zd_48_21 : decode (zm_cc 48) 21 = .ok (.getfield 31, 3) := by decide +kernel
theorem zd_48_24 : decode (zm_cc 48) 24 = .ok (.iload_n 1, 1) := by decide +kernel
theorem zd_48_25 : decode (zm_cc 48) 25 = .ok (.iload_n 2, 1) := by decide +kernel
theorem zd_48_26 : decode (zm_cc 48) 26 = .ok (.aload_n 0, 1) := by decide +kernel
theorem zd_48_27 : decode (zm_cc 48) 27 = .ok (.getfield 47, 3) := by decide +kernel
theorem zd_48_30 : decode (zm_cc 48) 30 = .ok (.aload_n 0, 1) := by decide +kernel
theorem zd_48_31 : decode (zm_cc 48) 31 = .ok (.getfield 50, 3) := by decide +kernel
theorem zd_48_34 : decode (zm_cc 48) 34 = .ok (.invokevirtual 63, 3) := by decide +kernel
theorem zd_48_37 : decode (zm_cc 48) 37 = .ok (.putfield 38, 3) := by decide +kernel
theorem zd_48_40 : decode (zm_cc 48) 40 = .ok (.aload_n 0, 1) := by decide +kernel
theorem zd_48_41 : decode (zm_cc 48) 41 = .ok (.aload_n 0, 1) := by decide +kernel
theorem zd_48_42 : decode (zm_cc 48) 42 = .ok (.getfield 38, 3) := by decide +kernel
theorem zd_48_45 : decode (zm_cc 48) 45 = .ok (.iconst (-1), 1) := by decide +kernel
theorem zd_48_46 : decode (zm_cc 48) 46 = .ok (.if_icmp .ne 7, 3) := by decide +kernel
theorem zd_48_49 : decode (zm_cc 48) 49 = .ok (.iconst 0, 1) := by decide +kernel
theorem zd_48_50 : decode (zm_cc 48) 50 = .ok (.goto 9, 3) := by decide +kernel
theorem zd_48_53 : decode (zm_cc 48) 53 = .ok (.iconst 1, 1) := by decide +kernel
theorem zd_48_54 : decode (zm_cc 48) 54 = .ok (.aload_n 0, 1) := by decide +kernel
theorem zd_48_55 : decode (zm_cc 48) 55 = .ok (.getfield 38, 3) := by decide +kernel
theorem zd_48_58 : decode (zm_cc 48) 58 = .ok (.ishl, 1) := by decide +kernel
theorem zd_48_59 : decode (zm_cc 48) 59 = .ok (.putfield 41, 3) := by decide +kernel
theorem zd_48_62 : decode (zm_cc 48) 62 = .ok (.return_, 1) := by decide +kernel
theorem zd_49_0 : decode (zm_cc 49) 0 = .ok (.iload_n 1, 1) := by decide +kernel
theorem zd_49_1 : decode (zm_cc 49) 1 = .ok (.ifCond .lt 28, 3) := by decide +kernel
theorem zd_49_4 : decode (zm_cc 49) 4 = .ok (.iload_n 1, 1) := by decide +kernel
theorem zd_49_5 : decode (zm_cc 49) 5 = .ok (.iconst 4, 1) := by decide +kernel
theorem zd_49_6 : decode (zm_cc 49) 6 = .ok (.if_icmp .ge 23, 3) := by decide +kernel
theorem zd_49_9 : decode (zm_cc 49) 9 = .ok (.aload_n 0, 1) := by decide +kernel
theorem zd_49_10 : decode (zm_cc 49) 10 = .ok (.getfield 9, 3) := by decide +kernel
theorem zd_49_13 : decode (zm_cc 49) 13 = .ok (.iload_n 1, 1) := by decide +kernel
theorem zd_49_14 : decode (zm_cc 49) 14 = .ok (.iaload, 1) := by decide +kernel
theorem zd_49_15 : decode (zm_cc 49) 15 = .ok (.ifCond .lt 14, 3) := by decide +kernel
theorem zd_49_18 : decode (zm_cc 49) 18 = .ok (.aload_n 0, 1) := by decide +kernel
theorem zd_49_19 : decode (zm_cc 49) 19 = .ok (.getfield 9, 3) := by decide +kernel
theorem zd_49_22 : decode (zm_cc 49) 22 = .ok (.iload_n 1, 1) := by decide +kernel
theorem zd_49_23 : decode (zm_cc 49) 23 = .ok (.iaload, 1) := by decide +kernel
theorem zd_49_24 : decode (zm_cc 49) 24 = .ok (.bipush 24, 2) := by decide +kernel
theorem zd_49_26 : decode (zm_cc 49) 26 = .ok (.if_icmp .lt 5, 3) := by decide +kernel
theorem zd_49_29 : decode (zm_cc 49) 29 = .ok (.iconst (-1), 1) := by decide +kernel
theorem zd_49_30 : decode (zm_cc 49) 30 = .ok (.ireturn, 1) := by decide +kernel
theorem zd_49_31 : decode (zm_cc 49) 31 = .ok (.aload_n 0, 1) := by decide +kernel
theorem zd_49_32 : decode (zm_cc 49) 32 = .ok (.getfield 9, 3) := by decide +kernel
theorem zd_49_35 : decode (zm_cc 49) 35 = .ok (.iload_n 1, 1) := by decide +kernel
theorem zd_49_36 : decode (zm_cc 49) 36 = .ok (.iaload, 1) := by decide +kernel
theorem zd_49_37 : decode (zm_cc 49) 37 = .ok (.istore 6, 2) := by decide +kernel
theorem zd_49_39 : decode (zm_cc 49) 39 = .ok (.iload_n 1, 1) := by decide +kernel
theorem zd_49_40 : decode (zm_cc 49) 40 = .ok (.bipush 24, 2) := by decide +kernel
theorem zd_49_42 : decode (zm_cc 49) 42 = .ok (.imul, 1) := by decide +kernel
theorem zd_49_43 : decode (zm_cc 49) 43 = .ok (.iload 6, 2) := by decide +kernel
theorem zd_49_45 : decode (zm_cc 49) 45 = .ok (.iadd, 1) := by decide +kernel
theorem zd_49_46 : decode (zm_cc 49) 46 = .ok (.istore 7, 2) := by decide +kernel
theorem zd_49_48 : decode (zm_cc 49) 48 = .ok (.aload_n 0, 1) := by decide +kernel
theorem zd_49_49 : decode (zm_cc 49) 49 = .ok (.getfield 9, 3) := by decide +kernel
theorem zd_49_52 : decode (zm_cc 49) 52 = .ok (.iload_n 1, 1) := by decide +kernel
theorem zd_49_53 : decode (zm_cc 49) 53 = .ok (.dup2, 1) := by decide +kernel
theorem zd_49_54 : decode (zm_cc 49) 54 = .ok (.iaload, 1) := by decide +kernel
theorem zd_49_55 : decode (zm_cc 49) 55 = .ok (.iconst 1, 1) := by decide +kernel
theorem zd_49_56 : decode (zm_cc 49) 56 = .ok (.iadd, 1) := by decide +kernel
theorem zd_49_57 : decode (zm_cc 49) 57 = .ok (.iastore, 1) := by decide +kernel
theorem zd_49_58 : decode (zm_cc 49) 58 = .ok (.aload_n 0, 1) := by decide +kernel
theorem zd_49_59 : decode (zm_cc 49) 59 = .ok (.dup, 1) := by decide +kernel
theorem zd_49_60 : decode (zm_cc 49) 60 = .ok (.getfield 61, 3) := by decide +kernel
theorem zd_49_63 : decode (zm_cc 49) 63 = .ok (.iconst 1, 1) := by decide +kernel
theorem zd_49_64 : decode (zm_cc 49) 64 = .ok (.iadd, 1) := by decide +kernel
theorem zd_49_65 : decode (zm_cc 49) 65 = .ok (.putfield 61, 3) := by decide +kernel
theorem zd_49_68 : decode (zm_cc 49) 68 = .ok (.aload_n 0, 1) := by decide +kernel
theorem zd_49_69 : decode (zm_cc 49) 69 = .ok (.getfield 18, 3) := by decide +kernel
theorem zd_49_72 : decode (zm_cc 49) 72 = .ok (.iload 7, 2) := by decide +kernel
theorem zd_49_74 : decode (zm_cc 49) 74 = .ok (.iload_n 2, 1) := by decide +kernel
theorem zd_49_75 : decode (zm_cc 49) 75 = .ok (.iastore, 1) := by decide +kernel
theorem zd_49_76 : decode (zm_cc 49) 76 = .ok (.aload_n 0, 1) := by decide +kernel
theorem zd_49_77 : decode (zm_cc 49) 77 = .ok (.getfield 21, 3) := by decide +kernel
theorem zd_49_80 : decode (zm_cc 49) 80 = .ok (.iload 7, 2) := by decide +kernel
theorem zd_49_82 : decode (zm_cc 49) 82 = .ok (.iload_n 3, 1) := by decide +kernel
theorem zd_49_83 : decode (zm_cc 49) 83 = .ok (.iastore, 1) := by decide +kernel
theorem zd_49_84 : decode (zm_cc 49) 84 = .ok (.aload_n 0, 1) := by decide +kernel
theorem zd_49_85 : decode (zm_cc 49) 85 = .ok (.getfield 30, 3) := by decide +kernel
theorem zd_49_88 : decode (zm_cc 49) 88 = .ok (.iload 7, 2) := by decide +kernel
theorem zd_49_90 : decode (zm_cc 49) 90 = .ok (.iload 4, 2) := by decide +kernel
theorem zd_49_92 : decode (zm_cc 49) 92 = .ok (.iastore, 1) := by decide +kernel
theorem zd_49_93 : decode (zm_cc 49) 93 = .ok (.aload_n 0, 1) := by decide +kernel
theorem zd_49_94 : decode (zm_cc 49) 94 = .ok (.getfield 33, 3) := by decide +kernel
theorem zd_49_97 : decode (zm_cc 49) 97 = .ok (.iload 7, 2) := by decide +kernel
theorem zd_49_99 : decode (zm_cc 49) 99 = .ok (.iload 5, 2) := by decide +kernel
theorem zd_49_101 : decode (zm_cc 49) 101 = .ok (.iastore, 1) := by decide +kernel
theorem zd_49_102 : decode (zm_cc 49) 102 = .ok (.aload_n 0, 1) := by decide +kernel
theorem zd_49_103 : decode (zm_cc 49) 103 = .ok (.getfield 24, 3) := by decide +kernel
theorem zd_49_106 : decode (zm_cc 49) 106 = .ok (.iload 7, 2) := by decide +kernel
theorem zd_49_108 : decode (zm_cc 49) 108 = .ok (.iconst (-1), 1) := by decide +kernel
theorem zd_49_109 : decode (zm_cc 49) 109 = .ok (.iastore, 1) := by decide +kernel
theorem zd_49_110 : decode (zm_cc 49) 110 = .ok (.aload_n 0, 1) := by decide +kernel
theorem zd_49_111 : decode (zm_cc 49) 111 = .ok (.getfield 27, 3) := by decide +kernel
theorem zd_49_114 : decode (zm_cc 49) 114 = .ok (.iload 7, 2) := by decide +kernel
theorem zd_49_116 : decode (zm_cc 49) 116 = .ok (.iconst (-1), 1) := by decide +kernel
theorem zd_49_117 : decode (zm_cc 49) 117 = .ok (.iastore, 1) := by decide +kernel
theorem zd_49_118 : decode (zm_cc 49) 118 = .ok (.iload 6, 2) := by decide +kernel
theorem zd_49_120 : decode (zm_cc 49) 120 = .ok (.ireturn, 1) := by decide +kernel
theorem zd_50_0 : decode (zm_cc 50) 0 = .ok (.aload_n 0, 1) := by decide +kernel
theorem zd_50_1 : decode (zm_cc 50) 1 = .ok (.getfield 12, 3) := by decide +kernel
theorem zd_50_4 : decode (zm_cc 50) 4 = .ok (.aload_n 0, 1) := by decide +kernel
theorem zd_50_5 : decode (zm_cc 50) 5 = .ok (.getfield 35, 3) := by decide +kernel
theorem zd_50_8 : decode (zm_cc 50) 8 = .ok (.getfield 113, 3) := by decide +kernel
theorem zd_50_11 : decode (zm_cc 50) 11 = .ok (.invokevirtual 134, 3) := by decide +kernel
theorem zd_50_14 : decode (zm_cc 50) 14 = .ok (.istore_n 1, 1) := by decide +kernel
theorem zd_50_15 : decode (zm_cc 50) 15 = .ok (.iload_n 1, 1) := by decide +kernel
theorem zd_50_16 : decode (zm_cc 50) 16 = .ok (.iconst 1, 1) := by decide +kernel
theorem zd_50_17 : decode (zm_cc 50) 17 = .ok (.if_icmp .eq 8, 3) := by decide +kernel
theorem zd_50_20 : decode (zm_cc 50) 20 = .ok (.iload_n 1, 1) := by decide +kernel
theorem zd_50_21 : decode (zm_cc 50) 21 = .ok (.iconst 2, 1) := by decide +kernel
theorem zd_50_22 : decode (zm_cc 50) 22 = .ok (.if_icmp .ne 10, 3) := by decide +kernel
theorem zd_50_25 : decode (zm_cc 50) 25 = .ok (.aload_n 0, 1) := by decide +kernel
theorem zd_50_26 : decode (zm_cc 50) 26 = .ok (.iconst 2, 1) := by decide +kernel
theorem zd_50_27 : decode (zm_cc 50) 27 = .ok (.invokevirtual 86, 3) := by decide +kernel
theorem zd_50_30 : decode (zm_cc 50) 30 = .ok (.pop, 1) := by decide +kernel
theorem zd_50_31 : decode (zm_cc 50) 31 = .ok (.return_, 1) := by decide +kernel
theorem zd_50_32 : decode (zm_cc 50) 32 = .ok (.iload_n 1, 1) := by decide +kernel
theorem zd_50_33 : decode (zm_cc 50) 33 = .ok (.ifCond .ne 7, 3) := by decide +kernel
theorem zd_50_36 : decode (zm_cc 50) 36 = .ok (.iconst 1, 1) := by decide +kernel
theorem zd_50_37 : decode (zm_cc 50) 37 = .ok (.goto 4, 3) := by decide +kernel
theorem zd_50_40 : decode (zm_cc 50) 40 = .ok (.iconst 0, 1) := by decide +kernel
theorem zd_50_41 : decode (zm_cc 50) 41 = .ok (.istore_n 2, 1) := by decide +kernel
theorem zd_50_42 : decode (zm_cc 50) 42 = .ok (.iload_n 2, 1) := by decide +kernel
theorem zd_50_43 : decode (zm_cc 50) 43 = .ok (.ifCond .eq 21, 3) := by decide +kernel
theorem zd_50_46 : decode (zm_cc 50) 46 = .ok (.aload_n 0, 1) := by decide +kernel
theorem zd_50_47 : decode (zm_cc 50) 47 = .ok (.getfield 12, 3) := by decide +kernel
theorem zd_50_50 : decode (zm_cc 50) 50 = .ok (.aload_n 0, 1) := by decide +kernel
theorem zd_50_51 : decode (zm_cc 50) 51 = .ok (.getfield 35, 3) := by decide +kernel
theorem zd_50_54 : decode (zm_cc 50) 54 = .ok (.getfield 113, 3) := by decide +kernel
theorem zd_50_57 : decode (zm_cc 50) 57 = .ok (.iload_n 1, 1) := by decide +kernel
theorem zd_50_58 : decode (zm_cc 50) 58 = .ok (.invokevirtual 201, 3) := by decide +kernel
theorem zd_50_61 : decode (zm_cc 50) 61 = .ok (.goto 17, 3) := by decide +kernel
theorem zd_50_64 : decode (zm_cc 50) 64 = .ok (.aload_n 0, 1) := by decide +kernel
theorem zd_50_65 : decode (zm_cc 50) 65 = .ok (.getfield 12, 3) := by decide +kernel
theorem zd_50_68 : decode (zm_cc 50) 68 = .ok (.aload_n 0, 1) := by decide +kernel
theorem zd_50_69 : decode (zm_cc 50) 69 = .ok (.getfield 35, 3) := by decide +kernel
theorem zd_50_72 : decode (zm_cc 50) 72 = .ok (.getfield 113, 3) := by decide +kernel
theorem zd_50_75 : decode (zm_cc 50) 75 = .ok (.invokevirtual 224, 3) := by decide +kernel
theorem zd_50_78 : decode (zm_cc 50) 78 = .ok (.istore_n 3, 1) := by decide +kernel
theorem zd_50_79 : decode (zm_cc 50) 79 = .ok (.iload_n 3, 1) := by decide +kernel
theorem zd_50_80 : decode (zm_cc 50) 80 = .ok (.iconst (-1), 1) := by decide +kernel
theorem zd_50_81 : decode (zm_cc 50) 81 = .ok (.if_icmp .eq 13, 3) := by decide +kernel
theorem zd_50_84 : decode (zm_cc 50) 84 = .ok (.aload_n 0, 1) := by decide +kernel
theorem zd_50_85 : decode (zm_cc 50) 85 = .ok (.getfield 44, 3) := by decide +kernel
theorem zd_50_88 : decode (zm_cc 50) 88 = .ok (.invokevirtual 172, 3) := by decide +kernel
theorem zd_50_91 : decode (zm_cc 50) 91 = .ok (.ifCond .ne 10, 3) := by decide +kernel
theorem zd_50_94 : decode (zm_cc 50) 94 = .ok (.aload_n 0, 1) := by decide +kernel
theorem zd_50_95 : decode (zm_cc 50) 95 = .ok (.iconst 4, 1) := by decide +kernel
theorem zd_50_96 : decode (zm_cc 50) 96 = .ok (.invokevirtual 86, 3) := by decide +kernel
theorem zd_50_99 : decode (zm_cc 50) 99 = .ok (.pop, 1) := by decide +kernel
theorem zd_50_100 : decode (zm_cc 50) 100 = .ok (.return_, 1) := by decide +kernel
theorem zd_50_101 : decode (zm_cc 50) 101 = .ok (.aload_n 0, 1) := by decide +kernel
theorem zd_50_102 : decode (zm_cc 50) 102 = .ok (.getfield 35, 3) := by decide +kernel
theorem zd_50_105 : decode (zm_cc 50) 105 = .ok (.invokevirtual 90, 3) := by decide +kernel
theorem zd_50_108 : decode (zm_cc 50) 108 = .ok (.aload_n 0, 1) := by decide +kernel
theorem zd_50_109 : decode (zm_cc 50) 109 = .ok (.bipush 61, 2) := by decide +kernel
theorem zd_50_111 : decode (zm_cc 50) 111 = .ok (.invokevirtual 117, 3) := by decide +kernel
theorem zd_50_114 : decode (zm_cc 50) 114 = .ok (.ifCond .ne 4, 3) := by decide +kernel
theorem zd_50_117 : decode (zm_cc 50) 117 = .ok (.return_, 1) := by decide +kernel
theorem zd_50_118 : decode (zm_cc 50) 118 = .ok (.aload_n 0, 1) := by decide +kernel
theorem zd_50_119 : decode (zm_cc 50) 119 = .ok (.getfield 35, 3) := by decide +kernel
theorem zd_50_122 : decode (zm_cc 50) 122 = .ok (.getfield 74, 3) := by decide +kernel
theorem zd_50_125 : decode (zm_cc 50) 125 = .ok (.iconst 3, 1) := by decide +kernel
theorem zd_50_126 : decode (zm_cc 50) 126 = .ok (.if_icmp .ne 21, 3) := by decide +kernel
theorem zd_50_129 : decode (zm_cc 50) 129 = .ok (.aload_n 0, 1) := by decide +kernel
theorem zd_50_130 : decode (zm_cc 50) 130 = .ok (.getfield 12, 3) := by decide +kernel
theorem zd_50_133 : decode (zm_cc 50) 133 = .ok (.aload_n 0, 1) := by decide +kernel
theorem zd_50_134 : decode (zm_cc 50) 134 = .ok (.getfield 35, 3) := by decide +kernel
theorem zd_50_137 : decode (zm_cc 50) 137 = .ok (.getfield 113, 3) := by decide +kernel
theorem zd_50_140 : decode (zm_cc 50) 140 = .ok (.iconst 0, 1) := by decide +kernel
theorem zd_50_141 : decode (zm_cc 50) 141 = .ok (.invokevirtual 201, 3) := by decide +kernel
theorem zd_50_144 : decode (zm_cc 50) 144 = .ok (.goto 4, 3) := by decide +kernel
theorem zd_50_147 : decode (zm_cc 50) 147 = .ok (.iconst (-1), 1) := by decide +kernel
theorem zd_50_148 : decode (zm_cc 50) 148 = .ok (.istore 4, 2) := by decide +kernel
theorem zd_50_150 : decode (zm_cc 50) 150 = .ok (.iload_n 2, 1) := by decide +kernel
theorem zd_50_151 : decode (zm_cc 50) 151 = .ok (.ifCond .eq 11, 3) := by decide +kernel
theorem zd_50_154 : decode (zm_cc 50) 154 = .ok (.aload_n 0, 1) := by decide +kernel
theorem zd_50_155 : decode (zm_cc 50) 155 = .ok (.iload_n 3, 1) := by decide +kernel
theorem zd_50_156 : decode (zm_cc 50) 156 = .ok (.invokevirtual 227, 3) := by decide +kernel
theorem zd_50_159 : decode (zm_cc 50) 159 = .ok (.goto 24, 3) := by decide +kernel
theorem zd_50_162 : decode (zm_cc 50) 162 = .ok (.iload 4, 2) := by decide +kernel
theorem zd_50_164 : decode (zm_cc 50) 164 = .ok (.iconst (-1), 1) := by decide +kernel
theorem zd_50_165 : decode (zm_cc 50) 165 = .ok (.if_icmp .eq 13, 3) := by decide +kernel
theorem zd_50_168 : decode (zm_cc 50) 168 = .ok (.aload_n 0, 1) := by decide +kernel
theorem zd_50_169 : decode (zm_cc 50) 169 = .ok (.iload_n 3, 1) := by decide +kernel
theorem zd_50_170 : decode (zm_cc 50) 170 = .ok (.iload 4, 2) := by decide +kernel
theorem zd_50_172 : decode (zm_cc 50) 172 = .ok (.invokevirtual 230, 3) := by decide +kernel
theorem zd_50_175 : decode (zm_cc 50) 175 = .ok (.goto 8, 3) := by decide +kernel
theorem zd_50_178 : decode (zm_cc 50) 178 = .ok (.aload_n 0, 1) := by decide +kernel
theorem zd_50_179 : decode (zm_cc 50) 179 = .ok (.iload_n 3, 1) := by decide +kernel
theorem zd_50_180 : decode (zm_cc 50) 180 = .ok (.invokevirtual 233, 3) := by decide +kernel
theorem zd_50_183 : decode (zm_cc 50) 183 = .ok (.return_, 1) := by decide +kernel
theorem zd_51_0 : decode (zm_cc 51) 0 = .ok (.iconst 0, 1) := by decide +kernel
theorem zd_51_1 : decode (zm_cc 51) 1 = .ok (.istore_n 3, 1) := by decide +kernel
theorem zd_51_2 : decode (zm_cc 51) 2 = .ok (.iload_n 3, 1) := by decide +kernel
theorem zd_51_3 : decode (zm_cc 51) 3 = .ok (.aload_n 0, 1) := by decide +kernel
theorem zd_51_4 : decode (zm_cc 51) 4 = .ok (.getfield 25, 3) := by decide +kernel
theorem zd_51_7 : decode (zm_cc 51) 7 = .ok (.if_icmp .ge 33, 3) := by decide +kernel
theorem zd_51_10 : decode (zm_cc 51) 10 = .ok (.iload_n 3, 1) := by decide +kernel
theorem zd_51_11 : decode (zm_cc 51) 11 = .ok (.bipush 14, 2) := by decide +kernel
theorem zd_51_13 : decode (zm_cc 51) 13 = .ok (.if_icmp .ge 27, 3) := by decide +kernel
theorem zd_51_16 : decode (zm_cc 51) 16 = .ok (.aload_n 0, 1) := by decide +kernel
theorem zd_51_17 : decode (zm_cc 51) 17 = .ok (.getfield 11, 3) := by decide +kernel
theorem zd_51_20 : decode (zm_cc 51) 20 = .ok (.iload_n 3, 1) := by decide +kernel
theorem zd_51_21 : decode (zm_cc 51) 21 = .ok (.laload, 1) := by decide +kernel
theorem zd_51_22 : decode (zm_cc 51) 22 = .ok (.lload_n 1, 1) := by decide +kernel
theorem zd_51_23 : decode (zm_cc 51) 23 = .ok (.lcmp, 1) := by decide +kernel
theorem zd_51_24 : decode (zm_cc 51) 24 = .ok (.ifCond .ne 10, 3) := by decide +kernel
theorem zd_51_27 : decode (zm_cc 51) 27 = .ok (.aload_n 0, 1) := by decide +kernel
theorem zd_51_28 : decode (zm_cc 51) 28 = .ok (.getfield 15, 3) := by decide +kernel
theorem zd_51_31 : decode (zm_cc 51) 31 = .ok (.iload_n 3, 1) := by decide +kernel
theorem zd_51_32 : decode (zm_cc 51) 32 = .ok (.iaload, 1) := by decide +kernel
theorem zd_51_33 : decode (zm_cc 51) 33 = .ok (.ireturn, 1) := by decide +kernel
theorem zd_51_34 : decode (zm_cc 51) 34 = .ok (.iinc 3 1, 3) := by decide +kernel
theorem zd_51_37 : decode (zm_cc 51) 37 = .ok (.goto (-35), 3) := by decide +kernel
theorem zd_51_40 : decode (zm_cc 51) 40 = .ok (.iconst (-1), 1) := by decide +kernel
theorem zd_51_41 : decode (zm_cc 51) 41 = .ok (.ireturn, 1) := by decide +kernel
theorem zd_52_0 : decode (zm_cc 52) 0 = .ok (.iconst 0, 1) := by decide +kernel
theorem zd_52_1 : decode (zm_cc 52) 1 = .ok (.istore 4, 2) := by decide +kernel
theorem zd_52_3 : decode (zm_cc 52) 3 = .ok (.iload 4, 2) := by decide +kernel
theorem zd_52_5 : decode (zm_cc 52) 5 = .ok (.aload_n 0, 1) := by decide +kernel
theorem zd_52_6 : decode (zm_cc 52) 6 = .ok (.getfield 25, 3) := by decide +kernel
theorem zd_52_9 : decode (zm_cc 52) 9 = .ok (.if_icmp .ge 47, 3) := by decide +kernel
theorem zd_52_12 : decode (zm_cc 52) 12 = .ok (.iload 4, 2) := by decide +kernel
theorem zd_52_14 : decode (zm_cc 52) 14 = .ok (.bipush 14, 2) := by decide +kernel
theorem zd_52_16 : decode (zm_cc 52) 16 = .ok (.if_icmp .ge 40, 3) := by decide +kernel
theorem zd_52_19 : decode (zm_cc 52) 19 = .ok (.aload_n 0, 1) := by decide +kernel
theorem zd_52_20 : decode (zm_cc 52) 20 = .ok (.getfield 11, 3) := by decide +kernel
theorem zd_52_23 : decode (zm_cc 52) 23 = .ok (.iload 4, 2) := by decide +kernel
theorem zd_52_25 : decode (zm_cc 52) 25 = .ok (.laload, 1) := by decide +kernel
theorem zd_52_26 : decode (zm_cc 52) 26 = .ok (.lload_n 1, 1) := by decide +kernel
theorem zd_52_27 : decode (zm_cc 52) 27 = .ok (.lcmp, 1) := by decide +kernel
theorem zd_52_28 : decode (zm_cc 52) 28 = .ok (.ifCond .ne 22, 3) := by decide +kernel
theorem zd_52_31 : decode (zm_cc 52) 31 = .ok (.aload_n 0, 1) := by decide +kernel
theorem zd_52_32 : decode (zm_cc 52) 32 = .ok (.getfield 15, 3) := by decide +kernel
theorem zd_52_35 : decode (zm_cc 52) 35 = .ok (.iload 4, 2) := by decide +kernel
theorem zd_52_37 : decode (zm_cc 52) 37 = .ok (.iaload, 1) := by decide +kernel
theorem zd_52_38 : decode (zm_cc 52) 38 = .ok (.iload_n 3, 1) := by decide +kernel
theorem zd_52_39 : decode (zm_cc 52) 39 = .ok (.if_icmp .ne 11, 3) := by decide +kernel
theorem zd_52_42 : decode (zm_cc 52) 42 = .ok (.aload_n 0, 1) := by decide +kernel
theorem zd_52_43 : decode (zm_cc 52) 43 = .ok (.getfield 19, 3) := by decide +kernel
theorem zd_52_46 : decode (zm_cc 52) 46 = .ok (.iload 4, 2) := by decide +kernel
theorem zd_52_48 : decode (zm_cc 52) 48 = .ok (.iaload, 1) := by decide +kernel
theorem zd_52_49 : decode (zm_cc 52) 49 = .ok (.ireturn, 1) := by decide +kernel
theorem zd_52_50 : decode (zm_cc 52) 50 = .ok (.iinc 4 1, 3) := by decide +kernel
theorem zd_52_53 : decode (zm_cc 52) 53 = .ok (.goto (-50), 3) := by decide +kernel
theorem zd_52_56 : decode (zm_cc 52) 56 = .ok (.iconst (-1), 1) := by decide +kernel
theorem zd_52_57 : decode (zm_cc 52) 57 = .ok (.ireturn, 1) := by decide +kernel
theorem zd_53_0 : decode (zm_cc 53) 0 = .ok (.aload_n 0, 1) := by decide +kernel
theorem zd_53_1 : decode (zm_cc 53) 1 = .ok (.lload_n 1, 1) := by decide +kernel
theorem zd_53_2 : decode (zm_cc 53) 2 = .ok (.invokevirtual 32, 3) := by decide +kernel
theorem zd_53_5 : decode (zm_cc 53) 5 = .ok (.istore_n 3, 1) := by decide +kernel
theorem zd_53_6 : decode (zm_cc 53) 6 = .ok (.iload_n 3, 1) := by decide +kernel
theorem zd_53_7 : decode (zm_cc 53) 7 = .ok (.iconst (-1), 1) := by decide +kernel
theorem zd_53_8 : decode (zm_cc 53) 8 = .ok (.if_icmp .ne 18, 3) := by decide +kernel
theorem zd_53_11 : decode (zm_cc 53) 11 = .ok (.aload_n 0, 1) := by decide +kernel
theorem zd_53_12 : decode (zm_cc 53) 12 = .ok (.getfield 29, 3) := by decide +kernel
theorem zd_53_15 : decode (zm_cc 53) 15 = .ok (.ifCond .lt 11, 3) := by decide +kernel
theorem zd_53_18 : decode (zm_cc 53) 18 = .ok (.aload_n 0, 1) := by decide +kernel
theorem zd_53_19 : decode (zm_cc 53) 19 = .ok (.getfield 29, 3) := by decide +kernel
theorem zd_53_22 : decode (zm_cc 53) 22 = .ok (.iconst 3, 1) := by decide +kernel
theorem zd_53_23 : decode (zm_cc 53) 23 = .ok (.if_icmp .lt 5, 3) := by decide +kernel
theorem zd_53_26 : decode (zm_cc 53) 26 = .ok (.iload_n 3, 1) := by decide +kernel
theorem zd_53_27 : decode (zm_cc 53) 27 = .ok (.ireturn, 1) := by decide +kernel
theorem zd_53_28 : decode (zm_cc 53) 28 = .ok (.aload_n 0, 1) := by decide +kernel
theorem zd_53_29 : decode (zm_cc 53) 29 = .ok (.getfield 22, 3) := by decide +kernel
theorem zd_53_32 : decode (zm_cc 53) 32 = .ok (.aload_n 0, 1) := by decide +kernel
theorem zd_53_33 : decode (zm_cc 53) 33 = .ok (.getfield 29, 3) := by decide +kernel
theorem zd_53_36 : decode (zm_cc 53) 36 = .ok (.lload_n 1, 1) := by decide +kernel
theorem zd_53_37 : decode (zm_cc 53) 37 = .ok (.lastore, 1) := by decide +kernel
theorem zd_53_38 : decode (zm_cc 53) 38 = .ok (.aload_n 0, 1) := by decide +kernel
theorem zd_53_39 : decode (zm_cc 53) 39 = .ok (.dup, 1) := by decide +kernel
theorem zd_53_40 : decode (zm_cc 53) 40 = .ok (.getfield 29, 3) := by decide +kernel
theorem zd_53_43 : decode (zm_cc 53) 43 = .ok (.iconst 1, 1) := by decide +kernel
theorem zd_53_44 : decode (zm_cc 53) 44 = .ok (.iadd, 1) := by decide +kernel
theorem zd_53_45 : decode (zm_cc 53) 45 = .ok (.putfield 29, 3) := by decide +kernel
theorem zd_53_48 : decode (zm_cc 53) 48 = .ok (.aload_n 0, 1) := by decide +kernel
theorem zd_53_49 : decode (zm_cc 53) 49 = .ok (.getfield 29, 3) := by decide +kernel
theorem zd_53_52 : decode (zm_cc 53) 52 = .ok (.iconst 1, 1) := by decide +kernel
theorem zd_53_53 : decode (zm_cc 53) 53 = .ok (.isub, 1) := by decide +kernel
theorem zd_53_54 : decode (zm_cc 53) 54 = .ok (.ireturn, 1) := by decide +kernel
theorem zd_54_0 : decode (zm_cc 54) 0 = .ok (.iconst 0, 1) := by decide +kernel
theorem zd_54_1 : decode (zm_cc 54) 1 = .ok (.istore_n 3, 1) := by decide +kernel
theorem zd_54_2 : decode (zm_cc 54) 2 = .ok (.iload_n 3, 1) := by decide +kernel
theorem zd_54_3 : decode (zm_cc 54) 3 = .ok (.aload_n 0, 1) := by decide +kernel
theorem zd_54_4 : decode (zm_cc 54) 4 = .ok (.getfield 29, 3) := by decide +kernel
theorem zd_54_7 : decode (zm_cc 54) 7 = .ok (.if_icmp .ge 27, 3) := by decide +kernel
theorem zd_54_10 : decode (zm_cc 54) 10 = .ok (.iload_n 3, 1) := by decide +kernel
theorem zd_54_11 : decode (zm_cc 54) 11 = .ok (.iconst 3, 1) := by decide +kernel
theorem zd_54_12 : decode (zm_cc 54) 12 = .ok (.if_icmp .ge 22, 3) := by decide +kernel
theorem zd_54_15 : decode (zm_cc 54) 15 = .ok (.aload_n 0, 1) := by decide +kernel
theorem zd_54_16 : decode (zm_cc 54) 16 = .ok (.getfield 22, 3) := by decide +kernel
theorem zd_54_19 : decode (zm_cc 54) 19 = .ok (.iload_n 3, 1) := by decide +kernel
theorem zd_54_20 : decode (zm_cc 54) 20 = .ok (.laload, 1) := by decide +kernel
theorem zd_54_21 : decode (zm_cc 54) 21 = .ok (.lload_n 1, 1) := by decide +kernel
theorem zd_54_22 : decode (zm_cc 54) 22 = .ok (.lcmp, 1) := by decide +kernel
theorem zd_54_23 : decode (zm_cc 54) 23 = .ok (.ifCond .ne 5, 3) := by decide +kernel
theorem zd_54_26 : decode (zm_cc 54) 26 = .ok (.iload_n 3, 1) := by decide +kernel
theorem zd_54_27 : decode (zm_cc 54) 27 = .ok (.ireturn, 1) := by decide +kernel
theorem zd_54_28 : decode (zm_cc 54) 28 = .ok (.iinc 3 1, 3) := by decide +kernel
theorem zd_54_31 : decode (zm_cc 54) 31 = .ok (.goto (-29), 3) := by decide +kernel
theorem zd_54_34 : decode (zm_cc 54) 34 = .ok (.iconst (-1), 1) := by decide +kernel
theorem zd_54_35 : decode (zm_cc 54) 35 = .ok (.ireturn, 1) := by decide +kernel
theorem zd_55_0 : decode (zm_cc 55) 0 = .ok (.aload_n 0, 1) := by decide +kernel
theorem zd_55_1 : decode (zm_cc 55) 1 = .ok (.invokevirtual 236, 3) := by decide +kernel
theorem zd_55_4 : decode (zm_cc 55) 4 = .ok (.istore_n 2, 1) := by decide +kernel
theorem zd_55_5 : decode (zm_cc 55) 5 = .ok (.iload_n 2, 1) := by decide +kernel
theorem zd_55_6 : decode (zm_cc 55) 6 = .ok (.iconst (-1), 1) := by decide +kernel
theorem zd_55_7 : decode (zm_cc 55) 7 = .ok (.if_icmp .eq 30, 3) := by decide +kernel
theorem zd_55_10 : decode (zm_cc 55) 10 = .ok (.aload_n 0, 1) := by decide +kernel
theorem zd_55_11 : decode (zm_cc 55) 11 = .ok (.getfield 44, 3) := by decide +kernel
theorem zd_55_14 : decode (zm_cc 55) 14 = .ok (.iconst 1, 1) := by decide +kernel
theorem zd_55_15 : decode (zm_cc 55) 15 = .ok (.iload_n 1, 1) := by decide +kernel
theorem zd_55_16 : decode (zm_cc 55) 16 = .ok (.invokevirtual 198, 3) := by decide +kernel
theorem zd_55_19 : decode (zm_cc 55) 19 = .ok (.aload_n 0, 1) := by decide +kernel
theorem zd_55_20 : decode (zm_cc 55) 20 = .ok (.getfield 44, 3) := by decide +kernel
theorem zd_55_23 : decode (zm_cc 55) 23 = .ok (.iconst (-1), 1) := by decide +kernel
theorem zd_55_24 : decode (zm_cc 55) 24 = .ok (.iload_n 2, 1) := by decide +kernel
theorem zd_55_25 : decode (zm_cc 55) 25 = .ok (.iconst (-1), 1) := by decide +kernel
theorem zd_55_26 : decode (zm_cc 55) 26 = .ok (.iconst 0, 1) := by decide +kernel
theorem zd_55_27 : decode (zm_cc 55) 27 = .ok (.invokevirtual 220, 3) := by decide +kernel
theorem zd_55_30 : decode (zm_cc 55) 30 = .ok (.aload_n 0, 1) := by decide +kernel
theorem zd_55_31 : decode (zm_cc 55) 31 = .ok (.bipush 59, 2) := by decide +kernel
theorem zd_55_33 : decode (zm_cc 55) 33 = .ok (.invokevirtual 117, 3) := by decide +kernel
theorem zd_55_36 : decode (zm_cc 55) 36 = .ok (.pop, 1) := by decide +kernel
theorem zd_55_37 : decode (zm_cc 55) 37 = .ok (.return_, 1) := by decide +kernel
theorem zd_56_0 : decode (zm_cc 56) 0 = .ok (.aload_n 0, 1) := by decide +kernel
theorem zd_56_1 : decode (zm_cc 56) 1 = .ok (.getfield 35, 3) := by decide +kernel
theorem zd_56_4 : decode (zm_cc 56) 4 = .ok (.getfield 74, 3) := by decide +kernel
theorem zd_56_7 : decode (zm_cc 56) 7 = .ok (.iconst 3, 1) := by decide +kernel
theorem zd_56_8 : decode (zm_cc 56) 8 = .ok (.if_icmp .ne 7, 3) := by decide +kernel
theorem zd_56_11 : decode (zm_cc 56) 11 = .ok (.iconst 1, 1) := by decide +kernel
theorem zd_56_12 : decode (zm_cc 56) 12 = .ok (.goto 4, 3) := by decide +kernel
theorem zd_56_15 : decode (zm_cc 56) 15 = .ok (.iconst 0, 1) := by decide +kernel
theorem zd_56_16 : decode (zm_cc 56) 16 = .ok (.istore_n 1, 1) := by decide +kernel
theorem zd_56_17 : decode (zm_cc 56) 17 = .ok (.iload_n 1, 1) := by decide +kernel
theorem zd_56_18 : decode (zm_cc 56) 18 = .ok (.ifCond .ne 14, 3) := by decide +kernel
theorem zd_56_21 : decode (zm_cc 56) 21 = .ok (.aload_n 0, 1) := by decide +kernel
theorem zd_56_22 : decode (zm_cc 56) 22 = .ok (.getfield 35, 3) := by decide +kernel
theorem zd_56_25 : decode (zm_cc 56) 25 = .ok (.getfield 74, 3) := by decide +kernel
theorem zd_56_28 : decode (zm_cc 56) 28 = .ok (.iconst 2, 1) := by decide +kernel
theorem zd_56_29 : decode (zm_cc 56) 29 = .ok (.if_icmp .ne 25, 3) := by decide +kernel
theorem zd_56_32 : decode (zm_cc 56) 32 = .ok (.iload_n 1, 1) := by decide +kernel
theorem zd_56_33 : decode (zm_cc 56) 33 = .ok (.ifCond .eq 29, 3) := by decide +kernel
theorem zd_56_36 : decode (zm_cc 56) 36 = .ok (.aload_n 0, 1) := by decide +kernel
theorem zd_56_37 : decode (zm_cc 56) 37 = .ok (.getfield 12, 3) := by decide +kernel
theorem zd_56_40 : decode (zm_cc 56) 40 = .ok (.aload_n 0, 1) := by decide +kernel
theorem zd_56_41 : decode (zm_cc 56) 41 = .ok (.getfield 35, 3) := by decide +kernel
theorem zd_56_44 : decode (zm_cc 56) 44 = .ok (.getfield 113, 3) := by decide +kernel
theorem zd_56_47 : decode (zm_cc 56) 47 = .ok (.invokevirtual 134, 3) := by decide +kernel
theorem zd_56_50 : decode (zm_cc 56) 50 = .ok (.iconst (-1), 1) := by decide +kernel
theorem zd_56_51 : decode (zm_cc 56) 51 = .ok (.if_icmp .eq 11, 3) := by decide +kernel
theorem zd_56_54 : decode (zm_cc 56) 54 = .ok (.aload_n 0, 1) := by decide +kernel
theorem zd_56_55 : decode (zm_cc 56) 55 = .ok (.iconst 2, 1) := by decide +kernel
theorem zd_56_56 : decode (zm_cc 56) 56 = .ok (.invokevirtual 86, 3) := by decide +kernel
theorem zd_56_59 : decode (zm_cc 56) 59 = .ok (.pop, 1) := by decide +kernel
theorem zd_56_60 : decode (zm_cc 56) 60 = .ok (.iconst (-1), 1) := by decide +kernel
theorem zd_56_61 : decode (zm_cc 56) 61 = .ok (.ireturn, 1) := by decide +kernel
theorem zd_56_62 : decode (zm_cc 56) 62 = .ok (.iload_n 1, 1) := by decide +kernel
theorem zd_56_63 : decode (zm_cc 56) 63 = .ok (.ifCond .eq 20, 3) := by decide +kernel
theorem zd_56_66 : decode (zm_cc 56) 66 = .ok (.aload_n 0, 1) := by decide +kernel
theorem zd_56_67 : decode (zm_cc 56) 67 = .ok (.getfield 12, 3) := by decide +kernel
theorem zd_56_70 : decode (zm_cc 56) 70 = .ok (.aload_n 0, 1) := by decide +kernel
theorem zd_56_71 : decode (zm_cc 56) 71 = .ok (.getfield 35, 3) := by decide +kernel
theorem zd_56_74 : decode (zm_cc 56) 74 = .ok (.getfield 113, 3) := by decide +kernel
theorem zd_56_77 : decode (zm_cc 56) 77 = .ok (.invokevirtual 224, 3) := by decide +kernel
theorem zd_56_80 : decode (zm_cc 56) 80 = .ok (.goto 4, 3) := by decide +kernel
theorem zd_56_83 : decode (zm_cc 56) 83 = .ok (.iconst (-1), 1) := by decide +kernel
theorem zd_56_84 : decode (zm_cc 56) 84 = .ok (.istore_n 2, 1) := by decide +kernel
theorem zd_56_85 : decode (zm_cc 56) 85 = .ok (.iload_n 1, 1) := by decide +kernel
theorem zd_56_86 : decode (zm_cc 56) 86 = .ok (.ifCond .eq 16, 3) := by decide +kernel
theorem zd_56_89 : decode (zm_cc 56) 89 = .ok (.iload_n 2, 1) := by decide +kernel
theorem zd_56_90 : decode (zm_cc 56) 90 = .ok (.iconst (-1), 1) := by decide +kernel
theorem zd_56_91 : decode (zm_cc 56) 91 = .ok (.if_icmp .ne 11, 3) := by decide +kernel
theorem zd_56_94 : decode (zm_cc 56) 94 = .ok (.aload_n 0, 1) := by decide +kernel
theorem zd_56_95 : decode (zm_cc 56) 95 = .ok (.iconst 4, 1) := by decide +kernel
theorem zd_56_96 : decode (zm_cc 56) 96 = .ok (.invokevirtual 86, 3) := by decide +kernel
theorem zd_56_99 : decode (zm_cc 56) 99 = .ok (.pop, 1) := by decide +kernel
theorem zd_56_100 : decode (zm_cc 56) 100 = .ok (.iconst (-1), 1) := by decide +kernel
theorem zd_56_101 : decode (zm_cc 56) 101 = .ok (.ireturn, 1) := by decide +kernel
theorem zd_56_102 : decode (zm_cc 56) 102 = .ok (.iload_n 1, 1) := by decide +kernel
theorem zd_56_103 : decode (zm_cc 56) 103 = .ok (.ifCond .eq 10, 3) := by decide +kernel
theorem zd_56_106 : decode (zm_cc 56) 106 = .ok (.bipush 8, 2) := by decide +kernel
theorem zd_56_108 : decode (zm_cc 56) 108 = .ok (.iload_n 2, 1) := by decide +kernel
theorem zd_56_109 : decode (zm_cc 56) 109 = .ok (.iadd, 1) := by decide +kernel
theorem zd_56_110 : decode (zm_cc 56) 110 = .ok (.goto 11, 3) := by decide +kernel
theorem zd_56_113 : decode (zm_cc 56) 113 = .ok (.aload_n 0, 1) := by decide +kernel
theorem zd_56_114 : decode (zm_cc 56) 114 = .ok (.getfield 35, 3) := by decide +kernel
theorem zd_56_117 : decode (zm_cc 56) 117 = .ok (.getfield 113, 3) := by decide +kernel
theorem zd_56_120 : decode (zm_cc 56) 120 = .ok (.l2i, 1) := by decide +kernel
theorem zd_56_121 : decode (zm_cc 56) 121 = .ok (.istore_n 3, 1) := by decide +kernel
theorem zd_56_122 : decode (zm_cc 56) 122 = .ok (.aload_n 0, 1) := by decide +kernel
theorem zd_56_123 : decode (zm_cc 56) 123 = .ok (.getfield 35, 3) := by decide +kernel
theorem zd_56_126 : decode (zm_cc 56) 126 = .ok (.invokevirtual 90, 3) := by decide +kernel
theorem zd_56_129 : decode (zm_cc 56) 129 = .ok (.iload_n 3, 1) := by decide +kernel
theorem zd_56_130 : decode (zm_cc 56) 130 = .ok (.ireturn, 1) := by decide +kernel
theorem zd_57_0 : decode (zm_cc 57) 0 = .ok (.aload_n 0, 1) := by decide +kernel
theorem zd_57_1 : decode (zm_cc 57) 1 = .ok (.getfield 27, 3) := by decide +kernel
theorem zd_57_4 : decode (zm_cc 57) 4 = .ok (.aload_n 0, 1) := by decide +kernel
theorem zd_57_5 : decode (zm_cc 57) 5 = .ok (.getfield 31, 3) := by decide +kernel
theorem zd_57_8 : decode (zm_cc 57) 8 = .ok (.aload_n 0, 1) := by decide +kernel
theorem zd_57_9 : decode (zm_cc 57) 9 = .ok (.getfield 38, 3) := by decide +kernel
theorem zd_57_12 : decode (zm_cc 57) 12 = .ok (.invokevirtual 67, 3) := by decide +kernel
theorem zd_57_15 : decode (zm_cc 57) 15 = .ok (.istore 5, 2) := by decide +kernel
theorem zd_57_17 : decode (zm_cc 57) 17 = .ok (.aload_n 0, 1) := by decide +kernel
theorem zd_57_18 : decode (zm_cc 57) 18 = .ok (.getfield 27, 3) := by decide +kernel
theorem zd_57_21 : decode (zm_cc 57) 21 = .ok (.getfield 71, 3) := by decide +kernel
theorem zd_57_24 : decode (zm_cc 57) 24 = .ok (.iload 5, 2) := by decide +kernel
theorem zd_57_26 : decode (zm_cc 57) 26 = .ok (.iload_n 1, 1) := by decide +kernel
theorem zd_57_27 : decode (zm_cc 57) 27 = .ok (.iastore, 1) := by decide +kernel
theorem zd_57_28 : decode (zm_cc 57) 28 = .ok (.aload_n 0, 1) := by decide +kernel
theorem zd_57_29 : decode (zm_cc 57) 29 = .ok (.getfield 27, 3) := by decide +kernel
theorem zd_57_32 : decode (zm_cc 57) 32 = .ok (.getfield 74, 3) := by decide +kernel
theorem zd_57_35 : decode (zm_cc 57) 35 = .ok (.iload 5, 2) := by decide +kernel
theorem zd_57_37 : decode (zm_cc 57) 37 = .ok (.iload_n 2, 1) := by decide +kernel
theorem zd_57_38 : decode (zm_cc 57) 38 = .ok (.iastore, 1) := by decide +kernel
theorem zd_57_39 : decode (zm_cc 57) 39 = .ok (.aload_n 0, 1) := by decide +kernel
theorem zd_57_40 : decode (zm_cc 57) 40 = .ok (.getfield 27, 3) := by decide +kernel
theorem zd_57_43 : decode (zm_cc 57) 43 = .ok (.getfield 77, 3) := by decide +kernel
theorem zd_57_46 : decode (zm_cc 57) 46 = .ok (.iload 5, 2) := by decide +kernel
theorem zd_57_48 : decode (zm_cc 57) 48 = .ok (.iload_n 3, 1) := by decide +kernel
theorem zd_57_49 : decode (zm_cc 57) 49 = .ok (.iastore, 1) := by decide +kernel
theorem zd_57_50 : decode (zm_cc 57) 50 = .ok (.aload_n 0, 1) := by decide +kernel
theorem zd_57_51 : decode (zm_cc 57) 51 = .ok (.getfield 27, 3) := by decide +kernel
theorem zd_57_54 : decode (zm_cc 57) 54 = .ok (.getfield 80, 3) := by decide +kernel
theorem zd_57_57 : decode (zm_cc 57) 57 = .ok (.iload 5, 2) := by decide +kernel
theorem zd_57_59 : decode (zm_cc 57) 59 = .ok (.iload 4, 2) := by decide +kernel
theorem zd_57_61 : decode (zm_cc 57) 61 = .ok (.iastore, 1) := by decide +kernel
theorem zd_57_62 : decode (zm_cc 57) 62 = .ok (.return_, 1) := by decide +kernel
theorem zd_58_0 : decode (zm_cc 58) 0 = .ok (.aload_n 0, 1) := by decide +kernel
theorem zd_58_1 : decode (zm_cc 58) 1 = .ok (.getfield 35, 3) := by decide +kernel
theorem zd_58_4 : decode (zm_cc 58) 4 = .ok (.invokevirtual 90, 3) := by decide +kernel
theorem zd_58_7 : decode (zm_cc 58) 7 = .ok (.aload_n 0, 1) := by decide +kernel
theorem zd_58_8 : decode (zm_cc 58) 8 = .ok (.getfield 44, 3) := by decide +kernel
theorem zd_58_11 : decode (zm_cc 58) 11 = .ok (.iconst 0, 1) := by decide +kernel
theorem zd_58_12 : decode (zm_cc 58) 12 = .ok (.iload_n 2, 1) := by decide +kernel
theorem zd_58_13 : decode (zm_cc 58) 13 = .ok (.invokevirtual 198, 3) := by decide +kernel
theorem zd_58_16 : decode (zm_cc 58) 16 = .ok (.aload_n 0, 1) := by decide +kernel
theorem zd_58_17 : decode (zm_cc 58) 17 = .ok (.getfield 44, 3) := by decide +kernel
theorem zd_58_20 : decode (zm_cc 58) 20 = .ok (.iload_n 1, 1) := by decide +kernel
theorem zd_58_21 : decode (zm_cc 58) 21 = .ok (.iconst 0, 1) := by decide +kernel
theorem zd_58_22 : decode (zm_cc 58) 22 = .ok (.iconst (-1), 1) := by decide +kernel
theorem zd_58_23 : decode (zm_cc 58) 23 = .ok (.iconst 0, 1) := by decide +kernel
theorem zd_58_24 : decode (zm_cc 58) 24 = .ok (.invokevirtual 220, 3) := by decide +kernel
theorem zd_58_27 : decode (zm_cc 58) 27 = .ok (.aload_n 0, 1) := by decide +kernel
theorem zd_58_28 : decode (zm_cc 58) 28 = .ok (.bipush 59, 2) := by decide +kernel
theorem zd_58_30 : decode (zm_cc 58) 30 = .ok (.invokevirtual 117, 3) := by decide +kernel
theorem zd_58_33 : decode (zm_cc 58) 33 = .ok (.pop, 1) := by decide +kernel
theorem zd_58_34 : decode (zm_cc 58) 34 = .ok (.return_, 1) := by decide +kernel
theorem zd_59_0 : decode (zm_cc 59) 0 = .ok (.aload_n 0, 1) := by decide +kernel
theorem zd_59_1 : decode (zm_cc 59) 1 = .ok (.invokevirtual 236, 3) := by decide +kernel
theorem zd_59_4 : decode (zm_cc 59) 4 = .ok (.istore_n 2, 1) := by decide +kernel
theorem zd_59_5 : decode (zm_cc 59) 5 = .ok (.iload_n 2, 1) := by decide +kernel
theorem zd_59_6 : decode (zm_cc 59) 6 = .ok (.iconst (-1), 1) := by decide +kernel
theorem zd_59_7 : decode (zm_cc 59) 7 = .ok (.if_icmp .ne 4, 3) := by decide +kernel
theorem zd_59_10 : decode (zm_cc 59) 10 = .ok (.return_, 1) := by decide +kernel
theorem zd_59_11 : decode (zm_cc 59) 11 = .ok (.iconst (-1), 1) := by decide +kernel
theorem zd_59_12 : decode (zm_cc 59) 12 = .ok (.istore_n 3, 1) := by decide +kernel
theorem zd_59_13 : decode (zm_cc 59) 13 = .ok (.iconst 0, 1) := by decide +kernel
theorem zd_59_14 : decode (zm_cc 59) 14 = .ok (.istore 4, 2) := by decide +kernel
theorem zd_59_16 : decode (zm_cc 59) 16 = .ok (.aload_n 0, 1) := by decide +kernel
theorem zd_59_17 : decode (zm_cc 59) 17 = .ok (.getfield 35, 3) := by decide +kernel
theorem zd_59_20 : decode (zm_cc 59) 20 = .ok (.getfield 74, 3) := by decide +kernel
theorem zd_59_23 : decode (zm_cc 59) 23 = .ok (.bipush 43, 2) := by decide +kernel
theorem zd_59_25 : decode (zm_cc 59) 25 = .ok (.if_icmp .eq 15, 3) := by decide +kernel
theorem zd_59_28 : decode (zm_cc 59) 28 = .ok (.aload_n 0, 1) := by decide +kernel
theorem zd_59_29 : decode (zm_cc 59) 29 = .ok (.getfield 35, 3) := by decide +kernel
theorem zd_59_32 : decode (zm_cc 59) 32 = .ok (.getfield 74, 3) := by decide +kernel
theorem zd_59_35 : decode (zm_cc 59) 35 = .ok (.bipush 45, 2) := by decide +kernel
theorem zd_59_37 : decode (zm_cc 59) 37 = .ok (.if_icmp .ne 24, 3) := by decide +kernel
theorem zd_59_40 : decode (zm_cc 59) 40 = .ok (.aload_n 0, 1) := by decide +kernel
theorem zd_59_41 : decode (zm_cc 59) 41 = .ok (.getfield 35, 3) := by decide +kernel
theorem zd_59_44 : decode (zm_cc 59) 44 = .ok (.getfield 74, 3) := by decide +kernel
theorem zd_59_47 : decode (zm_cc 59) 47 = .ok (.istore_n 3, 1) := by decide +kernel
theorem zd_59_48 : decode (zm_cc 59) 48 = .ok (.aload_n 0, 1) := by decide +kernel
theorem zd_59_49 : decode (zm_cc 59) 49 = .ok (.getfield 35, 3) := by decide +kernel
theorem zd_59_52 : decode (zm_cc 59) 52 = .ok (.invokevirtual 90, 3) := by decide +kernel
theorem zd_59_55 : decode (zm_cc 59) 55 = .ok (.aload_n 0, 1) := by decide +kernel
theorem zd_59_56 : decode (zm_cc 59) 56 = .ok (.invokevirtual 236, 3) := by decide +kernel
theorem zd_59_59 : decode (zm_cc 59) 59 = .ok (.istore 4, 2) := by decide +kernel
theorem zd_59_61 : decode (zm_cc 59) 61 = .ok (.iload 4, 2) := by decide +kernel
theorem zd_59_63 : decode (zm_cc 59) 63 = .ok (.iconst (-1), 1) := by decide +kernel
theorem zd_59_64 : decode (zm_cc 59) 64 = .ok (.if_icmp .eq 31, 3) := by decide +kernel
theorem zd_59_67 : decode (zm_cc 59) 67 = .ok (.aload_n 0, 1) := by decide +kernel
theorem zd_59_68 : decode (zm_cc 59) 68 = .ok (.getfield 44, 3) := by decide +kernel
theorem zd_59_71 : decode (zm_cc 59) 71 = .ok (.iconst 2, 1) := by decide +kernel
theorem zd_59_72 : decode (zm_cc 59) 72 = .ok (.iconst (-1), 1) := by decide +kernel
theorem zd_59_73 : decode (zm_cc 59) 73 = .ok (.invokevirtual 198, 3) := by decide +kernel
theorem zd_59_76 : decode (zm_cc 59) 76 = .ok (.aload_n 0, 1) := by decide +kernel
theorem zd_59_77 : decode (zm_cc 59) 77 = .ok (.getfield 44, 3) := by decide +kernel
theorem zd_59_80 : decode (zm_cc 59) 80 = .ok (.iload_n 1, 1) := by decide +kernel
theorem zd_59_81 : decode (zm_cc 59) 81 = .ok (.iload_n 2, 1) := by decide +kernel
theorem zd_59_82 : decode (zm_cc 59) 82 = .ok (.iload_n 3, 1) := by decide +kernel
theorem zd_59_83 : decode (zm_cc 59) 83 = .ok (.iload 4, 2) := by decide +kernel
theorem zd_59_85 : decode (zm_cc 59) 85 = .ok (.invokevirtual 220, 3) := by decide +kernel
theorem zd_59_88 : decode (zm_cc 59) 88 = .ok (.aload_n 0, 1) := by decide +kernel
theorem zd_59_89 : decode (zm_cc 59) 89 = .ok (.bipush 59, 2) := by decide +kernel
theorem zd_59_91 : decode (zm_cc 59) 91 = .ok (.invokevirtual 117, 3) := by decide +kernel
theorem zd_59_94 : decode (zm_cc 59) 94 = .ok (.pop, 1) := by decide +kernel
theorem zd_59_95 : decode (zm_cc 59) 95 = .ok (.return_, 1) := by decide +kernel
theorem zd_60_0 : decode (zm_cc 60) 0 = .ok (.aload_n 0, 1) := by decide +kernel
theorem zd_60_1 : decode (zm_cc 60) 1 = .ok (.getfield 44, 3) := by decide +kernel
theorem zd_60_4 : decode (zm_cc 60) 4 = .ok (.invokevirtual 189, 3) := by decide +kernel
theorem zd_60_7 : decode (zm_cc 60) 7 = .ok (.ifCond .eq 12, 3) := by decide +kernel
theorem zd_60_10 : decode (zm_cc 60) 10 = .ok (.aload_n 0, 1) := by decide +kernel
theorem zd_60_11 : decode (zm_cc 60) 11 = .ok (.iconst 2, 1) := by decide +kernel
theorem zd_60_12 : decode (zm_cc 60) 12 = .ok (.invokevirtual 86, 3) := by decide +kernel
theorem zd_60_15 : decode (zm_cc 60) 15 = .ok (.pop, 1) := by decide +kernel
theorem zd_60_16 : decode (zm_cc 60) 16 = .ok (.goto 37, 3) := by decide +kernel
theorem zd_60_19 : decode (zm_cc 60) 19 = .ok (.aload_n 0, 1) := by decide +kernel
theorem zd_60_20 : decode (zm_cc 60) 20 = .ok (.getfield 26, 3) := by decide +kernel
theorem zd_60_23 : decode (zm_cc 60) 23 = .ok (.getfield 192, 3) := by decide +kernel
theorem zd_60_26 : decode (zm_cc 60) 26 = .ok (.bipush 6, 2) := by decide +kernel
theorem zd_60_28 : decode (zm_cc 60) 28 = .ok (.if_icmp .lt 12, 3) := by decide +kernel
theorem zd_60_31 : decode (zm_cc 60) 31 = .ok (.aload_n 0, 1) := by decide +kernel
theorem zd_60_32 : decode (zm_cc 60) 32 = .ok (.iconst 4, 1) := by decide +kernel
theorem zd_60_33 : decode (zm_cc 60) 33 = .ok (.invokevirtual 86, 3) := by decide +kernel
theorem zd_60_36 : decode (zm_cc 60) 36 = .ok (.pop, 1) := by decide +kernel
theorem zd_60_37 : decode (zm_cc 60) 37 = .ok (.goto 16, 3) := by decide +kernel
theorem zd_60_40 : decode (zm_cc 60) 40 = .ok (.aload_n 0, 1) := by decide +kernel
theorem zd_60_41 : decode (zm_cc 60) 41 = .ok (.getfield 35, 3) := by decide +kernel
theorem zd_60_44 : decode (zm_cc 60) 44 = .ok (.invokevirtual 90, 3) := by decide +kernel
theorem zd_60_47 : decode (zm_cc 60) 47 = .ok (.aload_n 0, 1) := by decide +kernel
theorem zd_60_48 : decode (zm_cc 60) 48 = .ok (.iconst 2, 1) := by decide +kernel
theorem zd_60_49 : decode (zm_cc 60) 49 = .ok (.iconst (-1), 1) := by decide +kernel
theorem zd_60_50 : decode (zm_cc 60) 50 = .ok (.invokevirtual 130, 3) := by decide +kernel
theorem zd_60_53 : decode (zm_cc 60) 53 = .ok (.return_, 1) := by decide +kernel
theorem zd_61_0 : decode (zm_cc 61) 0 = .ok (.aload_n 0, 1) := by decide +kernel
theorem zd_61_1 : decode (zm_cc 61) 1 = .ok (.getfield 50, 3) := by decide +kernel
theorem zd_61_4 : decode (zm_cc 61) 4 = .ok (.iconst (-1), 1) := by decide +kernel
theorem zd_61_5 : decode (zm_cc 61) 5 = .ok (.if_icmp .eq 7, 3) := by decide +kernel
theorem zd_61_8 : decode (zm_cc 61) 8 = .ok (.iconst 1, 1) := by decide +kernel
theorem zd_61_9 : decode (zm_cc 61) 9 = .ok (.goto 4, 3) := by decide +kernel
theorem zd_61_12 : decode (zm_cc 61) 12 = .ok (.iconst 0, 1) := by decide +kernel
theorem zd_61_13 : decode (zm_cc 61) 13 = .ok (.ireturn, 1) := by decide +kernel
theorem zd_62_0 : decode (zm_cc 62) 0 = .ok (.aload_n 0, 1) := by decide +kernel
theorem zd_62_1 : decode (zm_cc 62) 1 = .ok (.getfield 35, 3) := by decide +kernel
theorem zd_62_4 : decode (zm_cc 62) 4 = .ok (.getfield 74, 3) := by decide +kernel
theorem zd_62_7 : decode (zm_cc 62) 7 = .ok (.bipush 123, 2) := by decide +kernel
theorem zd_62_9 : decode (zm_cc 62) 9 = .ok (.if_icmp .ne 24, 3) := by decide +kernel
theorem zd_62_12 : decode (zm_cc 62) 12 = .ok (.aload_n 0, 1) := by decide +kernel
theorem zd_62_13 : decode (zm_cc 62) 13 = .ok (.getfield 44, 3) := by decide +kernel
theorem zd_62_16 : decode (zm_cc 62) 16 = .ok (.getfield 68, 3) := by decide +kernel
theorem zd_62_19 : decode (zm_cc 62) 19 = .ok (.bipush 8, 2) := by decide +kernel
theorem zd_62_21 : decode (zm_cc 62) 21 = .ok (.if_icmp .lt 12, 3) := by decide +kernel
theorem zd_62_24 : decode (zm_cc 62) 24 = .ok (.aload_n 0, 1) := by decide +kernel
theorem zd_62_25 : decode (zm_cc 62) 25 = .ok (.iconst 4, 1) := by decide +kernel
theorem zd_62_26 : decode (zm_cc 62) 26 = .ok (.invokevirtual 86, 3) := by decide +kernel
theorem zd_62_29 : decode (zm_cc 62) 29 = .ok (.pop, 1) := by decide +kernel
theorem zd_62_30 : decode (zm_cc 62) 30 = .ok (.goto 21, 3) := by decide +kernel
theorem zd_62_33 : decode (zm_cc 62) 33 = .ok (.aload_n 0, 1) := by decide +kernel
theorem zd_62_34 : decode (zm_cc 62) 34 = .ok (.bipush 123, 2) := by decide +kernel
theorem zd_62_36 : decode (zm_cc 62) 36 = .ok (.invokevirtual 117, 3) := by decide +kernel
theorem zd_62_39 : decode (zm_cc 62) 39 = .ok (.ifCond .eq 12, 3) := by decide +kernel
theorem zd_62_42 : decode (zm_cc 62) 42 = .ok (.aload_n 0, 1) := by decide +kernel
theorem zd_62_43 : decode (zm_cc 62) 43 = .ok (.getfield 44, 3) := by decide +kernel
theorem zd_62_46 : decode (zm_cc 62) 46 = .ok (.iload_n 1, 1) := by decide +kernel
theorem zd_62_47 : decode (zm_cc 62) 47 = .ok (.iload_n 2, 1) := by decide +kernel
theorem zd_62_48 : decode (zm_cc 62) 48 = .ok (.invokevirtual 142, 3) := by decide +kernel
theorem zd_62_51 : decode (zm_cc 62) 51 = .ok (.return_, 1) := by decide +kernel
theorem zd_63_0 : decode (zm_cc 63) 0 = .ok (.aload_n 0, 1) := by decide +kernel
theorem zd_63_1 : decode (zm_cc 63) 1 = .ok (.getfield 35, 3) := by decide +kernel
theorem zd_63_4 : decode (zm_cc 63) 4 = .ok (.ifCond .lt 12, 3) := by decide +kernel
theorem zd_63_7 : decode (zm_cc 63) 7 = .ok (.aload_n 0, 1) := by decide +kernel
theorem zd_63_8 : decode (zm_cc 63) 8 = .ok (.getfield 35, 3) := by decide +kernel
theorem zd_63_11 : decode (zm_cc 63) 11 = .ok (.bipush 8, 2) := by decide +kernel
theorem zd_63_13 : decode (zm_cc 63) 13 = .ok (.if_icmp .lt 4, 3) := by decide +kernel
theorem zd_63_16 : decode (zm_cc 63) 16 = .ok (.return_, 1) := by decide +kernel
theorem zd_63_17 : decode (zm_cc 63) 17 = .ok (.aload_n 0, 1) := by decide +kernel
theorem zd_63_18 : decode (zm_cc 63) 18 = .ok (.getfield 9, 3) := by decide +kernel
theorem zd_63_21 : decode (zm_cc 63) 21 = .ok (.aload_n 0, 1) := by decide +kernel
theorem zd_63_22 : decode (zm_cc 63) 22 = .ok (.getfield 35, 3) := by decide +kernel
theorem zd_63_25 : decode (zm_cc 63) 25 = .ok (.iload_n 1, 1) := by decide +kernel
theorem zd_63_26 : decode (zm_cc 63) 26 = .ok (.iastore, 1) := by decide +kernel
theorem zd_63_27 : decode (zm_cc 63) 27 = .ok (.aload_n 0, 1) := by decide +kernel
theorem zd_63_28 : decode (zm_cc 63) 28 = .ok (.getfield 15, 3) := by decide +kernel
theorem zd_63_31 : decode (zm_cc 63) 31 = .ok (.aload_n 0, 1) := by decide +kernel
theorem zd_63_32 : decode (zm_cc 63) 32 = .ok (.getfield 35, 3) := by decide +kernel
theorem zd_63_35 : decode (zm_cc 63) 35 = .ok (.iload_n 2, 1) := by decide +kernel
theorem zd_63_36 : decode (zm_cc 63) 36 = .ok (.iastore, 1) := by decide +kernel
theorem zd_63_37 : decode (zm_cc 63) 37 = .ok (.aload_n 0, 1) := by decide +kernel
theorem zd_63_38 : decode (zm_cc 63) 38 = .ok (.getfield 18, 3) := by decide +kernel
theorem zd_63_41 : decode (zm_cc 63) 41 = .ok (.aload_n 0, 1) := by decide +kernel
theorem zd_63_42 : decode (zm_cc 63) 42 = .ok (.getfield 35, 3) := by decide +kernel
theorem zd_63_45 : decode (zm_cc 63) 45 = .ok (.iconst 0, 1) := by decide +kernel
theorem zd_63_46 : decode (zm_cc 63) 46 = .ok (.iastore, 1) := by decide +kernel
theorem zd_63_47 : decode (zm_cc 63) 47 = .ok (.aload_n 0, 1) := by decide +kernel
theorem zd_63_48 : decode (zm_cc 63) 48 = .ok (.getfield 21, 3) := by decide +kernel
theorem zd_63_51 : decode (zm_cc 63) 51 = .ok (.aload_n 0, 1) := by decide +kernel
theorem zd_63_52 : decode (zm_cc 63) 52 = .ok (.getfield 35, 3) := by decide +kernel
theorem zd_63_55 : decode (zm_cc 63) 55 = .ok (.iconst 0, 1) := by decide +kernel
theorem zd_63_56 : decode (zm_cc 63) 56 = .ok (.iastore, 1) := by decide +kernel
theorem zd_63_57 : decode (zm_cc 63) 57 = .ok (.aload_n 0, 1) := by decide +kernel
theorem zd_63_58 : decode (zm_cc 63) 58 = .ok (.getfield 24, 3) := by decide +kernel
theorem zd_63_61 : decode (zm_cc 63) 61 = .ok (.aload_n 0, 1) := by decide +kernel
theorem zd_63_62 : decode (zm_cc 63) 62 = .ok (.getfield 35, 3) := by decide +kernel
theorem zd_63_65 : decode (zm_cc 63) 65 = .ok (.aload_n 0, 1) := by decide +kernel
theorem zd_63_66 : decode (zm_cc 63) 66 = .ok (.getfield 47, 3) := by decide +kernel
theorem zd_63_69 : decode (zm_cc 63) 69 = .ok (.iastore, 1) := by decide +kernel
theorem zd_63_70 : decode (zm_cc 63) 70 = .ok (.aload_n 0, 1) := by decide +kernel
theorem zd_63_71 : decode (zm_cc 63) 71 = .ok (.dup, 1) := by decide +kernel
theorem zd_63_72 : decode (zm_cc 63) 72 = .ok (.getfield 35, 3) := by decide +kernel
theorem zd_63_75 : decode (zm_cc 63) 75 = .ok (.iconst 1, 1) := by decide +kernel
theorem zd_63_76 : decode (zm_cc 63) 76 = .ok (.iadd, 1) := by decide +kernel
theorem zd_63_77 : decode (zm_cc 63) 77 = .ok (.putfield 35, 3) := by decide +kernel
theorem zd_63_80 : decode (zm_cc 63) 80 = .ok (.iload_n 1, 1) := by decide +kernel
theorem zd_63_81 : decode (zm_cc 63) 81 = .ok (.iconst 1, 1) := by decide +kernel
theorem zd_63_82 : decode (zm_cc 63) 82 = .ok (.if_icmp .ne 18, 3) := by decide +kernel
theorem zd_63_85 : decode (zm_cc 63) 85 = .ok (.aload_n 0, 1) := by decide +kernel
theorem zd_63_86 : decode (zm_cc 63) 86 = .ok (.dup, 1) := by decide +kernel
theorem zd_63_87 : decode (zm_cc 63) 87 = .ok (.getfield 47, 3) := by decide +kernel
theorem zd_63_90 : decode (zm_cc 63) 90 = .ok (.iconst 1, 1) := by decide +kernel
theorem zd_63_91 : decode (zm_cc 63) 91 = .ok (.iload_n 2, 1) := by decide +kernel
theorem zd_63_92 : decode (zm_cc 63) 92 = .ok (.ishl, 1) := by decide +kernel
theorem zd_63_93 : decode (zm_cc 63) 93 = .ok (.ior, 1) := by decide +kernel
theorem zd_63_94 : decode (zm_cc 63) 94 = .ok (.putfield 47, 3) := by decide +kernel
theorem zd_63_97 : decode (zm_cc 63) 97 = .ok (.goto 32, 3) := by decide +kernel
theorem zd_63_100 : decode (zm_cc 63) 100 = .ok (.iload_n 1, 1) := by decide +kernel
theorem zd_63_101 : decode (zm_cc 63) 101 = .ok (.iconst 2, 1) := by decide +kernel
theorem zd_63_102 : decode (zm_cc 63) 102 = .ok (.if_icmp .ne 27, 3) := by decide +kernel
theorem zd_63_105 : decode (zm_cc 63) 105 = .ok (.aload_n 0, 1) := by decide +kernel
theorem zd_63_106 : decode (zm_cc 63) 106 = .ok (.aload_n 0, 1) := by decide +kernel
theorem zd_63_107 : decode (zm_cc 63) 107 = .ok (.getfield 27, 3) := by decide +kernel
theorem zd_63_110 : decode (zm_cc 63) 110 = .ok (.getfield 89, 3) := by decide +kernel
theorem zd_63_113 : decode (zm_cc 63) 113 = .ok (.putfield 50, 3) := by decide +kernel
theorem zd_63_116 : decode (zm_cc 63) 116 = .ok (.aload_n 0, 1) := by decide +kernel
theorem zd_63_117 : decode (zm_cc 63) 117 = .ok (.getfield 27, 3) := by decide +kernel
theorem zd_63_120 : decode (zm_cc 63) 120 = .ok (.dup, 1) := by decide +kernel
theorem zd_63_121 : decode (zm_cc 63) 121 = .ok (.getfield 89, 3) := by decide +kernel
theorem zd_63_124 : decode (zm_cc 63) 124 = .ok (.iconst 1, 1) := by decide +kernel
theorem zd_63_125 : decode (zm_cc 63) 125 = .ok (.iadd, 1) := by decide +kernel
theorem zd_63_126 : decode (zm_cc 63) 126 = .ok (.putfield 89, 3) := by decide +kernel
theorem zd_63_129 : decode (zm_cc 63) 129 = .ok (.return_, 1) := by decide +kernel
theorem zd_64_0 : decode (zm_cc 64) 0 = .ok (.aload_n 0, 1) := by decide +kernel
theorem zd_64_1 : decode (zm_cc 64) 1 = .ok (.invokevirtual 180, 3) := by decide +kernel
theorem zd_64_4 : decode (zm_cc 64) 4 = .ok (.ifCond .eq 35, 3) := by decide +kernel
theorem zd_64_7 : decode (zm_cc 64) 7 = .ok (.aload_n 0, 1) := by decide +kernel
theorem zd_64_8 : decode (zm_cc 64) 8 = .ok (.getfield 35, 3) := by decide +kernel
theorem zd_64_11 : decode (zm_cc 64) 11 = .ok (.invokevirtual 90, 3) := by decide +kernel
theorem zd_64_14 : decode (zm_cc 64) 14 = .ok (.aload_n 0, 1) := by decide +kernel
theorem zd_64_15 : decode (zm_cc 64) 15 = .ok (.invokevirtual 195, 3) := by decide +kernel
theorem zd_64_18 : decode (zm_cc 64) 18 = .ok (.istore_n 1, 1) := by decide +kernel
theorem zd_64_19 : decode (zm_cc 64) 19 = .ok (.iload_n 1, 1) := by decide +kernel
theorem zd_64_20 : decode (zm_cc 64) 20 = .ok (.iconst (-1), 1) := by decide +kernel
theorem zd_64_21 : decode (zm_cc 64) 21 = .ok (.if_icmp .eq 18, 3) := by decide +kernel
theorem zd_64_24 : decode (zm_cc 64) 24 = .ok (.aload_n 0, 1) := by decide +kernel
theorem zd_64_25 : decode (zm_cc 64) 25 = .ok (.getfield 44, 3) := by decide +kernel
theorem zd_64_28 : decode (zm_cc 64) 28 = .ok (.iconst 3, 1) := by decide +kernel
theorem zd_64_29 : decode (zm_cc 64) 29 = .ok (.iload_n 1, 1) := by decide +kernel
theorem zd_64_30 : decode (zm_cc 64) 30 = .ok (.invokevirtual 198, 3) := by decide +kernel
theorem zd_64_33 : decode (zm_cc 64) 33 = .ok (.aload_n 0, 1) := by decide +kernel
theorem zd_64_34 : decode (zm_cc 64) 34 = .ok (.iconst 1, 1) := by decide +kernel
theorem zd_64_35 : decode (zm_cc 64) 35 = .ok (.iload_n 1, 1) := by decide +kernel
theorem zd_64_36 : decode (zm_cc 64) 36 = .ok (.invokevirtual 130, 3) := by decide +kernel
theorem zd_64_39 : decode (zm_cc 64) 39 = .ok (.return_, 1) := by decide +kernel
theorem zd_65_0 : decode (zm_cc 65) 0 = .ok (.aload_n 0, 1) := by decide +kernel
theorem zd_65_1 : decode (zm_cc 65) 1 = .ok (.getfield 35, 3) := by decide +kernel
theorem zd_65_4 : decode (zm_cc 65) 4 = .ok (.getfield 74, 3) := by decide +kernel
theorem zd_65_7 : decode (zm_cc 65) 7 = .ok (.iconst 3, 1) := by decide +kernel
theorem zd_65_8 : decode (zm_cc 65) 8 = .ok (.if_icmp .ne 21, 3) := by decide +kernel
theorem zd_65_11 : decode (zm_cc 65) 11 = .ok (.aload_n 0, 1) := by decide +kernel
theorem zd_65_12 : decode (zm_cc 65) 12 = .ok (.getfield 12, 3) := by decide +kernel
theorem zd_65_15 : decode (zm_cc 65) 15 = .ok (.aload_n 0, 1) := by decide +kernel
theorem zd_65_16 : decode (zm_cc 65) 16 = .ok (.getfield 35, 3) := by decide +kernel
theorem zd_65_19 : decode (zm_cc 65) 19 = .ok (.getfield 113, 3) := by decide +kernel
theorem zd_65_22 : decode (zm_cc 65) 22 = .ok (.iconst 1, 1) := by decide +kernel
theorem zd_65_23 : decode (zm_cc 65) 23 = .ok (.invokevirtual 201, 3) := by decide +kernel
theorem zd_65_26 : decode (zm_cc 65) 26 = .ok (.goto 4, 3) := by decide +kernel
theorem zd_65_29 : decode (zm_cc 65) 29 = .ok (.iconst (-1), 1) := by decide +kernel
theorem zd_65_30 : decode (zm_cc 65) 30 = .ok (.istore_n 1, 1) := by decide +kernel
theorem zd_65_31 : decode (zm_cc 65) 31 = .ok (.iload_n 1, 1) := by decide +kernel
theorem zd_65_32 : decode (zm_cc 65) 32 = .ok (.iconst (-1), 1) := by decide +kernel
theorem zd_65_33 : decode (zm_cc 65) 33 = .ok (.if_icmp .eq 12, 3) := by decide +kernel
theorem zd_65_36 : decode (zm_cc 65) 36 = .ok (.aload_n 0, 1) := by decide +kernel
theorem zd_65_37 : decode (zm_cc 65) 37 = .ok (.getfield 35, 3) := by decide +kernel
theorem zd_65_40 : decode (zm_cc 65) 40 = .ok (.invokevirtual 90, 3) := by decide +kernel
theorem zd_65_43 : decode (zm_cc 65) 43 = .ok (.iload_n 1, 1) := by decide +kernel
theorem zd_65_44 : decode (zm_cc 65) 44 = .ok (.ireturn, 1) := by decide +kernel
theorem zd_65_45 : decode (zm_cc 65) 45 = .ok (.aload_n 0, 1) := by decide +kernel
theorem zd_65_46 : decode (zm_cc 65) 46 = .ok (.invokevirtual 205, 3) := by decide +kernel
theorem zd_65_49 : decode (zm_cc 65) 49 = .ok (.iconst (-1), 1) := by decide +kernel
theorem zd_65_50 : decode (zm_cc 65) 50 = .ok (.ireturn, 1) := by decide +kernel
theorem zd_66_0 : decode (zm_cc 66) 0 = .ok (.aload_n 0, 1) := by decide +kernel
theorem zd_66_1 : decode (zm_cc 66) 1 = .ok (.getfield 35, 3) := by decide +kernel
theorem zd_66_4 : decode (zm_cc 66) 4 = .ok (.getfield 74, 3) := by decide +kernel
theorem zd_66_7 : decode (zm_cc 66) 7 = .ok (.iconst 3, 1) := by decide +kernel
theorem zd_66_8 : decode (zm_cc 66) 8 = .ok (.if_icmp .ne 43, 3) := by decide +kernel
theorem zd_66_11 : decode (zm_cc 66) 11 = .ok (.aload_n 0, 1) := by decide +kernel
theorem zd_66_12 : decode (zm_cc 66) 12 = .ok (.getfield 12, 3) := by decide +kernel
theorem zd_66_15 : decode (zm_cc 66) 15 = .ok (.aload_n 0, 1) := by decide +kernel
theorem zd_66_16 : decode (zm_cc 66) 16 = .ok (.getfield 35, 3) := by decide +kernel
theorem zd_66_19 : decode (zm_cc 66) 19 = .ok (.getfield 113, 3) := by decide +kernel
theorem zd_66_22 : decode (zm_cc 66) 22 = .ok (.invokevirtual 134, 3) := by decide +kernel
theorem zd_66_25 : decode (zm_cc 66) 25 = .ok (.iconst (-1), 1) := by decide +kernel
theorem zd_66_26 : decode (zm_cc 66) 26 = .ok (.if_icmp .ne 25, 3) := by decide +kernel
theorem zd_66_29 : decode (zm_cc 66) 29 = .ok (.aload_n 0, 1) := by decide +kernel
theorem zd_66_30 : decode (zm_cc 66) 30 = .ok (.getfield 12, 3) := by decide +kernel
theorem zd_66_33 : decode (zm_cc 66) 33 = .ok (.aload_n 0, 1) := by decide +kernel
theorem zd_66_34 : decode (zm_cc 66) 34 = .ok (.getfield 35, 3) := by decide +kernel
theorem zd_66_37 : decode (zm_cc 66) 37 = .ok (.getfield 113, 3) := by decide +kernel
theorem zd_66_40 : decode (zm_cc 66) 40 = .ok (.invokevirtual 208, 3) := by decide +kernel
theorem zd_66_43 : decode (zm_cc 66) 43 = .ok (.iconst (-1), 1) := by decide +kernel
theorem zd_66_44 : decode (zm_cc 66) 44 = .ok (.if_icmp .ne 7, 3) := by decide +kernel
theorem zd_66_47 : decode (zm_cc 66) 47 = .ok (.iconst 1, 1) := by decide +kernel
theorem zd_66_48 : decode (zm_cc 66) 48 = .ok (.goto 4, 3) := by decide +kernel
theorem zd_66_51 : decode (zm_cc 66) 51 = .ok (.iconst 0, 1) := by decide +kernel
theorem zd_66_52 : decode (zm_cc 66) 52 = .ok (.istore_n 1, 1) := by decide +kernel
theorem zd_66_53 : decode (zm_cc 66) 53 = .ok (.aload_n 0, 1) := by decide +kernel
theorem zd_66_54 : decode (zm_cc 66) 54 = .ok (.iload_n 1, 1) := by decide +kernel
theorem zd_66_55 : decode (zm_cc 66) 55 = .ok (.ifCond .eq 7, 3) := by decide +kernel
theorem zd_66_58 : decode (zm_cc 66) 58 = .ok (.iconst 3, 1) := by decide +kernel
theorem zd_66_59 : decode (zm_cc 66) 59 = .ok (.goto 4, 3) := by decide +kernel
theorem zd_66_62 : decode (zm_cc 66) 62 = .ok (.iconst 2, 1) := by decide +kernel
theorem zd_66_63 : decode (zm_cc 66) 63 = .ok (.invokevirtual 86, 3) := by decide +kernel
theorem zd_66_66 : decode (zm_cc 66) 66 = .ok (.pop, 1) := by decide +kernel
theorem zd_66_67 : decode (zm_cc 66) 67 = .ok (.return_, 1) := by decide +kernel
theorem zd_67_0 : decode (zm_cc 67) 0 = .ok (.aload_n 0, 1) := by decide +kernel
theorem zd_67_1 : decode (zm_cc 67) 1 = .ok (.invokevirtual 180, 3) := by decide +kernel
theorem zd_67_4 : decode (zm_cc 67) 4 = .ok (.ifCond .eq 30, 3) := by decide +kernel
theorem zd_67_7 : decode (zm_cc 67) 7 = .ok (.aload_n 0, 1) := by decide +kernel
theorem zd_67_8 : decode (zm_cc 67) 8 = .ok (.getfield 35, 3) := by decide +kernel
theorem zd_67_11 : decode (zm_cc 67) 11 = .ok (.invokevirtual 90, 3) := by decide +kernel
theorem zd_67_14 : decode (zm_cc 67) 14 = .ok (.aload_n 0, 1) := by decide +kernel
theorem zd_67_15 : decode (zm_cc 67) 15 = .ok (.iload_n 1, 1) := by decide +kernel
theorem zd_67_16 : decode (zm_cc 67) 16 = .ok (.invokevirtual 211, 3) := by decide +kernel
theorem zd_67_19 : decode (zm_cc 67) 19 = .ok (.ifCond .eq 15, 3) := by decide +kernel
theorem zd_67_22 : decode (zm_cc 67) 22 = .ok (.aload_n 0, 1) := by decide +kernel
theorem zd_67_23 : decode (zm_cc 67) 23 = .ok (.iload_n 2, 1) := by decide +kernel
theorem zd_67_24 : decode (zm_cc 67) 24 = .ok (.aload_n 0, 1) := by decide +kernel
theorem zd_67_25 : decode (zm_cc 67) 25 = .ok (.getfield 44, 3) := by decide +kernel
theorem zd_67_28 : decode (zm_cc 67) 28 = .ok (.getfield 214, 3) := by decide +kernel
theorem zd_67_31 : decode (zm_cc 67) 31 = .ok (.invokevirtual 130, 3) := by decide +kernel
theorem zd_67_34 : decode (zm_cc 67) 34 = .ok (.return_, 1) := by decide +kernel
theorem zd_68_0 : decode (zm_cc 68) 0 = .ok (.aload_n 0, 1) := by decide +kernel
theorem zd_68_1 : decode (zm_cc 68) 1 = .ok (.invokevirtual 217, 3) := by decide +kernel
theorem zd_68_4 : decode (zm_cc 68) 4 = .ok (.istore_n 2, 1) := by decide +kernel
theorem zd_68_5 : decode (zm_cc 68) 5 = .ok (.iload_n 2, 1) := by decide +kernel
theorem zd_68_6 : decode (zm_cc 68) 6 = .ok (.iconst (-1), 1) := by decide +kernel
theorem zd_68_7 : decode (zm_cc 68) 7 = .ok (.if_icmp .ne 5, 3) := by decide +kernel
theorem zd_68_10 : decode (zm_cc 68) 10 = .ok (.iconst 0, 1) := by decide +kernel
theorem zd_68_11 : decode (zm_cc 68) 11 = .ok (.ireturn, 1) := by decide +kernel
theorem zd_68_12 : decode (zm_cc 68) 12 = .ok (.aload_n 0, 1) := by decide +kernel
theorem zd_68_13 : decode (zm_cc 68) 13 = .ok (.getfield 35, 3) := by decide +kernel
theorem zd_68_16 : decode (zm_cc 68) 16 = .ok (.getfield 74, 3) := by decide +kernel
theorem zd_68_19 : decode (zm_cc 68) 19 = .ok (.istore_n 3, 1) := by decide +kernel
theorem zd_68_20 : decode (zm_cc 68) 20 = .ok (.iload_n 3, 1) := by decide +kernel
theorem zd_68_21 : decode (zm_cc 68) 21 = .ok (.sipush 256, 3) := by decide +kernel
theorem zd_68_24 : decode (zm_cc 68) 24 = .ok (.if_icmp .eq 28, 3) := by decide +kernel
theorem zd_68_27 : decode (zm_cc 68) 27 = .ok (.iload_n 3, 1) := by decide +kernel
theorem zd_68_28 : decode (zm_cc 68) 28 = .ok (.sipush 257, 3) := by decide +kernel
theorem zd_68_31 : decode (zm_cc 68) 31 = .ok (.if_icmp .eq 21, 3) := by decide +kernel
theorem zd_68_34 : decode (zm_cc 68) 34 = .ok (.iload_n 3, 1) := by decide +kernel
theorem zd_68_35 : decode (zm_cc 68) 35 = .ok (.bipush 60, 2) := by decide +kernel
theorem zd_68_37 : decode (zm_cc 68) 37 = .ok (.if_icmp .eq 15, 3) := by decide +kernel
theorem zd_68_40 : decode (zm_cc 68) 40 = .ok (.iload_n 3, 1) := by decide +kernel
theorem zd_68_41 : decode (zm_cc 68) 41 = .ok (.bipush 62, 2) := by decide +kernel
theorem zd_68_43 : decode (zm_cc 68) 43 = .ok (.if_icmp .eq 9, 3) := by decide +kernel
theorem zd_68_46 : decode (zm_cc 68) 46 = .ok (.aload_n 0, 1) := by decide +kernel
theorem zd_68_47 : decode (zm_cc 68) 47 = .ok (.iconst 2, 1) := by decide +kernel
theorem zd_68_48 : decode (zm_cc 68) 48 = .ok (.invokevirtual 86, 3) := by decide +kernel
theorem zd_68_51 : decode (zm_cc 68) 51 = .ok (.ireturn, 1) := by decide +kernel
theorem zd_68_52 : decode (zm_cc 68) 52 = .ok (.aload_n 0, 1) := by decide +kernel
theorem zd_68_53 : decode (zm_cc 68) 53 = .ok (.getfield 35, 3) := by decide +kernel
theorem zd_68_56 : decode (zm_cc 68) 56 = .ok (.invokevirtual 90, 3) := by decide +kernel
theorem zd_68_59 : decode (zm_cc 68) 59 = .ok (.aload_n 0, 1) := by decide +kernel
theorem zd_68_60 : decode (zm_cc 68) 60 = .ok (.invokevirtual 217, 3) := by decide +kernel
theorem zd_68_63 : decode (zm_cc 68) 63 = .ok (.istore 4, 2) := by decide +kernel
theorem zd_68_65 : decode (zm_cc 68) 65 = .ok (.iload 4, 2) := by decide +kernel
theorem zd_68_67 : decode (zm_cc 68) 67 = .ok (.iconst (-1), 1) := by decide +kernel
theorem zd_68_68 : decode (zm_cc 68) 68 = .ok (.if_icmp .ne 5, 3) := by decide +kernel
theorem zd_68_71 : decode (zm_cc 68) 71 = .ok (.iconst 0, 1) := by decide +kernel
theorem zd_68_72 : decode (zm_cc 68) 72 = .ok (.ireturn, 1) := by decide +kernel
theorem zd_68_73 : decode (zm_cc 68) 73 = .ok (.aload_n 0, 1) := by decide +kernel
theorem zd_68_74 : decode (zm_cc 68) 74 = .ok (.getfield 44, 3) := by decide +kernel
theorem zd_68_77 : decode (zm_cc 68) 77 = .ok (.iload_n 1, 1) := by decide +kernel
theorem zd_68_78 : decode (zm_cc 68) 78 = .ok (.iconst (-1), 1) := by decide +kernel
theorem zd_68_79 : decode (zm_cc 68) 79 = .ok (.invokevirtual 198, 3) := by decide +kernel
theorem zd_68_82 : decode (zm_cc 68) 82 = .ok (.aload_n 0, 1) := by decide +kernel
theorem zd_68_83 : decode (zm_cc 68) 83 = .ok (.getfield 44, 3) := by decide +kernel
theorem zd_68_86 : decode (zm_cc 68) 86 = .ok (.iconst (-1), 1) := by decide +kernel
theorem zd_68_87 : decode (zm_cc 68) 87 = .ok (.iload_n 2, 1) := by decide +kernel
theorem zd_68_88 : decode (zm_cc 68) 88 = .ok (.iload_n 3, 1) := by decide +kernel
theorem zd_68_89 : decode (zm_cc 68) 89 = .ok (.iload 4, 2) := by decide +kernel
theorem zd_68_91 : decode (zm_cc 68) 91 = .ok (.invokevirtual 220, 3) := by decide +kernel
theorem zd_68_94 : decode (zm_cc 68) 94 = .ok (.iconst 1, 1) := by decide +kernel
theorem zd_68_95 : decode (zm_cc 68) 95 = .ok (.ireturn, 1) := by decide +kernel
theorem zd_69_0 : decode (zm_cc 69) 0 = .ok (.aload_n 0, 1) := by decide +kernel
theorem zd_69_1 : decode (zm_cc 69) 1 = .ok (.getfield 35, 3) := by decide +kernel
theorem zd_69_4 : decode (zm_cc 69) 4 = .ok (.getfield 74, 3) := by decide +kernel
theorem zd_69_7 : decode (zm_cc 69) 7 = .ok (.iconst 3, 1) := by decide +kernel
theorem zd_69_8 : decode (zm_cc 69) 8 = .ok (.if_icmp .ne 20, 3) := by decide +kernel
theorem zd_69_11 : decode (zm_cc 69) 11 = .ok (.aload_n 0, 1) := by decide +kernel
theorem zd_69_12 : decode (zm_cc 69) 12 = .ok (.getfield 12, 3) := by decide +kernel
theorem zd_69_15 : decode (zm_cc 69) 15 = .ok (.aload_n 0, 1) := by decide +kernel
theorem zd_69_16 : decode (zm_cc 69) 16 = .ok (.getfield 35, 3) := by decide +kernel
theorem zd_69_19 : decode (zm_cc 69) 19 = .ok (.getfield 113, 3) := by decide +kernel
theorem zd_69_22 : decode (zm_cc 69) 22 = .ok (.invokevirtual 208, 3) := by decide +kernel
theorem zd_69_25 : decode (zm_cc 69) 25 = .ok (.goto 4, 3) := by decide +kernel
theorem zd_69_28 : decode (zm_cc 69) 28 = .ok (.iconst (-1), 1) := by decide +kernel
theorem zd_69_29 : decode (zm_cc 69) 29 = .ok (.istore_n 1, 1) := by decide +kernel
theorem zd_69_30 : decode (zm_cc 69) 30 = .ok (.iload_n 1, 1) := by decide +kernel
theorem zd_69_31 : decode (zm_cc 69) 31 = .ok (.iconst (-1), 1) := by decide +kernel
theorem zd_69_32 : decode (zm_cc 69) 32 = .ok (.if_icmp .ne 20, 3) := by decide +kernel
theorem zd_69_35 : decode (zm_cc 69) 35 = .ok (.aload_n 0, 1) := by decide +kernel
theorem zd_69_36 : decode (zm_cc 69) 36 = .ok (.getfield 35, 3) := by decide +kernel
theorem zd_69_39 : decode (zm_cc 69) 39 = .ok (.getfield 74, 3) := by decide +kernel
theorem zd_69_42 : decode (zm_cc 69) 42 = .ok (.iconst 2, 1) := by decide +kernel
theorem zd_69_43 : decode (zm_cc 69) 43 = .ok (.if_icmp .eq 9, 3) := by decide +kernel
theorem zd_69_46 : decode (zm_cc 69) 46 = .ok (.aload_n 0, 1) := by decide +kernel
theorem zd_69_47 : decode (zm_cc 69) 47 = .ok (.invokevirtual 205, 3) := by decide +kernel
theorem zd_69_50 : decode (zm_cc 69) 50 = .ok (.iconst (-1), 1) := by decide +kernel
theorem zd_69_51 : decode (zm_cc 69) 51 = .ok (.ireturn, 1) := by decide +kernel
theorem zd_69_52 : decode (zm_cc 69) 52 = .ok (.iload_n 1, 1) := by decide +kernel
theorem zd_69_53 : decode (zm_cc 69) 53 = .ok (.iconst (-1), 1) := by decide +kernel
theorem zd_69_54 : decode (zm_cc 69) 54 = .ok (.if_icmp .ne 14, 3) := by decide +kernel
theorem zd_69_57 : decode (zm_cc 69) 57 = .ok (.aload_n 0, 1) := by decide +kernel
theorem zd_69_58 : decode (zm_cc 69) 58 = .ok (.getfield 35, 3) := by decide +kernel
theorem zd_69_61 : decode (zm_cc 69) 61 = .ok (.getfield 113, 3) := by decide +kernel
theorem zd_69_64 : decode (zm_cc 69) 64 = .ok (.l2i, 1) := by decide +kernel
theorem zd_69_65 : decode (zm_cc 69) 65 = .ok (.goto 7, 3) := by decide +kernel
theorem zd_69_68 : decode (zm_cc 69) 68 = .ok (.bipush 8, 2) := by decide +kernel
theorem zd_69_70 : decode (zm_cc 69) 70 = .ok (.iload_n 1, 1) := by decide +kernel
theorem zd_69_71 : decode (zm_cc 69) 71 = .ok (.iadd, 1) := by decide +kernel
theorem zd_69_72 : decode (zm_cc 69) 72 = .ok (.istore_n 2, 1) := by decide +kernel
theorem zd_69_73 : decode (zm_cc 69) 73 = .ok (.aload_n 0, 1) := by decide +kernel
theorem zd_69_74 : decode (zm_cc 69) 74 = .ok (.getfield 35, 3) := by decide +kernel
theorem zd_69_77 : decode (zm_cc 69) 77 = .ok (.invokevirtual 90, 3) := by decide +kernel
theorem zd_69_80 : decode (zm_cc 69) 80 = .ok (.iload_n 2, 1) := by decide +kernel
theorem zd_69_81 : decode (zm_cc 69) 81 = .ok (.ireturn, 1) := by decide +kernel
theorem zd_70_0 : decode (zm_cc 70) 0 = .ok (.aload_n 0, 1) := by decide +kernel
theorem zd_70_1 : decode (zm_cc 70) 1 = .ok (.invokevirtual 180, 3) := by decide +kernel
theorem zd_70_4 : decode (zm_cc 70) 4 = .ok (.ifCond .ne 4, 3) := by decide +kernel
theorem zd_70_7 : decode (zm_cc 70) 7 = .ok (.return_, 1) := by decide +kernel
theorem zd_70_8 : decode (zm_cc 70) 8 = .ok (.aload_n 0, 1) := by decide +kernel
theorem zd_70_9 : decode (zm_cc 70) 9 = .ok (.getfield 35, 3) := by decide +kernel
theorem zd_70_12 : decode (zm_cc 70) 12 = .ok (.invokevirtual 90, 3) := by decide +kernel
theorem zd_70_15 : decode (zm_cc 70) 15 = .ok (.iload_n 1, 1) := by decide +kernel
theorem zd_70_16 : decode (zm_cc 70) 16 = .ok (.bipush 8, 2) := by decide +kernel
theorem zd_70_18 : decode (zm_cc 70) 18 = .ok (.if_icmp .ne 20, 3) := by decide +kernel
theorem zd_70_21 : decode (zm_cc 70) 21 = .ok (.aload_n 0, 1) := by decide +kernel
theorem zd_70_22 : decode (zm_cc 70) 22 = .ok (.getfield 35, 3) := by decide +kernel
theorem zd_70_25 : decode (zm_cc 70) 25 = .ok (.getfield 74, 3) := by decide +kernel
theorem zd_70_28 : decode (zm_cc 70) 28 = .ok (.sipush 309, 3) := by decide +kernel
theorem zd_70_31 : decode (zm_cc 70) 31 = .ok (.if_icmp .ne 7, 3) := by decide +kernel
theorem zd_70_34 : decode (zm_cc 70) 34 = .ok (.iconst 1, 1) := by decide +kernel
theorem zd_70_35 : decode (zm_cc 70) 35 = .ok (.goto 4, 3) := by decide +kernel
theorem zd_70_38 : decode (zm_cc 70) 38 = .ok (.iconst 0, 1) := by decide +kernel
theorem zd_70_39 : decode (zm_cc 70) 39 = .ok (.istore_n 2, 1) := by decide +kernel
theorem zd_70_40 : decode (zm_cc 70) 40 = .ok (.iload_n 2, 1) := by decide +kernel
theorem zd_70_41 : decode (zm_cc 70) 41 = .ok (.ifCond .eq 10, 3) := by decide +kernel
theorem zd_70_44 : decode (zm_cc 70) 44 = .ok (.aload_n 0, 1) := by decide +kernel
theorem zd_70_45 : decode (zm_cc 70) 45 = .ok (.getfield 35, 3) := by decide +kernel
theorem zd_70_48 : decode (zm_cc 70) 48 = .ok (.invokevirtual 90, 3) := by decide +kernel
theorem zd_70_51 : decode (zm_cc 70) 51 = .ok (.aload_n 0, 1) := by decide +kernel
theorem zd_70_52 : decode (zm_cc 70) 52 = .ok (.invokevirtual 195, 3) := by decide +kernel
theorem zd_70_55 : decode (zm_cc 70) 55 = .ok (.istore_n 3, 1) := by decide +kernel
theorem zd_70_56 : decode (zm_cc 70) 56 = .ok (.iload_n 3, 1) := by decide +kernel
theorem zd_70_57 : decode (zm_cc 70) 57 = .ok (.iconst (-1), 1) := by decide +kernel
theorem zd_70_58 : decode (zm_cc 70) 58 = .ok (.if_icmp .eq 28, 3) := by decide +kernel
theorem zd_70_61 : decode (zm_cc 70) 61 = .ok (.aload_n 0, 1) := by decide +kernel
theorem zd_70_62 : decode (zm_cc 70) 62 = .ok (.getfield 44, 3) := by decide +kernel
theorem zd_70_65 : decode (zm_cc 70) 65 = .ok (.iload_n 2, 1) := by decide +kernel
theorem zd_70_66 : decode (zm_cc 70) 66 = .ok (.ifCond .eq 8, 3) := by decide +kernel
theorem zd_70_69 : decode (zm_cc 70) 69 = .ok (.bipush 9, 2) := by decide +kernel
theorem zd_70_71 : decode (zm_cc 70) 71 = .ok (.goto 4, 3) := by decide +kernel
theorem zd_70_74 : decode (zm_cc 70) 74 = .ok (.iload_n 1, 1) := by decide +kernel
theorem zd_70_75 : decode (zm_cc 70) 75 = .ok (.iload_n 3, 1) := by decide +kernel
theorem zd_70_76 : decode (zm_cc 70) 76 = .ok (.invokevirtual 198, 3) := by decide +kernel
theorem zd_70_79 : decode (zm_cc 70) 79 = .ok (.aload_n 0, 1) := by decide +kernel
theorem zd_70_80 : decode (zm_cc 70) 80 = .ok (.bipush 59, 2) := by decide +kernel
theorem zd_70_82 : decode (zm_cc 70) 82 = .ok (.invokevirtual 117, 3) := by decide +kernel
theorem zd_70_85 : decode (zm_cc 70) 85 = .ok (.pop, 1) := by decide +kernel
theorem zd_70_86 : decode (zm_cc 70) 86 = .ok (.return_, 1) := by decide +kernel
theorem zd_71_0 : decode (zm_cc 71) 0 = .ok (.aload_n 0, 1) := by decide +kernel
theorem zd_71_1 : decode (zm_cc 71) 1 = .ok (.invokevirtual 180, 3) := by decide +kernel
theorem zd_71_4 : decode (zm_cc 71) 4 = .ok (.ifCond .ne 4, 3) := by decide +kernel
theorem zd_71_7 : decode (zm_cc 71) 7 = .ok (.return_, 1) := by decide +kernel
theorem zd_71_8 : decode (zm_cc 71) 8 = .ok (.aload_n 0, 1) := by decide +kernel
theorem zd_71_9 : decode (zm_cc 71) 9 = .ok (.getfield 35, 3) := by decide +kernel
theorem zd_71_12 : decode (zm_cc 71) 12 = .ok (.invokevirtual 90, 3) := by decide +kernel
theorem zd_71_15 : decode (zm_cc 71) 15 = .ok (.aload_n 0, 1) := by decide +kernel
theorem zd_71_16 : decode (zm_cc 71) 16 = .ok (.getfield 35, 3) := by decide +kernel
theorem zd_71_19 : decode (zm_cc 71) 19 = .ok (.getfield 74, 3) := by decide +kernel
theorem zd_71_22 : decode (zm_cc 71) 22 = .ok (.iconst 3, 1) := by decide +kernel
theorem zd_71_23 : decode (zm_cc 71) 23 = .ok (.if_icmp .ne 20, 3) := by decide +kernel
theorem zd_71_26 : decode (zm_cc 71) 26 = .ok (.aload_n 0, 1) := by decide +kernel
theorem zd_71_27 : decode (zm_cc 71) 27 = .ok (.getfield 12, 3) := by decide +kernel
theorem zd_71_30 : decode (zm_cc 71) 30 = .ok (.aload_n 0, 1) := by decide +kernel
theorem zd_71_31 : decode (zm_cc 71) 31 = .ok (.getfield 35, 3) := by decide +kernel
theorem zd_71_34 : decode (zm_cc 71) 34 = .ok (.getfield 113, 3) := by decide +kernel
theorem zd_71_37 : decode (zm_cc 71) 37 = .ok (.invokevirtual 134, 3) := by decide +kernel
theorem zd_71_40 : decode (zm_cc 71) 40 = .ok (.goto 4, 3) := by decide +kernel
theorem zd_71_43 : decode (zm_cc 71) 43 = .ok (.iconst 0, 1) := by decide +kernel
theorem zd_71_44 : decode (zm_cc 71) 44 = .ok (.istore_n 2, 1) := by decide +kernel
theorem zd_71_45 : decode (zm_cc 71) 45 = .ok (.iload_n 2, 1) := by decide +kernel
theorem zd_71_46 : decode (zm_cc 71) 46 = .ok (.ifCond .eq 8, 3) := by decide +kernel
theorem zd_71_49 : decode (zm_cc 71) 49 = .ok (.iload_n 2, 1) := by decide +kernel
theorem zd_71_50 : decode (zm_cc 71) 50 = .ok (.iconst 1, 1) := by decide +kernel
theorem zd_71_51 : decode (zm_cc 71) 51 = .ok (.if_icmp .ne 10, 3) := by decide +kernel
theorem zd_71_54 : decode (zm_cc 71) 54 = .ok (.aload_n 0, 1) := by decide +kernel
theorem zd_71_55 : decode (zm_cc 71) 55 = .ok (.iconst 2, 1) := by decide +kernel
theorem zd_71_56 : decode (zm_cc 71) 56 = .ok (.invokevirtual 86, 3) := by decide +kernel
theorem zd_71_59 : decode (zm_cc 71) 59 = .ok (.pop, 1) := by decide +kernel
theorem zd_71_60 : decode (zm_cc 71) 60 = .ok (.return_, 1) := by decide +kernel
theorem zd_71_61 : decode (zm_cc 71) 61 = .ok (.aload_n 0, 1) := by decide +kernel
theorem zd_71_62 : decode (zm_cc 71) 62 = .ok (.getfield 44, 3) := by decide +kernel
theorem zd_71_65 : decode (zm_cc 71) 65 = .ok (.iload_n 1, 1) := by decide +kernel
theorem zd_71_66 : decode (zm_cc 71) 66 = .ok (.iconst (-1), 1) := by decide +kernel
theorem zd_71_67 : decode (zm_cc 71) 67 = .ok (.invokevirtual 198, 3) := by decide +kernel
theorem zd_71_70 : decode (zm_cc 71) 70 = .ok (.aload_n 0, 1) := by decide +kernel
theorem zd_71_71 : decode (zm_cc 71) 71 = .ok (.getfield 26, 3) := by decide +kernel
theorem zd_71_74 : decode (zm_cc 71) 74 = .ok (.aload_n 0, 1) := by decide +kernel
theorem zd_71_75 : decode (zm_cc 71) 75 = .ok (.getfield 26, 3) := by decide +kernel
theorem zd_71_78 : decode (zm_cc 71) 78 = .ok (.getfield 93, 3) := by decide +kernel
theorem zd_71_81 : decode (zm_cc 71) 81 = .ok (.iconst 1, 1) := by decide +kernel
theorem zd_71_82 : decode (zm_cc 71) 82 = .ok (.isub, 1) := by decide +kernel
theorem zd_71_83 : decode (zm_cc 71) 83 = .ok (.aload_n 0, 1) := by decide +kernel
theorem zd_71_84 : decode (zm_cc 71) 84 = .ok (.getfield 44, 3) := by decide +kernel
theorem zd_71_87 : decode (zm_cc 71) 87 = .ok (.getfield 214, 3) := by decide +kernel
theorem zd_71_90 : decode (zm_cc 71) 90 = .ok (.invokevirtual 239, 3) := by decide +kernel
theorem zd_71_93 : decode (zm_cc 71) 93 = .ok (.istore_n 3, 1) := by decide +kernel
theorem zd_71_94 : decode (zm_cc 71) 94 = .ok (.iload_n 3, 1) := by decide +kernel
theorem zd_71_95 : decode (zm_cc 71) 95 = .ok (.bipush 96, 2) := by decide +kernel
theorem zd_71_97 : decode (zm_cc 71) 97 = .ok (.if_icmp .ge 29, 3) := by decide +kernel
theorem zd_71_100 : decode (zm_cc 71) 100 = .ok (.aload_n 0, 1) := by decide +kernel
theorem zd_71_101 : decode (zm_cc 71) 101 = .ok (.getfield 18, 3) := by decide +kernel
theorem zd_71_104 : decode (zm_cc 71) 104 = .ok (.iload_n 3, 1) := by decide +kernel
theorem zd_71_105 : decode (zm_cc 71) 105 = .ok (.aload_n 0, 1) := by decide +kernel
theorem zd_71_106 : decode (zm_cc 71) 106 = .ok (.getfield 35, 3) := by decide +kernel
theorem zd_71_109 : decode (zm_cc 71) 109 = .ok (.getfield 113, 3) := by decide +kernel
theorem zd_71_112 : decode (zm_cc 71) 112 = .ok (.lastore, 1) := by decide +kernel
theorem zd_71_113 : decode (zm_cc 71) 113 = .ok (.aload_n 0, 1) := by decide +kernel
theorem zd_71_114 : decode (zm_cc 71) 114 = .ok (.getfield 22, 3) := by decide +kernel
theorem zd_71_117 : decode (zm_cc 71) 117 = .ok (.iload_n 3, 1) := by decide +kernel
theorem zd_71_118 : decode (zm_cc 71) 118 = .ok (.aload_n 0, 1) := by decide +kernel
theorem zd_71_119 : decode (zm_cc 71) 119 = .ok (.getfield 35, 3) := by decide +kernel
theorem zd_71_122 : decode (zm_cc 71) 122 = .ok (.getfield 83, 3) := by decide +kernel
theorem zd_71_125 : decode (zm_cc 71) 125 = .ok (.iastore, 1) := by decide +kernel
theorem zd_71_126 : decode (zm_cc 71) 126 = .ok (.aload_n 0, 1) := by decide +kernel
theorem zd_71_127 : decode (zm_cc 71) 127 = .ok (.getfield 35, 3) := by decide +kernel
theorem zd_71_130 : decode (zm_cc 71) 130 = .ok (.invokevirtual 90, 3) := by decide +kernel
theorem zd_71_133 : decode (zm_cc 71) 133 = .ok (.aload_n 0, 1) := by decide +kernel
theorem zd_71_134 : decode (zm_cc 71) 134 = .ok (.bipush 59, 2) := by decide +kernel
theorem zd_71_136 : decode (zm_cc 71) 136 = .ok (.invokevirtual 117, 3) := by decide +kernel
theorem zd_71_139 : decode (zm_cc 71) 139 = .ok (.pop, 1) := by decide +kernel
theorem zd_71_140 : decode (zm_cc 71) 140 = .ok (.return_, 1) := by decide +kernel
theorem zd_72_0 : decode (zm_cc 72) 0 = .ok (.aload_n 0, 1) := by decide +kernel
theorem zd_72_1 : decode (zm_cc 72) 1 = .ok (.invokevirtual 180, 3) := by decide +kernel
theorem zd_72_4 : decode (zm_cc 72) 4 = .ok (.ifCond .eq 26, 3) := by decide +kernel
theorem zd_72_7 : decode (zm_cc 72) 7 = .ok (.aload_n 0, 1) := by decide +kernel
theorem zd_72_8 : decode (zm_cc 72) 8 = .ok (.getfield 35, 3) := by decide +kernel
theorem zd_72_11 : decode (zm_cc 72) 11 = .ok (.invokevirtual 90, 3) := by decide +kernel
theorem zd_72_14 : decode (zm_cc 72) 14 = .ok (.aload_n 0, 1) := by decide +kernel
theorem zd_72_15 : decode (zm_cc 72) 15 = .ok (.bipush 12, 2) := by decide +kernel
theorem zd_72_17 : decode (zm_cc 72) 17 = .ok (.invokevirtual 211, 3) := by decide +kernel
theorem zd_72_20 : decode (zm_cc 72) 20 = .ok (.ifCond .eq 10, 3) := by decide +kernel
theorem zd_72_23 : decode (zm_cc 72) 23 = .ok (.aload_n 0, 1) := by decide +kernel
theorem zd_72_24 : decode (zm_cc 72) 24 = .ok (.bipush 59, 2) := by decide +kernel
theorem zd_72_26 : decode (zm_cc 72) 26 = .ok (.invokevirtual 117, 3) := by decide +kernel
theorem zd_72_29 : decode (zm_cc 72) 29 = .ok (.pop, 1) := by decide +kernel
theorem zd_72_30 : decode (zm_cc 72) 30 = .ok (.return_, 1) := by decide +kernel
theorem zd_73_0 : decode (zm_cc 73) 0 = .ok (.aload_n 0, 1) := by decide +kernel
theorem zd_73_1 : decode (zm_cc 73) 1 = .ok (.invokevirtual 180, 3) := by decide +kernel
theorem zd_73_4 : decode (zm_cc 73) 4 = .ok (.ifCond .eq 27, 3) := by decide +kernel
theorem zd_73_7 : decode (zm_cc 73) 7 = .ok (.aload_n 0, 1) := by decide +kernel
theorem zd_73_8 : decode (zm_cc 73) 8 = .ok (.getfield 35, 3) := by decide +kernel
theorem zd_73_11 : decode (zm_cc 73) 11 = .ok (.invokevirtual 90, 3) := by decide +kernel
theorem zd_73_14 : decode (zm_cc 73) 14 = .ok (.aload_n 0, 1) := by decide +kernel
theorem zd_73_15 : decode (zm_cc 73) 15 = .ok (.getfield 44, 3) := by decide +kernel
theorem zd_73_18 : decode (zm_cc 73) 18 = .ok (.bipush 13, 2) := by decide +kernel
theorem zd_73_20 : decode (zm_cc 73) 20 = .ok (.iconst (-1), 1) := by decide +kernel
theorem zd_73_21 : decode (zm_cc 73) 21 = .ok (.invokevirtual 198, 3) := by decide +kernel
theorem zd_73_24 : decode (zm_cc 73) 24 = .ok (.aload_n 0, 1) := by decide +kernel
theorem zd_73_25 : decode (zm_cc 73) 25 = .ok (.bipush 59, 2) := by decide +kernel
theorem zd_73_27 : decode (zm_cc 73) 27 = .ok (.invokevirtual 117, 3) := by decide +kernel
theorem zd_73_30 : decode (zm_cc 73) 30 = .ok (.pop, 1) := by decide +kernel
theorem zd_73_31 : decode (zm_cc 73) 31 = .ok (.return_, 1) := by decide +kernel
theorem zd_74_0 : decode (zm_cc 74) 0 = .ok (.aload_n 0, 1) := by decide +kernel
theorem zd_74_1 : decode (zm_cc 74) 1 = .ok (.getfield 35, 3) := by decide +kernel
theorem zd_74_4 : decode (zm_cc 74) 4 = .ok (.getfield 74, 3) := by decide +kernel
theorem zd_74_7 : decode (zm_cc 74) 7 = .ok (.istore_n 1, 1) := by decide +kernel
theorem zd_74_8 : decode (zm_cc 74) 8 = .ok (.aload_n 0, 1) := by decide +kernel
theorem zd_74_9 : decode (zm_cc 74) 9 = .ok (.getfield 26, 3) := by decide +kernel
theorem zd_74_12 : decode (zm_cc 74) 12 = .ok (.getfield 93, 3) := by decide +kernel
theorem zd_74_15 : decode (zm_cc 74) 15 = .ok (.ifCond .ne 7, 3) := by decide +kernel
theorem zd_74_18 : decode (zm_cc 74) 18 = .ok (.iconst 1, 1) := by decide +kernel
theorem zd_74_19 : decode (zm_cc 74) 19 = .ok (.goto 4, 3) := by decide +kernel
theorem zd_74_22 : decode (zm_cc 74) 22 = .ok (.iconst 0, 1) := by decide +kernel
theorem zd_74_23 : decode (zm_cc 74) 23 = .ok (.istore_n 2, 1) := by decide +kernel
theorem zd_74_24 : decode (zm_cc 74) 24 = .ok (.iload_n 2, 1) := by decide +kernel
theorem zd_74_25 : decode (zm_cc 74) 25 = .ok (.ifCond .eq 36, 3) := by decide +kernel
theorem zd_74_28 : decode (zm_cc 74) 28 = .ok (.iload_n 1, 1) := by decide +kernel
theorem zd_74_29 : decode (zm_cc 74) 29 = .ok (.sipush 300, 3) := by decide +kernel
theorem zd_74_32 : decode (zm_cc 74) 32 = .ok (.if_icmp .eq 10, 3) := by decide +kernel
theorem zd_74_35 : decode (zm_cc 74) 35 = .ok (.iload_n 1, 1) := by decide +kernel
theorem zd_74_36 : decode (zm_cc 74) 36 = .ok (.sipush 301, 3) := by decide +kernel
theorem zd_74_39 : decode (zm_cc 74) 39 = .ok (.if_icmp .ne 22, 3) := by decide +kernel
theorem zd_74_42 : decode (zm_cc 74) 42 = .ok (.aload_n 0, 1) := by decide +kernel
theorem zd_74_43 : decode (zm_cc 74) 43 = .ok (.iload_n 1, 1) := by decide +kernel
theorem zd_74_44 : decode (zm_cc 74) 44 = .ok (.sipush 301, 3) := by decide +kernel
theorem zd_74_47 : decode (zm_cc 74) 47 = .ok (.if_icmp .ne 7, 3) := by decide +kernel
theorem zd_74_50 : decode (zm_cc 74) 50 = .ok (.iconst 1, 1) := by decide +kernel
theorem zd_74_51 : decode (zm_cc 74) 51 = .ok (.goto 4, 3) := by decide +kernel
theorem zd_74_54 : decode (zm_cc 74) 54 = .ok (.iconst 0, 1) := by decide +kernel
theorem zd_74_55 : decode (zm_cc 74) 55 = .ok (.invokevirtual 96, 3) := by decide +kernel
theorem zd_74_58 : decode (zm_cc 74) 58 = .ok (.goto 41, 3) := by decide +kernel
theorem zd_74_61 : decode (zm_cc 74) 61 = .ok (.iload_n 2, 1) := by decide +kernel
theorem zd_74_62 : decode (zm_cc 74) 62 = .ok (.ifCond .eq 17, 3) := by decide +kernel
theorem zd_74_65 : decode (zm_cc 74) 65 = .ok (.iload_n 1, 1) := by decide +kernel
theorem zd_74_66 : decode (zm_cc 74) 66 = .ok (.sipush 302, 3) := by decide +kernel
theorem zd_74_69 : decode (zm_cc 74) 69 = .ok (.if_icmp .ne 10, 3) := by decide +kernel
theorem zd_74_72 : decode (zm_cc 74) 72 = .ok (.aload_n 0, 1) := by decide +kernel
theorem zd_74_73 : decode (zm_cc 74) 73 = .ok (.invokevirtual 100, 3) := by decide +kernel
theorem zd_74_76 : decode (zm_cc 74) 76 = .ok (.goto 23, 3) := by decide +kernel
theorem zd_74_79 : decode (zm_cc 74) 79 = .ok (.iload_n 1, 1) := by decide +kernel
theorem zd_74_80 : decode (zm_cc 74) 80 = .ok (.sipush 303, 3) := by decide +kernel
theorem zd_74_83 : decode (zm_cc 74) 83 = .ok (.if_icmp .ne 10, 3) := by decide +kernel
theorem zd_74_86 : decode (zm_cc 74) 86 = .ok (.aload_n 0, 1) := by decide +kernel
theorem zd_74_87 : decode (zm_cc 74) 87 = .ok (.invokevirtual 103, 3) := by decide +kernel
theorem zd_74_90 : decode (zm_cc 74) 90 = .ok (.goto 9, 3) := by decide +kernel
theorem zd_74_93 : decode (zm_cc 74) 93 = .ok (.aload_n 0, 1) := by decide +kernel
theorem zd_74_94 : decode (zm_cc 74) 94 = .ok (.iconst 2, 1) := by decide +kernel
theorem zd_74_95 : decode (zm_cc 74) 95 = .ok (.invokevirtual 86, 3) := by decide +kernel
theorem zd_74_98 : decode (zm_cc 74) 98 = .ok (.pop, 1) := by decide +kernel
theorem zd_74_99 : decode (zm_cc 74) 99 = .ok (.return_, 1) := by decide +kernel
theorem zd_75_0 : decode (zm_cc 75) 0 = .ok (.aload_n 0, 1) := by decide +kernel
theorem zd_75_1 : decode (zm_cc 75) 1 = .ok (.getfield 35, 3) := by decide +kernel
theorem zd_75_4 : decode (zm_cc 75) 4 = .ok (.invokevirtual 90, 3) := by decide +kernel
theorem zd_75_7 : decode (zm_cc 75) 7 = .ok (.aload_n 0, 1) := by decide +kernel
theorem zd_75_8 : decode (zm_cc 75) 8 = .ok (.iconst 0, 1) := by decide +kernel
theorem zd_75_9 : decode (zm_cc 75) 9 = .ok (.aload_n 0, 1) := by decide +kernel
theorem zd_75_10 : decode (zm_cc 75) 10 = .ok (.getfield 26, 3) := by decide +kernel
theorem zd_75_13 : decode (zm_cc 75) 13 = .ok (.getfield 106, 3) := by decide +kernel
theorem zd_75_16 : decode (zm_cc 75) 16 = .ok (.bipush 6, 2) := by decide +kernel
theorem zd_75_18 : decode (zm_cc 75) 18 = .ok (.invokevirtual 109, 3) := by decide +kernel
theorem zd_75_21 : decode (zm_cc 75) 21 = .ok (.ifCond .ne 4, 3) := by decide +kernel
theorem zd_75_24 : decode (zm_cc 75) 24 = .ok (.return_, 1) := by decide +kernel
theorem zd_75_25 : decode (zm_cc 75) 25 = .ok (.iconst 0, 1) := by decide +kernel
theorem zd_75_26 : decode (zm_cc 75) 26 = .ok (.istore_n 2, 1) := by decide +kernel
theorem zd_75_27 : decode (zm_cc 75) 27 = .ok (.aload_n 0, 1) := by decide +kernel
theorem zd_75_28 : decode (zm_cc 75) 28 = .ok (.getfield 35, 3) := by decide +kernel
theorem zd_75_31 : decode (zm_cc 75) 31 = .ok (.getfield 74, 3) := by decide +kernel
theorem zd_75_34 : decode (zm_cc 75) 34 = .ok (.bipush 61, 2) := by decide +kernel
theorem zd_75_36 : decode (zm_cc 75) 36 = .ok (.if_icmp .ne 28, 3) := by decide +kernel
theorem zd_75_39 : decode (zm_cc 75) 39 = .ok (.aload_n 0, 1) := by decide +kernel
theorem zd_75_40 : decode (zm_cc 75) 40 = .ok (.getfield 35, 3) := by decide +kernel
theorem zd_75_43 : decode (zm_cc 75) 43 = .ok (.invokevirtual 90, 3) := by decide +kernel
theorem zd_75_46 : decode (zm_cc 75) 46 = .ok (.aload_n 0, 1) := by decide +kernel
theorem zd_75_47 : decode (zm_cc 75) 47 = .ok (.getfield 35, 3) := by decide +kernel
theorem zd_75_50 : decode (zm_cc 75) 50 = .ok (.getfield 113, 3) := by decide +kernel
theorem zd_75_53 : decode (zm_cc 75) 53 = .ok (.l2i, 1) := by decide +kernel
theorem zd_75_54 : decode (zm_cc 75) 54 = .ok (.istore_n 2, 1) := by decide +kernel
theorem zd_75_55 : decode (zm_cc 75) 55 = .ok (.aload_n 0, 1) := by decide +kernel
theorem zd_75_56 : decode (zm_cc 75) 56 = .ok (.iconst 2, 1) := by decide +kernel
theorem zd_75_57 : decode (zm_cc 75) 57 = .ok (.invokevirtual 117, 3) := by decide +kernel
theorem zd_75_60 : decode (zm_cc 75) 60 = .ok (.ifCond .ne 4, 3) := by decide +kernel
theorem zd_75_63 : decode (zm_cc 75) 63 = .ok (.return_, 1) := by decide +kernel
theorem zd_75_64 : decode (zm_cc 75) 64 = .ok (.aload_n 0, 1) := by decide +kernel
theorem zd_75_65 : decode (zm_cc 75) 65 = .ok (.bipush 59, 2) := by decide +kernel
theorem zd_75_67 : decode (zm_cc 75) 67 = .ok (.invokevirtual 117, 3) := by decide +kernel
theorem zd_75_70 : decode (zm_cc 75) 70 = .ok (.ifCond .eq 12, 3) := by decide +kernel
theorem zd_75_73 : decode (zm_cc 75) 73 = .ok (.aload_n 0, 1) := by decide +kernel
theorem zd_75_74 : decode (zm_cc 75) 74 = .ok (.getfield 26, 3) := by decide +kernel
theorem zd_75_77 : decode (zm_cc 75) 77 = .ok (.iload_n 2, 1) := by decide +kernel
theorem zd_75_78 : decode (zm_cc 75) 78 = .ok (.iload_n 1, 1) := by decide +kernel
theorem zd_75_79 : decode (zm_cc 75) 79 = .ok (.invokevirtual 120, 3) := by decide +kernel
theorem zd_75_82 : decode (zm_cc 75) 82 = .ok (.return_, 1) := by decide +kernel
theorem zd_76_0 : decode (zm_cc 76) 0 = .ok (.aload_n 0, 1) := by decide +kernel
theorem zd_76_1 : decode (zm_cc 76) 1 = .ok (.getfield 35, 3) := by decide +kernel
theorem zd_76_4 : decode (zm_cc 76) 4 = .ok (.getfield 74, 3) := by decide +kernel
theorem zd_76_7 : decode (zm_cc 76) 7 = .ok (.iconst 3, 1) := by decide +kernel
theorem zd_76_8 : decode (zm_cc 76) 8 = .ok (.if_icmp .eq 9, 3) := by decide +kernel
theorem zd_76_11 : decode (zm_cc 76) 11 = .ok (.aload_n 0, 1) := by decide +kernel
theorem zd_76_12 : decode (zm_cc 76) 12 = .ok (.iconst 2, 1) := by decide +kernel
theorem zd_76_13 : decode (zm_cc 76) 13 = .ok (.invokevirtual 86, 3) := by decide +kernel
theorem zd_76_16 : decode (zm_cc 76) 16 = .ok (.ireturn, 1) := by decide +kernel
theorem zd_76_17 : decode (zm_cc 76) 17 = .ok (.aload_n 0, 1) := by decide +kernel
theorem zd_76_18 : decode (zm_cc 76) 18 = .ok (.getfield 12, 3) := by decide +kernel
theorem zd_76_21 : decode (zm_cc 76) 21 = .ok (.aload_n 0, 1) := by decide +kernel
theorem zd_76_22 : decode (zm_cc 76) 22 = .ok (.getfield 35, 3) := by decide +kernel
theorem zd_76_25 : decode (zm_cc 76) 25 = .ok (.getfield 113, 3) := by decide +kernel
theorem zd_76_28 : decode (zm_cc 76) 28 = .ok (.invokevirtual 134, 3) := by decide +kernel
theorem zd_76_31 : decode (zm_cc 76) 31 = .ok (.iconst (-1), 1) := by decide +kernel
theorem zd_76_32 : decode (zm_cc 76) 32 = .ok (.if_icmp .eq 9, 3) := by decide +kernel
theorem zd_76_35 : decode (zm_cc 76) 35 = .ok (.aload_n 0, 1) := by decide +kernel
theorem zd_76_36 : decode (zm_cc 76) 36 = .ok (.iconst 3, 1) := by decide +kernel
theorem zd_76_37 : decode (zm_cc 76) 37 = .ok (.invokevirtual 86, 3) := by decide +kernel
theorem zd_76_40 : decode (zm_cc 76) 40 = .ok (.ireturn, 1) := by decide +kernel
theorem zd_76_41 : decode (zm_cc 76) 41 = .ok (.iload_n 2, 1) := by decide +kernel
theorem zd_76_42 : decode (zm_cc 76) 42 = .ok (.iload_n 3, 1) := by decide +kernel
theorem zd_76_43 : decode (zm_cc 76) 43 = .ok (.if_icmp .lt 9, 3) := by decide +kernel
theorem zd_76_46 : decode (zm_cc 76) 46 = .ok (.aload_n 0, 1) := by decide +kernel
theorem zd_76_47 : decode (zm_cc 76) 47 = .ok (.iconst 4, 1) := by decide +kernel
theorem zd_76_48 : decode (zm_cc 76) 48 = .ok (.invokevirtual 86, 3) := by decide +kernel
theorem zd_76_51 : decode (zm_cc 76) 51 = .ok (.ireturn, 1) := by decide +kernel
theorem zd_76_52 : decode (zm_cc 76) 52 = .ok (.aload_n 0, 1) := by decide +kernel
theorem zd_76_53 : decode (zm_cc 76) 53 = .ok (.getfield 12, 3) := by decide +kernel
theorem zd_76_56 : decode (zm_cc 76) 56 = .ok (.aload_n 0, 1) := by decide +kernel
theorem zd_76_57 : decode (zm_cc 76) 57 = .ok (.getfield 35, 3) := by decide +kernel
theorem zd_76_60 : decode (zm_cc 76) 60 = .ok (.getfield 113, 3) := by decide +kernel
theorem zd_76_63 : decode (zm_cc 76) 63 = .ok (.iload_n 1, 1) := by decide +kernel
theorem zd_76_64 : decode (zm_cc 76) 64 = .ok (.iload_n 2, 1) := by decide +kernel
theorem zd_76_65 : decode (zm_cc 76) 65 = .ok (.invokevirtual 138, 3) := by decide +kernel
theorem zd_76_68 : decode (zm_cc 76) 68 = .ok (.aload_n 0, 1) := by decide +kernel
theorem zd_76_69 : decode (zm_cc 76) 69 = .ok (.getfield 35, 3) := by decide +kernel
theorem zd_76_72 : decode (zm_cc 76) 72 = .ok (.invokevirtual 90, 3) := by decide +kernel
theorem zd_76_75 : decode (zm_cc 76) 75 = .ok (.iconst 1, 1) := by decide +kernel
theorem zd_76_76 : decode (zm_cc 76) 76 = .ok (.ireturn, 1) := by decide +kernel
theorem zd_77_0 : decode (zm_cc 77) 0 = .ok (.aload_n 0, 1) := by decide +kernel
theorem zd_77_1 : decode (zm_cc 77) 1 = .ok (.getfield 25, 3) := by decide +kernel
theorem zd_77_4 : decode (zm_cc 77) 4 = .ok (.ifCond .lt 53, 3) := by decide +kernel
theorem zd_77_7 : decode (zm_cc 77) 7 = .ok (.aload_n 0, 1) := by decide +kernel
theorem zd_77_8 : decode (zm_cc 77) 8 = .ok (.getfield 25, 3) := by decide +kernel
theorem zd_77_11 : decode (zm_cc 77) 11 = .ok (.bipush 14, 2) := by decide +kernel
theorem zd_77_13 : decode (zm_cc 77) 13 = .ok (.if_icmp .ge 44, 3) := by decide +kernel
theorem zd_77_16 : decode (zm_cc 77) 16 = .ok (.aload_n 0, 1) := by decide +kernel
theorem zd_77_17 : decode (zm_cc 77) 17 = .ok (.getfield 11, 3) := by decide +kernel
theorem zd_77_20 : decode (zm_cc 77) 20 = .ok (.aload_n 0, 1) := by decide +kernel
theorem zd_77_21 : decode (zm_cc 77) 21 = .ok (.getfield 25, 3) := by decide +kernel
theorem zd_77_24 : decode (zm_cc 77) 24 = .ok (.lload_n 1, 1) := by decide +kernel
theorem zd_77_25 : decode (zm_cc 77) 25 = .ok (.lastore, 1) := by decide +kernel
theorem zd_77_26 : decode (zm_cc 77) 26 = .ok (.aload_n 0, 1) := by decide +kernel
theorem zd_77_27 : decode (zm_cc 77) 27 = .ok (.getfield 15, 3) := by decide +kernel
theorem zd_77_30 : decode (zm_cc 77) 30 = .ok (.aload_n 0, 1) := by decide +kernel
theorem zd_77_31 : decode (zm_cc 77) 31 = .ok (.getfield 25, 3) := by decide +kernel
theorem zd_77_34 : decode (zm_cc 77) 34 = .ok (.iload_n 3, 1) := by decide +kernel
theorem zd_77_35 : decode (zm_cc 77) 35 = .ok (.iastore, 1) := by decide +kernel
theorem zd_77_36 : decode (zm_cc 77) 36 = .ok (.aload_n 0, 1) := by decide +kernel
theorem zd_77_37 : decode (zm_cc 77) 37 = .ok (.getfield 19, 3) := by decide +kernel
theorem zd_77_40 : decode (zm_cc 77) 40 = .ok (.aload_n 0, 1) := by decide +kernel
theorem zd_77_41 : decode (zm_cc 77) 41 = .ok (.getfield 25, 3) := by decide +kernel
theorem zd_77_44 : decode (zm_cc 77) 44 = .ok (.iload 4, 2) := by decide +kernel
theorem zd_77_46 : decode (zm_cc 77) 46 = .ok (.iastore, 1) := by decide +kernel
theorem zd_77_47 : decode (zm_cc 77) 47 = .ok (.aload_n 0, 1) := by decide +kernel
theorem zd_77_48 : decode (zm_cc 77) 48 = .ok (.dup, 1) := by decide +kernel
theorem zd_77_49 : decode (zm_cc 77) 49 = .ok (.getfield 25, 3) := by decide +kernel
theorem zd_77_52 : decode (zm_cc 77) 52 = .ok (.iconst 1, 1) := by decide +kernel
theorem zd_77_53 : decode (zm_cc 77) 53 = .ok (.iadd, 1) := by decide +kernel
theorem zd_77_54 : decode (zm_cc 77) 54 = .ok (.putfield 25, 3) := by decide +kernel
theorem zd_77_57 : decode (zm_cc 77) 57 = .ok (.return_, 1) := by decide +kernel
theorem zd_78_0 : decode (zm_cc 78) 0 = .ok (.aload_n 0, 1) := by decide +kernel
theorem zd_78_1 : decode (zm_cc 78) 1 = .ok (.dup, 1) := by decide +kernel
theorem zd_78_2 : decode (zm_cc 78) 2 = .ok (.getfield 64, 3) := by decide +kernel
theorem zd_78_5 : decode (zm_cc 78) 5 = .ok (.iload_n 1, 1) := by decide +kernel
theorem zd_78_6 : decode (zm_cc 78) 6 = .ok (.iconst 3, 1) := by decide +kernel
theorem zd_78_7 : decode (zm_cc 78) 7 = .ok (.aload_n 0, 1) := by decide +kernel
theorem zd_78_8 : decode (zm_cc 78) 8 = .ok (.getfield 48, 3) := by decide +kernel
theorem zd_78_11 : decode (zm_cc 78) 11 = .ok (.imul, 1) := by decide +kernel
theorem zd_78_12 : decode (zm_cc 78) 12 = .ok (.ishl, 1) := by decide +kernel
theorem zd_78_13 : decode (zm_cc 78) 13 = .ok (.ior, 1) := by decide +kernel
theorem zd_78_14 : decode (zm_cc 78) 14 = .ok (.putfield 64, 3) := by decide +kernel
theorem zd_78_17 : decode (zm_cc 78) 17 = .ok (.iload_n 2, 1) := by decide +kernel
theorem zd_78_18 : decode (zm_cc 78) 18 = .ok (.ifCond .eq 18, 3) := by decide +kernel
theorem zd_78_21 : decode (zm_cc 78) 21 = .ok (.aload_n 0, 1) := by decide +kernel
theorem zd_78_22 : decode (zm_cc 78) 22 = .ok (.dup, 1) := by decide +kernel
theorem zd_78_23 : decode (zm_cc 78) 23 = .ok (.getfield 67, 3) := by decide +kernel
theorem zd_78_26 : decode (zm_cc 78) 26 = .ok (.iconst 1, 1) := by decide +kernel
theorem zd_78_27 : decode (zm_cc 78) 27 = .ok (.aload_n 0, 1) := by decide +kernel
theorem zd_78_28 : decode (zm_cc 78) 28 = .ok (.getfield 48, 3) := by decide +kernel
theorem zd_78_31 : decode (zm_cc 78) 31 = .ok (.ishl, 1) := by decide +kernel
theorem zd_78_32 : decode (zm_cc 78) 32 = .ok (.ior, 1) := by decide +kernel
theorem zd_78_33 : decode (zm_cc 78) 33 = .ok (.putfield 67, 3) := by decide +kernel
theorem zd_78_36 : decode (zm_cc 78) 36 = .ok (.aload_n 0, 1) := by decide +kernel
theorem zd_78_37 : decode (zm_cc 78) 37 = .ok (.dup, 1) := by decide +kernel
theorem zd_78_38 : decode (zm_cc 78) 38 = .ok (.getfield 48, 3) := by decide +kernel
theorem zd_78_41 : decode (zm_cc 78) 41 = .ok (.iconst 1, 1) := by decide +kernel
theorem zd_78_42 : decode (zm_cc 78) 42 = .ok (.iadd, 1) := by decide +kernel
theorem zd_78_43 : decode (zm_cc 78) 43 = .ok (.putfield 48, 3) := by decide +kernel
theorem zd_78_46 : decode (zm_cc 78) 46 = .ok (.return_, 1) := by decide +kernel
theorem zd_79_0 : decode (zm_cc 79) 0 = .ok (.aload_n 0, 1) := by decide +kernel
theorem zd_79_1 : decode (zm_cc 79) 1 = .ok (.getfield 35, 3) := by decide +kernel
theorem zd_79_4 : decode (zm_cc 79) 4 = .ok (.invokevirtual 90, 3) := by decide +kernel
theorem zd_79_7 : decode (zm_cc 79) 7 = .ok (.aload_n 0, 1) := by decide +kernel
theorem zd_79_8 : decode (zm_cc 79) 8 = .ok (.iconst 1, 1) := by decide +kernel
theorem zd_79_9 : decode (zm_cc 79) 9 = .ok (.aload_n 0, 1) := by decide +kernel
theorem zd_79_10 : decode (zm_cc 79) 10 = .ok (.getfield 26, 3) := by decide +kernel
theorem zd_79_13 : decode (zm_cc 79) 13 = .ok (.getfield 124, 3) := by decide +kernel
theorem zd_79_16 : decode (zm_cc 79) 16 = .ok (.iconst 4, 1) := by decide +kernel
theorem zd_79_17 : decode (zm_cc 79) 17 = .ok (.invokevirtual 109, 3) := by decide +kernel
theorem zd_79_20 : decode (zm_cc 79) 20 = .ok (.ifCond .eq 25, 3) := by decide +kernel
theorem zd_79_23 : decode (zm_cc 79) 23 = .ok (.aload_n 0, 1) := by decide +kernel
theorem zd_79_24 : decode (zm_cc 79) 24 = .ok (.bipush 59, 2) := by decide +kernel
theorem zd_79_26 : decode (zm_cc 79) 26 = .ok (.invokevirtual 117, 3) := by decide +kernel
theorem zd_79_29 : decode (zm_cc 79) 29 = .ok (.ifCond .eq 16, 3) := by decide +kernel
theorem zd_79_32 : decode (zm_cc 79) 32 = .ok (.aload_n 0, 1) := by decide +kernel
theorem zd_79_33 : decode (zm_cc 79) 33 = .ok (.getfield 26, 3) := by decide +kernel
theorem zd_79_36 : decode (zm_cc 79) 36 = .ok (.dup, 1) := by decide +kernel
theorem zd_79_37 : decode (zm_cc 79) 37 = .ok (.getfield 124, 3) := by decide +kernel
theorem zd_79_40 : decode (zm_cc 79) 40 = .ok (.iconst 1, 1) := by decide +kernel
theorem zd_79_41 : decode (zm_cc 79) 41 = .ok (.iadd, 1) := by decide +kernel
theorem zd_79_42 : decode (zm_cc 79) 42 = .ok (.putfield 124, 3) := by decide +kernel
theorem zd_79_45 : decode (zm_cc 79) 45 = .ok (.return_, 1) := by decide +kernel
theorem zd_80_0 : decode (zm_cc 80) 0 = .ok (.aload_n 0, 1) := by decide +kernel
theorem zd_80_1 : decode (zm_cc 80) 1 = .ok (.getfield 35, 3) := by decide +kernel
theorem zd_80_4 : decode (zm_cc 80) 4 = .ok (.invokevirtual 90, 3) := by decide +kernel
theorem zd_80_7 : decode (zm_cc 80) 7 = .ok (.aload_n 0, 1) := by decide +kernel
theorem zd_80_8 : decode (zm_cc 80) 8 = .ok (.iconst 2, 1) := by decide +kernel
theorem zd_80_9 : decode (zm_cc 80) 9 = .ok (.aload_n 0, 1) := by decide +kernel
theorem zd_80_10 : decode (zm_cc 80) 10 = .ok (.getfield 26, 3) := by decide +kernel
theorem zd_80_13 : decode (zm_cc 80) 13 = .ok (.getfield 93, 3) := by decide +kernel
theorem zd_80_16 : decode (zm_cc 80) 16 = .ok (.iconst 4, 1) := by decide +kernel
theorem zd_80_17 : decode (zm_cc 80) 17 = .ok (.invokevirtual 109, 3) := by decide +kernel
theorem zd_80_20 : decode (zm_cc 80) 20 = .ok (.ifCond .eq 43, 3) := by decide +kernel
theorem zd_80_23 : decode (zm_cc 80) 23 = .ok (.aload_n 0, 1) := by decide +kernel
theorem zd_80_24 : decode (zm_cc 80) 24 = .ok (.getfield 12, 3) := by decide +kernel
theorem zd_80_27 : decode (zm_cc 80) 27 = .ok (.invokevirtual 127, 3) := by decide +kernel
theorem zd_80_30 : decode (zm_cc 80) 30 = .ok (.aload_n 0, 1) := by decide +kernel
theorem zd_80_31 : decode (zm_cc 80) 31 = .ok (.getfield 44, 3) := by decide +kernel
theorem zd_80_34 : decode (zm_cc 80) 34 = .ok (.aload_n 0, 1) := by decide +kernel
theorem zd_80_35 : decode (zm_cc 80) 35 = .ok (.getfield 26, 3) := by decide +kernel
theorem zd_80_38 : decode (zm_cc 80) 38 = .ok (.getfield 93, 3) := by decide +kernel
theorem zd_80_41 : decode (zm_cc 80) 41 = .ok (.invokevirtual 61, 3) := by decide +kernel
theorem zd_80_44 : decode (zm_cc 80) 44 = .ok (.aload_n 0, 1) := by decide +kernel
theorem zd_80_45 : decode (zm_cc 80) 45 = .ok (.getfield 26, 3) := by decide +kernel
theorem zd_80_48 : decode (zm_cc 80) 48 = .ok (.dup, 1) := by decide +kernel
theorem zd_80_49 : decode (zm_cc 80) 49 = .ok (.getfield 93, 3) := by decide +kernel
theorem zd_80_52 : decode (zm_cc 80) 52 = .ok (.iconst 1, 1) := by decide +kernel
theorem zd_80_53 : decode (zm_cc 80) 53 = .ok (.iadd, 1) := by decide +kernel
theorem zd_80_54 : decode (zm_cc 80) 54 = .ok (.putfield 93, 3) := by decide +kernel
theorem zd_80_57 : decode (zm_cc 80) 57 = .ok (.aload_n 0, 1) := by decide +kernel
theorem zd_80_58 : decode (zm_cc 80) 58 = .ok (.iconst 0, 1) := by decide +kernel
theorem zd_80_59 : decode (zm_cc 80) 59 = .ok (.iconst (-1), 1) := by decide +kernel
theorem zd_80_60 : decode (zm_cc 80) 60 = .ok (.invokevirtual 130, 3) := by decide +kernel
theorem zd_80_63 : decode (zm_cc 80) 63 = .ok (.return_, 1) := by decide +kernel
theorem zd_81_0 : decode (zm_cc 81) 0 = .ok (.aload_n 0, 1) := by decide +kernel
theorem zd_81_1 : decode (zm_cc 81) 1 = .ok (.iconst 0, 1) := by decide +kernel
theorem zd_81_2 : decode (zm_cc 81) 2 = .ok (.putfield 29, 3) := by decide +kernel
theorem zd_81_5 : decode (zm_cc 81) 5 = .ok (.return_, 1) := by decide +kernel
theorem zd_82_0 : decode (zm_cc 82) 0 = .ok (.aload_n 0, 1) := by decide +kernel
theorem zd_82_1 : decode (zm_cc 82) 1 = .ok (.getfield 26, 3) := by decide +kernel
theorem zd_82_4 : decode (zm_cc 82) 4 = .ok (.iload_n 1, 1) := by decide +kernel
theorem zd_82_5 : decode (zm_cc 82) 5 = .ok (.bipush 24, 2) := by decide +kernel
theorem zd_82_7 : decode (zm_cc 82) 7 = .ok (.idiv, 1) := by decide +kernel
theorem zd_82_8 : decode (zm_cc 82) 8 = .ok (.iload_n 1, 1) := by decide +kernel
theorem zd_82_9 : decode (zm_cc 82) 9 = .ok (.bipush 24, 2) := by decide +kernel
theorem zd_82_11 : decode (zm_cc 82) 11 = .ok (.irem, 1) := by decide +kernel
theorem zd_82_12 : decode (zm_cc 82) 12 = .ok (.invokevirtual 239, 3) := by decide +kernel
theorem zd_82_15 : decode (zm_cc 82) 15 = .ok (.istore_n 2, 1) := by decide +kernel
theorem zd_82_16 : decode (zm_cc 82) 16 = .ok (.aload_n 0, 1) := by decide +kernel
theorem zd_82_17 : decode (zm_cc 82) 17 = .ok (.getfield 26, 3) := by decide +kernel
theorem zd_82_20 : decode (zm_cc 82) 20 = .ok (.getfield 243, 3) := by decide +kernel
theorem zd_82_23 : decode (zm_cc 82) 23 = .ok (.iload_n 2, 1) := by decide +kernel
theorem zd_82_24 : decode (zm_cc 82) 24 = .ok (.iaload, 1) := by decide +kernel
theorem zd_82_25 : decode (zm_cc 82) 25 = .ok (.istore_n 3, 1) := by decide +kernel
theorem zd_82_26 : decode (zm_cc 82) 26 = .ok (.iload_n 2, 1) := by decide +kernel
theorem zd_82_27 : decode (zm_cc 82) 27 = .ok (.bipush 96, 2) := by decide +kernel
theorem zd_82_29 : decode (zm_cc 82) 29 = .ok (.if_icmp .ge 15, 3) := by decide +kernel
theorem zd_82_32 : decode (zm_cc 82) 32 = .ok (.iload_n 3, 1) := by decide +kernel
theorem zd_82_33 : decode (zm_cc 82) 33 = .ok (.bipush 10, 2) := by decide +kernel
theorem zd_82_35 : decode (zm_cc 82) 35 = .ok (.if_icmp .eq 10, 3) := by decide +kernel
theorem zd_82_38 : decode (zm_cc 82) 38 = .ok (.iload_n 3, 1) := by decide +kernel
theorem zd_82_39 : decode (zm_cc 82) 39 = .ok (.bipush 11, 2) := by decide +kernel
theorem zd_82_41 : decode (zm_cc 82) 41 = .ok (.if_icmp .eq 4, 3) := by decide +kernel
theorem zd_82_44 : decode (zm_cc 82) 44 = .ok (.return_, 1) := by decide +kernel
theorem zd_82_45 : decode (zm_cc 82) 45 = .ok (.aload_n 0, 1) := by decide +kernel
theorem zd_82_46 : decode (zm_cc 82) 46 = .ok (.getfield 12, 3) := by decide +kernel
theorem zd_82_49 : decode (zm_cc 82) 49 = .ok (.aload_n 0, 1) := by decide +kernel
theorem zd_82_50 : decode (zm_cc 82) 50 = .ok (.getfield 18, 3) := by decide +kernel
theorem zd_82_53 : decode (zm_cc 82) 53 = .ok (.iload_n 2, 1) := by decide +kernel
theorem zd_82_54 : decode (zm_cc 82) 54 = .ok (.laload, 1) := by decide +kernel
theorem zd_82_55 : decode (zm_cc 82) 55 = .ok (.iconst 2, 1) := by decide +kernel
theorem zd_82_56 : decode (zm_cc 82) 56 = .ok (.invokevirtual 201, 3) := by decide +kernel
theorem zd_82_59 : decode (zm_cc 82) 59 = .ok (.istore 4, 2) := by decide +kernel
theorem zd_82_61 : decode (zm_cc 82) 61 = .ok (.iload 4, 2) := by decide +kernel
theorem zd_82_63 : decode (zm_cc 82) 63 = .ok (.iconst (-1), 1) := by decide +kernel
theorem zd_82_64 : decode (zm_cc 82) 64 = .ok (.if_icmp .ne 21, 3) := by decide +kernel
theorem zd_82_67 : decode (zm_cc 82) 67 = .ok (.aload_n 0, 1) := by decide +kernel
theorem zd_82_68 : decode (zm_cc 82) 68 = .ok (.iconst 5, 1) := by decide +kernel
theorem zd_82_69 : decode (zm_cc 82) 69 = .ok (.putfield 48, 3) := by decide +kernel
theorem zd_82_72 : decode (zm_cc 82) 72 = .ok (.aload_n 0, 1) := by decide +kernel
theorem zd_82_73 : decode (zm_cc 82) 73 = .ok (.aload_n 0, 1) := by decide +kernel
theorem zd_82_74 : decode (zm_cc 82) 74 = .ok (.getfield 22, 3) := by decide +kernel
theorem zd_82_77 : decode (zm_cc 82) 77 = .ok (.iload_n 2, 1) := by decide +kernel
theorem zd_82_78 : decode (zm_cc 82) 78 = .ok (.iaload, 1) := by decide +kernel
theorem zd_82_79 : decode (zm_cc 82) 79 = .ok (.putfield 52, 3) := by decide +kernel
theorem zd_82_82 : decode (zm_cc 82) 82 = .ok (.goto 13, 3) := by decide +kernel
theorem zd_82_85 : decode (zm_cc 82) 85 = .ok (.aload_n 0, 1) := by decide +kernel
theorem zd_82_86 : decode (zm_cc 82) 86 = .ok (.getfield 26, 3) := by decide +kernel
theorem zd_82_89 : decode (zm_cc 82) 89 = .ok (.iload_n 2, 1) := by decide +kernel
theorem zd_82_90 : decode (zm_cc 82) 90 = .ok (.iload 4, 2) := by decide +kernel
theorem zd_82_92 : decode (zm_cc 82) 92 = .ok (.invokevirtual 246, 3) := by decide +kernel
theorem zd_82_95 : decode (zm_cc 82) 95 = .ok (.return_, 1) := by decide +kernel
theorem zd_83_0 : decode (zm_cc 83) 0 = .ok (.iload_n 1, 1) := by decide +kernel
theorem zd_83_1 : decode (zm_cc 83) 1 = .ok (.ifCond .lt 51, 3) := by decide +kernel
theorem zd_83_4 : decode (zm_cc 83) 4 = .ok (.iload_n 1, 1) := by decide +kernel
theorem zd_83_5 : decode (zm_cc 83) 5 = .ok (.bipush 96, 2) := by decide +kernel
theorem zd_83_7 : decode (zm_cc 83) 7 = .ok (.if_icmp .ge 45, 3) := by decide +kernel
theorem zd_83_10 : decode (zm_cc 83) 10 = .ok (.iload_n 2, 1) := by decide +kernel
theorem zd_83_11 : decode (zm_cc 83) 11 = .ok (.ifCond .lt 41, 3) := by decide +kernel
theorem zd_83_14 : decode (zm_cc 83) 14 = .ok (.iload_n 2, 1) := by decide +kernel
theorem zd_83_15 : decode (zm_cc 83) 15 = .ok (.iconst 4, 1) := by decide +kernel
theorem zd_83_16 : decode (zm_cc 83) 16 = .ok (.if_icmp .ge 36, 3) := by decide +kernel
theorem zd_83_19 : decode (zm_cc 83) 19 = .ok (.aload_n 0, 1) := by decide +kernel
theorem zd_83_20 : decode (zm_cc 83) 20 = .ok (.getfield 21, 3) := by decide +kernel
theorem zd_83_23 : decode (zm_cc 83) 23 = .ok (.iload_n 1, 1) := by decide +kernel
theorem zd_83_24 : decode (zm_cc 83) 24 = .ok (.iload_n 2, 1) := by decide +kernel
theorem zd_83_25 : decode (zm_cc 83) 25 = .ok (.iastore, 1) := by decide +kernel
theorem zd_83_26 : decode (zm_cc 83) 26 = .ok (.aload_n 0, 1) := by decide +kernel
theorem zd_83_27 : decode (zm_cc 83) 27 = .ok (.getfield 18, 3) := by decide +kernel
theorem zd_83_30 : decode (zm_cc 83) 30 = .ok (.iload_n 1, 1) := by decide +kernel
theorem zd_83_31 : decode (zm_cc 83) 31 = .ok (.iaload, 1) := by decide +kernel
theorem zd_83_32 : decode (zm_cc 83) 32 = .ok (.bipush 10, 2) := by decide +kernel
theorem zd_83_34 : decode (zm_cc 83) 34 = .ok (.if_icmp .ne 18, 3) := by decide +kernel
theorem zd_83_37 : decode (zm_cc 83) 37 = .ok (.aload_n 0, 1) := by decide +kernel
theorem zd_83_38 : decode (zm_cc 83) 38 = .ok (.getfield 15, 3) := by decide +kernel
theorem zd_83_41 : decode (zm_cc 83) 41 = .ok (.iload_n 2, 1) := by decide +kernel
theorem zd_83_42 : decode (zm_cc 83) 42 = .ok (.dup2, 1) := by decide +kernel
theorem zd_83_43 : decode (zm_cc 83) 43 = .ok (.iaload, 1) := by decide +kernel
theorem zd_83_44 : decode (zm_cc 83) 44 = .ok (.iconst 1, 1) := by decide +kernel
theorem zd_83_45 : decode (zm_cc 83) 45 = .ok (.iload_n 1, 1) := by decide +kernel
theorem zd_83_46 : decode (zm_cc 83) 46 = .ok (.bipush 24, 2) := by decide +kernel
theorem zd_83_48 : decode (zm_cc 83) 48 = .ok (.idiv, 1) := by decide +kernel
theorem zd_83_49 : decode (zm_cc 83) 49 = .ok (.ishl, 1) := by decide +kernel
theorem zd_83_50 : decode (zm_cc 83) 50 = .ok (.ior, 1) := by decide +kernel
theorem zd_83_51 : decode (zm_cc 83) 51 = .ok (.iastore, 1) := by decide +kernel
theorem zd_83_52 : decode (zm_cc 83) 52 = .ok (.return_, 1) := by decide +kernel
theorem zd_84_0 : decode (zm_cc 84) 0 = .ok (.aload_n 0, 1) := by decide +kernel
theorem zd_84_1 : decode (zm_cc 84) 1 = .ok (.iconst 0, 1) := by decide +kernel
theorem zd_84_2 : decode (zm_cc 84) 2 = .ok (.putfield 31, 3) := by decide +kernel
theorem zd_84_5 : decode (zm_cc 84) 5 = .ok (.return_, 1) := by decide +kernel
theorem zd_85_0 : decode (zm_cc 85) 0 = .ok (.aload_n 0, 1) := by decide +kernel
theorem zd_85_1 : decode (zm_cc 85) 1 = .ok (.iconst 0, 1) := by decide +kernel
theorem zd_85_2 : decode (zm_cc 85) 2 = .ok (.putfield 1, 3) := by decide +kernel
theorem zd_85_5 : decode (zm_cc 85) 5 = .ok (.aload_n 0, 1) := by decide +kernel
theorem zd_85_6 : decode (zm_cc 85) 6 = .ok (.aload_n 0, 1) := by decide +kernel
theorem zd_85_7 : decode (zm_cc 85) 7 = .ok (.getfield 125, 3) := by decide +kernel
theorem zd_85_10 : decode (zm_cc 85) 10 = .ok (.putfield 132, 3) := by decide +kernel
theorem zd_85_13 : decode (zm_cc 85) 13 = .ok (.aload_n 0, 1) := by decide +kernel
theorem zd_85_14 : decode (zm_cc 85) 14 = .ok (.iconst 0, 1) := by decide +kernel
theorem zd_85_15 : decode (zm_cc 85) 15 = .ok (.putfield 125, 3) := by decide +kernel
theorem zd_85_18 : decode (zm_cc 85) 18 = .ok (.iconst 0, 1) := by decide +kernel
theorem zd_85_19 : decode (zm_cc 85) 19 = .ok (.istore_n 1, 1) := by decide +kernel
theorem zd_85_20 : decode (zm_cc 85) 20 = .ok (.iload_n 1, 1) := by decide +kernel
theorem zd_85_21 : decode (zm_cc 85) 21 = .ok (.aload_n 0, 1) := by decide +kernel
theorem zd_85_22 : decode (zm_cc 85) 22 = .ok (.getfield 132, 3) := by decide +kernel
theorem zd_85_25 : decode (zm_cc 85) 25 = .ok (.if_icmp .ge 21, 3) := by decide +kernel
theorem zd_85_28 : decode (zm_cc 85) 28 = .ok (.aload_n 0, 1) := by decide +kernel
theorem zd_85_29 : decode (zm_cc 85) 29 = .ok (.getfield 17, 3) := by decide +kernel
theorem zd_85_32 : decode (zm_cc 85) 32 = .ok (.iload_n 1, 1) := by decide +kernel
theorem zd_85_33 : decode (zm_cc 85) 33 = .ok (.aload_n 0, 1) := by decide +kernel
theorem zd_85_34 : decode (zm_cc 85) 34 = .ok (.getfield 13, 3) := by decide +kernel
theorem zd_85_37 : decode (zm_cc 85) 37 = .ok (.iload_n 1, 1) := by decide +kernel
theorem zd_85_38 : decode (zm_cc 85) 38 = .ok (.baload, 1) := by decide +kernel
theorem zd_85_39 : decode (zm_cc 85) 39 = .ok (.bastore, 1) := by decide +kernel
theorem zd_85_40 : decode (zm_cc 85) 40 = .ok (.iinc 1 1, 3) := by decide +kernel
theorem zd_85_43 : decode (zm_cc 85) 43 = .ok (.goto (-23), 3) := by decide +kernel
theorem zd_85_46 : decode (zm_cc 85) 46 = .ok (.aload_n 0, 1) := by decide +kernel
theorem zd_85_47 : decode (zm_cc 85) 47 = .ok (.iconst 0, 1) := by decide +kernel
theorem zd_85_48 : decode (zm_cc 85) 48 = .ok (.putfield 135, 3) := by decide +kernel
theorem zd_85_51 : decode (zm_cc 85) 51 = .ok (.aload_n 0, 1) := by decide +kernel
theorem zd_85_52 : decode (zm_cc 85) 52 = .ok (.iconst 0, 1) := by decide +kernel
theorem zd_85_53 : decode (zm_cc 85) 53 = .ok (.putfield 139, 3) := by decide +kernel
theorem zd_85_56 : decode (zm_cc 85) 56 = .ok (.aload_n 0, 1) := by decide +kernel
theorem zd_85_57 : decode (zm_cc 85) 57 = .ok (.iconst 0, 1) := by decide +kernel
theorem zd_85_58 : decode (zm_cc 85) 58 = .ok (.putfield 215, 3) := by decide +kernel
theorem zd_85_61 : decode (zm_cc 85) 61 = .ok (.aload_n 0, 1) := by decide +kernel
theorem zd_85_62 : decode (zm_cc 85) 62 = .ok (.iconst 0, 1) := by decide +kernel
theorem zd_85_63 : decode (zm_cc 85) 63 = .ok (.putfield 222, 3) := by decide +kernel
theorem zd_85_66 : decode (zm_cc 85) 66 = .ok (.aload_n 0, 1) := by decide +kernel
theorem zd_85_67 : decode (zm_cc 85) 67 = .ok (.iconst 0, 1) := by decide +kernel
theorem zd_85_68 : decode (zm_cc 85) 68 = .ok (.putfield 225, 3) := by decide +kernel
theorem zd_85_71 : decode (zm_cc 85) 71 = .ok (.aload_n 0, 1) := by decide +kernel
theorem zd_85_72 : decode (zm_cc 85) 72 = .ok (.iconst 0, 1) := by decide +kernel
theorem zd_85_73 : decode (zm_cc 85) 73 = .ok (.putfield 303, 3) := by decide +kernel
theorem zd_85_76 : decode (zm_cc 85) 76 = .ok (.aload_n 0, 1) := by decide +kernel
theorem zd_85_77 : decode (zm_cc 85) 77 = .ok (.iconst 0, 1) := by decide +kernel
theorem zd_85_78 : decode (zm_cc 85) 78 = .ok (.putfield 291, 3) := by decide +kernel
theorem zd_85_81 : decode (zm_cc 85) 81 = .ok (.aload_n 0, 1) := by decide +kernel
theorem zd_85_82 : decode (zm_cc 85) 82 = .ok (.iconst 0, 1) := by decide +kernel
theorem zd_85_83 : decode (zm_cc 85) 83 = .ok (.putfield 142, 3) := by decide +kernel
theorem zd_85_86 : decode (zm_cc 85) 86 = .ok (.aload_n 0, 1) := by decide +kernel
theorem zd_85_87 : decode (zm_cc 85) 87 = .ok (.iconst 0, 1) := by decide +kernel
theorem zd_85_88 : decode (zm_cc 85) 88 = .ok (.putfield 155, 3) := by decide +kernel
theorem zd_85_91 : decode (zm_cc 85) 91 = .ok (.aload_n 0, 1) := by decide +kernel
theorem zd_85_92 : decode (zm_cc 85) 92 = .ok (.iconst 0, 1) := by decide +kernel
theorem zd_85_93 : decode (zm_cc 85) 93 = .ok (.putfield 322, 3) := by decide +kernel
theorem zd_85_96 : decode (zm_cc 85) 96 = .ok (.aload_n 0, 1) := by decide +kernel
theorem zd_85_97 : decode (zm_cc 85) 97 = .ok (.iconst (-1), 1) := by decide +kernel
theorem zd_85_98 : decode (zm_cc 85) 98 = .ok (.putfield 119, 3) := by decide +kernel
theorem zd_85_101 : decode (zm_cc 85) 101 = .ok (.aload_n 0, 1) := by decide +kernel
theorem zd_85_102 : decode (zm_cc 85) 102 = .ok (.invokevirtual 209, 3) := by decide +kernel
theorem zd_85_105 : decode (zm_cc 85) 105 = .ok (.aload_n 0, 1) := by decide +kernel
theorem zd_85_106 : decode (zm_cc 85) 106 = .ok (.getfield 135, 3) := by decide +kernel
theorem zd_85_109 : decode (zm_cc 85) 109 = .ok (.ifCond .ne 95, 3) := by decide +kernel
theorem zd_85_112 : decode (zm_cc 85) 112 = .ok (.aload_n 0, 1) := by decide +kernel
theorem zd_85_113 : decode (zm_cc 85) 113 = .ok (.iconst 1, 1) := by decide +kernel
theorem zd_85_114 : decode (zm_cc 85) 114 = .ok (.invokevirtual 264, 3) := by decide +kernel
theorem zd_85_117 : decode (zm_cc 85) 117 = .ok (.ifCond .ne 19, 3) := by decide +kernel
theorem zd_85_120 : decode (zm_cc 85) 120 = .ok (.aload_n 0, 1) := by decide +kernel
theorem zd_85_121 : decode (zm_cc 85) 121 = .ok (.iconst 2, 1) := by decide +kernel
theorem zd_85_122 : decode (zm_cc 85) 122 = .ok (.invokevirtual 264, 3) := by decide +kernel
theorem zd_85_125 : decode (zm_cc 85) 125 = .ok (.ifCond .ne 11, 3) := by decide +kernel
theorem zd_85_128 : decode (zm_cc 85) 128 = .ok (.aload_n 0, 1) := by decide +kernel
theorem zd_85_129 : decode (zm_cc 85) 129 = .ok (.iconst 3, 1) := by decide +kernel
theorem zd_85_130 : decode (zm_cc 85) 130 = .ok (.invokevirtual 264, 3) := by decide +kernel
theorem zd_85_133 : decode (zm_cc 85) 133 = .ok (.ifCond .eq 71, 3) := by decide +kernel
theorem zd_85_136 : decode (zm_cc 85) 136 = .ok (.aload_n 0, 1) := by decide +kernel
theorem zd_85_137 : decode (zm_cc 85) 137 = .ok (.iconst 3, 1) := by decide +kernel
theorem zd_85_138 : decode (zm_cc 85) 138 = .ok (.invokevirtual 264, 3) := by decide +kernel
theorem zd_85_141 : decode (zm_cc 85) 141 = .ok (.ifCond .eq 51, 3) := by decide +kernel
theorem zd_85_144 : decode (zm_cc 85) 144 = .ok (.aload_n 0, 1) := by decide +kernel
theorem zd_85_145 : decode (zm_cc 85) 145 = .ok (.invokevirtual 209, 3) := by decide +kernel
theorem zd_85_148 : decode (zm_cc 85) 148 = .ok (.aload_n 0, 1) := by decide +kernel
theorem zd_85_149 : decode (zm_cc 85) 149 = .ok (.bipush 6, 2) := by decide +kernel
theorem zd_85_151 : decode (zm_cc 85) 151 = .ok (.aload_n 0, 1) := by decide +kernel
theorem zd_85_152 : decode (zm_cc 85) 152 = .ok (.getfield 222, 3) := by decide +kernel
theorem zd_85_155 : decode (zm_cc 85) 155 = .ok (.iconst 4, 1) := by decide +kernel
theorem zd_85_156 : decode (zm_cc 85) 156 = .ok (.invokevirtual 318, 3) := by decide +kernel
theorem zd_85_159 : decode (zm_cc 85) 159 = .ok (.aload_n 0, 1) := by decide +kernel
theorem zd_85_160 : decode (zm_cc 85) 160 = .ok (.aload_n 0, 1) := by decide +kernel
theorem zd_85_161 : decode (zm_cc 85) 161 = .ok (.getfield 135, 3) := by decide +kernel
theorem zd_85_164 : decode (zm_cc 85) 164 = .ok (.ifCond .eq 10, 3) := by decide +kernel
theorem zd_85_167 : decode (zm_cc 85) 167 = .ok (.aload_n 0, 1) := by decide +kernel
theorem zd_85_168 : decode (zm_cc 85) 168 = .ok (.getfield 222, 3) := by decide +kernel
theorem zd_85_171 : decode (zm_cc 85) 171 = .ok (.goto 9, 3) := by decide +kernel
theorem zd_85_174 : decode (zm_cc 85) 174 = .ok (.aload_n 0, 1) := by decide +kernel
theorem zd_85_175 : decode (zm_cc 85) 175 = .ok (.getfield 222, 3) := by decide +kernel
theorem zd_85_178 : decode (zm_cc 85) 178 = .ok (.iconst 1, 1) := by decide +kernel
theorem zd_85_179 : decode (zm_cc 85) 179 = .ok (.iadd, 1) := by decide +kernel
theorem zd_85_180 : decode (zm_cc 85) 180 = .ok (.putfield 222, 3) := by decide +kernel
theorem zd_85_183 : decode (zm_cc 85) 183 = .ok (.aload_n 0, 1) := by decide +kernel
theorem zd_85_184 : decode (zm_cc 85) 184 = .ok (.bipush 59, 2) := by decide +kernel
theorem zd_85_186 : decode (zm_cc 85) 186 = .ok (.invokevirtual 288, 3) := by decide +kernel
theorem zd_85_189 : decode (zm_cc 85) 189 = .ok (.goto (-84), 3) := by decide +kernel
theorem zd_85_192 : decode (zm_cc 85) 192 = .ok (.aload_n 0, 1) := by decide +kernel
theorem zd_85_193 : decode (zm_cc 85) 193 = .ok (.aload_n 0, 1) := by decide +kernel
theorem zd_85_194 : decode (zm_cc 85) 194 = .ok (.iconst 2, 1) := by decide +kernel
theorem zd_85_195 : decode (zm_cc 85) 195 = .ok (.invokevirtual 264, 3) := by decide +kernel
theorem zd_85_198 : decode (zm_cc 85) 198 = .ok (.invokevirtual 325, 3) := by decide +kernel
theorem zd_85_201 : decode (zm_cc 85) 201 = .ok (.goto (-96), 3) := by decide +kernel
theorem zd_85_204 : decode (zm_cc 85) 204 = .ok (.aload_n 0, 1) := by decide +kernel
theorem zd_85_205 : decode (zm_cc 85) 205 = .ok (.getfield 135, 3) := by decide +kernel
theorem zd_85_208 : decode (zm_cc 85) 208 = .ok (.ifCond .ne 18, 3) := by decide +kernel
theorem zd_85_211 : decode (zm_cc 85) 211 = .ok (.aload_n 0, 1) := by decide +kernel
theorem zd_85_212 : decode (zm_cc 85) 212 = .ok (.iconst 4, 1) := by decide +kernel
theorem zd_85_213 : decode (zm_cc 85) 213 = .ok (.invokevirtual 264, 3) := by decide +kernel
theorem zd_85_216 : decode (zm_cc 85) 216 = .ok (.ifCond .eq 10, 3) := by decide +kernel
theorem zd_85_219 : decode (zm_cc 85) 219 = .ok (.aload_n 0, 1) := by decide +kernel
theorem zd_85_220 : decode (zm_cc 85) 220 = .ok (.invokevirtual 329, 3) := by decide +kernel
theorem zd_85_223 : decode (zm_cc 85) 223 = .ok (.goto (-19), 3) := by decide +kernel
theorem zd_85_226 : decode (zm_cc 85) 226 = .ok (.aload_n 0, 1) := by decide +kernel
theorem zd_85_227 : decode (zm_cc 85) 227 = .ok (.getfield 135, 3) := by decide +kernel
theorem zd_85_230 : decode (zm_cc 85) 230 = .ok (.ifCond .ne 14, 3) := by decide +kernel
theorem zd_85_233 : decode (zm_cc 85) 233 = .ok (.aload_n 0, 1) := by decide +kernel
theorem zd_85_234 : decode (zm_cc 85) 234 = .ok (.getfield 148, 3) := by decide +kernel
theorem zd_85_237 : decode (zm_cc 85) 237 = .ok (.ifCond .eq 7, 3) := by decide +kernel
theorem zd_85_240 : decode (zm_cc 85) 240 = .ok (.aload_n 0, 1) := by decide +kernel
theorem zd_85_241 : decode (zm_cc 85) 241 = .ok (.invokevirtual 212, 3) := by decide +kernel
theorem zd_85_244 : decode (zm_cc 85) 244 = .ok (.aload_n 0, 1) := by decide +kernel
theorem zd_85_245 : decode (zm_cc 85) 245 = .ok (.getfield 135, 3) := by decide +kernel
theorem zd_85_248 : decode (zm_cc 85) 248 = .ok (.ifCond .ne 7, 3) := by decide +kernel
theorem zd_85_251 : decode (zm_cc 85) 251 = .ok (.aload_n 0, 1) := by decide +kernel
theorem zd_85_252 : decode (zm_cc 85) 252 = .ok (.invokevirtual 332, 3) := by decide +kernel
theorem zd_85_255 : decode (zm_cc 85) 255 = .ok (.aload_n 0, 1) := by decide +kernel
theorem zd_85_256 : decode (zm_cc 85) 256 = .ok (.aload_n 0, 1) := by decide +kernel
theorem zd_85_257 : decode (zm_cc 85) 257 = .ok (.getfield 135, 3) := by decide +kernel
theorem zd_85_260 : decode (zm_cc 85) 260 = .ok (.ifCond .ne 7, 3) := by decide +kernel
theorem zd_85_263 : decode (zm_cc 85) 263 = .ok (.iconst 1, 1) := by decide +kernel
theorem zd_85_264 : decode (zm_cc 85) 264 = .ok (.goto 4, 3) := by decide +kernel
theorem zd_85_267 : decode (zm_cc 85) 267 = .ok (.iconst 0, 1) := by decide +kernel
theorem zd_85_268 : decode (zm_cc 85) 268 = .ok (.putfield 335, 3) := by decide +kernel
theorem zd_85_271 : decode (zm_cc 85) 271 = .ok (.aload_n 0, 1) := by decide +kernel
theorem zd_85_272 : decode (zm_cc 85) 272 = .ok (.aload_n 0, 1) := by decide +kernel
theorem zd_85_273 : decode (zm_cc 85) 273 = .ok (.getfield 139, 3) := by decide +kernel
theorem zd_85_276 : decode (zm_cc 85) 276 = .ok (.putfield 338, 3) := by decide +kernel
theorem zd_85_279 : decode (zm_cc 85) 279 = .ok (.aload_n 0, 1) := by decide +kernel
theorem zd_85_280 : decode (zm_cc 85) 280 = .ok (.getfield 135, 3) := by decide +kernel
theorem zd_85_283 : decode (zm_cc 85) 283 = .ok (.ifCond .eq 14, 3) := by decide +kernel
theorem zd_85_286 : decode (zm_cc 85) 286 = .ok (.sipush (-1000), 3) := by decide +kernel
theorem zd_85_289 : decode (zm_cc 85) 289 = .ok (.aload_n 0, 1) := by decide +kernel
theorem zd_85_290 : decode (zm_cc 85) 290 = .ok (.getfield 145, 3) := by decide +kernel
theorem zd_85_293 : decode (zm_cc 85) 293 = .ok (.isub, 1) := by decide +kernel
theorem zd_85_294 : decode (zm_cc 85) 294 = .ok (.goto 7, 3) := by decide +kernel
theorem zd_85_297 : decode (zm_cc 85) 297 = .ok (.aload_n 0, 1) := by decide +kernel
theorem zd_85_298 : decode (zm_cc 85) 298 = .ok (.invokevirtual 341, 3) := by decide +kernel
theorem zd_85_301 : decode (zm_cc 85) 301 = .ok (.ireturn, 1) := by decide +kernel
theorem zd_86_0 : decode (zm_cc 86) 0 = .ok (.aload_n 0, 1) := by decide +kernel
theorem zd_86_1 : decode (zm_cc 86) 1 = .ok (.getfield 142, 3) := by decide +kernel
theorem zd_86_4 : decode (zm_cc 86) 4 = .ok (.aload_n 0, 1) := by decide +kernel
theorem zd_86_5 : decode (zm_cc 86) 5 = .ok (.getfield 155, 3) := by decide +kernel
theorem zd_86_8 : decode (zm_cc 86) 8 = .ok (.iadd, 1) := by decide +kernel
theorem zd_86_9 : decode (zm_cc 86) 9 = .ok (.istore_n 1, 1) := by decide +kernel
theorem zd_86_10 : decode (zm_cc 86) 10 = .ok (.iload_n 1, 1) := by decide +kernel
theorem zd_86_11 : decode (zm_cc 86) 11 = .ok (.aload_n 0, 1) := by decide +kernel
theorem zd_86_12 : decode (zm_cc 86) 12 = .ok (.getfield 132, 3) := by decide +kernel
theorem zd_86_15 : decode (zm_cc 86) 15 = .ok (.if_icmp .ge 29, 3) := by decide +kernel
theorem zd_86_18 : decode (zm_cc 86) 18 = .ok (.aload_n 0, 1) := by decide +kernel
theorem zd_86_19 : decode (zm_cc 86) 19 = .ok (.iload_n 1, 1) := by decide +kernel
theorem zd_86_20 : decode (zm_cc 86) 20 = .ok (.invokevirtual 158, 3) := by decide +kernel
theorem zd_86_23 : decode (zm_cc 86) 23 = .ok (.bipush 32, 2) := by decide +kernel
theorem zd_86_25 : decode (zm_cc 86) 25 = .ok (.if_icmp .eq 13, 3) := by decide +kernel
theorem zd_86_28 : decode (zm_cc 86) 28 = .ok (.aload_n 0, 1) := by decide +kernel
theorem zd_86_29 : decode (zm_cc 86) 29 = .ok (.iload_n 1, 1) := by decide +kernel
theorem zd_86_30 : decode (zm_cc 86) 30 = .ok (.invokevirtual 158, 3) := by decide +kernel
theorem zd_86_33 : decode (zm_cc 86) 33 = .ok (.bipush 10, 2) := by decide +kernel
theorem zd_86_35 : decode (zm_cc 86) 35 = .ok (.if_icmp .ne 9, 3) := by decide +kernel
theorem zd_86_38 : decode (zm_cc 86) 38 = .ok (.iinc 1 1, 3) := by decide +kernel
theorem zd_86_41 : decode (zm_cc 86) 41 = .ok (.goto (-31), 3) := by decide +kernel
theorem zd_86_44 : decode (zm_cc 86) 44 = .ok (.aload_n 0, 1) := by decide +kernel
theorem zd_86_45 : decode (zm_cc 86) 45 = .ok (.iload_n 1, 1) := by decide +kernel
theorem zd_86_46 : decode (zm_cc 86) 46 = .ok (.putfield 142, 3) := by decide +kernel
theorem zd_86_49 : decode (zm_cc 86) 49 = .ok (.aload_n 0, 1) := by decide +kernel
theorem zd_86_50 : decode (zm_cc 86) 50 = .ok (.iconst 1, 1) := by decide +kernel
theorem zd_86_51 : decode (zm_cc 86) 51 = .ok (.putfield 155, 3) := by decide +kernel
theorem zd_86_54 : decode (zm_cc 86) 54 = .ok (.aload_n 0, 1) := by decide +kernel
theorem zd_86_55 : decode (zm_cc 86) 55 = .ok (.iconst 0, 1) := by decide +kernel
theorem zd_86_56 : decode (zm_cc 86) 56 = .ok (.putfield 192, 3) := by decide +kernel
theorem zd_86_59 : decode (zm_cc 86) 59 = .ok (.aload_n 0, 1) := by decide +kernel
theorem zd_86_60 : decode (zm_cc 86) 60 = .ok (.iload_n 1, 1) := by decide +kernel
theorem zd_86_61 : decode (zm_cc 86) 61 = .ok (.invokevirtual 158, 3) := by decide +kernel
theorem zd_86_64 : decode (zm_cc 86) 64 = .ok (.istore_n 2, 1) := by decide +kernel
theorem zd_86_65 : decode (zm_cc 86) 65 = .ok (.aload_n 0, 1) := by decide +kernel
theorem zd_86_66 : decode (zm_cc 86) 66 = .ok (.iload_n 1, 1) := by decide +kernel
theorem zd_86_67 : decode (zm_cc 86) 67 = .ok (.iconst 1, 1) := by decide +kernel
theorem zd_86_68 : decode (zm_cc 86) 68 = .ok (.iadd, 1) := by decide +kernel
theorem zd_86_69 : decode (zm_cc 86) 69 = .ok (.invokevirtual 158, 3) := by decide +kernel
theorem zd_86_72 : decode (zm_cc 86) 72 = .ok (.istore_n 3, 1) := by decide +kernel
theorem zd_86_73 : decode (zm_cc 86) 73 = .ok (.iload_n 1, 1) := by decide +kernel
theorem zd_86_74 : decode (zm_cc 86) 74 = .ok (.aload_n 0, 1) := by decide +kernel
theorem zd_86_75 : decode (zm_cc 86) 75 = .ok (.getfield 132, 3) := by decide +kernel
theorem zd_86_78 : decode (zm_cc 86) 78 = .ok (.if_icmp .lt 16, 3) := by decide +kernel
theorem zd_86_81 : decode (zm_cc 86) 81 = .ok (.aload_n 0, 1) := by decide +kernel
theorem zd_86_82 : decode (zm_cc 86) 82 = .ok (.iconst 0, 1) := by decide +kernel
theorem zd_86_83 : decode (zm_cc 86) 83 = .ok (.putfield 155, 3) := by decide +kernel
theorem zd_86_86 : decode (zm_cc 86) 86 = .ok (.aload_n 0, 1) := by decide +kernel
theorem zd_86_87 : decode (zm_cc 86) 87 = .ok (.iconst 0, 1) := by decide +kernel
theorem zd_86_88 : decode (zm_cc 86) 88 = .ok (.putfield 148, 3) := by decide +kernel
theorem zd_86_91 : decode (zm_cc 86) 91 = .ok (.goto 278, 3) := by decide +kernel
theorem zd_86_94 : decode (zm_cc 86) 94 = .ok (.iload_n 2, 1) := by decide +kernel
theorem zd_86_95 : decode (zm_cc 86) 95 = .ok (.invokestatic 195, 3) := by decide +kernel
theorem zd_86_98 : decode (zm_cc 86) 98 = .ok (.ifCond .eq 97, 3) := by decide +kernel
theorem zd_86_101 : decode (zm_cc 86) 101 = .ok (.aload_n 0, 1) := by decide +kernel
theorem zd_86_102 : decode (zm_cc 86) 102 = .ok (.iload_n 1, 1) := by decide +kernel
theorem zd_86_103 : decode (zm_cc 86) 103 = .ok (.aload_n 0, 1) := by decide +kernel
theorem zd_86_104 : decode (zm_cc 86) 104 = .ok (.getfield 155, 3) := by decide +kernel
theorem zd_86_107 : decode (zm_cc 86) 107 = .ok (.iadd, 1) := by decide +kernel
theorem zd_86_108 : decode (zm_cc 86) 108 = .ok (.invokevirtual 158, 3) := by decide +kernel
