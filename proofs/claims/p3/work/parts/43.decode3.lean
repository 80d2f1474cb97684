theorem zd_202_72 : decode (zm_cc 202) 72 = .ok (.aload_n 2, 1) := by decide +kernel
theorem zd_202_73 : decode (zm_cc 202) 73 = .ok (.arraylength, 1) := by decide +kernel
theorem zd_202_74 : decode (zm_cc 202) 74 = .ok (.if_icmp .ge 16, 3) := by decide +kernel
theorem zd_202_77 : decode (zm_cc 202) 77 = .ok (.aload_n 2, 1) := by decide +kernel
theorem zd_202_78 : decode (zm_cc 202) 78 = .ok (.iload 4, 2) := by decide +kernel
theorem zd_202_80 : decode (zm_cc 202) 80 = .ok (.aload_n 0, 1) := by decide +kernel
theorem zd_202_81 : decode (zm_cc 202) 81 = .ok (.getfield 15, 3) := by decide +kernel
theorem zd_202_84 : decode (zm_cc 202) 84 = .ok (.iload 5, 2) := by decide +kernel
theorem zd_202_86 : decode (zm_cc 202) 86 = .ok (.iaload, 1) := by decide +kernel
theorem zd_202_87 : decode (zm_cc 202) 87 = .ok (.iconst 4, 1) := by decide +kernel
theorem zd_202_88 : decode (zm_cc 202) 88 = .ok (.irem, 1) := by decide +kernel
theorem zd_202_89 : decode (zm_cc 202) 89 = .ok (.iastore, 1) := by decide +kernel
theorem zd_202_90 : decode (zm_cc 202) 90 = .ok (.iinc 4 (-1), 3) := by decide +kernel
theorem zd_202_93 : decode (zm_cc 202) 93 = .ok (.aload_n 0, 1) := by decide +kernel
theorem zd_202_94 : decode (zm_cc 202) 94 = .ok (.getfield 15, 3) := by decide +kernel
theorem zd_202_97 : decode (zm_cc 202) 97 = .ok (.iload 5, 2) := by decide +kernel
theorem zd_202_99 : decode (zm_cc 202) 99 = .ok (.iaload, 1) := by decide +kernel
theorem zd_202_100 : decode (zm_cc 202) 100 = .ok (.iconst 4, 1) := by decide +kernel
theorem zd_202_101 : decode (zm_cc 202) 101 = .ok (.idiv, 1) := by decide +kernel
theorem zd_202_102 : decode (zm_cc 202) 102 = .ok (.istore 5, 2) := by decide +kernel
theorem zd_202_104 : decode (zm_cc 202) 104 = .ok (.goto (-53), 3) := by decide +kernel
theorem zd_202_107 : decode (zm_cc 202) 107 = .ok (.iload_n 3, 1) := by decide +kernel
theorem zd_202_108 : decode (zm_cc 202) 108 = .ok (.ireturn, 1) := by decide +kernel
theorem zd_203_0 : decode (zm_cc 203) 0 = .ok (.aload_n 0, 1) := by decide +kernel
theorem zd_203_1 : decode (zm_cc 203) 1 = .ok (.iconst 0, 1) := by decide +kernel
theorem zd_203_2 : decode (zm_cc 203) 2 = .ok (.putfield 1, 3) := by decide +kernel
theorem zd_203_5 : decode (zm_cc 203) 5 = .ok (.aload_n 0, 1) := by decide +kernel
theorem zd_203_6 : decode (zm_cc 203) 6 = .ok (.getfield 322, 3) := by decide +kernel
theorem zd_203_9 : decode (zm_cc 203) 9 = .ok (.ifCond .ne 6, 3) := by decide +kernel
theorem zd_203_12 : decode (zm_cc 203) 12 = .ok (.bipush (-101), 2) := by decide +kernel
theorem zd_203_14 : decode (zm_cc 203) 14 = .ok (.ireturn, 1) := by decide +kernel
theorem zd_203_15 : decode (zm_cc 203) 15 = .ok (.aload_n 0, 1) := by decide +kernel
theorem zd_203_16 : decode (zm_cc 203) 16 = .ok (.iload_n 1, 1) := by decide +kernel
theorem zd_203_17 : decode (zm_cc 203) 17 = .ok (.iload_n 2, 1) := by decide +kernel
theorem zd_203_18 : decode (zm_cc 203) 18 = .ok (.invokevirtual 434, 3) := by decide +kernel
theorem zd_203_21 : decode (zm_cc 203) 21 = .ok (.istore_n 3, 1) := by decide +kernel
theorem zd_203_22 : decode (zm_cc 203) 22 = .ok (.iload_n 3, 1) := by decide +kernel
theorem zd_203_23 : decode (zm_cc 203) 23 = .ok (.iconst (-1), 1) := by decide +kernel
theorem zd_203_24 : decode (zm_cc 203) 24 = .ok (.if_icmp .ne 6, 3) := by decide +kernel
theorem zd_203_27 : decode (zm_cc 203) 27 = .ok (.bipush (-102), 2) := by decide +kernel
theorem zd_203_29 : decode (zm_cc 203) 29 = .ok (.ireturn, 1) := by decide +kernel
theorem zd_203_30 : decode (zm_cc 203) 30 = .ok (.aload_n 0, 1) := by decide +kernel
theorem zd_203_31 : decode (zm_cc 203) 31 = .ok (.iconst 0, 1) := by decide +kernel
theorem zd_203_32 : decode (zm_cc 203) 32 = .ok (.putfield 119, 3) := by decide +kernel
theorem zd_203_35 : decode (zm_cc 203) 35 = .ok (.iload_n 3, 1) := by decide +kernel
theorem zd_203_36 : decode (zm_cc 203) 36 = .ok (.istore 4, 2) := by decide +kernel
theorem zd_203_38 : decode (zm_cc 203) 38 = .ok (.iload 4, 2) := by decide +kernel
theorem zd_203_40 : decode (zm_cc 203) 40 = .ok (.ifCond .le 25, 3) := by decide +kernel
theorem zd_203_43 : decode (zm_cc 203) 43 = .ok (.aload_n 0, 1) := by decide +kernel
theorem zd_203_44 : decode (zm_cc 203) 44 = .ok (.dup, 1) := by decide +kernel
theorem zd_203_45 : decode (zm_cc 203) 45 = .ok (.getfield 119, 3) := by decide +kernel
theorem zd_203_48 : decode (zm_cc 203) 48 = .ok (.iconst 1, 1) := by decide +kernel
theorem zd_203_49 : decode (zm_cc 203) 49 = .ok (.iadd, 1) := by decide +kernel
theorem zd_203_50 : decode (zm_cc 203) 50 = .ok (.putfield 119, 3) := by decide +kernel
theorem zd_203_53 : decode (zm_cc 203) 53 = .ok (.aload_n 0, 1) := by decide +kernel
theorem zd_203_54 : decode (zm_cc 203) 54 = .ok (.getfield 101, 3) := by decide +kernel
theorem zd_203_57 : decode (zm_cc 203) 57 = .ok (.iload 4, 2) := by decide +kernel
theorem zd_203_59 : decode (zm_cc 203) 59 = .ok (.iaload, 1) := by decide +kernel
theorem zd_203_60 : decode (zm_cc 203) 60 = .ok (.istore 4, 2) := by decide +kernel
theorem zd_203_62 : decode (zm_cc 203) 62 = .ok (.goto (-24), 3) := by decide +kernel
theorem zd_203_65 : decode (zm_cc 203) 65 = .ok (.aload_n 0, 1) := by decide +kernel
theorem zd_203_66 : decode (zm_cc 203) 66 = .ok (.getfield 119, 3) := by decide +kernel
theorem zd_203_69 : decode (zm_cc 203) 69 = .ok (.istore 4, 2) := by decide +kernel
theorem zd_203_71 : decode (zm_cc 203) 71 = .ok (.iload_n 3, 1) := by decide +kernel
theorem zd_203_72 : decode (zm_cc 203) 72 = .ok (.istore 5, 2) := by decide +kernel
theorem zd_203_74 : decode (zm_cc 203) 74 = .ok (.iload 5, 2) := by decide +kernel
theorem zd_203_76 : decode (zm_cc 203) 76 = .ok (.ifCond .le 32, 3) := by decide +kernel
theorem zd_203_79 : decode (zm_cc 203) 79 = .ok (.iinc 4 (-1), 3) := by decide +kernel
theorem zd_203_82 : decode (zm_cc 203) 82 = .ok (.aload_n 0, 1) := by decide +kernel
theorem zd_203_83 : decode (zm_cc 203) 83 = .ok (.getfield 116, 3) := by decide +kernel
theorem zd_203_86 : decode (zm_cc 203) 86 = .ok (.iload 4, 2) := by decide +kernel
theorem zd_203_88 : decode (zm_cc 203) 88 = .ok (.aload_n 0, 1) := by decide +kernel
theorem zd_203_89 : decode (zm_cc 203) 89 = .ok (.getfield 104, 3) := by decide +kernel
theorem zd_203_92 : decode (zm_cc 203) 92 = .ok (.iload 5, 2) := by decide +kernel
theorem zd_203_94 : decode (zm_cc 203) 94 = .ok (.iaload, 1) := by decide +kernel
theorem zd_203_95 : decode (zm_cc 203) 95 = .ok (.iastore, 1) := by decide +kernel
theorem zd_203_96 : decode (zm_cc 203) 96 = .ok (.aload_n 0, 1) := by decide +kernel
theorem zd_203_97 : decode (zm_cc 203) 97 = .ok (.getfield 101, 3) := by decide +kernel
theorem zd_203_100 : decode (zm_cc 203) 100 = .ok (.iload 5, 2) := by decide +kernel
theorem zd_203_102 : decode (zm_cc 203) 102 = .ok (.iaload, 1) := by decide +kernel
theorem zd_203_103 : decode (zm_cc 203) 103 = .ok (.istore 5, 2) := by decide +kernel
theorem zd_203_105 : decode (zm_cc 203) 105 = .ok (.goto (-31), 3) := by decide +kernel
theorem zd_203_108 : decode (zm_cc 203) 108 = .ok (.iload_n 3, 1) := by decide +kernel
theorem zd_203_109 : decode (zm_cc 203) 109 = .ok (.ireturn, 1) := by decide +kernel
theorem zd_204_0 : decode (zm_cc 204) 0 = .ok (.iload_n 1, 1) := by decide +kernel
theorem zd_204_1 : decode (zm_cc 204) 1 = .ok (.ifCond .ne 27, 3) := by decide +kernel
theorem zd_204_4 : decode (zm_cc 204) 4 = .ok (.aload_n 0, 1) := by decide +kernel
theorem zd_204_5 : decode (zm_cc 204) 5 = .ok (.iload_n 2, 1) := by decide +kernel
theorem zd_204_6 : decode (zm_cc 204) 6 = .ok (.invokevirtual 431, 3) := by decide +kernel
theorem zd_204_9 : decode (zm_cc 204) 9 = .ok (.istore_n 3, 1) := by decide +kernel
theorem zd_204_10 : decode (zm_cc 204) 10 = .ok (.iload_n 3, 1) := by decide +kernel
theorem zd_204_11 : decode (zm_cc 204) 11 = .ok (.iconst (-1), 1) := by decide +kernel
theorem zd_204_12 : decode (zm_cc 204) 12 = .ok (.if_icmp .ne 7, 3) := by decide +kernel
theorem zd_204_15 : decode (zm_cc 204) 15 = .ok (.iconst (-1), 1) := by decide +kernel
theorem zd_204_16 : decode (zm_cc 204) 16 = .ok (.goto 11, 3) := by decide +kernel
theorem zd_204_19 : decode (zm_cc 204) 19 = .ok (.aload_n 0, 1) := by decide +kernel
theorem zd_204_20 : decode (zm_cc 204) 20 = .ok (.getfield 110, 3) := by decide +kernel
theorem zd_204_23 : decode (zm_cc 204) 23 = .ok (.iload_n 3, 1) := by decide +kernel
theorem zd_204_24 : decode (zm_cc 204) 24 = .ok (.iaload, 1) := by decide +kernel
theorem zd_204_25 : decode (zm_cc 204) 25 = .ok (.iconst 1, 1) := by decide +kernel
theorem zd_204_26 : decode (zm_cc 204) 26 = .ok (.isub, 1) := by decide +kernel
theorem zd_204_27 : decode (zm_cc 204) 27 = .ok (.ireturn, 1) := by decide +kernel
theorem zd_204_28 : decode (zm_cc 204) 28 = .ok (.iload_n 1, 1) := by decide +kernel
theorem zd_204_29 : decode (zm_cc 204) 29 = .ok (.iconst 3, 1) := by decide +kernel
theorem zd_204_30 : decode (zm_cc 204) 30 = .ok (.if_icmp .ne 28, 3) := by decide +kernel
theorem zd_204_33 : decode (zm_cc 204) 33 = .ok (.iload_n 2, 1) := by decide +kernel
theorem zd_204_34 : decode (zm_cc 204) 34 = .ok (.iconst 0, 1) := by decide +kernel
theorem zd_204_35 : decode (zm_cc 204) 35 = .ok (.aload_n 0, 1) := by decide +kernel
theorem zd_204_36 : decode (zm_cc 204) 36 = .ok (.getfield 392, 3) := by decide +kernel
theorem zd_204_39 : decode (zm_cc 204) 39 = .ok (.iconst 1, 1) := by decide +kernel
theorem zd_204_40 : decode (zm_cc 204) 40 = .ok (.isub, 1) := by decide +kernel
theorem zd_204_41 : decode (zm_cc 204) 41 = .ok (.invokestatic 128, 3) := by decide +kernel
theorem zd_204_44 : decode (zm_cc 204) 44 = .ok (.ifCond .eq 12, 3) := by decide +kernel
theorem zd_204_47 : decode (zm_cc 204) 47 = .ok (.aload_n 0, 1) := by decide +kernel
theorem zd_204_48 : decode (zm_cc 204) 48 = .ok (.getfield 113, 3) := by decide +kernel
theorem zd_204_51 : decode (zm_cc 204) 51 = .ok (.iload_n 2, 1) := by decide +kernel
theorem zd_204_52 : decode (zm_cc 204) 52 = .ok (.iaload, 1) := by decide +kernel
theorem zd_204_53 : decode (zm_cc 204) 53 = .ok (.goto 4, 3) := by decide +kernel
theorem zd_204_56 : decode (zm_cc 204) 56 = .ok (.iconst (-1), 1) := by decide +kernel
theorem zd_204_57 : decode (zm_cc 204) 57 = .ok (.ireturn, 1) := by decide +kernel
theorem zd_204_58 : decode (zm_cc 204) 58 = .ok (.iload_n 1, 1) := by decide +kernel
theorem zd_204_59 : decode (zm_cc 204) 59 = .ok (.iconst 1, 1) := by decide +kernel
theorem zd_204_60 : decode (zm_cc 204) 60 = .ok (.if_icmp .eq 15, 3) := by decide +kernel
theorem zd_204_63 : decode (zm_cc 204) 63 = .ok (.iload_n 1, 1) := by decide +kernel
theorem zd_204_64 : decode (zm_cc 204) 64 = .ok (.iconst 2, 1) := by decide +kernel
theorem zd_204_65 : decode (zm_cc 204) 65 = .ok (.if_icmp .eq 10, 3) := by decide +kernel
theorem zd_204_68 : decode (zm_cc 204) 68 = .ok (.iload_n 1, 1) := by decide +kernel
theorem zd_204_69 : decode (zm_cc 204) 69 = .ok (.iconst 4, 1) := by decide +kernel
theorem zd_204_70 : decode (zm_cc 204) 70 = .ok (.if_icmp .eq 5, 3) := by decide +kernel
theorem zd_204_73 : decode (zm_cc 204) 73 = .ok (.iconst (-1), 1) := by decide +kernel
theorem zd_204_74 : decode (zm_cc 204) 74 = .ok (.ireturn, 1) := by decide +kernel
theorem zd_204_75 : decode (zm_cc 204) 75 = .ok (.iload_n 2, 1) := by decide +kernel
theorem zd_204_76 : decode (zm_cc 204) 76 = .ok (.istore_n 3, 1) := by decide +kernel
theorem zd_204_77 : decode (zm_cc 204) 77 = .ok (.iconst 0, 1) := by decide +kernel
theorem zd_204_78 : decode (zm_cc 204) 78 = .ok (.istore 4, 2) := by decide +kernel
theorem zd_204_80 : decode (zm_cc 204) 80 = .ok (.iload 4, 2) := by decide +kernel
theorem zd_204_82 : decode (zm_cc 204) 82 = .ok (.aload_n 0, 1) := by decide +kernel
theorem zd_204_83 : decode (zm_cc 204) 83 = .ok (.getfield 419, 3) := by decide +kernel
theorem zd_204_86 : decode (zm_cc 204) 86 = .ok (.if_icmp .ge 33, 3) := by decide +kernel
theorem zd_204_89 : decode (zm_cc 204) 89 = .ok (.iload_n 2, 1) := by decide +kernel
theorem zd_204_90 : decode (zm_cc 204) 90 = .ok (.ifCond .lt 29, 3) := by decide +kernel
theorem zd_204_93 : decode (zm_cc 204) 93 = .ok (.aload_n 0, 1) := by decide +kernel
theorem zd_204_94 : decode (zm_cc 204) 94 = .ok (.iload 4, 2) := by decide +kernel
theorem zd_204_96 : decode (zm_cc 204) 96 = .ok (.iload_n 1, 1) := by decide +kernel
theorem zd_204_97 : decode (zm_cc 204) 97 = .ok (.invokevirtual 422, 3) := by decide +kernel
theorem zd_204_100 : decode (zm_cc 204) 100 = .ok (.ifCond .eq 13, 3) := by decide +kernel
theorem zd_204_103 : decode (zm_cc 204) 103 = .ok (.iload_n 3, 1) := by decide +kernel
theorem zd_204_104 : decode (zm_cc 204) 104 = .ok (.ifCond .ne 6, 3) := by decide +kernel
theorem zd_204_107 : decode (zm_cc 204) 107 = .ok (.iload 4, 2) := by decide +kernel
theorem zd_204_109 : decode (zm_cc 204) 109 = .ok (.ireturn, 1) := by decide +kernel
theorem zd_204_110 : decode (zm_cc 204) 110 = .ok (.iinc 3 (-1), 3) := by decide +kernel
theorem zd_204_113 : decode (zm_cc 204) 113 = .ok (.iinc 4 1, 3) := by decide +kernel
theorem zd_204_116 : decode (zm_cc 204) 116 = .ok (.goto (-36), 3) := by decide +kernel
theorem zd_204_119 : decode (zm_cc 204) 119 = .ok (.iconst (-1), 1) := by decide +kernel
theorem zd_204_120 : decode (zm_cc 204) 120 = .ok (.ireturn, 1) := by decide +kernel
theorem zd_205_0 : decode (zm_cc 205) 0 = .ok (.iload_n 1, 1) := by decide +kernel
theorem zd_205_1 : decode (zm_cc 205) 1 = .ok (.istore_n 2, 1) := by decide +kernel
theorem zd_205_2 : decode (zm_cc 205) 2 = .ok (.iconst 0, 1) := by decide +kernel
theorem zd_205_3 : decode (zm_cc 205) 3 = .ok (.istore_n 3, 1) := by decide +kernel
theorem zd_205_4 : decode (zm_cc 205) 4 = .ok (.iload_n 3, 1) := by decide +kernel
theorem zd_205_5 : decode (zm_cc 205) 5 = .ok (.sipush 9216, 3) := by decide +kernel
theorem zd_205_8 : decode (zm_cc 205) 8 = .ok (.if_icmp .ge 31, 3) := by decide +kernel
theorem zd_205_11 : decode (zm_cc 205) 11 = .ok (.iload_n 1, 1) := by decide +kernel
theorem zd_205_12 : decode (zm_cc 205) 12 = .ok (.ifCond .lt 27, 3) := by decide +kernel
theorem zd_205_15 : decode (zm_cc 205) 15 = .ok (.aload_n 0, 1) := by decide +kernel
theorem zd_205_16 : decode (zm_cc 205) 16 = .ok (.getfield 110, 3) := by decide +kernel
theorem zd_205_19 : decode (zm_cc 205) 19 = .ok (.iload_n 3, 1) := by decide +kernel
theorem zd_205_20 : decode (zm_cc 205) 20 = .ok (.iaload, 1) := by decide +kernel
theorem zd_205_21 : decode (zm_cc 205) 21 = .ok (.ifCond .le 12, 3) := by decide +kernel
theorem zd_205_24 : decode (zm_cc 205) 24 = .ok (.iload_n 2, 1) := by decide +kernel
theorem zd_205_25 : decode (zm_cc 205) 25 = .ok (.ifCond .ne 5, 3) := by decide +kernel
theorem zd_205_28 : decode (zm_cc 205) 28 = .ok (.iload_n 3, 1) := by decide +kernel
theorem zd_205_29 : decode (zm_cc 205) 29 = .ok (.ireturn, 1) := by decide +kernel
theorem zd_205_30 : decode (zm_cc 205) 30 = .ok (.iinc 2 (-1), 3) := by decide +kernel
theorem zd_205_33 : decode (zm_cc 205) 33 = .ok (.iinc 3 1, 3) := by decide +kernel
theorem zd_205_36 : decode (zm_cc 205) 36 = .ok (.goto (-32), 3) := by decide +kernel
theorem zd_205_39 : decode (zm_cc 205) 39 = .ok (.iconst (-1), 1) := by decide +kernel
theorem zd_205_40 : decode (zm_cc 205) 40 = .ok (.ireturn, 1) := by decide +kernel
theorem zd_206_0 : decode (zm_cc 206) 0 = .ok (.aload_n 0, 1) := by decide +kernel
theorem zd_206_1 : decode (zm_cc 206) 1 = .ok (.getfield 80, 3) := by decide +kernel
theorem zd_206_4 : decode (zm_cc 206) 4 = .ok (.iconst (-1), 1) := by decide +kernel
theorem zd_206_5 : decode (zm_cc 206) 5 = .ok (.if_icmp .ne 8, 3) := by decide +kernel
theorem zd_206_8 : decode (zm_cc 206) 8 = .ok (.bipush (-101), 2) := by decide +kernel
theorem zd_206_10 : decode (zm_cc 206) 10 = .ok (.goto 7, 3) := by decide +kernel
theorem zd_206_13 : decode (zm_cc 206) 13 = .ok (.aload_n 0, 1) := by decide +kernel
theorem zd_206_14 : decode (zm_cc 206) 14 = .ok (.getfield 80, 3) := by decide +kernel
theorem zd_206_17 : decode (zm_cc 206) 17 = .ok (.ireturn, 1) := by decide +kernel
theorem zd_207_0 : decode (zm_cc 207) 0 = .ok (.aload_n 0, 1) := by decide +kernel
theorem zd_207_1 : decode (zm_cc 207) 1 = .ok (.iconst 0, 1) := by decide +kernel
theorem zd_207_2 : decode (zm_cc 207) 2 = .ok (.putfield 1, 3) := by decide +kernel
theorem zd_207_5 : decode (zm_cc 207) 5 = .ok (.aload_n 0, 1) := by decide +kernel
theorem zd_207_6 : decode (zm_cc 207) 6 = .ok (.getfield 322, 3) := by decide +kernel
theorem zd_207_9 : decode (zm_cc 207) 9 = .ok (.ifCond .eq 18, 3) := by decide +kernel
theorem zd_207_12 : decode (zm_cc 207) 12 = .ok (.aload_n 0, 1) := by decide +kernel
theorem zd_207_13 : decode (zm_cc 207) 13 = .ok (.getfield 119, 3) := by decide +kernel
theorem zd_207_16 : decode (zm_cc 207) 16 = .ok (.iconst (-1), 1) := by decide +kernel
theorem zd_207_17 : decode (zm_cc 207) 17 = .ok (.if_icmp .eq 10, 3) := by decide +kernel
theorem zd_207_20 : decode (zm_cc 207) 20 = .ok (.aload_n 0, 1) := by decide +kernel
theorem zd_207_21 : decode (zm_cc 207) 21 = .ok (.getfield 119, 3) := by decide +kernel
theorem zd_207_24 : decode (zm_cc 207) 24 = .ok (.goto 5, 3) := by decide +kernel
theorem zd_207_27 : decode (zm_cc 207) 27 = .ok (.bipush (-101), 2) := by decide +kernel
theorem zd_207_29 : decode (zm_cc 207) 29 = .ok (.ireturn, 1) := by decide +kernel
theorem zd_208_0 : decode (zm_cc 208) 0 = .ok (.aload_n 0, 1) := by decide +kernel
theorem zd_208_1 : decode (zm_cc 208) 1 = .ok (.getfield 80, 3) := by decide +kernel
theorem zd_208_4 : decode (zm_cc 208) 4 = .ok (.iconst (-1), 1) := by decide +kernel
theorem zd_208_5 : decode (zm_cc 208) 5 = .ok (.if_icmp .ne 6, 3) := by decide +kernel
theorem zd_208_8 : decode (zm_cc 208) 8 = .ok (.bipush (-101), 2) := by decide +kernel
theorem zd_208_10 : decode (zm_cc 208) 10 = .ok (.ireturn, 1) := by decide +kernel
theorem zd_208_11 : decode (zm_cc 208) 11 = .ok (.iload_n 1, 1) := by decide +kernel
theorem zd_208_12 : decode (zm_cc 208) 12 = .ok (.ifCond .lt 18, 3) := by decide +kernel
theorem zd_208_15 : decode (zm_cc 208) 15 = .ok (.iload_n 1, 1) := by decide +kernel
theorem zd_208_16 : decode (zm_cc 208) 16 = .ok (.aload_n 0, 1) := by decide +kernel
theorem zd_208_17 : decode (zm_cc 208) 17 = .ok (.getfield 80, 3) := by decide +kernel
theorem zd_208_20 : decode (zm_cc 208) 20 = .ok (.if_icmp .ge 10, 3) := by decide +kernel
theorem zd_208_23 : decode (zm_cc 208) 23 = .ok (.iload_n 1, 1) := by decide +kernel
theorem zd_208_24 : decode (zm_cc 208) 24 = .ok (.sipush 4000, 3) := by decide +kernel
theorem zd_208_27 : decode (zm_cc 208) 27 = .ok (.if_icmp .lt 8, 3) := by decide +kernel
theorem zd_208_30 : decode (zm_cc 208) 30 = .ok (.bipush (-102), 2) := by decide +kernel
theorem zd_208_32 : decode (zm_cc 208) 32 = .ok (.goto 9, 3) := by decide +kernel
theorem zd_208_35 : decode (zm_cc 208) 35 = .ok (.aload_n 0, 1) := by decide +kernel
theorem zd_208_36 : decode (zm_cc 208) 36 = .ok (.getfield 77, 3) := by decide +kernel
theorem zd_208_39 : decode (zm_cc 208) 39 = .ok (.iload_n 1, 1) := by decide +kernel
theorem zd_208_40 : decode (zm_cc 208) 40 = .ok (.iaload, 1) := by decide +kernel
theorem zd_208_41 : decode (zm_cc 208) 41 = .ok (.ireturn, 1) := by decide +kernel
theorem zd_209_0 : decode (zm_cc 209) 0 = .ok (.aload_n 0, 1) := by decide +kernel
theorem zd_209_1 : decode (zm_cc 209) 1 = .ok (.iconst 0, 1) := by decide +kernel
theorem zd_209_2 : decode (zm_cc 209) 2 = .ok (.putfield 1, 3) := by decide +kernel
theorem zd_209_5 : decode (zm_cc 209) 5 = .ok (.aload_n 0, 1) := by decide +kernel
theorem zd_209_6 : decode (zm_cc 209) 6 = .ok (.getfield 322, 3) := by decide +kernel
theorem zd_209_9 : decode (zm_cc 209) 9 = .ok (.ifCond .eq 11, 3) := by decide +kernel
theorem zd_209_12 : decode (zm_cc 209) 12 = .ok (.aload_n 0, 1) := by decide +kernel
theorem zd_209_13 : decode (zm_cc 209) 13 = .ok (.getfield 119, 3) := by decide +kernel
theorem zd_209_16 : decode (zm_cc 209) 16 = .ok (.iconst (-1), 1) := by decide +kernel
theorem zd_209_17 : decode (zm_cc 209) 17 = .ok (.if_icmp .ne 6, 3) := by decide +kernel
theorem zd_209_20 : decode (zm_cc 209) 20 = .ok (.bipush (-101), 2) := by decide +kernel
theorem zd_209_22 : decode (zm_cc 209) 22 = .ok (.ireturn, 1) := by decide +kernel
theorem zd_209_23 : decode (zm_cc 209) 23 = .ok (.iload_n 1, 1) := by decide +kernel
theorem zd_209_24 : decode (zm_cc 209) 24 = .ok (.iconst 0, 1) := by decide +kernel
theorem zd_209_25 : decode (zm_cc 209) 25 = .ok (.aload_n 0, 1) := by decide +kernel
theorem zd_209_26 : decode (zm_cc 209) 26 = .ok (.getfield 119, 3) := by decide +kernel
theorem zd_209_29 : decode (zm_cc 209) 29 = .ok (.iconst 1, 1) := by decide +kernel
theorem zd_209_30 : decode (zm_cc 209) 30 = .ok (.isub, 1) := by decide +kernel
theorem zd_209_31 : decode (zm_cc 209) 31 = .ok (.invokestatic 128, 3) := by decide +kernel
theorem zd_209_34 : decode (zm_cc 209) 34 = .ok (.ifCond .eq 12, 3) := by decide +kernel
theorem zd_209_37 : decode (zm_cc 209) 37 = .ok (.aload_n 0, 1) := by decide +kernel
theorem zd_209_38 : decode (zm_cc 209) 38 = .ok (.getfield 116, 3) := by decide +kernel
theorem zd_209_41 : decode (zm_cc 209) 41 = .ok (.iload_n 1, 1) := by decide +kernel
theorem zd_209_42 : decode (zm_cc 209) 42 = .ok (.iaload, 1) := by decide +kernel
theorem zd_209_43 : decode (zm_cc 209) 43 = .ok (.goto 5, 3) := by decide +kernel
theorem zd_209_46 : decode (zm_cc 209) 46 = .ok (.bipush (-102), 2) := by decide +kernel
theorem zd_209_48 : decode (zm_cc 209) 48 = .ok (.ireturn, 1) := by decide +kernel
theorem zd_210_0 : decode (zm_cc 210) 0 = .ok (.aload_n 0, 1) := by decide +kernel
theorem zd_210_1 : decode (zm_cc 210) 1 = .ok (.getfield 117, 3) := by decide +kernel
theorem zd_210_4 : decode (zm_cc 210) 4 = .ok (.ifCond .ne 6, 3) := by decide +kernel
theorem zd_210_7 : decode (zm_cc 210) 7 = .ok (.bipush (-101), 2) := by decide +kernel
theorem zd_210_9 : decode (zm_cc 210) 9 = .ok (.ireturn, 1) := by decide +kernel
theorem zd_210_10 : decode (zm_cc 210) 10 = .ok (.aload_n 0, 1) := by decide +kernel
theorem zd_210_11 : decode (zm_cc 210) 11 = .ok (.getfield 16, 3) := by decide +kernel
theorem zd_210_14 : decode (zm_cc 210) 14 = .ok (.aload_n 0, 1) := by decide +kernel
theorem zd_210_15 : decode (zm_cc 210) 15 = .ok (.getfield 50, 3) := by decide +kernel
theorem zd_210_18 : decode (zm_cc 210) 18 = .ok (.getfield 190, 3) := by decide +kernel
theorem zd_210_21 : decode (zm_cc 210) 21 = .ok (.iload_n 1, 1) := by decide +kernel
theorem zd_210_22 : decode (zm_cc 210) 22 = .ok (.invokevirtual 212, 3) := by decide +kernel
theorem zd_210_25 : decode (zm_cc 210) 25 = .ok (.iload_n 2, 1) := by decide +kernel
theorem zd_210_26 : decode (zm_cc 210) 26 = .ok (.invokevirtual 216, 3) := by decide +kernel
theorem zd_210_29 : decode (zm_cc 210) 29 = .ok (.ireturn, 1) := by decide +kernel
theorem zd_211_0 : decode (zm_cc 211) 0 = .ok (.iload_n 1, 1) := by decide +kernel
theorem zd_211_1 : decode (zm_cc 211) 1 = .ok (.bipush 96, 2) := by decide +kernel
theorem zd_211_3 : decode (zm_cc 211) 3 = .ok (.idiv, 1) := by decide +kernel
theorem zd_211_4 : decode (zm_cc 211) 4 = .ok (.istore_n 3, 1) := by decide +kernel
theorem zd_211_5 : decode (zm_cc 211) 5 = .ok (.iload_n 1, 1) := by decide +kernel
theorem zd_211_6 : decode (zm_cc 211) 6 = .ok (.bipush 96, 2) := by decide +kernel
theorem zd_211_8 : decode (zm_cc 211) 8 = .ok (.irem, 1) := by decide +kernel
theorem zd_211_9 : decode (zm_cc 211) 9 = .ok (.istore 4, 2) := by decide +kernel
theorem zd_211_11 : decode (zm_cc 211) 11 = .ok (.iload_n 1, 1) := by decide +kernel
theorem zd_211_12 : decode (zm_cc 211) 12 = .ok (.ifCond .lt 9, 3) := by decide +kernel
theorem zd_211_15 : decode (zm_cc 211) 15 = .ok (.iload_n 3, 1) := by decide +kernel
theorem zd_211_16 : decode (zm_cc 211) 16 = .ok (.bipush 96, 2) := by decide +kernel
theorem zd_211_18 : decode (zm_cc 211) 18 = .ok (.if_icmp .lt 6, 3) := by decide +kernel
theorem zd_211_21 : decode (zm_cc 211) 21 = .ok (.bipush (-102), 2) := by decide +kernel
theorem zd_211_23 : decode (zm_cc 211) 23 = .ok (.ireturn, 1) := by decide +kernel
theorem zd_211_24 : decode (zm_cc 211) 24 = .ok (.iload_n 2, 1) := by decide +kernel
theorem zd_211_25 : decode (zm_cc 211) 25 = .ok (.tableswitch 64 0 4 #[35, 40, 45, 51, 57], 35) := by decide +kernel
theorem zd_211_60 : decode (zm_cc 211) 60 = .ok (.iload_n 3, 1) := by decide +kernel
theorem zd_211_61 : decode (zm_cc 211) 61 = .ok (.bipush 24, 2) := by decide +kernel
theorem zd_211_63 : decode (zm_cc 211) 63 = .ok (.idiv, 1) := by decide +kernel
theorem zd_211_64 : decode (zm_cc 211) 64 = .ok (.ireturn, 1) := by decide +kernel
theorem zd_211_65 : decode (zm_cc 211) 65 = .ok (.iload_n 3, 1) := by decide +kernel
theorem zd_211_66 : decode (zm_cc 211) 66 = .ok (.bipush 24, 2) := by decide +kernel
theorem zd_211_68 : decode (zm_cc 211) 68 = .ok (.irem, 1) := by decide +kernel
theorem zd_211_69 : decode (zm_cc 211) 69 = .ok (.ireturn, 1) := by decide +kernel
theorem zd_211_70 : decode (zm_cc 211) 70 = .ok (.iload 4, 2) := by decide +kernel
theorem zd_211_72 : decode (zm_cc 211) 72 = .ok (.bipush 24, 2) := by decide +kernel
theorem zd_211_74 : decode (zm_cc 211) 74 = .ok (.idiv, 1) := by decide +kernel
theorem zd_211_75 : decode (zm_cc 211) 75 = .ok (.ireturn, 1) := by decide +kernel
theorem zd_211_76 : decode (zm_cc 211) 76 = .ok (.iload 4, 2) := by decide +kernel
theorem zd_211_78 : decode (zm_cc 211) 78 = .ok (.bipush 24, 2) := by decide +kernel
theorem zd_211_80 : decode (zm_cc 211) 80 = .ok (.irem, 1) := by decide +kernel
theorem zd_211_81 : decode (zm_cc 211) 81 = .ok (.ireturn, 1) := by decide +kernel
theorem zd_211_82 : decode (zm_cc 211) 82 = .ok (.aload_n 0, 1) := by decide +kernel
theorem zd_211_83 : decode (zm_cc 211) 83 = .ok (.getfield 21, 3) := by decide +kernel
theorem zd_211_86 : decode (zm_cc 211) 86 = .ok (.iload_n 3, 1) := by decide +kernel
theorem zd_211_87 : decode (zm_cc 211) 87 = .ok (.iaload, 1) := by decide +kernel
theorem zd_211_88 : decode (zm_cc 211) 88 = .ok (.ireturn, 1) := by decide +kernel
theorem zd_211_89 : decode (zm_cc 211) 89 = .ok (.bipush (-102), 2) := by decide +kernel
theorem zd_211_91 : decode (zm_cc 211) 91 = .ok (.ireturn, 1) := by decide +kernel
theorem zd_212_0 : decode (zm_cc 212) 0 = .ok (.aload_n 0, 1) := by decide +kernel
theorem zd_212_1 : decode (zm_cc 212) 1 = .ok (.iconst 0, 1) := by decide +kernel
theorem zd_212_2 : decode (zm_cc 212) 2 = .ok (.putfield 1, 3) := by decide +kernel
theorem zd_212_5 : decode (zm_cc 212) 5 = .ok (.aload_n 0, 1) := by decide +kernel
theorem zd_212_6 : decode (zm_cc 212) 6 = .ok (.getfield 322, 3) := by decide +kernel
theorem zd_212_9 : decode (zm_cc 212) 9 = .ok (.ifCond .ne 6, 3) := by decide +kernel
theorem zd_212_12 : decode (zm_cc 212) 12 = .ok (.bipush (-101), 2) := by decide +kernel
theorem zd_212_14 : decode (zm_cc 212) 14 = .ok (.ireturn, 1) := by decide +kernel
theorem zd_212_15 : decode (zm_cc 212) 15 = .ok (.aload_n 0, 1) := by decide +kernel
theorem zd_212_16 : decode (zm_cc 212) 16 = .ok (.iload_n 1, 1) := by decide +kernel
theorem zd_212_17 : decode (zm_cc 212) 17 = .ok (.invokevirtual 431, 3) := by decide +kernel
theorem zd_212_20 : decode (zm_cc 212) 20 = .ok (.istore_n 3, 1) := by decide +kernel
theorem zd_212_21 : decode (zm_cc 212) 21 = .ok (.iload_n 3, 1) := by decide +kernel
theorem zd_212_22 : decode (zm_cc 212) 22 = .ok (.iconst (-1), 1) := by decide +kernel
theorem zd_212_23 : decode (zm_cc 212) 23 = .ok (.if_icmp .ne 8, 3) := by decide +kernel
theorem zd_212_26 : decode (zm_cc 212) 26 = .ok (.bipush (-102), 2) := by decide +kernel
theorem zd_212_28 : decode (zm_cc 212) 28 = .ok (.goto 9, 3) := by decide +kernel
theorem zd_212_31 : decode (zm_cc 212) 31 = .ok (.aload_n 0, 1) := by decide +kernel
theorem zd_212_32 : decode (zm_cc 212) 32 = .ok (.iload_n 3, 1) := by decide +kernel
theorem zd_212_33 : decode (zm_cc 212) 33 = .ok (.iload_n 2, 1) := by decide +kernel
theorem zd_212_34 : decode (zm_cc 212) 34 = .ok (.invokevirtual 437, 3) := by decide +kernel
theorem zd_212_37 : decode (zm_cc 212) 37 = .ok (.ireturn, 1) := by decide +kernel
theorem zd_213_0 : decode (zm_cc 213) 0 = .ok (.iload_n 1, 1) := by decide +kernel
theorem zd_213_1 : decode (zm_cc 213) 1 = .ok (.bipush 96, 2) := by decide +kernel
theorem zd_213_3 : decode (zm_cc 213) 3 = .ok (.idiv, 1) := by decide +kernel
theorem zd_213_4 : decode (zm_cc 213) 4 = .ok (.istore_n 3, 1) := by decide +kernel
theorem zd_213_5 : decode (zm_cc 213) 5 = .ok (.iload_n 1, 1) := by decide +kernel
theorem zd_213_6 : decode (zm_cc 213) 6 = .ok (.bipush 96, 2) := by decide +kernel
theorem zd_213_8 : decode (zm_cc 213) 8 = .ok (.irem, 1) := by decide +kernel
theorem zd_213_9 : decode (zm_cc 213) 9 = .ok (.istore 4, 2) := by decide +kernel
theorem zd_213_11 : decode (zm_cc 213) 11 = .ok (.iload_n 2, 1) := by decide +kernel
theorem zd_213_12 : decode (zm_cc 213) 12 = .ok (.tableswitch 65 0 4 #[36, 41, 46, 52, 58], 36) := by decide +kernel
theorem zd_213_48 : decode (zm_cc 213) 48 = .ok (.iload_n 3, 1) := by decide +kernel
theorem zd_213_49 : decode (zm_cc 213) 49 = .ok (.bipush 24, 2) := by decide +kernel
theorem zd_213_51 : decode (zm_cc 213) 51 = .ok (.idiv, 1) := by decide +kernel
theorem zd_213_52 : decode (zm_cc 213) 52 = .ok (.ireturn, 1) := by decide +kernel
theorem zd_213_53 : decode (zm_cc 213) 53 = .ok (.iload_n 3, 1) := by decide +kernel
theorem zd_213_54 : decode (zm_cc 213) 54 = .ok (.bipush 24, 2) := by decide +kernel
theorem zd_213_56 : decode (zm_cc 213) 56 = .ok (.irem, 1) := by decide +kernel
theorem zd_213_57 : decode (zm_cc 213) 57 = .ok (.ireturn, 1) := by decide +kernel
theorem zd_213_58 : decode (zm_cc 213) 58 = .ok (.iload 4, 2) := by decide +kernel
theorem zd_213_60 : decode (zm_cc 213) 60 = .ok (.bipush 24, 2) := by decide +kernel
theorem zd_213_62 : decode (zm_cc 213) 62 = .ok (.idiv, 1) := by decide +kernel
theorem zd_213_63 : decode (zm_cc 213) 63 = .ok (.ireturn, 1) := by decide +kernel
theorem zd_213_64 : decode (zm_cc 213) 64 = .ok (.iload 4, 2) := by decide +kernel
theorem zd_213_66 : decode (zm_cc 213) 66 = .ok (.bipush 24, 2) := by decide +kernel
theorem zd_213_68 : decode (zm_cc 213) 68 = .ok (.irem, 1) := by decide +kernel
theorem zd_213_69 : decode (zm_cc 213) 69 = .ok (.ireturn, 1) := by decide +kernel
theorem zd_213_70 : decode (zm_cc 213) 70 = .ok (.aload_n 0, 1) := by decide +kernel
theorem zd_213_71 : decode (zm_cc 213) 71 = .ok (.getfield 46, 3) := by decide +kernel
theorem zd_213_74 : decode (zm_cc 213) 74 = .ok (.iload_n 3, 1) := by decide +kernel
theorem zd_213_75 : decode (zm_cc 213) 75 = .ok (.iaload, 1) := by decide +kernel
theorem zd_213_76 : decode (zm_cc 213) 76 = .ok (.ireturn, 1) := by decide +kernel
theorem zd_213_77 : decode (zm_cc 213) 77 = .ok (.bipush (-102), 2) := by decide +kernel
theorem zd_213_79 : decode (zm_cc 213) 79 = .ok (.ireturn, 1) := by decide +kernel
theorem zd_214_0 : decode (zm_cc 214) 0 = .ok (.aload_n 0, 1) := by decide +kernel
theorem zd_214_1 : decode (zm_cc 214) 1 = .ok (.getfield 117, 3) := by decide +kernel
theorem zd_214_4 : decode (zm_cc 214) 4 = .ok (.ifCond .ne 6, 3) := by decide +kernel
theorem zd_214_7 : decode (zm_cc 214) 7 = .ok (.bipush (-101), 2) := by decide +kernel
theorem zd_214_9 : decode (zm_cc 214) 9 = .ok (.ireturn, 1) := by decide +kernel
theorem zd_214_10 : decode (zm_cc 214) 10 = .ok (.aload_n 0, 1) := by decide +kernel
theorem zd_214_11 : decode (zm_cc 214) 11 = .ok (.getfield 16, 3) := by decide +kernel
theorem zd_214_14 : decode (zm_cc 214) 14 = .ok (.iload_n 2, 1) := by decide +kernel
theorem zd_214_15 : decode (zm_cc 214) 15 = .ok (.invokevirtual 219, 3) := by decide +kernel
theorem zd_214_18 : decode (zm_cc 214) 18 = .ok (.ifCond .eq 14, 3) := by decide +kernel
theorem zd_214_21 : decode (zm_cc 214) 21 = .ok (.aload_n 0, 1) := by decide +kernel
theorem zd_214_22 : decode (zm_cc 214) 22 = .ok (.getfield 43, 3) := by decide +kernel
theorem zd_214_25 : decode (zm_cc 214) 25 = .ok (.iload_n 1, 1) := by decide +kernel
theorem zd_214_26 : decode (zm_cc 214) 26 = .ok (.invokevirtual 222, 3) := by decide +kernel
theorem zd_214_29 : decode (zm_cc 214) 29 = .ok (.ifCond .ne 6, 3) := by decide +kernel
theorem zd_214_32 : decode (zm_cc 214) 32 = .ok (.bipush (-102), 2) := by decide +kernel
theorem zd_214_34 : decode (zm_cc 214) 34 = .ok (.ireturn, 1) := by decide +kernel
theorem zd_214_35 : decode (zm_cc 214) 35 = .ok (.aload_n 0, 1) := by decide +kernel
theorem zd_214_36 : decode (zm_cc 214) 36 = .ok (.getfield 43, 3) := by decide +kernel
theorem zd_214_39 : decode (zm_cc 214) 39 = .ok (.iload_n 1, 1) := by decide +kernel
theorem zd_214_40 : decode (zm_cc 214) 40 = .ok (.invokevirtual 225, 3) := by decide +kernel
theorem zd_214_43 : decode (zm_cc 214) 43 = .ok (.iload_n 3, 1) := by decide +kernel
theorem zd_214_44 : decode (zm_cc 214) 44 = .ok (.tableswitch 87 0 5 #[40, 49, 58, 75, 75, 75], 40) := by decide +kernel
theorem zd_214_84 : decode (zm_cc 214) 84 = .ok (.aload_n 0, 1) := by decide +kernel
theorem zd_214_85 : decode (zm_cc 214) 85 = .ok (.getfield 34, 3) := by decide +kernel
theorem zd_214_88 : decode (zm_cc 214) 88 = .ok (.iload_n 2, 1) := by decide +kernel
theorem zd_214_89 : decode (zm_cc 214) 89 = .ok (.invokevirtual 228, 3) := by decide +kernel
theorem zd_214_92 : decode (zm_cc 214) 92 = .ok (.ireturn, 1) := by decide +kernel
theorem zd_214_93 : decode (zm_cc 214) 93 = .ok (.aload_n 0, 1) := by decide +kernel
theorem zd_214_94 : decode (zm_cc 214) 94 = .ok (.getfield 34, 3) := by decide +kernel
theorem zd_214_97 : decode (zm_cc 214) 97 = .ok (.iload_n 2, 1) := by decide +kernel
theorem zd_214_98 : decode (zm_cc 214) 98 = .ok (.invokevirtual 231, 3) := by decide +kernel
theorem zd_214_101 : decode (zm_cc 214) 101 = .ok (.ireturn, 1) := by decide +kernel
theorem zd_214_102 : decode (zm_cc 214) 102 = .ok (.aload_n 0, 1) := by decide +kernel
theorem zd_214_103 : decode (zm_cc 214) 103 = .ok (.getfield 34, 3) := by decide +kernel
theorem zd_214_106 : decode (zm_cc 214) 106 = .ok (.iload_n 2, 1) := by decide +kernel
theorem zd_214_107 : decode (zm_cc 214) 107 = .ok (.invokevirtual 234, 3) := by decide +kernel
theorem zd_214_110 : decode (zm_cc 214) 110 = .ok (.ifCond .eq 7, 3) := by decide +kernel
theorem zd_214_113 : decode (zm_cc 214) 113 = .ok (.iconst 1, 1) := by decide +kernel
theorem zd_214_114 : decode (zm_cc 214) 114 = .ok (.goto 4, 3) := by decide +kernel
theorem zd_214_117 : decode (zm_cc 214) 117 = .ok (.iconst 0, 1) := by decide +kernel
theorem zd_214_118 : decode (zm_cc 214) 118 = .ok (.ireturn, 1) := by decide +kernel
theorem zd_214_119 : decode (zm_cc 214) 119 = .ok (.aload_n 0, 1) := by decide +kernel
theorem zd_214_120 : decode (zm_cc 214) 120 = .ok (.getfield 34, 3) := by decide +kernel
theorem zd_214_123 : decode (zm_cc 214) 123 = .ok (.iload_n 2, 1) := by decide +kernel
theorem zd_214_124 : decode (zm_cc 214) 124 = .ok (.iload_n 3, 1) := by decide +kernel
theorem zd_214_125 : decode (zm_cc 214) 125 = .ok (.iconst 3, 1) := by decide +kernel
theorem zd_214_126 : decode (zm_cc 214) 126 = .ok (.isub, 1) := by decide +kernel
theorem zd_214_127 : decode (zm_cc 214) 127 = .ok (.invokevirtual 237, 3) := by decide +kernel
theorem zd_214_130 : decode (zm_cc 214) 130 = .ok (.ireturn, 1) := by decide +kernel
theorem zd_214_131 : decode (zm_cc 214) 131 = .ok (.bipush (-102), 2) := by decide +kernel
theorem zd_214_133 : decode (zm_cc 214) 133 = .ok (.ireturn, 1) := by decide +kernel
theorem zd_215_0 : decode (zm_cc 215) 0 = .ok (.iload_n 1, 1) := by decide +kernel
theorem zd_215_1 : decode (zm_cc 215) 1 = .ok (.ifCond .lt 20, 3) := by decide +kernel
theorem zd_215_4 : decode (zm_cc 215) 4 = .ok (.iload_n 1, 1) := by decide +kernel
theorem zd_215_5 : decode (zm_cc 215) 5 = .ok (.aload_n 0, 1) := by decide +kernel
theorem zd_215_6 : decode (zm_cc 215) 6 = .ok (.getfield 55, 3) := by decide +kernel
theorem zd_215_9 : decode (zm_cc 215) 9 = .ok (.if_icmp .ge 12, 3) := by decide +kernel
theorem zd_215_12 : decode (zm_cc 215) 12 = .ok (.iload_n 1, 1) := by decide +kernel
theorem zd_215_13 : decode (zm_cc 215) 13 = .ok (.iconst 4, 1) := by decide +kernel
theorem zd_215_14 : decode (zm_cc 215) 14 = .ok (.if_icmp .ge 7, 3) := by decide +kernel
theorem zd_215_17 : decode (zm_cc 215) 17 = .ok (.iconst 1, 1) := by decide +kernel
theorem zd_215_18 : decode (zm_cc 215) 18 = .ok (.goto 4, 3) := by decide +kernel
theorem zd_215_21 : decode (zm_cc 215) 21 = .ok (.iconst 0, 1) := by decide +kernel
theorem zd_215_22 : decode (zm_cc 215) 22 = .ok (.ireturn, 1) := by decide +kernel
theorem zd_216_0 : decode (zm_cc 216) 0 = .ok (.aload_n 0, 1) := by decide +kernel
theorem zd_216_1 : decode (zm_cc 216) 1 = .ok (.iconst 0, 1) := by decide +kernel
theorem zd_216_2 : decode (zm_cc 216) 2 = .ok (.putfield 1, 3) := by decide +kernel
theorem zd_216_5 : decode (zm_cc 216) 5 = .ok (.aload_n 0, 1) := by decide +kernel
theorem zd_216_6 : decode (zm_cc 216) 6 = .ok (.getfield 322, 3) := by decide +kernel
theorem zd_216_9 : decode (zm_cc 216) 9 = .ok (.ifCond .ne 6, 3) := by decide +kernel
theorem zd_216_12 : decode (zm_cc 216) 12 = .ok (.bipush (-101), 2) := by decide +kernel
theorem zd_216_14 : decode (zm_cc 216) 14 = .ok (.ireturn, 1) := by decide +kernel
theorem zd_216_15 : decode (zm_cc 216) 15 = .ok (.aload_n 0, 1) := by decide +kernel
theorem zd_216_16 : decode (zm_cc 216) 16 = .ok (.iload_n 1, 1) := by decide +kernel
theorem zd_216_17 : decode (zm_cc 216) 17 = .ok (.invokevirtual 440, 3) := by decide +kernel
theorem zd_216_20 : decode (zm_cc 216) 20 = .ok (.ifCond .eq 26, 3) := by decide +kernel
theorem zd_216_23 : decode (zm_cc 216) 23 = .ok (.iload_n 2, 1) := by decide +kernel
theorem zd_216_24 : decode (zm_cc 216) 24 = .ok (.iconst 0, 1) := by decide +kernel
theorem zd_216_25 : decode (zm_cc 216) 25 = .ok (.aload_n 0, 1) := by decide +kernel
theorem zd_216_26 : decode (zm_cc 216) 26 = .ok (.getfield 225, 3) := by decide +kernel
theorem zd_216_29 : decode (zm_cc 216) 29 = .ok (.iconst 1, 1) := by decide +kernel
theorem zd_216_30 : decode (zm_cc 216) 30 = .ok (.isub, 1) := by decide +kernel
theorem zd_216_31 : decode (zm_cc 216) 31 = .ok (.invokestatic 128, 3) := by decide +kernel
theorem zd_216_34 : decode (zm_cc 216) 34 = .ok (.ifCond .eq 12, 3) := by decide +kernel
theorem zd_216_37 : decode (zm_cc 216) 37 = .ok (.iload_n 3, 1) := by decide +kernel
theorem zd_216_38 : decode (zm_cc 216) 38 = .ok (.iconst 0, 1) := by decide +kernel
theorem zd_216_39 : decode (zm_cc 216) 39 = .ok (.iconst 5, 1) := by decide +kernel
theorem zd_216_40 : decode (zm_cc 216) 40 = .ok (.invokestatic 128, 3) := by decide +kernel
theorem zd_216_43 : decode (zm_cc 216) 43 = .ok (.ifCond .ne 6, 3) := by decide +kernel
theorem zd_216_46 : decode (zm_cc 216) 46 = .ok (.bipush (-102), 2) := by decide +kernel
theorem zd_216_48 : decode (zm_cc 216) 48 = .ok (.ireturn, 1) := by decide +kernel
theorem zd_216_49 : decode (zm_cc 216) 49 = .ok (.aload_n 0, 1) := by decide +kernel
theorem zd_216_50 : decode (zm_cc 216) 50 = .ok (.iload_n 1, 1) := by decide +kernel
theorem zd_216_51 : decode (zm_cc 216) 51 = .ok (.invokevirtual 401, 3) := by decide +kernel
theorem zd_216_54 : decode (zm_cc 216) 54 = .ok (.iload_n 3, 1) := by decide +kernel
theorem zd_216_55 : decode (zm_cc 216) 55 = .ok (.ifCond .ne 11, 3) := by decide +kernel
theorem zd_216_58 : decode (zm_cc 216) 58 = .ok (.aload_n 0, 1) := by decide +kernel
theorem zd_216_59 : decode (zm_cc 216) 59 = .ok (.iload_n 2, 1) := by decide +kernel
theorem zd_216_60 : decode (zm_cc 216) 60 = .ok (.invokevirtual 357, 3) := by decide +kernel
theorem zd_216_63 : decode (zm_cc 216) 63 = .ok (.goto 56, 3) := by decide +kernel
theorem zd_216_66 : decode (zm_cc 216) 66 = .ok (.iload_n 3, 1) := by decide +kernel
theorem zd_216_67 : decode (zm_cc 216) 67 = .ok (.iconst 1, 1) := by decide +kernel
theorem zd_216_68 : decode (zm_cc 216) 68 = .ok (.if_icmp .ne 16, 3) := by decide +kernel
theorem zd_216_71 : decode (zm_cc 216) 71 = .ok (.aload_n 0, 1) := by decide +kernel
theorem zd_216_72 : decode (zm_cc 216) 72 = .ok (.getfield 88, 3) := by decide +kernel
theorem zd_216_75 : decode (zm_cc 216) 75 = .ok (.aload_n 0, 1) := by decide +kernel
theorem zd_216_76 : decode (zm_cc 216) 76 = .ok (.iload_n 2, 1) := by decide +kernel
theorem zd_216_77 : decode (zm_cc 216) 77 = .ok (.invokevirtual 348, 3) := by decide +kernel
theorem zd_216_80 : decode (zm_cc 216) 80 = .ok (.iaload, 1) := by decide +kernel
theorem zd_216_81 : decode (zm_cc 216) 81 = .ok (.goto 38, 3) := by decide +kernel
theorem zd_216_84 : decode (zm_cc 216) 84 = .ok (.iload_n 3, 1) := by decide +kernel
theorem zd_216_85 : decode (zm_cc 216) 85 = .ok (.iconst 2, 1) := by decide +kernel
theorem zd_216_86 : decode (zm_cc 216) 86 = .ok (.if_icmp .ne 19, 3) := by decide +kernel
theorem zd_216_89 : decode (zm_cc 216) 89 = .ok (.aload_n 0, 1) := by decide +kernel
theorem zd_216_90 : decode (zm_cc 216) 90 = .ok (.iload_n 2, 1) := by decide +kernel
theorem zd_216_91 : decode (zm_cc 216) 91 = .ok (.invokevirtual 407, 3) := by decide +kernel
theorem zd_216_94 : decode (zm_cc 216) 94 = .ok (.ifCond .eq 7, 3) := by decide +kernel
theorem zd_216_97 : decode (zm_cc 216) 97 = .ok (.iconst 1, 1) := by decide +kernel
theorem zd_216_98 : decode (zm_cc 216) 98 = .ok (.goto 21, 3) := by decide +kernel
theorem zd_216_101 : decode (zm_cc 216) 101 = .ok (.iconst 0, 1) := by decide +kernel
theorem zd_216_102 : decode (zm_cc 216) 102 = .ok (.goto 17, 3) := by decide +kernel
theorem zd_216_105 : decode (zm_cc 216) 105 = .ok (.aload_n 0, 1) := by decide +kernel
theorem zd_216_106 : decode (zm_cc 216) 106 = .ok (.getfield 88, 3) := by decide +kernel
theorem zd_216_109 : decode (zm_cc 216) 109 = .ok (.aload_n 0, 1) := by decide +kernel
theorem zd_216_110 : decode (zm_cc 216) 110 = .ok (.iload_n 2, 1) := by decide +kernel
theorem zd_216_111 : decode (zm_cc 216) 111 = .ok (.invokevirtual 348, 3) := by decide +kernel
theorem zd_216_114 : decode (zm_cc 216) 114 = .ok (.iload_n 3, 1) := by decide +kernel
theorem zd_216_115 : decode (zm_cc 216) 115 = .ok (.iadd, 1) := by decide +kernel
theorem zd_216_116 : decode (zm_cc 216) 116 = .ok (.iconst 1, 1) := by decide +kernel
theorem zd_216_117 : decode (zm_cc 216) 117 = .ok (.isub, 1) := by decide +kernel
theorem zd_216_118 : decode (zm_cc 216) 118 = .ok (.iaload, 1) := by decide +kernel
theorem zd_216_119 : decode (zm_cc 216) 119 = .ok (.ireturn, 1) := by decide +kernel
theorem zd_217_0 : decode (zm_cc 217) 0 = .ok (.iload_n 1, 1) := by decide +kernel
theorem zd_217_1 : decode (zm_cc 217) 1 = .ok (.iconst 0, 1) := by decide +kernel
theorem zd_217_2 : decode (zm_cc 217) 2 = .ok (.aload_n 0, 1) := by decide +kernel
theorem zd_217_3 : decode (zm_cc 217) 3 = .ok (.getfield 419, 3) := by decide +kernel
theorem zd_217_6 : decode (zm_cc 217) 6 = .ok (.iconst 1, 1) := by decide +kernel
theorem zd_217_7 : decode (zm_cc 217) 7 = .ok (.isub, 1) := by decide +kernel
theorem zd_217_8 : decode (zm_cc 217) 8 = .ok (.invokestatic 128, 3) := by decide +kernel
theorem zd_217_11 : decode (zm_cc 217) 11 = .ok (.ireturn, 1) := by decide +kernel
theorem zd_218_0 : decode (zm_cc 218) 0 = .ok (.aload_n 0, 1) := by decide +kernel
theorem zd_218_1 : decode (zm_cc 218) 1 = .ok (.getfield 117, 3) := by decide +kernel
theorem zd_218_4 : decode (zm_cc 218) 4 = .ok (.ifCond .ne 6, 3) := by decide +kernel
theorem zd_218_7 : decode (zm_cc 218) 7 = .ok (.bipush (-101), 2) := by decide +kernel
theorem zd_218_9 : decode (zm_cc 218) 9 = .ok (.ireturn, 1) := by decide +kernel
theorem zd_218_10 : decode (zm_cc 218) 10 = .ok (.iload_n 2, 1) := by decide +kernel
theorem zd_218_11 : decode (zm_cc 218) 11 = .ok (.ifCond .lt 25, 3) := by decide +kernel
theorem zd_218_14 : decode (zm_cc 218) 14 = .ok (.iload_n 2, 1) := by decide +kernel
theorem zd_218_15 : decode (zm_cc 218) 15 = .ok (.aload_n 0, 1) := by decide +kernel
theorem zd_218_16 : decode (zm_cc 218) 16 = .ok (.getfield 16, 3) := by decide +kernel
theorem zd_218_19 : decode (zm_cc 218) 19 = .ok (.getfield 135, 3) := by decide +kernel
theorem zd_218_22 : decode (zm_cc 218) 22 = .ok (.if_icmp .ge 14, 3) := by decide +kernel
theorem zd_218_25 : decode (zm_cc 218) 25 = .ok (.aload_n 0, 1) := by decide +kernel
theorem zd_218_26 : decode (zm_cc 218) 26 = .ok (.getfield 43, 3) := by decide +kernel
theorem zd_218_29 : decode (zm_cc 218) 29 = .ok (.iload_n 1, 1) := by decide +kernel
theorem zd_218_30 : decode (zm_cc 218) 30 = .ok (.invokevirtual 222, 3) := by decide +kernel
theorem zd_218_33 : decode (zm_cc 218) 33 = .ok (.ifCond .ne 6, 3) := by decide +kernel
theorem zd_218_36 : decode (zm_cc 218) 36 = .ok (.bipush (-102), 2) := by decide +kernel
theorem zd_218_38 : decode (zm_cc 218) 38 = .ok (.ireturn, 1) := by decide +kernel
theorem zd_218_39 : decode (zm_cc 218) 39 = .ok (.aload_n 0, 1) := by decide +kernel
theorem zd_218_40 : decode (zm_cc 218) 40 = .ok (.getfield 43, 3) := by decide +kernel
theorem zd_218_43 : decode (zm_cc 218) 43 = .ok (.iload_n 1, 1) := by decide +kernel
theorem zd_218_44 : decode (zm_cc 218) 44 = .ok (.invokevirtual 225, 3) := by decide +kernel
theorem zd_218_47 : decode (zm_cc 218) 47 = .ok (.aload_n 0, 1) := by decide +kernel
theorem zd_218_48 : decode (zm_cc 218) 48 = .ok (.getfield 34, 3) := by decide +kernel
theorem zd_218_51 : decode (zm_cc 218) 51 = .ok (.iload_n 2, 1) := by decide +kernel
theorem zd_218_52 : decode (zm_cc 218) 52 = .ok (.invokevirtual 240, 3) := by decide +kernel
theorem zd_218_55 : decode (zm_cc 218) 55 = .ok (.ireturn, 1) := by decide +kernel
theorem zd_219_0 : decode (zm_cc 219) 0 = .ok (.aload_n 0, 1) := by decide +kernel
theorem zd_219_1 : decode (zm_cc 219) 1 = .ok (.iconst 0, 1) := by decide +kernel
theorem zd_219_2 : decode (zm_cc 219) 2 = .ok (.putfield 1, 3) := by decide +kernel
theorem zd_219_5 : decode (zm_cc 219) 5 = .ok (.aload_n 0, 1) := by decide +kernel
theorem zd_219_6 : decode (zm_cc 219) 6 = .ok (.getfield 322, 3) := by decide +kernel
theorem zd_219_9 : decode (zm_cc 219) 9 = .ok (.ifCond .ne 6, 3) := by decide +kernel
theorem zd_219_12 : decode (zm_cc 219) 12 = .ok (.bipush (-101), 2) := by decide +kernel
theorem zd_219_14 : decode (zm_cc 219) 14 = .ok (.ireturn, 1) := by decide +kernel
theorem zd_219_15 : decode (zm_cc 219) 15 = .ok (.aload_n 0, 1) := by decide +kernel
theorem zd_219_16 : decode (zm_cc 219) 16 = .ok (.iload_n 1, 1) := by decide +kernel
theorem zd_219_17 : decode (zm_cc 219) 17 = .ok (.invokevirtual 440, 3) := by decide +kernel
theorem zd_219_20 : decode (zm_cc 219) 20 = .ok (.ifCond .eq 31, 3) := by decide +kernel
theorem zd_219_23 : decode (zm_cc 219) 23 = .ok (.iload_n 2, 1) := by decide +kernel
theorem zd_219_24 : decode (zm_cc 219) 24 = .ok (.iconst 0, 1) := by decide +kernel
theorem zd_219_25 : decode (zm_cc 219) 25 = .ok (.aload_n 0, 1) := by decide +kernel
theorem zd_219_26 : decode (zm_cc 219) 26 = .ok (.getfield 215, 3) := by decide +kernel
theorem zd_219_29 : decode (zm_cc 219) 29 = .ok (.iconst 1, 1) := by decide +kernel
theorem zd_219_30 : decode (zm_cc 219) 30 = .ok (.isub, 1) := by decide +kernel
theorem zd_219_31 : decode (zm_cc 219) 31 = .ok (.invokestatic 128, 3) := by decide +kernel
theorem zd_219_34 : decode (zm_cc 219) 34 = .ok (.ifCond .eq 17, 3) := by decide +kernel
theorem zd_219_37 : decode (zm_cc 219) 37 = .ok (.aload_n 0, 1) := by decide +kernel
theorem zd_219_38 : decode (zm_cc 219) 38 = .ok (.getfield 92, 3) := by decide +kernel
theorem zd_219_41 : decode (zm_cc 219) 41 = .ok (.bipush 40, 2) := by decide +kernel
theorem zd_219_43 : decode (zm_cc 219) 43 = .ok (.iload_n 1, 1) := by decide +kernel
theorem zd_219_44 : decode (zm_cc 219) 44 = .ok (.imul, 1) := by decide +kernel
theorem zd_219_45 : decode (zm_cc 219) 45 = .ok (.iload_n 2, 1) := by decide +kernel
theorem zd_219_46 : decode (zm_cc 219) 46 = .ok (.iadd, 1) := by decide +kernel
theorem zd_219_47 : decode (zm_cc 219) 47 = .ok (.baload, 1) := by decide +kernel
theorem zd_219_48 : decode (zm_cc 219) 48 = .ok (.goto 5, 3) := by decide +kernel
theorem zd_219_51 : decode (zm_cc 219) 51 = .ok (.bipush (-102), 2) := by decide +kernel
theorem zd_219_53 : decode (zm_cc 219) 53 = .ok (.ireturn, 1) := by decide +kernel
theorem zd_220_0 : decode (zm_cc 220) 0 = .ok (.aload_n 0, 1) := by decide +kernel
theorem zd_220_1 : decode (zm_cc 220) 1 = .ok (.getfield 117, 3) := by decide +kernel
theorem zd_220_4 : decode (zm_cc 220) 4 = .ok (.ifCond .ne 6, 3) := by decide +kernel
theorem zd_220_7 : decode (zm_cc 220) 7 = .ok (.bipush (-101), 2) := by decide +kernel
theorem zd_220_9 : decode (zm_cc 220) 9 = .ok (.ireturn, 1) := by decide +kernel
theorem zd_220_10 : decode (zm_cc 220) 10 = .ok (.iload_n 2, 1) := by decide +kernel
theorem zd_220_11 : decode (zm_cc 220) 11 = .ok (.ifCond .lt 25, 3) := by decide +kernel
theorem zd_220_14 : decode (zm_cc 220) 14 = .ok (.iload_n 2, 1) := by decide +kernel
theorem zd_220_15 : decode (zm_cc 220) 15 = .ok (.aload_n 0, 1) := by decide +kernel
theorem zd_220_16 : decode (zm_cc 220) 16 = .ok (.getfield 16, 3) := by decide +kernel
theorem zd_220_19 : decode (zm_cc 220) 19 = .ok (.getfield 138, 3) := by decide +kernel
theorem zd_220_22 : decode (zm_cc 220) 22 = .ok (.if_icmp .ge 14, 3) := by decide +kernel
theorem zd_220_25 : decode (zm_cc 220) 25 = .ok (.aload_n 0, 1) := by decide +kernel
theorem zd_220_26 : decode (zm_cc 220) 26 = .ok (.getfield 43, 3) := by decide +kernel
theorem zd_220_29 : decode (zm_cc 220) 29 = .ok (.iload_n 1, 1) := by decide +kernel
theorem zd_220_30 : decode (zm_cc 220) 30 = .ok (.invokevirtual 222, 3) := by decide +kernel
theorem zd_220_33 : decode (zm_cc 220) 33 = .ok (.ifCond .ne 6, 3) := by decide +kernel
theorem zd_220_36 : decode (zm_cc 220) 36 = .ok (.bipush (-102), 2) := by decide +kernel
theorem zd_220_38 : decode (zm_cc 220) 38 = .ok (.ireturn, 1) := by decide +kernel
theorem zd_220_39 : decode (zm_cc 220) 39 = .ok (.aload_n 0, 1) := by decide +kernel
theorem zd_220_40 : decode (zm_cc 220) 40 = .ok (.getfield 43, 3) := by decide +kernel
theorem zd_220_43 : decode (zm_cc 220) 43 = .ok (.iload_n 1, 1) := by decide +kernel
theorem zd_220_44 : decode (zm_cc 220) 44 = .ok (.invokevirtual 225, 3) := by decide +kernel
theorem zd_220_47 : decode (zm_cc 220) 47 = .ok (.aload_n 0, 1) := by decide +kernel
theorem zd_220_48 : decode (zm_cc 220) 48 = .ok (.getfield 34, 3) := by decide +kernel
theorem zd_220_51 : decode (zm_cc 220) 51 = .ok (.iload_n 2, 1) := by decide +kernel
theorem zd_220_52 : decode (zm_cc 220) 52 = .ok (.invokevirtual 243, 3) := by decide +kernel
theorem zd_220_55 : decode (zm_cc 220) 55 = .ok (.ireturn, 1) := by decide +kernel
theorem zd_221_0 : decode (zm_cc 221) 0 = .ok (.aload_n 0, 1) := by decide +kernel
theorem zd_221_1 : decode (zm_cc 221) 1 = .ok (.iconst 0, 1) := by decide +kernel
theorem zd_221_2 : decode (zm_cc 221) 2 = .ok (.putfield 1, 3) := by decide +kernel
theorem zd_221_5 : decode (zm_cc 221) 5 = .ok (.aload_n 0, 1) := by decide +kernel
theorem zd_221_6 : decode (zm_cc 221) 6 = .ok (.getfield 322, 3) := by decide +kernel
theorem zd_221_9 : decode (zm_cc 221) 9 = .ok (.ifCond .ne 6, 3) := by decide +kernel
theorem zd_221_12 : decode (zm_cc 221) 12 = .ok (.bipush (-101), 2) := by decide +kernel
theorem zd_221_14 : decode (zm_cc 221) 14 = .ok (.ireturn, 1) := by decide +kernel
theorem zd_221_15 : decode (zm_cc 221) 15 = .ok (.aload_n 0, 1) := by decide +kernel
theorem zd_221_16 : decode (zm_cc 221) 16 = .ok (.iload_n 1, 1) := by decide +kernel
theorem zd_221_17 : decode (zm_cc 221) 17 = .ok (.invokevirtual 440, 3) := by decide +kernel
theorem zd_221_20 : decode (zm_cc 221) 20 = .ok (.ifCond .eq 36, 3) := by decide +kernel
theorem zd_221_23 : decode (zm_cc 221) 23 = .ok (.iload_n 2, 1) := by decide +kernel
theorem zd_221_24 : decode (zm_cc 221) 24 = .ok (.iconst 0, 1) := by decide +kernel
theorem zd_221_25 : decode (zm_cc 221) 25 = .ok (.aload_n 0, 1) := by decide +kernel
theorem zd_221_26 : decode (zm_cc 221) 26 = .ok (.getfield 222, 3) := by decide +kernel
theorem zd_221_29 : decode (zm_cc 221) 29 = .ok (.iconst 1, 1) := by decide +kernel
theorem zd_221_30 : decode (zm_cc 221) 30 = .ok (.isub, 1) := by decide +kernel
theorem zd_221_31 : decode (zm_cc 221) 31 = .ok (.invokestatic 128, 3) := by decide +kernel
theorem zd_221_34 : decode (zm_cc 221) 34 = .ok (.ifCond .eq 22, 3) := by decide +kernel
theorem zd_221_37 : decode (zm_cc 221) 37 = .ok (.aload_n 0, 1) := by decide +kernel
theorem zd_221_38 : decode (zm_cc 221) 38 = .ok (.getfield 92, 3) := by decide +kernel
theorem zd_221_41 : decode (zm_cc 221) 41 = .ok (.bipush 40, 2) := by decide +kernel
theorem zd_221_43 : decode (zm_cc 221) 43 = .ok (.iload_n 1, 1) := by decide +kernel
theorem zd_221_44 : decode (zm_cc 221) 44 = .ok (.imul, 1) := by decide +kernel
theorem zd_221_45 : decode (zm_cc 221) 45 = .ok (.bipush 6, 2) := by decide +kernel
theorem zd_221_47 : decode (zm_cc 221) 47 = .ok (.iadd, 1) := by decide +kernel
theorem zd_221_48 : decode (zm_cc 221) 48 = .ok (.iload_n 2, 1) := by decide +kernel
theorem zd_221_49 : decode (zm_cc 221) 49 = .ok (.iadd, 1) := by decide +kernel
theorem zd_221_50 : decode (zm_cc 221) 50 = .ok (.baload, 1) := by decide +kernel
theorem zd_221_51 : decode (zm_cc 221) 51 = .ok (.iconst 1, 1) := by decide +kernel
theorem zd_221_52 : decode (zm_cc 221) 52 = .ok (.isub, 1) := by decide +kernel
theorem zd_221_53 : decode (zm_cc 221) 53 = .ok (.goto 5, 3) := by decide +kernel
theorem zd_221_56 : decode (zm_cc 221) 56 = .ok (.bipush (-102), 2) := by decide +kernel
theorem zd_221_58 : decode (zm_cc 221) 58 = .ok (.ireturn, 1) := by decide +kernel
theorem zd_222_0 : decode (zm_cc 222) 0 = .ok (.aload_n 0, 1) := by decide +kernel
theorem zd_222_1 : decode (zm_cc 222) 1 = .ok (.getfield 117, 3) := by decide +kernel
theorem zd_222_4 : decode (zm_cc 222) 4 = .ok (.ifCond .ne 6, 3) := by decide +kernel
theorem zd_222_7 : decode (zm_cc 222) 7 = .ok (.bipush (-101), 2) := by decide +kernel
theorem zd_222_9 : decode (zm_cc 222) 9 = .ok (.ireturn, 1) := by decide +kernel
theorem zd_222_10 : decode (zm_cc 222) 10 = .ok (.aload_n 0, 1) := by decide +kernel
theorem zd_222_11 : decode (zm_cc 222) 11 = .ok (.getfield 43, 3) := by decide +kernel
theorem zd_222_14 : decode (zm_cc 222) 14 = .ok (.iload_n 1, 1) := by decide +kernel
theorem zd_222_15 : decode (zm_cc 222) 15 = .ok (.invokevirtual 222, 3) := by decide +kernel
theorem zd_222_18 : decode (zm_cc 222) 18 = .ok (.ifCond .eq 14, 3) := by decide +kernel
theorem zd_222_21 : decode (zm_cc 222) 21 = .ok (.aload_n 0, 1) := by decide +kernel
theorem zd_222_22 : decode (zm_cc 222) 22 = .ok (.getfield 43, 3) := by decide +kernel
theorem zd_222_25 : decode (zm_cc 222) 25 = .ok (.iload_n 1, 1) := by decide +kernel
theorem zd_222_26 : decode (zm_cc 222) 26 = .ok (.invokevirtual 246, 3) := by decide +kernel
theorem zd_222_29 : decode (zm_cc 222) 29 = .ok (.ifCond .ne 6, 3) := by decide +kernel
theorem zd_222_32 : decode (zm_cc 222) 32 = .ok (.bipush (-102), 2) := by decide +kernel
theorem zd_222_34 : decode (zm_cc 222) 34 = .ok (.ireturn, 1) := by decide +kernel
theorem zd_222_35 : decode (zm_cc 222) 35 = .ok (.aload_n 0, 1) := by decide +kernel
theorem zd_222_36 : decode (zm_cc 222) 36 = .ok (.getfield 43, 3) := by decide +kernel
theorem zd_222_39 : decode (zm_cc 222) 39 = .ok (.iload_n 1, 1) := by decide +kernel
theorem zd_222_40 : decode (zm_cc 222) 40 = .ok (.invokevirtual 225, 3) := by decide +kernel
theorem zd_222_43 : decode (zm_cc 222) 43 = .ok (.aload_n 0, 1) := by decide +kernel
theorem zd_222_44 : decode (zm_cc 222) 44 = .ok (.getfield 34, 3) := by decide +kernel
theorem zd_222_47 : decode (zm_cc 222) 47 = .ok (.invokevirtual 249, 3) := by decide +kernel
theorem zd_222_50 : decode (zm_cc 222) 50 = .ok (.ifCond .eq 6, 3) := by decide +kernel
theorem zd_222_53 : decode (zm_cc 222) 53 = .ok (.bipush (-102), 2) := by decide +kernel
theorem zd_222_55 : decode (zm_cc 222) 55 = .ok (.ireturn, 1) := by decide +kernel
theorem zd_222_56 : decode (zm_cc 222) 56 = .ok (.aload_n 0, 1) := by decide +kernel
theorem zd_222_57 : decode (zm_cc 222) 57 = .ok (.getfield 34, 3) := by decide +kernel
theorem zd_222_60 : decode (zm_cc 222) 60 = .ok (.invokevirtual 253, 3) := by decide +kernel
theorem zd_222_63 : decode (zm_cc 222) 63 = .ok (.ifCond .eq 5, 3) := by decide +kernel
theorem zd_222_66 : decode (zm_cc 222) 66 = .ok (.iconst 1, 1) := by decide +kernel
theorem zd_222_67 : decode (zm_cc 222) 67 = .ok (.ireturn, 1) := by decide +kernel
theorem zd_222_68 : decode (zm_cc 222) 68 = .ok (.aload_n 0, 1) := by decide +kernel
theorem zd_222_69 : decode (zm_cc 222) 69 = .ok (.getfield 34, 3) := by decide +kernel
theorem zd_222_72 : decode (zm_cc 222) 72 = .ok (.invokevirtual 256, 3) := by decide +kernel
theorem zd_222_75 : decode (zm_cc 222) 75 = .ok (.ifCond .eq 7, 3) := by decide +kernel
theorem zd_222_78 : decode (zm_cc 222) 78 = .ok (.iconst 2, 1) := by decide +kernel
theorem zd_222_79 : decode (zm_cc 222) 79 = .ok (.goto 4, 3) := by decide +kernel
theorem zd_222_82 : decode (zm_cc 222) 82 = .ok (.iconst 3, 1) := by decide +kernel
theorem zd_222_83 : decode (zm_cc 222) 83 = .ok (.ireturn, 1) := by decide +kernel
theorem zd_223_0 : decode (zm_cc 223) 0 = .ok (.iconst 0, 1) := by decide +kernel
theorem zd_223_1 : decode (zm_cc 223) 1 = .ok (.istore_n 1, 1) := by decide +kernel
theorem zd_223_2 : decode (zm_cc 223) 2 = .ok (.iload_n 1, 1) := by decide +kernel
theorem zd_223_3 : decode (zm_cc 223) 3 = .ok (.aload_n 0, 1) := by decide +kernel
theorem zd_223_4 : decode (zm_cc 223) 4 = .ok (.getfield 27, 3) := by decide +kernel
theorem zd_223_7 : decode (zm_cc 223) 7 = .ok (.getfield 83, 3) := by decide +kernel
theorem zd_223_10 : decode (zm_cc 223) 10 = .ok (.if_icmp .ge 46, 3) := by decide +kernel
theorem zd_223_13 : decode (zm_cc 223) 13 = .ok (.aload_n 0, 1) := by decide +kernel
theorem zd_223_14 : decode (zm_cc 223) 14 = .ok (.iload_n 1, 1) := by decide +kernel
theorem zd_223_15 : decode (zm_cc 223) 15 = .ok (.invokevirtual 149, 3) := by decide +kernel
theorem zd_223_18 : decode (zm_cc 223) 18 = .ok (.istore_n 2, 1) := by decide +kernel
theorem zd_223_19 : decode (zm_cc 223) 19 = .ok (.iconst 0, 1) := by decide +kernel
theorem zd_223_20 : decode (zm_cc 223) 20 = .ok (.istore_n 3, 1) := by decide +kernel
theorem zd_223_21 : decode (zm_cc 223) 21 = .ok (.iload_n 3, 1) := by decide +kernel
theorem zd_223_22 : decode (zm_cc 223) 22 = .ok (.iconst 4, 1) := by decide +kernel
theorem zd_223_23 : decode (zm_cc 223) 23 = .ok (.if_icmp .ge 27, 3) := by decide +kernel
theorem zd_223_26 : decode (zm_cc 223) 26 = .ok (.iload_n 2, 1) := by decide +kernel
theorem zd_223_27 : decode (zm_cc 223) 27 = .ok (.iconst (-1), 1) := by decide +kernel
theorem zd_223_28 : decode (zm_cc 223) 28 = .ok (.if_icmp .eq 22, 3) := by decide +kernel
theorem zd_223_31 : decode (zm_cc 223) 31 = .ok (.iload_n 2, 1) := by decide +kernel
theorem zd_223_32 : decode (zm_cc 223) 32 = .ok (.iload_n 1, 1) := by decide +kernel
theorem zd_223_33 : decode (zm_cc 223) 33 = .ok (.if_icmp .ne 5, 3) := by decide +kernel
theorem zd_223_36 : decode (zm_cc 223) 36 = .ok (.iconst 1, 1) := by decide +kernel
theorem zd_223_37 : decode (zm_cc 223) 37 = .ok (.ireturn, 1) := by decide +kernel
theorem zd_223_38 : decode (zm_cc 223) 38 = .ok (.aload_n 0, 1) := by decide +kernel
theorem zd_223_39 : decode (zm_cc 223) 39 = .ok (.iload_n 2, 1) := by decide +kernel
theorem zd_223_40 : decode (zm_cc 223) 40 = .ok (.invokevirtual 149, 3) := by decide +kernel
theorem zd_223_43 : decode (zm_cc 223) 43 = .ok (.istore_n 2, 1) := by decide +kernel
theorem zd_223_44 : decode (zm_cc 223) 44 = .ok (.iinc 3 1, 3) := by decide +kernel
theorem zd_223_47 : decode (zm_cc 223) 47 = .ok (.goto (-26), 3) := by decide +kernel
theorem zd_223_50 : decode (zm_cc 223) 50 = .ok (.iinc 1 1, 3) := by decide +kernel
theorem zd_223_53 : decode (zm_cc 223) 53 = .ok (.goto (-51), 3) := by decide +kernel
theorem zd_223_56 : decode (zm_cc 223) 56 = .ok (.iconst 0, 1) := by decide +kernel
theorem zd_223_57 : decode (zm_cc 223) 57 = .ok (.ireturn, 1) := by decide +kernel
theorem zd_224_0 : decode (zm_cc 224) 0 = .ok (.aload_n 0, 1) := by decide +kernel
theorem zd_224_1 : decode (zm_cc 224) 1 = .ok (.iload_n 1, 1) := by decide +kernel
theorem zd_224_2 : decode (zm_cc 224) 2 = .ok (.invokevirtual 63, 3) := by decide +kernel
theorem zd_224_5 : decode (zm_cc 224) 5 = .ok (.istore_n 2, 1) := by decide +kernel
theorem zd_224_6 : decode (zm_cc 224) 6 = .ok (.aload_n 0, 1) := by decide +kernel
theorem zd_224_7 : decode (zm_cc 224) 7 = .ok (.iload_n 1, 1) := by decide +kernel
theorem zd_224_8 : decode (zm_cc 224) 8 = .ok (.invokevirtual 65, 3) := by decide +kernel
theorem zd_224_11 : decode (zm_cc 224) 11 = .ok (.iconst 1, 1) := by decide +kernel
theorem zd_224_12 : decode (zm_cc 224) 12 = .ok (.if_icmp .ne 16, 3) := by decide +kernel
theorem zd_224_15 : decode (zm_cc 224) 15 = .ok (.aload_n 0, 1) := by decide +kernel
theorem zd_224_16 : decode (zm_cc 224) 16 = .ok (.getfield 27, 3) := by decide +kernel
theorem zd_224_19 : decode (zm_cc 224) 19 = .ok (.getfield 80, 3) := by decide +kernel
theorem zd_224_22 : decode (zm_cc 224) 22 = .ok (.iload_n 2, 1) := by decide +kernel
theorem zd_224_23 : decode (zm_cc 224) 23 = .ok (.iaload, 1) := by decide +kernel
theorem zd_224_24 : decode (zm_cc 224) 24 = .ok (.iconst 3, 1) := by decide +kernel
theorem zd_224_25 : decode (zm_cc 224) 25 = .ok (.if_icmp .eq 5, 3) := by decide +kernel
theorem zd_224_28 : decode (zm_cc 224) 28 = .ok (.iconst (-1), 1) := by decide +kernel
theorem zd_224_29 : decode (zm_cc 224) 29 = .ok (.ireturn, 1) := by decide +kernel
theorem zd_224_30 : decode (zm_cc 224) 30 = .ok (.aload_n 0, 1) := by decide +kernel
theorem zd_224_31 : decode (zm_cc 224) 31 = .ok (.aload_n 0, 1) := by decide +kernel
theorem zd_224_32 : decode (zm_cc 224) 32 = .ok (.getfield 27, 3) := by decide +kernel
theorem zd_224_35 : decode (zm_cc 224) 35 = .ok (.getfield 71, 3) := by decide +kernel
theorem zd_224_38 : decode (zm_cc 224) 38 = .ok (.iload_n 2, 1) := by decide +kernel
theorem zd_224_39 : decode (zm_cc 224) 39 = .ok (.iaload, 1) := by decide +kernel
theorem zd_224_40 : decode (zm_cc 224) 40 = .ok (.invokevirtual 77, 3) := by decide +kernel
theorem zd_224_43 : decode (zm_cc 224) 43 = .ok (.istore_n 3, 1) := by decide +kernel
theorem zd_224_44 : decode (zm_cc 224) 44 = .ok (.iload_n 3, 1) := by decide +kernel
theorem zd_224_45 : decode (zm_cc 224) 45 = .ok (.iload_n 1, 1) := by decide +kernel
theorem zd_224_46 : decode (zm_cc 224) 46 = .ok (.if_icmp .ne 7, 3) := by decide +kernel
theorem zd_224_49 : decode (zm_cc 224) 49 = .ok (.iconst (-1), 1) := by decide +kernel
theorem zd_224_50 : decode (zm_cc 224) 50 = .ok (.goto 4, 3) := by decide +kernel
theorem zd_224_53 : decode (zm_cc 224) 53 = .ok (.iload_n 3, 1) := by decide +kernel
theorem zd_224_54 : decode (zm_cc 224) 54 = .ok (.ireturn, 1) := by decide +kernel
theorem zd_225_0 : decode (zm_cc 225) 0 = .ok (.iconst 0, 1) := by decide +kernel
theorem zd_225_1 : decode (zm_cc 225) 1 = .ok (.istore_n 1, 1) := by decide +kernel
theorem zd_225_2 : decode (zm_cc 225) 2 = .ok (.iload_n 1, 1) := by decide +kernel
theorem zd_225_3 : decode (zm_cc 225) 3 = .ok (.aload_n 0, 1) := by decide +kernel
theorem zd_225_4 : decode (zm_cc 225) 4 = .ok (.getfield 27, 3) := by decide +kernel
theorem zd_225_7 : decode (zm_cc 225) 7 = .ok (.getfield 83, 3) := by decide +kernel
theorem zd_225_10 : decode (zm_cc 225) 10 = .ok (.if_icmp .ge 28, 3) := by decide +kernel
theorem zd_225_13 : decode (zm_cc 225) 13 = .ok (.aload_n 0, 1) := by decide +kernel
theorem zd_225_14 : decode (zm_cc 225) 14 = .ok (.iload_n 1, 1) := by decide +kernel
theorem zd_225_15 : decode (zm_cc 225) 15 = .ok (.invokevirtual 146, 3) := by decide +kernel
theorem zd_225_18 : decode (zm_cc 225) 18 = .ok (.ifCond .ne 14, 3) := by decide +kernel
theorem zd_225_21 : decode (zm_cc 225) 21 = .ok (.aload_n 0, 1) := by decide +kernel
theorem zd_225_22 : decode (zm_cc 225) 22 = .ok (.iload_n 1, 1) := by decide +kernel
theorem zd_225_23 : decode (zm_cc 225) 23 = .ok (.invokevirtual 65, 3) := by decide +kernel
theorem zd_225_26 : decode (zm_cc 225) 26 = .ok (.iconst 2, 1) := by decide +kernel
theorem zd_225_27 : decode (zm_cc 225) 27 = .ok (.if_icmp .eq 5, 3) := by decide +kernel
theorem zd_225_30 : decode (zm_cc 225) 30 = .ok (.iconst 0, 1) := by decide +kernel
theorem zd_225_31 : decode (zm_cc 225) 31 = .ok (.ireturn, 1) := by decide +kernel
theorem zd_225_32 : decode (zm_cc 225) 32 = .ok (.iinc 1 1, 3) := by decide +kernel
theorem zd_225_35 : decode (zm_cc 225) 35 = .ok (.goto (-33), 3) := by decide +kernel
theorem zd_225_38 : decode (zm_cc 225) 38 = .ok (.iconst 1, 1) := by decide +kernel
theorem zd_225_39 : decode (zm_cc 225) 39 = .ok (.ireturn, 1) := by decide +kernel
theorem zd_226_0 : decode (zm_cc 226) 0 = .ok (.aload_n 0, 1) := by decide +kernel
theorem zd_226_1 : decode (zm_cc 226) 1 = .ok (.iconst 0, 1) := by decide +kernel
theorem zd_226_2 : decode (zm_cc 226) 2 = .ok (.putfield 1, 3) := by decide +kernel
theorem zd_226_5 : decode (zm_cc 226) 5 = .ok (.aload_n 0, 1) := by decide +kernel
theorem zd_226_6 : decode (zm_cc 226) 6 = .ok (.getfield 322, 3) := by decide +kernel
theorem zd_226_9 : decode (zm_cc 226) 9 = .ok (.ifCond .ne 6, 3) := by decide +kernel
theorem zd_226_12 : decode (zm_cc 226) 12 = .ok (.bipush (-101), 2) := by decide +kernel
theorem zd_226_14 : decode (zm_cc 226) 14 = .ok (.ireturn, 1) := by decide +kernel
theorem zd_226_15 : decode (zm_cc 226) 15 = .ok (.aload_n 0, 1) := by decide +kernel
theorem zd_226_16 : decode (zm_cc 226) 16 = .ok (.iload_n 1, 1) := by decide +kernel
theorem zd_226_17 : decode (zm_cc 226) 17 = .ok (.invokevirtual 440, 3) := by decide +kernel
theorem zd_226_20 : decode (zm_cc 226) 20 = .ok (.ifCond .eq 13, 3) := by decide +kernel
theorem zd_226_23 : decode (zm_cc 226) 23 = .ok (.aload_n 0, 1) := by decide +kernel
theorem zd_226_24 : decode (zm_cc 226) 24 = .ok (.getfield 107, 3) := by decide +kernel
theorem zd_226_27 : decode (zm_cc 226) 27 = .ok (.iload_n 1, 1) := by decide +kernel
theorem zd_226_28 : decode (zm_cc 226) 28 = .ok (.iaload, 1) := by decide +kernel
theorem zd_226_29 : decode (zm_cc 226) 29 = .ok (.iconst 2, 1) := by decide +kernel
theorem zd_226_30 : decode (zm_cc 226) 30 = .ok (.if_icmp .eq 6, 3) := by decide +kernel
theorem zd_226_33 : decode (zm_cc 226) 33 = .ok (.bipush (-102), 2) := by decide +kernel
theorem zd_226_35 : decode (zm_cc 226) 35 = .ok (.ireturn, 1) := by decide +kernel
theorem zd_226_36 : decode (zm_cc 226) 36 = .ok (.aload_n 0, 1) := by decide +kernel
theorem zd_226_37 : decode (zm_cc 226) 37 = .ok (.iload_n 1, 1) := by decide +kernel
theorem zd_226_38 : decode (zm_cc 226) 38 = .ok (.invokevirtual 401, 3) := by decide +kernel
theorem zd_226_41 : decode (zm_cc 226) 41 = .ok (.iconst 1, 1) := by decide +kernel
theorem zd_226_42 : decode (zm_cc 226) 42 = .ok (.istore_n 2, 1) := by decide +kernel
theorem zd_226_43 : decode (zm_cc 226) 43 = .ok (.iconst 0, 1) := by decide +kernel
theorem zd_226_44 : decode (zm_cc 226) 44 = .ok (.istore_n 3, 1) := by decide +kernel
theorem zd_226_45 : decode (zm_cc 226) 45 = .ok (.iload_n 3, 1) := by decide +kernel
theorem zd_226_46 : decode (zm_cc 226) 46 = .ok (.aload_n 0, 1) := by decide +kernel
theorem zd_226_47 : decode (zm_cc 226) 47 = .ok (.getfield 225, 3) := by decide +kernel
theorem zd_226_50 : decode (zm_cc 226) 50 = .ok (.if_icmp .ge 92, 3) := by decide +kernel
theorem zd_226_53 : decode (zm_cc 226) 53 = .ok (.iload_n 3, 1) := by decide +kernel
theorem zd_226_54 : decode (zm_cc 226) 54 = .ok (.istore 4, 2) := by decide +kernel
theorem zd_226_56 : decode (zm_cc 226) 56 = .ok (.iconst 0, 1) := by decide +kernel
theorem zd_226_57 : decode (zm_cc 226) 57 = .ok (.istore 5, 2) := by decide +kernel
theorem zd_226_59 : decode (zm_cc 226) 59 = .ok (.iload 5, 2) := by decide +kernel
theorem zd_226_61 : decode (zm_cc 226) 61 = .ok (.aload_n 0, 1) := by decide +kernel
theorem zd_226_62 : decode (zm_cc 226) 62 = .ok (.getfield 225, 3) := by decide +kernel
theorem zd_226_65 : decode (zm_cc 226) 65 = .ok (.if_icmp .ge 31, 3) := by decide +kernel
theorem zd_226_68 : decode (zm_cc 226) 68 = .ok (.iload 4, 2) := by decide +kernel
theorem zd_226_70 : decode (zm_cc 226) 70 = .ok (.iconst (-1), 1) := by decide +kernel
theorem zd_226_71 : decode (zm_cc 226) 71 = .ok (.if_icmp .eq 25, 3) := by decide +kernel
theorem zd_226_74 : decode (zm_cc 226) 74 = .ok (.aload_n 0, 1) := by decide +kernel
theorem zd_226_75 : decode (zm_cc 226) 75 = .ok (.iload 4, 2) := by decide +kernel
theorem zd_226_77 : decode (zm_cc 226) 77 = .ok (.invokevirtual 443, 3) := by decide +kernel
theorem zd_226_80 : decode (zm_cc 226) 80 = .ok (.istore 4, 2) := by decide +kernel
theorem zd_226_82 : decode (zm_cc 226) 82 = .ok (.iload 4, 2) := by decide +kernel
theorem zd_226_84 : decode (zm_cc 226) 84 = .ok (.iload_n 3, 1) := by decide +kernel
theorem zd_226_85 : decode (zm_cc 226) 85 = .ok (.if_icmp .ne 5, 3) := by decide +kernel
theorem zd_226_88 : decode (zm_cc 226) 88 = .ok (.iconst 1, 1) := by decide +kernel
theorem zd_226_89 : decode (zm_cc 226) 89 = .ok (.ireturn, 1) := by decide +kernel
theorem zd_226_90 : decode (zm_cc 226) 90 = .ok (.iinc 5 1, 3) := by decide +kernel
theorem zd_226_93 : decode (zm_cc 226) 93 = .ok (.goto (-34), 3) := by decide +kernel
theorem zd_226_96 : decode (zm_cc 226) 96 = .ok (.aload_n 0, 1) := by decide +kernel
theorem zd_226_97 : decode (zm_cc 226) 97 = .ok (.iload_n 3, 1) := by decide +kernel
theorem zd_226_98 : decode (zm_cc 226) 98 = .ok (.invokevirtual 357, 3) := by decide +kernel
theorem zd_226_101 : decode (zm_cc 226) 101 = .ok (.istore 5, 2) := by decide +kernel
theorem zd_226_103 : decode (zm_cc 226) 103 = .ok (.iload_n 2, 1) := by decide +kernel
theorem zd_226_104 : decode (zm_cc 226) 104 = .ok (.ifCond .eq 30, 3) := by decide +kernel
theorem zd_226_107 : decode (zm_cc 226) 107 = .ok (.iload 5, 2) := by decide +kernel
theorem zd_226_109 : decode (zm_cc 226) 109 = .ok (.iconst 4, 1) := by decide +kernel
theorem zd_226_110 : decode (zm_cc 226) 110 = .ok (.if_icmp .eq 20, 3) := by decide +kernel
theorem zd_226_113 : decode (zm_cc 226) 113 = .ok (.iload 5, 2) := by decide +kernel
theorem zd_226_115 : decode (zm_cc 226) 115 = .ok (.iconst 5, 1) := by decide +kernel
theorem zd_226_116 : decode (zm_cc 226) 116 = .ok (.if_icmp .eq 14, 3) := by decide +kernel
theorem zd_226_119 : decode (zm_cc 226) 119 = .ok (.iload 5, 2) := by decide +kernel
theorem zd_226_121 : decode (zm_cc 226) 121 = .ok (.ifCond .eq 9, 3) := by decide +kernel
theorem zd_226_124 : decode (zm_cc 226) 124 = .ok (.iload 5, 2) := by decide +kernel
theorem zd_226_126 : decode (zm_cc 226) 126 = .ok (.iconst 2, 1) := by decide +kernel
theorem zd_226_127 : decode (zm_cc 226) 127 = .ok (.if_icmp .ne 7, 3) := by decide +kernel
theorem zd_226_130 : decode (zm_cc 226) 130 = .ok (.iconst 1, 1) := by decide +kernel
theorem zd_226_131 : decode (zm_cc 226) 131 = .ok (.goto 4, 3) := by decide +kernel
theorem zd_226_134 : decode (zm_cc 226) 134 = .ok (.iconst 0, 1) := by decide +kernel
theorem zd_226_135 : decode (zm_cc 226) 135 = .ok (.istore_n 2, 1) := by decide +kernel
theorem zd_226_136 : decode (zm_cc 226) 136 = .ok (.iinc 3 1, 3) := by decide +kernel
theorem zd_226_139 : decode (zm_cc 226) 139 = .ok (.goto (-94), 3) := by decide +kernel
theorem zd_226_142 : decode (zm_cc 226) 142 = .ok (.iload_n 2, 1) := by decide +kernel
theorem zd_226_143 : decode (zm_cc 226) 143 = .ok (.ifCond .eq 7, 3) := by decide +kernel
theorem zd_226_146 : decode (zm_cc 226) 146 = .ok (.iconst 2, 1) := by decide +kernel
theorem zd_226_147 : decode (zm_cc 226) 147 = .ok (.goto 4, 3) := by decide +kernel
theorem zd_226_150 : decode (zm_cc 226) 150 = .ok (.iconst 3, 1) := by decide +kernel
theorem zd_226_151 : decode (zm_cc 226) 151 = .ok (.ireturn, 1) := by decide +kernel
theorem zd_227_0 : decode (zm_cc 227) 0 = .ok (.bipush 24, 2) := by decide +kernel
theorem zd_227_2 : decode (zm_cc 227) 2 = .ok (.iload_n 1, 1) := by decide +kernel
theorem zd_227_3 : decode (zm_cc 227) 3 = .ok (.imul, 1) := by decide +kernel
theorem zd_227_4 : decode (zm_cc 227) 4 = .ok (.aload_n 0, 1) := by decide +kernel
theorem zd_227_5 : decode (zm_cc 227) 5 = .ok (.getfield 88, 3) := by decide +kernel
theorem zd_227_8 : decode (zm_cc 227) 8 = .ok (.aload_n 0, 1) := by decide +kernel
theorem zd_227_9 : decode (zm_cc 227) 9 = .ok (.iload_n 1, 1) := by decide +kernel
theorem zd_227_10 : decode (zm_cc 227) 10 = .ok (.invokevirtual 348, 3) := by decide +kernel
theorem zd_227_13 : decode (zm_cc 227) 13 = .ok (.iaload, 1) := by decide +kernel
theorem zd_227_14 : decode (zm_cc 227) 14 = .ok (.iadd, 1) := by decide +kernel
theorem zd_227_15 : decode (zm_cc 227) 15 = .ok (.istore_n 2, 1) := by decide +kernel
theorem zd_227_16 : decode (zm_cc 227) 16 = .ok (.aload_n 0, 1) := by decide +kernel
theorem zd_227_17 : decode (zm_cc 227) 17 = .ok (.iload_n 1, 1) := by decide +kernel
theorem zd_227_18 : decode (zm_cc 227) 18 = .ok (.invokevirtual 357, 3) := by decide +kernel
theorem zd_227_21 : decode (zm_cc 227) 21 = .ok (.iconst 1, 1) := by decide +kernel
theorem zd_227_22 : decode (zm_cc 227) 22 = .ok (.if_icmp .ne 32, 3) := by decide +kernel
theorem zd_227_25 : decode (zm_cc 227) 25 = .ok (.aload_n 0, 1) := by decide +kernel
theorem zd_227_26 : decode (zm_cc 227) 26 = .ok (.getfield 43, 3) := by decide +kernel
theorem zd_227_29 : decode (zm_cc 227) 29 = .ok (.iload_n 2, 1) := by decide +kernel
theorem zd_227_30 : decode (zm_cc 227) 30 = .ok (.iaload, 1) := by decide +kernel
theorem zd_227_31 : decode (zm_cc 227) 31 = .ok (.iconst 3, 1) := by decide +kernel
theorem zd_227_32 : decode (zm_cc 227) 32 = .ok (.if_icmp .ne 22, 3) := by decide +kernel
theorem zd_227_35 : decode (zm_cc 227) 35 = .ok (.aload_n 0, 1) := by decide +kernel
theorem zd_227_36 : decode (zm_cc 227) 36 = .ok (.getfield 88, 3) := by decide +kernel
theorem zd_227_39 : decode (zm_cc 227) 39 = .ok (.bipush 6, 2) := by decide +kernel
theorem zd_227_41 : decode (zm_cc 227) 41 = .ok (.aload_n 0, 1) := by decide +kernel
theorem zd_227_42 : decode (zm_cc 227) 42 = .ok (.getfield 46, 3) := by decide +kernel
theorem zd_227_45 : decode (zm_cc 227) 45 = .ok (.iload_n 2, 1) := by decide +kernel
theorem zd_227_46 : decode (zm_cc 227) 46 = .ok (.iaload, 1) := by decide +kernel
theorem zd_227_47 : decode (zm_cc 227) 47 = .ok (.iadd, 1) := by decide +kernel
theorem zd_227_48 : decode (zm_cc 227) 48 = .ok (.iaload, 1) := by decide +kernel
theorem zd_227_49 : decode (zm_cc 227) 49 = .ok (.iconst 1, 1) := by decide +kernel
theorem zd_227_50 : decode (zm_cc 227) 50 = .ok (.isub, 1) := by decide +kernel
theorem zd_227_51 : decode (zm_cc 227) 51 = .ok (.goto 4, 3) := by decide +kernel
theorem zd_227_54 : decode (zm_cc 227) 54 = .ok (.iconst (-1), 1) := by decide +kernel
theorem zd_227_55 : decode (zm_cc 227) 55 = .ok (.ireturn, 1) := by decide +kernel
theorem zd_228_0 : decode (zm_cc 228) 0 = .ok (.aload_n 0, 1) := by decide +kernel
theorem zd_228_1 : decode (zm_cc 228) 1 = .ok (.getfield 117, 3) := by decide +kernel
theorem zd_228_4 : decode (zm_cc 228) 4 = .ok (.ifCond .ne 6, 3) := by decide +kernel
theorem zd_228_7 : decode (zm_cc 228) 7 = .ok (.bipush (-101), 2) := by decide +kernel
theorem zd_228_9 : decode (zm_cc 228) 9 = .ok (.ireturn, 1) := by decide +kernel
theorem zd_228_10 : decode (zm_cc 228) 10 = .ok (.iload_n 1, 1) := by decide +kernel
theorem zd_228_11 : decode (zm_cc 228) 11 = .ok (.ifCond .lt 20, 3) := by decide +kernel
theorem zd_228_14 : decode (zm_cc 228) 14 = .ok (.iload_n 1, 1) := by decide +kernel
theorem zd_228_15 : decode (zm_cc 228) 15 = .ok (.aload_n 0, 1) := by decide +kernel
theorem zd_228_16 : decode (zm_cc 228) 16 = .ok (.getfield 16, 3) := by decide +kernel
theorem zd_228_19 : decode (zm_cc 228) 19 = .ok (.getfield 144, 3) := by decide +kernel
theorem zd_228_22 : decode (zm_cc 228) 22 = .ok (.if_icmp .ge 9, 3) := by decide +kernel
theorem zd_228_25 : decode (zm_cc 228) 25 = .ok (.iload_n 1, 1) := by decide +kernel
theorem zd_228_26 : decode (zm_cc 228) 26 = .ok (.bipush 6, 2) := by decide +kernel
theorem zd_228_28 : decode (zm_cc 228) 28 = .ok (.if_icmp .lt 6, 3) := by decide +kernel
theorem zd_228_31 : decode (zm_cc 228) 31 = .ok (.bipush (-102), 2) := by decide +kernel
theorem zd_228_33 : decode (zm_cc 228) 33 = .ok (.ireturn, 1) := by decide +kernel
theorem zd_228_34 : decode (zm_cc 228) 34 = .ok (.aload_n 0, 1) := by decide +kernel
theorem zd_228_35 : decode (zm_cc 228) 35 = .ok (.getfield 66, 3) := by decide +kernel
theorem zd_228_38 : decode (zm_cc 228) 38 = .ok (.iload_n 1, 1) := by decide +kernel
theorem zd_228_39 : decode (zm_cc 228) 39 = .ok (.iaload, 1) := by decide +kernel
theorem zd_228_40 : decode (zm_cc 228) 40 = .ok (.iconst (-1), 1) := by decide +kernel
theorem zd_228_41 : decode (zm_cc 228) 41 = .ok (.if_icmp .ne 61, 3) := by decide +kernel
theorem zd_228_44 : decode (zm_cc 228) 44 = .ok (.aload_n 0, 1) := by decide +kernel
theorem zd_228_45 : decode (zm_cc 228) 45 = .ok (.getfield 66, 3) := by decide +kernel
theorem zd_228_48 : decode (zm_cc 228) 48 = .ok (.iload_n 1, 1) := by decide +kernel
theorem zd_228_49 : decode (zm_cc 228) 49 = .ok (.bipush (-103), 2) := by decide +kernel
theorem zd_228_51 : decode (zm_cc 228) 51 = .ok (.iastore, 1) := by decide +kernel
theorem zd_228_52 : decode (zm_cc 228) 52 = .ok (.aload_n 0, 1) := by decide +kernel
theorem zd_228_53 : decode (zm_cc 228) 53 = .ok (.getfield 54, 3) := by decide +kernel
theorem zd_228_56 : decode (zm_cc 228) 56 = .ok (.iload_n 1, 1) := by decide +kernel
theorem zd_228_57 : decode (zm_cc 228) 57 = .ok (.invokevirtual 169, 3) := by decide +kernel
theorem zd_228_60 : decode (zm_cc 228) 60 = .ok (.ifCond .eq 42, 3) := by decide +kernel
theorem zd_228_63 : decode (zm_cc 228) 63 = .ok (.aload_n 0, 1) := by decide +kernel
theorem zd_228_64 : decode (zm_cc 228) 64 = .ok (.getfield 62, 3) := by decide +kernel
theorem zd_228_67 : decode (zm_cc 228) 67 = .ok (.aload_n 0, 1) := by decide +kernel
theorem zd_228_68 : decode (zm_cc 228) 68 = .ok (.getfield 54, 3) := by decide +kernel
theorem zd_228_71 : decode (zm_cc 228) 71 = .ok (.invokevirtual 259, 3) := by decide +kernel
theorem zd_228_74 : decode (zm_cc 228) 74 = .ok (.aload_n 0, 1) := by decide +kernel
theorem zd_228_75 : decode (zm_cc 228) 75 = .ok (.getfield 66, 3) := by decide +kernel
theorem zd_228_78 : decode (zm_cc 228) 78 = .ok (.iload_n 1, 1) := by decide +kernel
theorem zd_228_79 : decode (zm_cc 228) 79 = .ok (.aload_n 0, 1) := by decide +kernel
theorem zd_228_80 : decode (zm_cc 228) 80 = .ok (.getfield 62, 3) := by decide +kernel
theorem zd_228_83 : decode (zm_cc 228) 83 = .ok (.aload_n 0, 1) := by decide +kernel
theorem zd_228_84 : decode (zm_cc 228) 84 = .ok (.getfield 50, 3) := by decide +kernel
theorem zd_228_87 : decode (zm_cc 228) 87 = .ok (.getfield 193, 3) := by decide +kernel
theorem zd_228_90 : decode (zm_cc 228) 90 = .ok (.invokevirtual 260, 3) := by decide +kernel
theorem zd_228_93 : decode (zm_cc 228) 93 = .ok (.ifCond .eq 7, 3) := by decide +kernel
theorem zd_228_96 : decode (zm_cc 228) 96 = .ok (.iconst 1, 1) := by decide +kernel
theorem zd_228_97 : decode (zm_cc 228) 97 = .ok (.goto 4, 3) := by decide +kernel
theorem zd_228_100 : decode (zm_cc 228) 100 = .ok (.iconst 0, 1) := by decide +kernel
theorem zd_228_101 : decode (zm_cc 228) 101 = .ok (.iastore, 1) := by decide +kernel
theorem zd_228_102 : decode (zm_cc 228) 102 = .ok (.aload_n 0, 1) := by decide +kernel
theorem zd_228_103 : decode (zm_cc 228) 103 = .ok (.getfield 66, 3) := by decide +kernel
theorem zd_228_106 : decode (zm_cc 228) 106 = .ok (.iload_n 1, 1) := by decide +kernel
theorem zd_228_107 : decode (zm_cc 228) 107 = .ok (.iaload, 1) := by decide +kernel
theorem zd_228_108 : decode (zm_cc 228) 108 = .ok (.ireturn, 1) := by decide +kernel
theorem zd_229_0 : decode (zm_cc 229) 0 = .ok (.aload_n 0, 1) := by decide +kernel
theorem zd_229_1 : decode (zm_cc 229) 1 = .ok (.getfield 14, 3) := by decide +kernel
theorem zd_229_4 : decode (zm_cc 229) 4 = .ok (.getfield 70, 3) := by decide +kernel
theorem zd_229_7 : decode (zm_cc 229) 7 = .ok (.aload_n 1, 1) := by decide +kernel
theorem zd_229_8 : decode (zm_cc 229) 8 = .ok (.getfield 14, 3) := by decide +kernel
theorem zd_229_11 : decode (zm_cc 229) 11 = .ok (.getfield 70, 3) := by decide +kernel
theorem zd_229_14 : decode (zm_cc 229) 14 = .ok (.if_icmp .eq 5, 3) := by decide +kernel
theorem zd_229_17 : decode (zm_cc 229) 17 = .ok (.iconst 0, 1) := by decide +kernel
theorem zd_229_18 : decode (zm_cc 229) 18 = .ok (.ireturn, 1) := by decide +kernel
theorem zd_229_19 : decode (zm_cc 229) 19 = .ok (.iconst 0, 1) := by decide +kernel
theorem zd_229_20 : decode (zm_cc 229) 20 = .ok (.istore_n 2, 1) := by decide +kernel
theorem zd_229_21 : decode (zm_cc 229) 21 = .ok (.iload_n 2, 1) := by decide +kernel
theorem zd_229_22 : decode (zm_cc 229) 22 = .ok (.aload_n 1, 1) := by decide +kernel
theorem zd_229_23 : decode (zm_cc 229) 23 = .ok (.getfield 14, 3) := by decide +kernel
theorem zd_229_26 : decode (zm_cc 229) 26 = .ok (.getfield 70, 3) := by decide +kernel
theorem zd_229_29 : decode (zm_cc 229) 29 = .ok (.if_icmp .ge 31, 3) := by decide +kernel
theorem zd_229_32 : decode (zm_cc 229) 32 = .ok (.aload_n 0, 1) := by decide +kernel
theorem zd_229_33 : decode (zm_cc 229) 33 = .ok (.getfield 23, 3) := by decide +kernel
theorem zd_229_36 : decode (zm_cc 229) 36 = .ok (.aload_n 0, 1) := by decide +kernel
theorem zd_229_37 : decode (zm_cc 229) 37 = .ok (.aload_n 1, 1) := by decide +kernel
theorem zd_229_38 : decode (zm_cc 229) 38 = .ok (.getfield 14, 3) := by decide +kernel
theorem zd_229_41 : decode (zm_cc 229) 41 = .ok (.iload_n 2, 1) := by decide +kernel
theorem zd_229_42 : decode (zm_cc 229) 42 = .ok (.invokevirtual 72, 3) := by decide +kernel
theorem zd_229_45 : decode (zm_cc 229) 45 = .ok (.invokevirtual 63, 3) := by decide +kernel
theorem zd_229_48 : decode (zm_cc 229) 48 = .ok (.iaload, 1) := by decide +kernel
theorem zd_229_49 : decode (zm_cc 229) 49 = .ok (.ifCond .ne 5, 3) := by decide +kernel
theorem zd_229_52 : decode (zm_cc 229) 52 = .ok (.iconst 0, 1) := by decide +kernel
theorem zd_229_53 : decode (zm_cc 229) 53 = .ok (.ireturn, 1) := by decide +kernel
theorem zd_229_54 : decode (zm_cc 229) 54 = .ok (.iinc 2 1, 3) := by decide +kernel
theorem zd_229_57 : decode (zm_cc 229) 57 = .ok (.goto (-36), 3) := by decide +kernel
theorem zd_229_60 : decode (zm_cc 229) 60 = .ok (.iconst 1, 1) := by decide +kernel
theorem zd_229_61 : decode (zm_cc 229) 61 = .ok (.ireturn, 1) := by decide +kernel
theorem zd_230_0 : decode (zm_cc 230) 0 = .ok (.aload_n 0, 1) := by decide +kernel
theorem zd_230_1 : decode (zm_cc 230) 1 = .ok (.iconst 0, 1) := by decide +kernel
theorem zd_230_2 : decode (zm_cc 230) 2 = .ok (.putfield 1, 3) := by decide +kernel
theorem zd_230_5 : decode (zm_cc 230) 5 = .ok (.aload_n 0, 1) := by decide +kernel
theorem zd_230_6 : decode (zm_cc 230) 6 = .ok (.getfield 322, 3) := by decide +kernel
theorem zd_230_9 : decode (zm_cc 230) 9 = .ok (.ifCond .ne 6, 3) := by decide +kernel
theorem zd_230_12 : decode (zm_cc 230) 12 = .ok (.bipush (-101), 2) := by decide +kernel
theorem zd_230_14 : decode (zm_cc 230) 14 = .ok (.ireturn, 1) := by decide +kernel
theorem zd_230_15 : decode (zm_cc 230) 15 = .ok (.iload_n 1, 1) := by decide +kernel
theorem zd_230_16 : decode (zm_cc 230) 16 = .ok (.iconst 0, 1) := by decide +kernel
theorem zd_230_17 : decode (zm_cc 230) 17 = .ok (.aload_n 0, 1) := by decide +kernel
theorem zd_230_18 : decode (zm_cc 230) 18 = .ok (.getfield 303, 3) := by decide +kernel
theorem zd_230_21 : decode (zm_cc 230) 21 = .ok (.iconst 1, 1) := by decide +kernel
theorem zd_230_22 : decode (zm_cc 230) 22 = .ok (.isub, 1) := by decide +kernel
theorem zd_230_23 : decode (zm_cc 230) 23 = .ok (.invokestatic 128, 3) := by decide +kernel
theorem zd_230_26 : decode (zm_cc 230) 26 = .ok (.ifCond .ne 6, 3) := by decide +kernel
theorem zd_230_29 : decode (zm_cc 230) 29 = .ok (.bipush (-102), 2) := by decide +kernel
theorem zd_230_31 : decode (zm_cc 230) 31 = .ok (.ireturn, 1) := by decide +kernel
theorem zd_230_32 : decode (zm_cc 230) 32 = .ok (.aload_n 0, 1) := by decide +kernel
theorem zd_230_33 : decode (zm_cc 230) 33 = .ok (.getfield 40, 3) := by decide +kernel
theorem zd_230_36 : decode (zm_cc 230) 36 = .ok (.iload_n 1, 1) := by decide +kernel
theorem zd_230_37 : decode (zm_cc 230) 37 = .ok (.iaload, 1) := by decide +kernel
theorem zd_230_38 : decode (zm_cc 230) 38 = .ok (.istore_n 2, 1) := by decide +kernel
theorem zd_230_39 : decode (zm_cc 230) 39 = .ok (.aload_n 0, 1) := by decide +kernel
theorem zd_230_40 : decode (zm_cc 230) 40 = .ok (.sipush 4000, 3) := by decide +kernel
theorem zd_230_43 : decode (zm_cc 230) 43 = .ok (.invokevirtual 389, 3) := by decide +kernel
theorem zd_230_46 : decode (zm_cc 230) 46 = .ok (.aload_n 0, 1) := by decide +kernel
theorem zd_230_47 : decode (zm_cc 230) 47 = .ok (.invokevirtual 395, 3) := by decide +kernel
theorem zd_230_50 : decode (zm_cc 230) 50 = .ok (.aload_n 0, 1) := by decide +kernel
theorem zd_230_51 : decode (zm_cc 230) 51 = .ok (.invokevirtual 398, 3) := by decide +kernel
theorem zd_230_54 : decode (zm_cc 230) 54 = .ok (.istore_n 3, 1) := by decide +kernel
theorem zd_230_55 : decode (zm_cc 230) 55 = .ok (.iconst 0, 1) := by decide +kernel
theorem zd_230_56 : decode (zm_cc 230) 56 = .ok (.istore 4, 2) := by decide +kernel
theorem zd_230_58 : decode (zm_cc 230) 58 = .ok (.sipush 4000, 3) := by decide +kernel
theorem zd_230_61 : decode (zm_cc 230) 61 = .ok (.istore 5, 2) := by decide +kernel
theorem zd_230_63 : decode (zm_cc 230) 63 = .ok (.iload 5, 2) := by decide +kernel
theorem zd_230_65 : decode (zm_cc 230) 65 = .ok (.sipush 4000, 3) := by decide +kernel
theorem zd_230_68 : decode (zm_cc 230) 68 = .ok (.aload_n 0, 1) := by decide +kernel
theorem zd_230_69 : decode (zm_cc 230) 69 = .ok (.getfield 377, 3) := by decide +kernel
theorem zd_230_72 : decode (zm_cc 230) 72 = .ok (.iadd, 1) := by decide +kernel
theorem zd_230_73 : decode (zm_cc 230) 73 = .ok (.if_icmp .ge 304, 3) := by decide +kernel
theorem zd_230_76 : decode (zm_cc 230) 76 = .ok (.aload_n 0, 1) := by decide +kernel
theorem zd_230_77 : decode (zm_cc 230) 77 = .ok (.iload 5, 2) := by decide +kernel
theorem zd_230_79 : decode (zm_cc 230) 79 = .ok (.invokevirtual 401, 3) := by decide +kernel
theorem zd_230_82 : decode (zm_cc 230) 82 = .ok (.aload_n 0, 1) := by decide +kernel
theorem zd_230_83 : decode (zm_cc 230) 83 = .ok (.getfield 88, 3) := by decide +kernel
theorem zd_230_86 : decode (zm_cc 230) 86 = .ok (.bipush 38, 2) := by decide +kernel
theorem zd_230_88 : decode (zm_cc 230) 88 = .ok (.iaload, 1) := by decide +kernel
theorem zd_230_89 : decode (zm_cc 230) 89 = .ok (.iconst 1, 1) := by decide +kernel
theorem zd_230_90 : decode (zm_cc 230) 90 = .ok (.if_icmp .ne 48, 3) := by decide +kernel
theorem zd_230_93 : decode (zm_cc 230) 93 = .ok (.aload_n 0, 1) := by decide +kernel
theorem zd_230_94 : decode (zm_cc 230) 94 = .ok (.iload_n 2, 1) := by decide +kernel
theorem zd_230_95 : decode (zm_cc 230) 95 = .ok (.invokevirtual 357, 3) := by decide +kernel
theorem zd_230_98 : decode (zm_cc 230) 98 = .ok (.iconst 1, 1) := by decide +kernel
theorem zd_230_99 : decode (zm_cc 230) 99 = .ok (.if_icmp .ne 39, 3) := by decide +kernel
theorem zd_230_102 : decode (zm_cc 230) 102 = .ok (.aload_n 0, 1) := by decide +kernel
theorem zd_230_103 : decode (zm_cc 230) 103 = .ok (.getfield 58, 3) := by decide +kernel
theorem zd_230_106 : decode (zm_cc 230) 106 = .ok (.bipush 24, 2) := by decide +kernel
theorem zd_230_108 : decode (zm_cc 230) 108 = .ok (.iload_n 2, 1) := by decide +kernel
theorem zd_230_109 : decode (zm_cc 230) 109 = .ok (.imul, 1) := by decide +kernel
theorem zd_230_110 : decode (zm_cc 230) 110 = .ok (.aload_n 0, 1) := by decide +kernel
theorem zd_230_111 : decode (zm_cc 230) 111 = .ok (.getfield 88, 3) := by decide +kernel
theorem zd_230_114 : decode (zm_cc 230) 114 = .ok (.aload_n 0, 1) := by decide +kernel
theorem zd_230_115 : decode (zm_cc 230) 115 = .ok (.iload_n 2, 1) := by decide +kernel
theorem zd_230_116 : decode (zm_cc 230) 116 = .ok (.invokevirtual 348, 3) := by decide +kernel
theorem zd_230_119 : decode (zm_cc 230) 119 = .ok (.iaload, 1) := by decide +kernel
theorem zd_230_120 : decode (zm_cc 230) 120 = .ok (.iadd, 1) := by decide +kernel
theorem zd_230_121 : decode (zm_cc 230) 121 = .ok (.iaload, 1) := by decide +kernel
theorem zd_230_122 : decode (zm_cc 230) 122 = .ok (.iload_n 1, 1) := by decide +kernel
theorem zd_230_123 : decode (zm_cc 230) 123 = .ok (.if_icmp .ne 15, 3) := by decide +kernel
theorem zd_230_126 : decode (zm_cc 230) 126 = .ok (.aload_n 0, 1) := by decide +kernel
theorem zd_230_127 : decode (zm_cc 230) 127 = .ok (.iload_n 2, 1) := by decide +kernel
theorem zd_230_128 : decode (zm_cc 230) 128 = .ok (.invokevirtual 407, 3) := by decide +kernel
theorem zd_230_131 : decode (zm_cc 230) 131 = .ok (.ifCond .eq 7, 3) := by decide +kernel
theorem zd_230_134 : decode (zm_cc 230) 134 = .ok (.iconst 1, 1) := by decide +kernel
theorem zd_230_135 : decode (zm_cc 230) 135 = .ok (.goto 4, 3) := by decide +kernel
theorem zd_230_138 : decode (zm_cc 230) 138 = .ok (.iconst 0, 1) := by decide +kernel
theorem zd_230_139 : decode (zm_cc 230) 139 = .ok (.istore 6, 2) := by decide +kernel
theorem zd_230_141 : decode (zm_cc 230) 141 = .ok (.iconst 1, 1) := by decide +kernel
theorem zd_230_142 : decode (zm_cc 230) 142 = .ok (.istore 7, 2) := by decide +kernel
theorem zd_230_144 : decode (zm_cc 230) 144 = .ok (.iconst 0, 1) := by decide +kernel
theorem zd_230_145 : decode (zm_cc 230) 145 = .ok (.istore 8, 2) := by decide +kernel
theorem zd_230_147 : decode (zm_cc 230) 147 = .ok (.iload 8, 2) := by decide +kernel
theorem zd_230_149 : decode (zm_cc 230) 149 = .ok (.aload_n 0, 1) := by decide +kernel
theorem zd_230_150 : decode (zm_cc 230) 150 = .ok (.getfield 225, 3) := by decide +kernel
theorem zd_230_153 : decode (zm_cc 230) 153 = .ok (.if_icmp .ge 149, 3) := by decide +kernel
theorem zd_230_156 : decode (zm_cc 230) 156 = .ok (.aload_n 0, 1) := by decide +kernel
theorem zd_230_157 : decode (zm_cc 230) 157 = .ok (.iload 5, 2) := by decide +kernel
theorem zd_230_159 : decode (zm_cc 230) 159 = .ok (.invokevirtual 401, 3) := by decide +kernel
theorem zd_230_162 : decode (zm_cc 230) 162 = .ok (.aload_n 0, 1) := by decide +kernel
theorem zd_230_163 : decode (zm_cc 230) 163 = .ok (.iload 8, 2) := by decide +kernel
theorem zd_230_165 : decode (zm_cc 230) 165 = .ok (.invokevirtual 407, 3) := by decide +kernel
theorem zd_230_168 : decode (zm_cc 230) 168 = .ok (.ifCond .eq 128, 3) := by decide +kernel
theorem zd_230_171 : decode (zm_cc 230) 171 = .ok (.iload 6, 2) := by decide +kernel
theorem zd_230_173 : decode (zm_cc 230) 173 = .ok (.ifCond .eq 9, 3) := by decide +kernel
theorem zd_230_176 : decode (zm_cc 230) 176 = .ok (.iload 8, 2) := by decide +kernel
theorem zd_230_178 : decode (zm_cc 230) 178 = .ok (.iload_n 2, 1) := by decide +kernel
theorem zd_230_179 : decode (zm_cc 230) 179 = .ok (.if_icmp .ne 117, 3) := by decide +kernel
theorem zd_230_182 : decode (zm_cc 230) 182 = .ok (.iconst 0, 1) := by decide +kernel
theorem zd_230_183 : decode (zm_cc 230) 183 = .ok (.istore 7, 2) := by decide +kernel
theorem zd_230_185 : decode (zm_cc 230) 185 = .ok (.bipush 24, 2) := by decide +kernel
theorem zd_230_187 : decode (zm_cc 230) 187 = .ok (.iload 8, 2) := by decide +kernel
theorem zd_230_189 : decode (zm_cc 230) 189 = .ok (.imul, 1) := by decide +kernel
theorem zd_230_190 : decode (zm_cc 230) 190 = .ok (.aload_n 0, 1) := by decide +kernel
theorem zd_230_191 : decode (zm_cc 230) 191 = .ok (.getfield 88, 3) := by decide +kernel
theorem zd_230_194 : decode (zm_cc 230) 194 = .ok (.aload_n 0, 1) := by decide +kernel
theorem zd_230_195 : decode (zm_cc 230) 195 = .ok (.iload 8, 2) := by decide +kernel
theorem zd_230_197 : decode (zm_cc 230) 197 = .ok (.invokevirtual 348, 3) := by decide +kernel
theorem zd_230_200 : decode (zm_cc 230) 200 = .ok (.iaload, 1) := by decide +kernel
theorem zd_230_201 : decode (zm_cc 230) 201 = .ok (.iadd, 1) := by decide +kernel
theorem zd_230_202 : decode (zm_cc 230) 202 = .ok (.istore 9, 2) := by decide +kernel
theorem zd_230_204 : decode (zm_cc 230) 204 = .ok (.aload_n 0, 1) := by decide +kernel
theorem zd_230_205 : decode (zm_cc 230) 205 = .ok (.iload 8, 2) := by decide +kernel
theorem zd_230_207 : decode (zm_cc 230) 207 = .ok (.invokevirtual 410, 3) := by decide +kernel
theorem zd_230_210 : decode (zm_cc 230) 210 = .ok (.aload_n 0, 1) := by decide +kernel
theorem zd_230_211 : decode (zm_cc 230) 211 = .ok (.getfield 88, 3) := by decide +kernel
theorem zd_230_214 : decode (zm_cc 230) 214 = .ok (.bipush 38, 2) := by decide +kernel
theorem zd_230_216 : decode (zm_cc 230) 216 = .ok (.iload 8, 2) := by decide +kernel
theorem zd_230_218 : decode (zm_cc 230) 218 = .ok (.iload_n 2, 1) := by decide +kernel
theorem zd_230_219 : decode (zm_cc 230) 219 = .ok (.if_icmp .ne 22, 3) := by decide +kernel
theorem zd_230_222 : decode (zm_cc 230) 222 = .ok (.aload_n 0, 1) := by decide +kernel
theorem zd_230_223 : decode (zm_cc 230) 223 = .ok (.getfield 58, 3) := by decide +kernel
theorem zd_230_226 : decode (zm_cc 230) 226 = .ok (.iload 9, 2) := by decide +kernel
theorem zd_230_228 : decode (zm_cc 230) 228 = .ok (.iaload, 1) := by decide +kernel
theorem zd_230_229 : decode (zm_cc 230) 229 = .ok (.iload_n 1, 1) := by decide +kernel
theorem zd_230_230 : decode (zm_cc 230) 230 = .ok (.if_icmp .ne 7, 3) := by decide +kernel
theorem zd_230_233 : decode (zm_cc 230) 233 = .ok (.iconst 1, 1) := by decide +kernel
theorem zd_230_234 : decode (zm_cc 230) 234 = .ok (.goto 14, 3) := by decide +kernel
theorem zd_230_237 : decode (zm_cc 230) 237 = .ok (.iconst 0, 1) := by decide +kernel
theorem zd_230_238 : decode (zm_cc 230) 238 = .ok (.goto 10, 3) := by decide +kernel
theorem zd_230_241 : decode (zm_cc 230) 241 = .ok (.aload_n 0, 1) := by decide +kernel
theorem zd_230_242 : decode (zm_cc 230) 242 = .ok (.getfield 88, 3) := by decide +kernel
theorem zd_230_245 : decode (zm_cc 230) 245 = .ok (.bipush 38, 2) := by decide +kernel
theorem zd_230_247 : decode (zm_cc 230) 247 = .ok (.iaload, 1) := by decide +kernel
theorem zd_230_248 : decode (zm_cc 230) 248 = .ok (.iastore, 1) := by decide +kernel
theorem zd_230_249 : decode (zm_cc 230) 249 = .ok (.aload_n 0, 1) := by decide +kernel
theorem zd_230_250 : decode (zm_cc 230) 250 = .ok (.getfield 88, 3) := by decide +kernel
theorem zd_230_253 : decode (zm_cc 230) 253 = .ok (.bipush 38, 2) := by decide +kernel
theorem zd_230_255 : decode (zm_cc 230) 255 = .ok (.aload_n 0, 1) := by decide +kernel
theorem zd_230_256 : decode (zm_cc 230) 256 = .ok (.iload_n 2, 1) := by decide +kernel
theorem zd_230_257 : decode (zm_cc 230) 257 = .ok (.invokevirtual 357, 3) := by decide +kernel
theorem zd_230_260 : decode (zm_cc 230) 260 = .ok (.iconst 4, 1) := by decide +kernel
theorem zd_230_261 : decode (zm_cc 230) 261 = .ok (.if_icmp .eq 12, 3) := by decide +kernel
theorem zd_230_264 : decode (zm_cc 230) 264 = .ok (.aload_n 0, 1) := by decide +kernel
theorem zd_230_265 : decode (zm_cc 230) 265 = .ok (.iload_n 2, 1) := by decide +kernel
theorem zd_230_266 : decode (zm_cc 230) 266 = .ok (.invokevirtual 357, 3) := by decide +kernel
theorem zd_230_269 : decode (zm_cc 230) 269 = .ok (.iconst 5, 1) := by decide +kernel
theorem zd_230_270 : decode (zm_cc 230) 270 = .ok (.if_icmp .ne 7, 3) := by decide +kernel
theorem zd_230_273 : decode (zm_cc 230) 273 = .ok (.iconst 0, 1) := by decide +kernel
theorem zd_230_274 : decode (zm_cc 230) 274 = .ok (.goto 10, 3) := by decide +kernel
theorem zd_230_277 : decode (zm_cc 230) 277 = .ok (.aload_n 0, 1) := by decide +kernel
theorem zd_230_278 : decode (zm_cc 230) 278 = .ok (.getfield 88, 3) := by decide +kernel
theorem zd_230_281 : decode (zm_cc 230) 281 = .ok (.bipush 38, 2) := by decide +kernel
theorem zd_230_283 : decode (zm_cc 230) 283 = .ok (.iaload, 1) := by decide +kernel
theorem zd_230_284 : decode (zm_cc 230) 284 = .ok (.iastore, 1) := by decide +kernel
theorem zd_230_285 : decode (zm_cc 230) 285 = .ok (.aload_n 0, 1) := by decide +kernel
theorem zd_230_286 : decode (zm_cc 230) 286 = .ok (.invokevirtual 398, 3) := by decide +kernel
theorem zd_230_289 : decode (zm_cc 230) 289 = .ok (.iconst (-1), 1) := by decide +kernel
theorem zd_230_290 : decode (zm_cc 230) 290 = .ok (.if_icmp .ne 6, 3) := by decide +kernel
theorem zd_230_293 : decode (zm_cc 230) 293 = .ok (.bipush (-103), 2) := by decide +kernel
theorem zd_230_295 : decode (zm_cc 230) 295 = .ok (.ireturn, 1) := by decide +kernel
theorem zd_230_296 : decode (zm_cc 230) 296 = .ok (.iinc 8 1, 3) := by decide +kernel
theorem zd_230_299 : decode (zm_cc 230) 299 = .ok (.goto (-152), 3) := by decide +kernel
theorem zd_230_302 : decode (zm_cc 230) 302 = .ok (.iload 7, 2) := by decide +kernel
theorem zd_230_304 : decode (zm_cc 230) 304 = .ok (.ifCond .eq 67, 3) := by decide +kernel
theorem zd_230_307 : decode (zm_cc 230) 307 = .ok (.iconst 1, 1) := by decide +kernel
theorem zd_230_308 : decode (zm_cc 230) 308 = .ok (.istore 8, 2) := by decide +kernel
theorem zd_230_310 : decode (zm_cc 230) 310 = .ok (.iconst 0, 1) := by decide +kernel
theorem zd_230_311 : decode (zm_cc 230) 311 = .ok (.istore 9, 2) := by decide +kernel
theorem zd_230_313 : decode (zm_cc 230) 313 = .ok (.iload 9, 2) := by decide +kernel
theorem zd_230_315 : decode (zm_cc 230) 315 = .ok (.iload 4, 2) := by decide +kernel
theorem zd_230_317 : decode (zm_cc 230) 317 = .ok (.if_icmp .ge 37, 3) := by decide +kernel
theorem zd_230_320 : decode (zm_cc 230) 320 = .ok (.iload 8, 2) := by decide +kernel
theorem zd_230_322 : decode (zm_cc 230) 322 = .ok (.ifCond .eq 32, 3) := by decide +kernel
theorem zd_230_325 : decode (zm_cc 230) 325 = .ok (.aload_n 0, 1) := by decide +kernel
theorem zd_230_326 : decode (zm_cc 230) 326 = .ok (.aload_n 0, 1) := by decide +kernel
theorem zd_230_327 : decode (zm_cc 230) 327 = .ok (.getfield 122, 3) := by decide +kernel
theorem zd_230_330 : decode (zm_cc 230) 330 = .ok (.iload 9, 2) := by decide +kernel
theorem zd_230_332 : decode (zm_cc 230) 332 = .ok (.iaload, 1) := by decide +kernel
theorem zd_230_333 : decode (zm_cc 230) 333 = .ok (.iload 5, 2) := by decide +kernel
theorem zd_230_335 : decode (zm_cc 230) 335 = .ok (.invokevirtual 416, 3) := by decide +kernel
theorem zd_230_338 : decode (zm_cc 230) 338 = .ok (.ifCond .ne 7, 3) := by decide +kernel
theorem zd_230_341 : decode (zm_cc 230) 341 = .ok (.iconst 1, 1) := by decide +kernel
theorem zd_230_342 : decode (zm_cc 230) 342 = .ok (.goto 4, 3) := by decide +kernel
theorem zd_230_345 : decode (zm_cc 230) 345 = .ok (.iconst 0, 1) := by decide +kernel
theorem zd_230_346 : decode (zm_cc 230) 346 = .ok (.istore 8, 2) := by decide +kernel
theorem zd_230_348 : decode (zm_cc 230) 348 = .ok (.iinc 9 1, 3) := by decide +kernel
theorem zd_230_351 : decode (zm_cc 230) 351 = .ok (.goto (-38), 3) := by decide +kernel
theorem zd_230_354 : decode (zm_cc 230) 354 = .ok (.iload 8, 2) := by decide +kernel
theorem zd_230_356 : decode (zm_cc 230) 356 = .ok (.ifCond .eq 15, 3) := by decide +kernel
theorem zd_230_359 : decode (zm_cc 230) 359 = .ok (.aload_n 0, 1) := by decide +kernel
theorem zd_230_360 : decode (zm_cc 230) 360 = .ok (.getfield 122, 3) := by decide +kernel
theorem zd_230_363 : decode (zm_cc 230) 363 = .ok (.iload 4, 2) := by decide +kernel
theorem zd_230_365 : decode (zm_cc 230) 365 = .ok (.iload 5, 2) := by decide +kernel
theorem zd_230_367 : decode (zm_cc 230) 367 = .ok (.iastore, 1) := by decide +kernel
theorem zd_230_368 : decode (zm_cc 230) 368 = .ok (.iinc 4 1, 3) := by decide +kernel
theorem zd_230_371 : decode (zm_cc 230) 371 = .ok (.iinc 5 1, 3) := by decide +kernel
theorem zd_230_374 : decode (zm_cc 230) 374 = .ok (.goto (-311), 3) := by decide +kernel
theorem zd_230_377 : decode (zm_cc 230) 377 = .ok (.iload 4, 2) := by decide +kernel
theorem zd_230_379 : decode (zm_cc 230) 379 = .ok (.aload_n 0, 1) := by decide +kernel
theorem zd_230_380 : decode (zm_cc 230) 380 = .ok (.getfield 392, 3) := by decide +kernel
theorem zd_230_383 : decode (zm_cc 230) 383 = .ok (.if_icmp .ne 7, 3) := by decide +kernel
theorem zd_230_386 : decode (zm_cc 230) 386 = .ok (.iconst 1, 1) := by decide +kernel
theorem zd_230_387 : decode (zm_cc 230) 387 = .ok (.goto 4, 3) := by decide +kernel
theorem zd_230_390 : decode (zm_cc 230) 390 = .ok (.iconst 0, 1) := by decide +kernel
theorem zd_230_391 : decode (zm_cc 230) 391 = .ok (.istore 5, 2) := by decide +kernel
theorem zd_230_393 : decode (zm_cc 230) 393 = .ok (.iconst 0, 1) := by decide +kernel
theorem zd_230_394 : decode (zm_cc 230) 394 = .ok (.istore 6, 2) := by decide +kernel
theorem zd_230_396 : decode (zm_cc 230) 396 = .ok (.iload 6, 2) := by decide +kernel
theorem zd_230_398 : decode (zm_cc 230) 398 = .ok (.iload 4, 2) := by decide +kernel
theorem zd_230_400 : decode (zm_cc 230) 400 = .ok (.if_icmp .ge 72, 3) := by decide +kernel
theorem zd_230_403 : decode (zm_cc 230) 403 = .ok (.iload 5, 2) := by decide +kernel
theorem zd_230_405 : decode (zm_cc 230) 405 = .ok (.ifCond .eq 67, 3) := by decide +kernel
theorem zd_230_408 : decode (zm_cc 230) 408 = .ok (.iconst 0, 1) := by decide +kernel
theorem zd_230_409 : decode (zm_cc 230) 409 = .ok (.istore 7, 2) := by decide +kernel
theorem zd_230_411 : decode (zm_cc 230) 411 = .ok (.iconst 0, 1) := by decide +kernel
theorem zd_230_412 : decode (zm_cc 230) 412 = .ok (.istore 8, 2) := by decide +kernel
theorem zd_230_414 : decode (zm_cc 230) 414 = .ok (.iload 8, 2) := by decide +kernel
theorem zd_230_416 : decode (zm_cc 230) 416 = .ok (.aload_n 0, 1) := by decide +kernel
theorem zd_230_417 : decode (zm_cc 230) 417 = .ok (.getfield 392, 3) := by decide +kernel
theorem zd_230_420 : decode (zm_cc 230) 420 = .ok (.if_icmp .ge 42, 3) := by decide +kernel
theorem zd_230_423 : decode (zm_cc 230) 423 = .ok (.iload 7, 2) := by decide +kernel
theorem zd_230_425 : decode (zm_cc 230) 425 = .ok (.ifCond .ne 24, 3) := by decide +kernel
theorem zd_230_428 : decode (zm_cc 230) 428 = .ok (.aload_n 0, 1) := by decide +kernel
theorem zd_230_429 : decode (zm_cc 230) 429 = .ok (.aload_n 0, 1) := by decide +kernel
theorem zd_230_430 : decode (zm_cc 230) 430 = .ok (.getfield 122, 3) := by decide +kernel
theorem zd_230_433 : decode (zm_cc 230) 433 = .ok (.iload 6, 2) := by decide +kernel
theorem zd_230_435 : decode (zm_cc 230) 435 = .ok (.iaload, 1) := by decide +kernel
theorem zd_230_436 : decode (zm_cc 230) 436 = .ok (.aload_n 0, 1) := by decide +kernel
theorem zd_230_437 : decode (zm_cc 230) 437 = .ok (.getfield 113, 3) := by decide +kernel
theorem zd_230_440 : decode (zm_cc 230) 440 = .ok (.iload 8, 2) := by decide +kernel
theorem zd_230_442 : decode (zm_cc 230) 442 = .ok (.iaload, 1) := by decide +kernel
theorem zd_230_443 : decode (zm_cc 230) 443 = .ok (.invokevirtual 416, 3) := by decide +kernel
theorem zd_230_446 : decode (zm_cc 230) 446 = .ok (.ifCond .eq 7, 3) := by decide +kernel
theorem zd_230_449 : decode (zm_cc 230) 449 = .ok (.iconst 1, 1) := by decide +kernel
theorem zd_230_450 : decode (zm_cc 230) 450 = .ok (.goto 4, 3) := by decide +kernel
theorem zd_230_453 : decode (zm_cc 230) 453 = .ok (.iconst 0, 1) := by decide +kernel
theorem zd_230_454 : decode (zm_cc 230) 454 = .ok (.istore 7, 2) := by decide +kernel
theorem zd_230_456 : decode (zm_cc 230) 456 = .ok (.iinc 8 1, 3) := by decide +kernel
theorem zd_230_459 : decode (zm_cc 230) 459 = .ok (.goto (-45), 3) := by decide +kernel
theorem zd_230_462 : decode (zm_cc 230) 462 = .ok (.iload 7, 2) := by decide +kernel
theorem zd_230_464 : decode (zm_cc 230) 464 = .ok (.istore 5, 2) := by decide +kernel
theorem zd_230_466 : decode (zm_cc 230) 466 = .ok (.iinc 6 1, 3) := by decide +kernel
theorem zd_230_469 : decode (zm_cc 230) 469 = .ok (.goto (-73), 3) := by decide +kernel
theorem zd_230_472 : decode (zm_cc 230) 472 = .ok (.iload 5, 2) := by decide +kernel
theorem zd_230_474 : decode (zm_cc 230) 474 = .ok (.ifCond .eq 7, 3) := by decide +kernel
theorem zd_230_477 : decode (zm_cc 230) 477 = .ok (.iconst 1, 1) := by decide +kernel
theorem zd_230_478 : decode (zm_cc 230) 478 = .ok (.goto 4, 3) := by decide +kernel
theorem zd_230_481 : decode (zm_cc 230) 481 = .ok (.iconst 0, 1) := by decide +kernel
theorem zd_230_482 : decode (zm_cc 230) 482 = .ok (.ireturn, 1) := by decide +kernel
theorem zd_231_0 : decode (zm_cc 231) 0 = .ok (.aload_n 0, 1) := by decide +kernel
theorem zd_231_1 : decode (zm_cc 231) 1 = .ok (.getfield 110, 3) := by decide +kernel
theorem zd_231_4 : decode (zm_cc 231) 4 = .ok (.ifCond .ne 6, 3) := by decide +kernel
theorem zd_231_7 : decode (zm_cc 231) 7 = .ok (.bipush (-101), 2) := by decide +kernel
theorem zd_231_9 : decode (zm_cc 231) 9 = .ok (.ireturn, 1) := by decide +kernel
theorem zd_231_10 : decode (zm_cc 231) 10 = .ok (.aload_n 0, 1) := by decide +kernel
theorem zd_231_11 : decode (zm_cc 231) 11 = .ok (.getfield 73, 3) := by decide +kernel
theorem zd_231_14 : decode (zm_cc 231) 14 = .ok (.invokevirtual 264, 3) := by decide +kernel
theorem zd_231_17 : decode (zm_cc 231) 17 = .ok (.aload_n 0, 1) := by decide +kernel
theorem zd_231_18 : decode (zm_cc 231) 18 = .ok (.getfield 73, 3) := by decide +kernel
theorem zd_231_21 : decode (zm_cc 231) 21 = .ok (.getfield 267, 3) := by decide +kernel
theorem zd_231_24 : decode (zm_cc 231) 24 = .ok (.getfield 184, 3) := by decide +kernel
theorem zd_231_27 : decode (zm_cc 231) 27 = .ok (.ireturn, 1) := by decide +kernel
theorem zd_232_0 : decode (zm_cc 232) 0 = .ok (.aload_n 0, 1) := by decide +kernel
theorem zd_232_1 : decode (zm_cc 232) 1 = .ok (.getfield 31, 3) := by decide +kernel
theorem zd_232_4 : decode (zm_cc 232) 4 = .ok (.ifCond .ne 50, 3) := by decide +kernel
theorem zd_232_7 : decode (zm_cc 232) 7 = .ok (.aload_n 0, 1) := by decide +kernel
theorem zd_232_8 : decode (zm_cc 232) 8 = .ok (.iconst 1, 1) := by decide +kernel
theorem zd_232_9 : decode (zm_cc 232) 9 = .ok (.putfield 31, 3) := by decide +kernel
theorem zd_232_12 : decode (zm_cc 232) 12 = .ok (.iconst 0, 1) := by decide +kernel
theorem zd_232_13 : decode (zm_cc 232) 13 = .ok (.istore_n 1, 1) := by decide +kernel
theorem zd_232_14 : decode (zm_cc 232) 14 = .ok (.iload_n 1, 1) := by decide +kernel
theorem zd_232_15 : decode (zm_cc 232) 15 = .ok (.bipush 16, 2) := by decide +kernel
theorem zd_232_17 : decode (zm_cc 232) 17 = .ok (.if_icmp .ge 25, 3) := by decide +kernel
theorem zd_232_20 : decode (zm_cc 232) 20 = .ok (.aload_n 0, 1) := by decide +kernel
theorem zd_232_21 : decode (zm_cc 232) 21 = .ok (.getfield 9, 3) := by decide +kernel
theorem zd_232_24 : decode (zm_cc 232) 24 = .ok (.iload_n 1, 1) := by decide +kernel
theorem zd_232_25 : decode (zm_cc 232) 25 = .ok (.aload_n 0, 1) := by decide +kernel
theorem zd_232_26 : decode (zm_cc 232) 26 = .ok (.iload_n 1, 1) := by decide +kernel
theorem zd_232_27 : decode (zm_cc 232) 27 = .ok (.iconst 4, 1) := by decide +kernel
theorem zd_232_28 : decode (zm_cc 232) 28 = .ok (.idiv, 1) := by decide +kernel
theorem zd_232_29 : decode (zm_cc 232) 29 = .ok (.iload_n 1, 1) := by decide +kernel
theorem zd_232_30 : decode (zm_cc 232) 30 = .ok (.iconst 4, 1) := by decide +kernel
theorem zd_232_31 : decode (zm_cc 232) 31 = .ok (.irem, 1) := by decide +kernel
theorem zd_232_32 : decode (zm_cc 232) 32 = .ok (.invokevirtual 35, 3) := by decide +kernel
theorem zd_232_35 : decode (zm_cc 232) 35 = .ok (.iastore, 1) := by decide +kernel
theorem zd_232_36 : decode (zm_cc 232) 36 = .ok (.iinc 1 1, 3) := by decide +kernel
theorem zd_232_39 : decode (zm_cc 232) 39 = .ok (.goto (-25), 3) := by decide +kernel
theorem zd_232_42 : decode (zm_cc 232) 42 = .ok (.aload_n 0, 1) := by decide +kernel
theorem zd_232_43 : decode (zm_cc 232) 43 = .ok (.invokevirtual 39, 3) := by decide +kernel
theorem zd_232_46 : decode (zm_cc 232) 46 = .ok (.aload_n 0, 1) := by decide +kernel
theorem zd_232_47 : decode (zm_cc 232) 47 = .ok (.aload_n 0, 1) := by decide +kernel
theorem zd_232_48 : decode (zm_cc 232) 48 = .ok (.invokevirtual 42, 3) := by decide +kernel
theorem zd_232_51 : decode (zm_cc 232) 51 = .ok (.putfield 46, 3) := by decide +kernel
theorem zd_232_54 : decode (zm_cc 232) 54 = .ok (.return_, 1) := by decide +kernel
theorem zd_233_0 : decode (zm_cc 233) 0 = .ok (.aload_n 0, 1) := by decide +kernel
theorem zd_233_1 : decode (zm_cc 233) 1 = .ok (.getfield 27, 3) := by decide +kernel
theorem zd_233_4 : decode (zm_cc 233) 4 = .ok (.iload_n 1, 1) := by decide +kernel
theorem zd_233_5 : decode (zm_cc 233) 5 = .ok (.invokevirtual 61, 3) := by decide +kernel
theorem zd_233_8 : decode (zm_cc 233) 8 = .ok (.ifCond .le 7, 3) := by decide +kernel
theorem zd_233_11 : decode (zm_cc 233) 11 = .ok (.iconst 1, 1) := by decide +kernel
theorem zd_233_12 : decode (zm_cc 233) 12 = .ok (.goto 4, 3) := by decide +kernel
theorem zd_233_15 : decode (zm_cc 233) 15 = .ok (.iconst 0, 1) := by decide +kernel
theorem zd_233_16 : decode (zm_cc 233) 16 = .ok (.istore_n 3, 1) := by decide +kernel
theorem zd_233_17 : decode (zm_cc 233) 17 = .ok (.aload_n 0, 1) := by decide +kernel
theorem zd_233_18 : decode (zm_cc 233) 18 = .ok (.iload_n 1, 1) := by decide +kernel
theorem zd_233_19 : decode (zm_cc 233) 19 = .ok (.iload_n 3, 1) := by decide +kernel
theorem zd_233_20 : decode (zm_cc 233) 20 = .ok (.aload_n 0, 1) := by decide +kernel
theorem zd_233_21 : decode (zm_cc 233) 21 = .ok (.iload_n 1, 1) := by decide +kernel
theorem zd_233_22 : decode (zm_cc 233) 22 = .ok (.bipush 11, 2) := by decide +kernel
theorem zd_233_24 : decode (zm_cc 233) 24 = .ok (.iload_n 2, 1) := by decide +kernel
theorem zd_233_25 : decode (zm_cc 233) 25 = .ok (.invokevirtual 74, 3) := by decide +kernel
theorem zd_233_28 : decode (zm_cc 233) 28 = .ok (.invokevirtual 78, 3) := by decide +kernel
theorem zd_233_31 : decode (zm_cc 233) 31 = .ok (.istore 4, 2) := by decide +kernel
theorem zd_233_33 : decode (zm_cc 233) 33 = .ok (.iload_n 2, 1) := by decide +kernel
theorem zd_233_34 : decode (zm_cc 233) 34 = .ok (.iload_n 1, 1) := by decide +kernel
theorem zd_233_35 : decode (zm_cc 233) 35 = .ok (.if_icmp .eq 35, 3) := by decide +kernel
theorem zd_233_38 : decode (zm_cc 233) 38 = .ok (.aload_n 0, 1) := by decide +kernel
theorem zd_233_39 : decode (zm_cc 233) 39 = .ok (.getfield 27, 3) := by decide +kernel
theorem zd_233_42 : decode (zm_cc 233) 42 = .ok (.iload_n 2, 1) := by decide +kernel
theorem zd_233_43 : decode (zm_cc 233) 43 = .ok (.invokevirtual 81, 3) := by decide +kernel
theorem zd_233_46 : decode (zm_cc 233) 46 = .ok (.iconst 1, 1) := by decide +kernel
theorem zd_233_47 : decode (zm_cc 233) 47 = .ok (.iload_n 1, 1) := by decide +kernel
theorem zd_233_48 : decode (zm_cc 233) 48 = .ok (.ishl, 1) := by decide +kernel
theorem zd_233_49 : decode (zm_cc 233) 49 = .ok (.if_icmp .ne 21, 3) := by decide +kernel
theorem zd_233_52 : decode (zm_cc 233) 52 = .ok (.iload 4, 2) := by decide +kernel
theorem zd_233_54 : decode (zm_cc 233) 54 = .ok (.aload_n 0, 1) := by decide +kernel
theorem zd_233_55 : decode (zm_cc 233) 55 = .ok (.iload_n 1, 1) := by decide +kernel
theorem zd_233_56 : decode (zm_cc 233) 56 = .ok (.aload_n 0, 1) := by decide +kernel
theorem zd_233_57 : decode (zm_cc 233) 57 = .ok (.iload_n 1, 1) := by decide +kernel
theorem zd_233_58 : decode (zm_cc 233) 58 = .ok (.bipush 10, 2) := by decide +kernel
theorem zd_233_60 : decode (zm_cc 233) 60 = .ok (.iload_n 2, 1) := by decide +kernel
theorem zd_233_61 : decode (zm_cc 233) 61 = .ok (.invokevirtual 74, 3) := by decide +kernel
theorem zd_233_64 : decode (zm_cc 233) 64 = .ok (.invokevirtual 84, 3) := by decide +kernel
theorem zd_233_67 : decode (zm_cc 233) 67 = .ok (.iand, 1) := by decide +kernel
theorem zd_233_68 : decode (zm_cc 233) 68 = .ok (.istore 4, 2) := by decide +kernel
theorem zd_233_70 : decode (zm_cc 233) 70 = .ok (.iload 4, 2) := by decide +kernel
theorem zd_233_72 : decode (zm_cc 233) 72 = .ok (.ireturn, 1) := by decide +kernel
theorem zd_234_0 : decode (zm_cc 234) 0 = .ok (.iconst 0, 1) := by decide +kernel
theorem zd_234_1 : decode (zm_cc 234) 1 = .ok (.istore 4, 2) := by decide +kernel
theorem zd_234_3 : decode (zm_cc 234) 3 = .ok (.iconst 0, 1) := by decide +kernel
theorem zd_234_4 : decode (zm_cc 234) 4 = .ok (.istore 5, 2) := by decide +kernel
theorem zd_234_6 : decode (zm_cc 234) 6 = .ok (.iload 5, 2) := by decide +kernel
theorem zd_234_8 : decode (zm_cc 234) 8 = .ok (.aload_n 0, 1) := by decide +kernel
theorem zd_234_9 : decode (zm_cc 234) 9 = .ok (.getfield 27, 3) := by decide +kernel
theorem zd_234_12 : decode (zm_cc 234) 12 = .ok (.iload_n 1, 1) := by decide +kernel
theorem zd_234_13 : decode (zm_cc 234) 13 = .ok (.invokevirtual 61, 3) := by decide +kernel
theorem zd_234_16 : decode (zm_cc 234) 16 = .ok (.if_icmp .ge 58, 3) := by decide +kernel
theorem zd_234_19 : decode (zm_cc 234) 19 = .ok (.aload_n 0, 1) := by decide +kernel
theorem zd_234_20 : decode (zm_cc 234) 20 = .ok (.getfield 27, 3) := by decide +kernel
theorem zd_234_23 : decode (zm_cc 234) 23 = .ok (.iload_n 1, 1) := by decide +kernel
theorem zd_234_24 : decode (zm_cc 234) 24 = .ok (.iload 5, 2) := by decide +kernel
theorem zd_234_26 : decode (zm_cc 234) 26 = .ok (.invokevirtual 50, 3) := by decide +kernel
theorem zd_234_29 : decode (zm_cc 234) 29 = .ok (.istore 6, 2) := by decide +kernel
theorem zd_234_31 : decode (zm_cc 234) 31 = .ok (.aload_n 0, 1) := by decide +kernel
theorem zd_234_32 : decode (zm_cc 234) 32 = .ok (.getfield 27, 3) := by decide +kernel
theorem zd_234_35 : decode (zm_cc 234) 35 = .ok (.getfield 68, 3) := by decide +kernel
theorem zd_234_38 : decode (zm_cc 234) 38 = .ok (.iload 6, 2) := by decide +kernel
theorem zd_234_40 : decode (zm_cc 234) 40 = .ok (.iaload, 1) := by decide +kernel
theorem zd_234_41 : decode (zm_cc 234) 41 = .ok (.iload_n 2, 1) := by decide +kernel
theorem zd_234_42 : decode (zm_cc 234) 42 = .ok (.if_icmp .ne 26, 3) := by decide +kernel
theorem zd_234_45 : decode (zm_cc 234) 45 = .ok (.aload_n 0, 1) := by decide +kernel
theorem zd_234_46 : decode (zm_cc 234) 46 = .ok (.getfield 27, 3) := by decide +kernel
theorem zd_234_49 : decode (zm_cc 234) 49 = .ok (.getfield 71, 3) := by decide +kernel
theorem zd_234_52 : decode (zm_cc 234) 52 = .ok (.iload 6, 2) := by decide +kernel
theorem zd_234_54 : decode (zm_cc 234) 54 = .ok (.iaload, 1) := by decide +kernel
theorem zd_234_55 : decode (zm_cc 234) 55 = .ok (.iload_n 3, 1) := by decide +kernel
theorem zd_234_56 : decode (zm_cc 234) 56 = .ok (.if_icmp .ne 12, 3) := by decide +kernel
theorem zd_234_59 : decode (zm_cc 234) 59 = .ok (.iload 4, 2) := by decide +kernel
theorem zd_234_61 : decode (zm_cc 234) 61 = .ok (.iconst 1, 1) := by decide +kernel
theorem zd_234_62 : decode (zm_cc 234) 62 = .ok (.iload 5, 2) := by decide +kernel
theorem zd_234_64 : decode (zm_cc 234) 64 = .ok (.ishl, 1) := by decide +kernel
theorem zd_234_65 : decode (zm_cc 234) 65 = .ok (.ior, 1) := by decide +kernel
theorem zd_234_66 : decode (zm_cc 234) 66 = .ok (.istore 4, 2) := by decide +kernel
theorem zd_234_68 : decode (zm_cc 234) 68 = .ok (.iinc 5 1, 3) := by decide +kernel
theorem zd_234_71 : decode (zm_cc 234) 71 = .ok (.goto (-65), 3) := by decide +kernel
theorem zd_234_74 : decode (zm_cc 234) 74 = .ok (.iload 4, 2) := by decide +kernel
theorem zd_234_76 : decode (zm_cc 234) 76 = .ok (.ireturn, 1) := by decide +kernel
theorem zd_235_0 : decode (zm_cc 235) 0 = .ok (.iload_n 2, 1) := by decide +kernel
theorem zd_235_1 : decode (zm_cc 235) 1 = .ok (.istore 4, 2) := by decide +kernel
theorem zd_235_3 : decode (zm_cc 235) 3 = .ok (.iconst 0, 1) := by decide +kernel
theorem zd_235_4 : decode (zm_cc 235) 4 = .ok (.istore 5, 2) := by decide +kernel
theorem zd_235_6 : decode (zm_cc 235) 6 = .ok (.iload 5, 2) := by decide +kernel
theorem zd_235_8 : decode (zm_cc 235) 8 = .ok (.bipush 24, 2) := by decide +kernel
theorem zd_235_10 : decode (zm_cc 235) 10 = .ok (.if_icmp .ge 65, 3) := by decide +kernel
theorem zd_235_13 : decode (zm_cc 235) 13 = .ok (.iload 4, 2) := by decide +kernel
theorem zd_235_15 : decode (zm_cc 235) 15 = .ok (.istore 6, 2) := by decide +kernel
theorem zd_235_17 : decode (zm_cc 235) 17 = .ok (.iconst 0, 1) := by decide +kernel
theorem zd_235_18 : decode (zm_cc 235) 18 = .ok (.istore 7, 2) := by decide +kernel
theorem zd_235_20 : decode (zm_cc 235) 20 = .ok (.iload 7, 2) := by decide +kernel
theorem zd_235_22 : decode (zm_cc 235) 22 = .ok (.bipush 24, 2) := by decide +kernel
theorem zd_235_24 : decode (zm_cc 235) 24 = .ok (.if_icmp .ge 35, 3) := by decide +kernel
theorem zd_235_27 : decode (zm_cc 235) 27 = .ok (.iload 4, 2) := by decide +kernel
theorem zd_235_29 : decode (zm_cc 235) 29 = .ok (.iload_n 3, 1) := by decide +kernel
theorem zd_235_30 : decode (zm_cc 235) 30 = .ok (.iconst (-1), 1) := by decide +kernel
theorem zd_235_31 : decode (zm_cc 235) 31 = .ok (.ixor, 1) := by decide +kernel
theorem zd_235_32 : decode (zm_cc 235) 32 = .ok (.iand, 1) := by decide +kernel
theorem zd_235_33 : decode (zm_cc 235) 33 = .ok (.iconst 1, 1) := by decide +kernel
theorem zd_235_34 : decode (zm_cc 235) 34 = .ok (.iload 7, 2) := by decide +kernel
theorem zd_235_36 : decode (zm_cc 235) 36 = .ok (.ishl, 1) := by decide +kernel
theorem zd_235_37 : decode (zm_cc 235) 37 = .ok (.iand, 1) := by decide +kernel
theorem zd_235_38 : decode (zm_cc 235) 38 = .ok (.ifCond .eq 15, 3) := by decide +kernel
theorem zd_235_41 : decode (zm_cc 235) 41 = .ok (.iload 4, 2) := by decide +kernel
theorem zd_235_43 : decode (zm_cc 235) 43 = .ok (.aload_n 0, 1) := by decide +kernel
theorem zd_235_44 : decode (zm_cc 235) 44 = .ok (.iload_n 1, 1) := by decide +kernel
theorem zd_235_45 : decode (zm_cc 235) 45 = .ok (.iload 7, 2) := by decide +kernel
theorem zd_235_47 : decode (zm_cc 235) 47 = .ok (.invokevirtual 65, 3) := by decide +kernel
theorem zd_235_50 : decode (zm_cc 235) 50 = .ok (.ior, 1) := by decide +kernel
theorem zd_235_51 : decode (zm_cc 235) 51 = .ok (.istore 4, 2) := by decide +kernel
theorem zd_235_53 : decode (zm_cc 235) 53 = .ok (.iinc 7 1, 3) := by decide +kernel
theorem zd_235_56 : decode (zm_cc 235) 56 = .ok (.goto (-36), 3) := by decide +kernel
theorem zd_235_59 : decode (zm_cc 235) 59 = .ok (.iload 4, 2) := by decide +kernel
theorem zd_235_61 : decode (zm_cc 235) 61 = .ok (.iload 6, 2) := by decide +kernel
theorem zd_235_63 : decode (zm_cc 235) 63 = .ok (.if_icmp .ne 6, 3) := by decide +kernel
theorem zd_235_66 : decode (zm_cc 235) 66 = .ok (.iload 4, 2) := by decide +kernel
theorem zd_235_68 : decode (zm_cc 235) 68 = .ok (.ireturn, 1) := by decide +kernel
theorem zd_235_69 : decode (zm_cc 235) 69 = .ok (.iinc 5 1, 3) := by decide +kernel
theorem zd_235_72 : decode (zm_cc 235) 72 = .ok (.goto (-66), 3) := by decide +kernel
theorem zd_235_75 : decode (zm_cc 235) 75 = .ok (.iload 4, 2) := by decide +kernel
theorem zd_235_77 : decode (zm_cc 235) 77 = .ok (.ireturn, 1) := by decide +kernel
theorem zd_236_0 : decode (zm_cc 236) 0 = .ok (.aload_n 0, 1) := by decide +kernel
theorem zd_236_1 : decode (zm_cc 236) 1 = .ok (.getfield 27, 3) := by decide +kernel
theorem zd_236_4 : decode (zm_cc 236) 4 = .ok (.iload_n 1, 1) := by decide +kernel
theorem zd_236_5 : decode (zm_cc 236) 5 = .ok (.iload_n 2, 1) := by decide +kernel
theorem zd_236_6 : decode (zm_cc 236) 6 = .ok (.invokevirtual 50, 3) := by decide +kernel
theorem zd_236_9 : decode (zm_cc 236) 9 = .ok (.istore_n 3, 1) := by decide +kernel
theorem zd_236_10 : decode (zm_cc 236) 10 = .ok (.aload_n 0, 1) := by decide +kernel
theorem zd_236_11 : decode (zm_cc 236) 11 = .ok (.getfield 27, 3) := by decide +kernel
theorem zd_236_14 : decode (zm_cc 236) 14 = .ok (.getfield 55, 3) := by decide +kernel
theorem zd_236_17 : decode (zm_cc 236) 17 = .ok (.iload_n 3, 1) := by decide +kernel
theorem zd_236_18 : decode (zm_cc 236) 18 = .ok (.iaload, 1) := by decide +kernel
theorem zd_236_19 : decode (zm_cc 236) 19 = .ok (.istore 4, 2) := by decide +kernel
theorem zd_236_21 : decode (zm_cc 236) 21 = .ok (.aload_n 0, 1) := by decide +kernel
theorem zd_236_22 : decode (zm_cc 236) 22 = .ok (.getfield 27, 3) := by decide +kernel
theorem zd_236_25 : decode (zm_cc 236) 25 = .ok (.getfield 58, 3) := by decide +kernel
theorem zd_236_28 : decode (zm_cc 236) 28 = .ok (.iload_n 3, 1) := by decide +kernel
theorem zd_236_29 : decode (zm_cc 236) 29 = .ok (.iaload, 1) := by decide +kernel
theorem zd_236_30 : decode (zm_cc 236) 30 = .ok (.istore 5, 2) := by decide +kernel
theorem zd_236_32 : decode (zm_cc 236) 32 = .ok (.aload_n 0, 1) := by decide +kernel
theorem zd_236_33 : decode (zm_cc 236) 33 = .ok (.getfield 27, 3) := by decide +kernel
theorem zd_236_36 : decode (zm_cc 236) 36 = .ok (.iload_n 1, 1) := by decide +kernel
theorem zd_236_37 : decode (zm_cc 236) 37 = .ok (.invokevirtual 61, 3) := by decide +kernel
theorem zd_236_40 : decode (zm_cc 236) 40 = .ok (.istore 6, 2) := by decide +kernel
theorem zd_236_42 : decode (zm_cc 236) 42 = .ok (.iload 4, 2) := by decide +kernel
theorem zd_236_44 : decode (zm_cc 236) 44 = .ok (.ifCond .lt 17, 3) := by decide +kernel
theorem zd_236_47 : decode (zm_cc 236) 47 = .ok (.iload 4, 2) := by decide +kernel
theorem zd_236_49 : decode (zm_cc 236) 49 = .ok (.iload 6, 2) := by decide +kernel
theorem zd_236_51 : decode (zm_cc 236) 51 = .ok (.if_icmp .ge 10, 3) := by decide +kernel
theorem zd_236_54 : decode (zm_cc 236) 54 = .ok (.iconst 1, 1) := by decide +kernel
theorem zd_236_55 : decode (zm_cc 236) 55 = .ok (.iload 4, 2) := by decide +kernel
theorem zd_236_57 : decode (zm_cc 236) 57 = .ok (.ishl, 1) := by decide +kernel
theorem zd_236_58 : decode (zm_cc 236) 58 = .ok (.goto 4, 3) := by decide +kernel
theorem zd_236_61 : decode (zm_cc 236) 61 = .ok (.iconst 0, 1) := by decide +kernel
theorem zd_236_62 : decode (zm_cc 236) 62 = .ok (.istore 7, 2) := by decide +kernel
theorem zd_236_64 : decode (zm_cc 236) 64 = .ok (.iload 5, 2) := by decide +kernel
theorem zd_236_66 : decode (zm_cc 236) 66 = .ok (.ifCond .lt 20, 3) := by decide +kernel
theorem zd_236_69 : decode (zm_cc 236) 69 = .ok (.iload 5, 2) := by decide +kernel
theorem zd_236_71 : decode (zm_cc 236) 71 = .ok (.iload 6, 2) := by decide +kernel
theorem zd_236_73 : decode (zm_cc 236) 73 = .ok (.if_icmp .ge 13, 3) := by decide +kernel
theorem zd_236_76 : decode (zm_cc 236) 76 = .ok (.iload 7, 2) := by decide +kernel
theorem zd_236_78 : decode (zm_cc 236) 78 = .ok (.iconst 1, 1) := by decide +kernel
theorem zd_236_79 : decode (zm_cc 236) 79 = .ok (.iload 5, 2) := by decide +kernel
theorem zd_236_81 : decode (zm_cc 236) 81 = .ok (.ishl, 1) := by decide +kernel
theorem zd_236_82 : decode (zm_cc 236) 82 = .ok (.ior, 1) := by decide +kernel
theorem zd_236_83 : decode (zm_cc 236) 83 = .ok (.goto 5, 3) := by decide +kernel
theorem zd_236_86 : decode (zm_cc 236) 86 = .ok (.iload 7, 2) := by decide +kernel
theorem zd_236_88 : decode (zm_cc 236) 88 = .ok (.ireturn, 1) := by decide +kernel
theorem zd_237_0 : decode (zm_cc 237) 0 = .ok (.iconst 0, 1) := by decide +kernel
theorem zd_237_1 : decode (zm_cc 237) 1 = .ok (.istore_n 3, 1) := by decide +kernel
theorem zd_237_2 : decode (zm_cc 237) 2 = .ok (.iconst 0, 1) := by decide +kernel
theorem zd_237_3 : decode (zm_cc 237) 3 = .ok (.istore 4, 2) := by decide +kernel
theorem zd_237_5 : decode (zm_cc 237) 5 = .ok (.iload 4, 2) := by decide +kernel
theorem zd_237_7 : decode (zm_cc 237) 7 = .ok (.bipush 24, 2) := by decide +kernel
theorem zd_237_9 : decode (zm_cc 237) 9 = .ok (.if_icmp .ge 28, 3) := by decide +kernel
theorem zd_237_12 : decode (zm_cc 237) 12 = .ok (.iload_n 2, 1) := by decide +kernel
theorem zd_237_13 : decode (zm_cc 237) 13 = .ok (.iload 4, 2) := by decide +kernel
theorem zd_237_15 : decode (zm_cc 237) 15 = .ok (.iushr, 1) := by decide +kernel
theorem zd_237_16 : decode (zm_cc 237) 16 = .ok (.iconst 1, 1) := by decide +kernel
theorem zd_237_17 : decode (zm_cc 237) 17 = .ok (.iand, 1) := by decide +kernel
theorem zd_237_18 : decode (zm_cc 237) 18 = .ok (.ifCond .eq 13, 3) := by decide +kernel
theorem zd_237_21 : decode (zm_cc 237) 21 = .ok (.iload_n 3, 1) := by decide +kernel
theorem zd_237_22 : decode (zm_cc 237) 22 = .ok (.aload_n 0, 1) := by decide +kernel
theorem zd_237_23 : decode (zm_cc 237) 23 = .ok (.iload_n 1, 1) := by decide +kernel
theorem zd_237_24 : decode (zm_cc 237) 24 = .ok (.iload 4, 2) := by decide +kernel
theorem zd_237_26 : decode (zm_cc 237) 26 = .ok (.invokevirtual 65, 3) := by decide +kernel
theorem zd_237_29 : decode (zm_cc 237) 29 = .ok (.ior, 1) := by decide +kernel
theorem zd_237_30 : decode (zm_cc 237) 30 = .ok (.istore_n 3, 1) := by decide +kernel
theorem zd_237_31 : decode (zm_cc 237) 31 = .ok (.iinc 4 1, 3) := by decide +kernel
theorem zd_237_34 : decode (zm_cc 237) 34 = .ok (.goto (-29), 3) := by decide +kernel
theorem zd_237_37 : decode (zm_cc 237) 37 = .ok (.aload_n 0, 1) := by decide +kernel
theorem zd_237_38 : decode (zm_cc 237) 38 = .ok (.iload_n 1, 1) := by decide +kernel
theorem zd_237_39 : decode (zm_cc 237) 39 = .ok (.iload_n 3, 1) := by decide +kernel
theorem zd_237_40 : decode (zm_cc 237) 40 = .ok (.iconst 0, 1) := by decide +kernel
theorem zd_237_41 : decode (zm_cc 237) 41 = .ok (.invokevirtual 78, 3) := by decide +kernel
theorem zd_237_44 : decode (zm_cc 237) 44 = .ok (.ireturn, 1) := by decide +kernel
theorem zd_238_0 : decode (zm_cc 238) 0 = .ok (.aload_n 0, 1) := by decide +kernel
theorem zd_238_1 : decode (zm_cc 238) 1 = .ok (.getfield 23, 3) := by decide +kernel
theorem zd_238_4 : decode (zm_cc 238) 4 = .ok (.invokevirtual 87, 3) := by decide +kernel
theorem zd_238_7 : decode (zm_cc 238) 7 = .ok (.iconst 0, 1) := by decide +kernel
theorem zd_238_8 : decode (zm_cc 238) 8 = .ok (.istore_n 1, 1) := by decide +kernel
theorem zd_238_9 : decode (zm_cc 238) 9 = .ok (.iload_n 1, 1) := by decide +kernel
theorem zd_238_10 : decode (zm_cc 238) 10 = .ok (.bipush 96, 2) := by decide +kernel
theorem zd_238_12 : decode (zm_cc 238) 12 = .ok (.if_icmp .ge 66, 3) := by decide +kernel
theorem zd_238_15 : decode (zm_cc 238) 15 = .ok (.iload_n 1, 1) := by decide +kernel
theorem zd_238_16 : decode (zm_cc 238) 16 = .ok (.bipush 24, 2) := by decide +kernel
theorem zd_238_18 : decode (zm_cc 238) 18 = .ok (.idiv, 1) := by decide +kernel
theorem zd_238_19 : decode (zm_cc 238) 19 = .ok (.istore_n 2, 1) := by decide +kernel
theorem zd_238_20 : decode (zm_cc 238) 20 = .ok (.iload_n 2, 1) := by decide +kernel
theorem zd_238_21 : decode (zm_cc 238) 21 = .ok (.iconst 1, 1) := by decide +kernel
theorem zd_238_22 : decode (zm_cc 238) 22 = .ok (.iadd, 1) := by decide +kernel
theorem zd_238_23 : decode (zm_cc 238) 23 = .ok (.bipush 24, 2) := by decide +kernel
theorem zd_238_25 : decode (zm_cc 238) 25 = .ok (.imul, 1) := by decide +kernel
theorem zd_238_26 : decode (zm_cc 238) 26 = .ok (.istore_n 3, 1) := by decide +kernel
theorem zd_238_27 : decode (zm_cc 238) 27 = .ok (.iload_n 3, 1) := by decide +kernel
theorem zd_238_28 : decode (zm_cc 238) 28 = .ok (.bipush 96, 2) := by decide +kernel
theorem zd_238_30 : decode (zm_cc 238) 30 = .ok (.if_icmp .ge 42, 3) := by decide +kernel
theorem zd_238_33 : decode (zm_cc 238) 33 = .ok (.aload_n 0, 1) := by decide +kernel
theorem zd_238_34 : decode (zm_cc 238) 34 = .ok (.iload_n 2, 1) := by decide +kernel
theorem zd_238_35 : decode (zm_cc 238) 35 = .ok (.iload_n 1, 1) := by decide +kernel
theorem zd_238_36 : decode (zm_cc 238) 36 = .ok (.bipush 24, 2) := by decide +kernel
theorem zd_238_38 : decode (zm_cc 238) 38 = .ok (.irem, 1) := by decide +kernel
theorem zd_238_39 : decode (zm_cc 238) 39 = .ok (.iload_n 3, 1) := by decide +kernel
theorem zd_238_40 : decode (zm_cc 238) 40 = .ok (.bipush 24, 2) := by decide +kernel
theorem zd_238_42 : decode (zm_cc 238) 42 = .ok (.idiv, 1) := by decide +kernel
theorem zd_238_43 : decode (zm_cc 238) 43 = .ok (.iload_n 3, 1) := by decide +kernel
theorem zd_238_44 : decode (zm_cc 238) 44 = .ok (.bipush 24, 2) := by decide +kernel
theorem zd_238_46 : decode (zm_cc 238) 46 = .ok (.irem, 1) := by decide +kernel
theorem zd_238_47 : decode (zm_cc 238) 47 = .ok (.invokevirtual 90, 3) := by decide +kernel
theorem zd_238_50 : decode (zm_cc 238) 50 = .ok (.ifCond .eq 16, 3) := by decide +kernel
theorem zd_238_53 : decode (zm_cc 238) 53 = .ok (.aload_n 0, 1) := by decide +kernel
theorem zd_238_54 : decode (zm_cc 238) 54 = .ok (.getfield 23, 3) := by decide +kernel
theorem zd_238_57 : decode (zm_cc 238) 57 = .ok (.iload_n 1, 1) := by decide +kernel
theorem zd_238_58 : decode (zm_cc 238) 58 = .ok (.bipush 96, 2) := by decide +kernel
theorem zd_238_60 : decode (zm_cc 238) 60 = .ok (.imul, 1) := by decide +kernel
theorem zd_238_61 : decode (zm_cc 238) 61 = .ok (.iload_n 3, 1) := by decide +kernel
theorem zd_238_62 : decode (zm_cc 238) 62 = .ok (.iadd, 1) := by decide +kernel
theorem zd_238_63 : decode (zm_cc 238) 63 = .ok (.invokevirtual 94, 3) := by decide +kernel
theorem zd_238_66 : decode (zm_cc 238) 66 = .ok (.iinc 3 1, 3) := by decide +kernel
theorem zd_238_69 : decode (zm_cc 238) 69 = .ok (.goto (-42), 3) := by decide +kernel
theorem zd_238_72 : decode (zm_cc 238) 72 = .ok (.iinc 1 1, 3) := by decide +kernel
theorem zd_238_75 : decode (zm_cc 238) 75 = .ok (.goto (-66), 3) := by decide +kernel
theorem zd_238_78 : decode (zm_cc 238) 78 = .ok (.return_, 1) := by decide +kernel
theorem zd_239_0 : decode (zm_cc 239) 0 = .ok (.aload_n 0, 1) := by decide +kernel
theorem zd_239_1 : decode (zm_cc 239) 1 = .ok (.getfield 27, 3) := by decide +kernel
theorem zd_239_4 : decode (zm_cc 239) 4 = .ok (.iload_n 1, 1) := by decide +kernel
theorem zd_239_5 : decode (zm_cc 239) 5 = .ok (.iload_n 2, 1) := by decide +kernel
theorem zd_239_6 : decode (zm_cc 239) 6 = .ok (.invokevirtual 50, 3) := by decide +kernel
theorem zd_239_9 : decode (zm_cc 239) 9 = .ok (.istore 5, 2) := by decide +kernel
theorem zd_239_11 : decode (zm_cc 239) 11 = .ok (.aload_n 0, 1) := by decide +kernel
theorem zd_239_12 : decode (zm_cc 239) 12 = .ok (.getfield 27, 3) := by decide +kernel
theorem zd_239_15 : decode (zm_cc 239) 15 = .ok (.iload_n 3, 1) := by decide +kernel
theorem zd_239_16 : decode (zm_cc 239) 16 = .ok (.iload 4, 2) := by decide +kernel
theorem zd_239_18 : decode (zm_cc 239) 18 = .ok (.invokevirtual 50, 3) := by decide +kernel
theorem zd_239_21 : decode (zm_cc 239) 21 = .ok (.istore 6, 2) := by decide +kernel
theorem zd_239_23 : decode (zm_cc 239) 23 = .ok (.aload_n 0, 1) := by decide +kernel
theorem zd_239_24 : decode (zm_cc 239) 24 = .ok (.getfield 27, 3) := by decide +kernel
theorem zd_239_27 : decode (zm_cc 239) 27 = .ok (.iload 5, 2) := by decide +kernel
theorem zd_239_29 : decode (zm_cc 239) 29 = .ok (.iload 6, 2) := by decide +kernel
theorem zd_239_31 : decode (zm_cc 239) 31 = .ok (.invokevirtual 97, 3) := by decide +kernel
theorem zd_239_34 : decode (zm_cc 239) 34 = .ok (.ifCond .eq 43, 3) := by decide +kernel
theorem zd_239_37 : decode (zm_cc 239) 37 = .ok (.aload_n 0, 1) := by decide +kernel
theorem zd_239_38 : decode (zm_cc 239) 38 = .ok (.getfield 27, 3) := by decide +kernel
theorem zd_239_41 : decode (zm_cc 239) 41 = .ok (.getfield 101, 3) := by decide +kernel
theorem zd_239_44 : decode (zm_cc 239) 44 = .ok (.iload 5, 2) := by decide +kernel
theorem zd_239_46 : decode (zm_cc 239) 46 = .ok (.iaload, 1) := by decide +kernel
theorem zd_239_47 : decode (zm_cc 239) 47 = .ok (.aload_n 0, 1) := by decide +kernel
theorem zd_239_48 : decode (zm_cc 239) 48 = .ok (.getfield 27, 3) := by decide +kernel
theorem zd_239_51 : decode (zm_cc 239) 51 = .ok (.getfield 101, 3) := by decide +kernel
theorem zd_239_54 : decode (zm_cc 239) 54 = .ok (.iload 6, 2) := by decide +kernel
theorem zd_239_56 : decode (zm_cc 239) 56 = .ok (.iaload, 1) := by decide +kernel
theorem zd_239_57 : decode (zm_cc 239) 57 = .ok (.iand, 1) := by decide +kernel
theorem zd_239_58 : decode (zm_cc 239) 58 = .ok (.ifCond .ne 19, 3) := by decide +kernel
theorem zd_239_61 : decode (zm_cc 239) 61 = .ok (.aload_n 0, 1) := by decide +kernel
theorem zd_239_62 : decode (zm_cc 239) 62 = .ok (.iload_n 1, 1) := by decide +kernel
theorem zd_239_63 : decode (zm_cc 239) 63 = .ok (.iload_n 2, 1) := by decide +kernel
theorem zd_239_64 : decode (zm_cc 239) 64 = .ok (.iload_n 3, 1) := by decide +kernel
theorem zd_239_65 : decode (zm_cc 239) 65 = .ok (.iload 4, 2) := by decide +kernel
theorem zd_239_67 : decode (zm_cc 239) 67 = .ok (.invokevirtual 104, 3) := by decide +kernel
theorem zd_239_70 : decode (zm_cc 239) 70 = .ok (.ifCond .eq 7, 3) := by decide +kernel
theorem zd_239_73 : decode (zm_cc 239) 73 = .ok (.iconst 1, 1) := by decide +kernel
theorem zd_239_74 : decode (zm_cc 239) 74 = .ok (.goto 4, 3) := by decide +kernel
theorem zd_239_77 : decode (zm_cc 239) 77 = .ok (.iconst 0, 1) := by decide +kernel
theorem zd_239_78 : decode (zm_cc 239) 78 = .ok (.ireturn, 1) := by decide +kernel
theorem zd_240_0 : decode (zm_cc 240) 0 = .ok (.iload_n 1, 1) := by decide +kernel
theorem zd_240_1 : decode (zm_cc 240) 1 = .ok (.ifCond .lt 17, 3) := by decide +kernel
theorem zd_240_4 : decode (zm_cc 240) 4 = .ok (.iload_n 1, 1) := by decide +kernel
theorem zd_240_5 : decode (zm_cc 240) 5 = .ok (.iconst 4, 1) := by decide +kernel
theorem zd_240_6 : decode (zm_cc 240) 6 = .ok (.if_icmp .ge 12, 3) := by decide +kernel
theorem zd_240_9 : decode (zm_cc 240) 9 = .ok (.iload_n 3, 1) := by decide +kernel
theorem zd_240_10 : decode (zm_cc 240) 10 = .ok (.ifCond .lt 8, 3) := by decide +kernel
theorem zd_240_13 : decode (zm_cc 240) 13 = .ok (.iload_n 3, 1) := by decide +kernel
theorem zd_240_14 : decode (zm_cc 240) 14 = .ok (.iconst 4, 1) := by decide +kernel
theorem zd_240_15 : decode (zm_cc 240) 15 = .ok (.if_icmp .lt 5, 3) := by decide +kernel
theorem zd_240_18 : decode (zm_cc 240) 18 = .ok (.iconst 0, 1) := by decide +kernel
theorem zd_240_19 : decode (zm_cc 240) 19 = .ok (.ireturn, 1) := by decide +kernel
theorem zd_240_20 : decode (zm_cc 240) 20 = .ok (.aload_n 0, 1) := by decide +kernel
theorem zd_240_21 : decode (zm_cc 240) 21 = .ok (.getfield 9, 3) := by decide +kernel
theorem zd_240_24 : decode (zm_cc 240) 24 = .ok (.iload_n 1, 1) := by decide +kernel
theorem zd_240_25 : decode (zm_cc 240) 25 = .ok (.iconst 4, 1) := by decide +kernel
theorem zd_240_26 : decode (zm_cc 240) 26 = .ok (.imul, 1) := by decide +kernel
theorem zd_240_27 : decode (zm_cc 240) 27 = .ok (.iload_n 3, 1) := by decide +kernel
theorem zd_240_28 : decode (zm_cc 240) 28 = .ok (.iadd, 1) := by decide +kernel
theorem zd_240_29 : decode (zm_cc 240) 29 = .ok (.iaload, 1) := by decide +kernel
theorem zd_240_30 : decode (zm_cc 240) 30 = .ok (.iload_n 2, 1) := by decide +kernel
theorem zd_240_31 : decode (zm_cc 240) 31 = .ok (.iushr, 1) := by decide +kernel
theorem zd_240_32 : decode (zm_cc 240) 32 = .ok (.aload_n 0, 1) := by decide +kernel
theorem zd_240_33 : decode (zm_cc 240) 33 = .ok (.getfield 9, 3) := by decide +kernel
theorem zd_240_36 : decode (zm_cc 240) 36 = .ok (.iload_n 3, 1) := by decide +kernel
theorem zd_240_37 : decode (zm_cc 240) 37 = .ok (.iconst 4, 1) := by decide +kernel
theorem zd_240_38 : decode (zm_cc 240) 38 = .ok (.imul, 1) := by decide +kernel
theorem zd_240_39 : decode (zm_cc 240) 39 = .ok (.iload_n 1, 1) := by decide +kernel
theorem zd_240_40 : decode (zm_cc 240) 40 = .ok (.iadd, 1) := by decide +kernel
theorem zd_240_41 : decode (zm_cc 240) 41 = .ok (.iaload, 1) := by decide +kernel
theorem zd_240_42 : decode (zm_cc 240) 42 = .ok (.iload 4, 2) := by decide +kernel
theorem zd_240_44 : decode (zm_cc 240) 44 = .ok (.iushr, 1) := by decide +kernel
theorem zd_240_45 : decode (zm_cc 240) 45 = .ok (.iand, 1) := by decide +kernel
theorem zd_240_46 : decode (zm_cc 240) 46 = .ok (.iconst 1, 1) := by decide +kernel
theorem zd_240_47 : decode (zm_cc 240) 47 = .ok (.iand, 1) := by decide +kernel
theorem zd_240_48 : decode (zm_cc 240) 48 = .ok (.ifCond .eq 7, 3) := by decide +kernel
theorem zd_240_51 : decode (zm_cc 240) 51 = .ok (.iconst 1, 1) := by decide +kernel
theorem zd_240_52 : decode (zm_cc 240) 52 = .ok (.goto 4, 3) := by decide +kernel
theorem zd_240_55 : decode (zm_cc 240) 55 = .ok (.iconst 0, 1) := by decide +kernel
theorem zd_240_56 : decode (zm_cc 240) 56 = .ok (.ireturn, 1) := by decide +kernel
theorem zd_241_0 : decode (zm_cc 241) 0 = .ok (.iconst 0, 1) := by decide +kernel
theorem zd_241_1 : decode (zm_cc 241) 1 = .ok (.istore_n 1, 1) := by decide +kernel
theorem zd_241_2 : decode (zm_cc 241) 2 = .ok (.iconst 0, 1) := by decide +kernel
theorem zd_241_3 : decode (zm_cc 241) 3 = .ok (.istore_n 2, 1) := by decide +kernel
theorem zd_241_4 : decode (zm_cc 241) 4 = .ok (.iload_n 2, 1) := by decide +kernel
theorem zd_241_5 : decode (zm_cc 241) 5 = .ok (.bipush 96, 2) := by decide +kernel
theorem zd_241_7 : decode (zm_cc 241) 7 = .ok (.if_icmp .ge 62, 3) := by decide +kernel
theorem zd_241_10 : decode (zm_cc 241) 10 = .ok (.aload_n 0, 1) := by decide +kernel
theorem zd_241_11 : decode (zm_cc 241) 11 = .ok (.getfield 27, 3) := by decide +kernel
theorem zd_241_14 : decode (zm_cc 241) 14 = .ok (.iload_n 2, 1) := by decide +kernel
theorem zd_241_15 : decode (zm_cc 241) 15 = .ok (.bipush 24, 2) := by decide +kernel
theorem zd_241_17 : decode (zm_cc 241) 17 = .ok (.idiv, 1) := by decide +kernel
theorem zd_241_18 : decode (zm_cc 241) 18 = .ok (.iload_n 2, 1) := by decide +kernel
theorem zd_241_19 : decode (zm_cc 241) 19 = .ok (.bipush 24, 2) := by decide +kernel
theorem zd_241_21 : decode (zm_cc 241) 21 = .ok (.irem, 1) := by decide +kernel
theorem zd_241_22 : decode (zm_cc 241) 22 = .ok (.invokevirtual 50, 3) := by decide +kernel
theorem zd_241_25 : decode (zm_cc 241) 25 = .ok (.istore_n 3, 1) := by decide +kernel
theorem zd_241_26 : decode (zm_cc 241) 26 = .ok (.aload_n 0, 1) := by decide +kernel
theorem zd_241_27 : decode (zm_cc 241) 27 = .ok (.getfield 27, 3) := by decide +kernel
theorem zd_241_30 : decode (zm_cc 241) 30 = .ok (.getfield 68, 3) := by decide +kernel
theorem zd_241_33 : decode (zm_cc 241) 33 = .ok (.iload_n 3, 1) := by decide +kernel
theorem zd_241_34 : decode (zm_cc 241) 34 = .ok (.iaload, 1) := by decide +kernel
theorem zd_241_35 : decode (zm_cc 241) 35 = .ok (.iconst 3, 1) := by decide +kernel
theorem zd_241_36 : decode (zm_cc 241) 36 = .ok (.if_icmp .ne 27, 3) := by decide +kernel
theorem zd_241_39 : decode (zm_cc 241) 39 = .ok (.aload_n 0, 1) := by decide +kernel
theorem zd_241_40 : decode (zm_cc 241) 40 = .ok (.getfield 15, 3) := by decide +kernel
theorem zd_241_43 : decode (zm_cc 241) 43 = .ok (.iconst 0, 1) := by decide +kernel
theorem zd_241_44 : decode (zm_cc 241) 44 = .ok (.iload_n 3, 1) := by decide +kernel
theorem zd_241_45 : decode (zm_cc 241) 45 = .ok (.iastore, 1) := by decide +kernel
theorem zd_241_46 : decode (zm_cc 241) 46 = .ok (.iload_n 1, 1) := by decide +kernel
theorem zd_241_47 : decode (zm_cc 241) 47 = .ok (.aload_n 0, 1) := by decide +kernel
theorem zd_241_48 : decode (zm_cc 241) 48 = .ok (.iconst 1, 1) := by decide +kernel
theorem zd_241_49 : decode (zm_cc 241) 49 = .ok (.aload_n 0, 1) := by decide +kernel
theorem zd_241_50 : decode (zm_cc 241) 50 = .ok (.getfield 27, 3) := by decide +kernel
theorem zd_241_53 : decode (zm_cc 241) 53 = .ok (.getfield 101, 3) := by decide +kernel
theorem zd_241_56 : decode (zm_cc 241) 56 = .ok (.iload_n 3, 1) := by decide +kernel
theorem zd_241_57 : decode (zm_cc 241) 57 = .ok (.iaload, 1) := by decide +kernel
theorem zd_241_58 : decode (zm_cc 241) 58 = .ok (.invokevirtual 110, 3) := by decide +kernel
theorem zd_241_61 : decode (zm_cc 241) 61 = .ok (.iadd, 1) := by decide +kernel
theorem zd_241_62 : decode (zm_cc 241) 62 = .ok (.istore_n 1, 1) := by decide +kernel
theorem zd_241_63 : decode (zm_cc 241) 63 = .ok (.iinc 2 1, 3) := by decide +kernel
theorem zd_241_66 : decode (zm_cc 241) 66 = .ok (.goto (-62), 3) := by decide +kernel
theorem zd_241_69 : decode (zm_cc 241) 69 = .ok (.iload_n 1, 1) := by decide +kernel
theorem zd_241_70 : decode (zm_cc 241) 70 = .ok (.ireturn, 1) := by decide +kernel
theorem zd_242_0 : decode (zm_cc 242) 0 = .ok (.iload_n 1, 1) := by decide +kernel
theorem zd_242_1 : decode (zm_cc 242) 1 = .ok (.ifCond .le 8, 3) := by decide +kernel
theorem zd_242_4 : decode (zm_cc 242) 4 = .ok (.iload_n 1, 1) := by decide +kernel
theorem zd_242_5 : decode (zm_cc 242) 5 = .ok (.iconst 4, 1) := by decide +kernel
theorem zd_242_6 : decode (zm_cc 242) 6 = .ok (.if_icmp .le 5, 3) := by decide +kernel
theorem zd_242_9 : decode (zm_cc 242) 9 = .ok (.iconst 0, 1) := by decide +kernel
theorem zd_242_10 : decode (zm_cc 242) 10 = .ok (.ireturn, 1) := by decide +kernel
theorem zd_242_11 : decode (zm_cc 242) 11 = .ok (.aload_n 0, 1) := by decide +kernel
theorem zd_242_12 : decode (zm_cc 242) 12 = .ok (.getfield 15, 3) := by decide +kernel
theorem zd_242_15 : decode (zm_cc 242) 15 = .ok (.iconst 0, 1) := by decide +kernel
theorem zd_242_16 : decode (zm_cc 242) 16 = .ok (.iaload, 1) := by decide +kernel
theorem zd_242_17 : decode (zm_cc 242) 17 = .ok (.istore_n 3, 1) := by decide +kernel
theorem zd_242_18 : decode (zm_cc 242) 18 = .ok (.aload_n 0, 1) := by decide +kernel
theorem zd_242_19 : decode (zm_cc 242) 19 = .ok (.getfield 27, 3) := by decide +kernel
theorem zd_242_22 : decode (zm_cc 242) 22 = .ok (.getfield 71, 3) := by decide +kernel
theorem zd_242_25 : decode (zm_cc 242) 25 = .ok (.aload_n 0, 1) := by decide +kernel
theorem zd_242_26 : decode (zm_cc 242) 26 = .ok (.getfield 15, 3) := by decide +kernel
theorem zd_242_29 : decode (zm_cc 242) 29 = .ok (.iload_n 1, 1) := by decide +kernel
theorem zd_242_30 : decode (zm_cc 242) 30 = .ok (.iconst 1, 1) := by decide +kernel
theorem zd_242_31 : decode (zm_cc 242) 31 = .ok (.isub, 1) := by decide +kernel
theorem zd_242_32 : decode (zm_cc 242) 32 = .ok (.iaload, 1) := by decide +kernel
theorem zd_242_33 : decode (zm_cc 242) 33 = .ok (.iaload, 1) := by decide +kernel
theorem zd_242_34 : decode (zm_cc 242) 34 = .ok (.istore 4, 2) := by decide +kernel
theorem zd_242_36 : decode (zm_cc 242) 36 = .ok (.iload_n 1, 1) := by decide +kernel
theorem zd_242_37 : decode (zm_cc 242) 37 = .ok (.iconst 1, 1) := by decide +kernel
theorem zd_242_38 : decode (zm_cc 242) 38 = .ok (.if_icmp .le 20, 3) := by decide +kernel
theorem zd_242_41 : decode (zm_cc 242) 41 = .ok (.aload_n 0, 1) := by decide +kernel
theorem zd_242_42 : decode (zm_cc 242) 42 = .ok (.getfield 27, 3) := by decide +kernel
theorem zd_242_45 : decode (zm_cc 242) 45 = .ok (.getfield 101, 3) := by decide +kernel
theorem zd_242_48 : decode (zm_cc 242) 48 = .ok (.iload_n 3, 1) := by decide +kernel
theorem zd_242_49 : decode (zm_cc 242) 49 = .ok (.iaload, 1) := by decide +kernel
theorem zd_242_50 : decode (zm_cc 242) 50 = .ok (.iload 4, 2) := by decide +kernel
theorem zd_242_52 : decode (zm_cc 242) 52 = .ok (.iushr, 1) := by decide +kernel
theorem zd_242_53 : decode (zm_cc 242) 53 = .ok (.iconst 1, 1) := by decide +kernel
theorem zd_242_54 : decode (zm_cc 242) 54 = .ok (.iand, 1) := by decide +kernel
theorem zd_242_55 : decode (zm_cc 242) 55 = .ok (.goto 4, 3) := by decide +kernel
theorem zd_242_58 : decode (zm_cc 242) 58 = .ok (.iconst 0, 1) := by decide +kernel
theorem zd_242_59 : decode (zm_cc 242) 59 = .ok (.istore 5, 2) := by decide +kernel
theorem zd_242_61 : decode (zm_cc 242) 61 = .ok (.iload_n 3, 1) := by decide +kernel
theorem zd_242_62 : decode (zm_cc 242) 62 = .ok (.bipush 24, 2) := by decide +kernel
theorem zd_242_64 : decode (zm_cc 242) 64 = .ok (.idiv, 1) := by decide +kernel
theorem zd_242_65 : decode (zm_cc 242) 65 = .ok (.iconst 1, 1) := by decide +kernel
theorem zd_242_66 : decode (zm_cc 242) 66 = .ok (.iadd, 1) := by decide +kernel
theorem zd_242_67 : decode (zm_cc 242) 67 = .ok (.istore 6, 2) := by decide +kernel
theorem zd_242_69 : decode (zm_cc 242) 69 = .ok (.iload 6, 2) := by decide +kernel
theorem zd_242_71 : decode (zm_cc 242) 71 = .ok (.aload_n 0, 1) := by decide +kernel
theorem zd_242_72 : decode (zm_cc 242) 72 = .ok (.getfield 27, 3) := by decide +kernel
theorem zd_242_75 : decode (zm_cc 242) 75 = .ok (.getfield 113, 3) := by decide +kernel
theorem zd_242_78 : decode (zm_cc 242) 78 = .ok (.if_icmp .ge 24, 3) := by decide +kernel
theorem zd_242_81 : decode (zm_cc 242) 81 = .ok (.iload 5, 2) := by decide +kernel
theorem zd_242_83 : decode (zm_cc 242) 83 = .ok (.aload_n 0, 1) := by decide +kernel
theorem zd_242_84 : decode (zm_cc 242) 84 = .ok (.iload_n 1, 1) := by decide +kernel
theorem zd_242_85 : decode (zm_cc 242) 85 = .ok (.iload_n 2, 1) := by decide +kernel
theorem zd_242_86 : decode (zm_cc 242) 86 = .ok (.iload 4, 2) := by decide +kernel
theorem zd_242_88 : decode (zm_cc 242) 88 = .ok (.iload 6, 2) := by decide +kernel
theorem zd_242_90 : decode (zm_cc 242) 90 = .ok (.invokevirtual 116, 3) := by decide +kernel
theorem zd_242_93 : decode (zm_cc 242) 93 = .ok (.iadd, 1) := by decide +kernel
theorem zd_242_94 : decode (zm_cc 242) 94 = .ok (.istore 5, 2) := by decide +kernel
theorem zd_242_96 : decode (zm_cc 242) 96 = .ok (.iinc 6 1, 3) := by decide +kernel
theorem zd_242_99 : decode (zm_cc 242) 99 = .ok (.goto (-30), 3) := by decide +kernel
theorem zd_242_102 : decode (zm_cc 242) 102 = .ok (.iload 5, 2) := by decide +kernel
theorem zd_242_104 : decode (zm_cc 242) 104 = .ok (.ireturn, 1) := by decide +kernel
theorem zd_243_0 : decode (zm_cc 243) 0 = .ok (.iconst 0, 1) := by decide +kernel
theorem zd_243_1 : decode (zm_cc 243) 1 = .ok (.istore 5, 2) := by decide +kernel
theorem zd_243_3 : decode (zm_cc 243) 3 = .ok (.iconst 0, 1) := by decide +kernel
theorem zd_243_4 : decode (zm_cc 243) 4 = .ok (.istore 6, 2) := by decide +kernel
theorem zd_243_6 : decode (zm_cc 243) 6 = .ok (.iload 6, 2) := by decide +kernel
theorem zd_243_8 : decode (zm_cc 243) 8 = .ok (.aload_n 0, 1) := by decide +kernel
theorem zd_243_9 : decode (zm_cc 243) 9 = .ok (.getfield 27, 3) := by decide +kernel
theorem zd_243_12 : decode (zm_cc 243) 12 = .ok (.iload 4, 2) := by decide +kernel
theorem zd_243_14 : decode (zm_cc 243) 14 = .ok (.invokevirtual 61, 3) := by decide +kernel
theorem zd_243_17 : decode (zm_cc 243) 17 = .ok (.if_icmp .ge 105, 3) := by decide +kernel
theorem zd_243_20 : decode (zm_cc 243) 20 = .ok (.iload_n 1, 1) := by decide +kernel
theorem zd_243_21 : decode (zm_cc 243) 21 = .ok (.iconst 4, 1) := by decide +kernel
theorem zd_243_22 : decode (zm_cc 243) 22 = .ok (.if_icmp .ge 100, 3) := by decide +kernel
theorem zd_243_25 : decode (zm_cc 243) 25 = .ok (.aload_n 0, 1) := by decide +kernel
theorem zd_243_26 : decode (zm_cc 243) 26 = .ok (.getfield 27, 3) := by decide +kernel
theorem zd_243_29 : decode (zm_cc 243) 29 = .ok (.iload 4, 2) := by decide +kernel
theorem zd_243_31 : decode (zm_cc 243) 31 = .ok (.iload 6, 2) := by decide +kernel
theorem zd_243_33 : decode (zm_cc 243) 33 = .ok (.invokevirtual 50, 3) := by decide +kernel
theorem zd_243_36 : decode (zm_cc 243) 36 = .ok (.istore 7, 2) := by decide +kernel
theorem zd_243_38 : decode (zm_cc 243) 38 = .ok (.aload_n 0, 1) := by decide +kernel
theorem zd_243_39 : decode (zm_cc 243) 39 = .ok (.getfield 27, 3) := by decide +kernel
theorem zd_243_42 : decode (zm_cc 243) 42 = .ok (.getfield 101, 3) := by decide +kernel
theorem zd_243_45 : decode (zm_cc 243) 45 = .ok (.iload 7, 2) := by decide +kernel
theorem zd_243_47 : decode (zm_cc 243) 47 = .ok (.iaload, 1) := by decide +kernel
theorem zd_243_48 : decode (zm_cc 243) 48 = .ok (.istore 8, 2) := by decide +kernel
theorem zd_243_50 : decode (zm_cc 243) 50 = .ok (.aload_n 0, 1) := by decide +kernel
theorem zd_243_51 : decode (zm_cc 243) 51 = .ok (.getfield 27, 3) := by decide +kernel
theorem zd_243_54 : decode (zm_cc 243) 54 = .ok (.getfield 68, 3) := by decide +kernel
theorem zd_243_57 : decode (zm_cc 243) 57 = .ok (.iload 7, 2) := by decide +kernel
theorem zd_243_59 : decode (zm_cc 243) 59 = .ok (.iaload, 1) := by decide +kernel
theorem zd_243_60 : decode (zm_cc 243) 60 = .ok (.iconst 3, 1) := by decide +kernel
theorem zd_243_61 : decode (zm_cc 243) 61 = .ok (.if_icmp .ne 55, 3) := by decide +kernel
theorem zd_243_64 : decode (zm_cc 243) 64 = .ok (.iload 8, 2) := by decide +kernel
theorem zd_243_66 : decode (zm_cc 243) 66 = .ok (.iload_n 3, 1) := by decide +kernel
theorem zd_243_67 : decode (zm_cc 243) 67 = .ok (.iushr, 1) := by decide +kernel
theorem zd_243_68 : decode (zm_cc 243) 68 = .ok (.iconst 1, 1) := by decide +kernel
theorem zd_243_69 : decode (zm_cc 243) 69 = .ok (.iand, 1) := by decide +kernel
theorem zd_243_70 : decode (zm_cc 243) 70 = .ok (.ifCond .eq 46, 3) := by decide +kernel
theorem zd_243_73 : decode (zm_cc 243) 73 = .ok (.iload 8, 2) := by decide +kernel
theorem zd_243_75 : decode (zm_cc 243) 75 = .ok (.iload_n 2, 1) := by decide +kernel
theorem zd_243_76 : decode (zm_cc 243) 76 = .ok (.iand, 1) := by decide +kernel
theorem zd_243_77 : decode (zm_cc 243) 77 = .ok (.ifCond .ne 39, 3) := by decide +kernel
theorem zd_243_80 : decode (zm_cc 243) 80 = .ok (.aload_n 0, 1) := by decide +kernel
theorem zd_243_81 : decode (zm_cc 243) 81 = .ok (.iload_n 1, 1) := by decide +kernel
theorem zd_243_82 : decode (zm_cc 243) 82 = .ok (.iload 4, 2) := by decide +kernel
theorem zd_243_84 : decode (zm_cc 243) 84 = .ok (.iload 6, 2) := by decide +kernel
theorem zd_243_86 : decode (zm_cc 243) 86 = .ok (.invokevirtual 120, 3) := by decide +kernel
theorem zd_243_89 : decode (zm_cc 243) 89 = .ok (.ifCond .eq 27, 3) := by decide +kernel
theorem zd_243_92 : decode (zm_cc 243) 92 = .ok (.aload_n 0, 1) := by decide +kernel
theorem zd_243_93 : decode (zm_cc 243) 93 = .ok (.getfield 15, 3) := by decide +kernel
theorem zd_243_96 : decode (zm_cc 243) 96 = .ok (.iload_n 1, 1) := by decide +kernel
theorem zd_243_97 : decode (zm_cc 243) 97 = .ok (.iload 7, 2) := by decide +kernel
theorem zd_243_99 : decode (zm_cc 243) 99 = .ok (.iastore, 1) := by decide +kernel
theorem zd_243_100 : decode (zm_cc 243) 100 = .ok (.iload 5, 2) := by decide +kernel
theorem zd_243_102 : decode (zm_cc 243) 102 = .ok (.aload_n 0, 1) := by decide +kernel
theorem zd_243_103 : decode (zm_cc 243) 103 = .ok (.iload_n 1, 1) := by decide +kernel
theorem zd_243_104 : decode (zm_cc 243) 104 = .ok (.iconst 1, 1) := by decide +kernel
theorem zd_243_105 : decode (zm_cc 243) 105 = .ok (.iadd, 1) := by decide +kernel
theorem zd_243_106 : decode (zm_cc 243) 106 = .ok (.iload_n 2, 1) := by decide +kernel
theorem zd_243_107 : decode (zm_cc 243) 107 = .ok (.iload 8, 2) := by decide +kernel
theorem zd_243_109 : decode (zm_cc 243) 109 = .ok (.ior, 1) := by decide +kernel
theorem zd_243_110 : decode (zm_cc 243) 110 = .ok (.invokevirtual 110, 3) := by decide +kernel
theorem zd_243_113 : decode (zm_cc 243) 113 = .ok (.iadd, 1) := by decide +kernel
theorem zd_243_114 : decode (zm_cc 243) 114 = .ok (.istore 5, 2) := by decide +kernel
theorem zd_243_116 : decode (zm_cc 243) 116 = .ok (.iinc 6 1, 3) := by decide +kernel
theorem zd_243_119 : decode (zm_cc 243) 119 = .ok (.goto (-113), 3) := by decide +kernel
theorem zd_243_122 : decode (zm_cc 243) 122 = .ok (.iload 5, 2) := by decide +kernel
theorem zd_243_124 : decode (zm_cc 243) 124 = .ok (.ireturn, 1) := by decide +kernel
theorem zd_244_0 : decode (zm_cc 244) 0 = .ok (.iconst 0, 1) := by decide +kernel
theorem zd_244_1 : decode (zm_cc 244) 1 = .ok (.istore 4, 2) := by decide +kernel
theorem zd_244_3 : decode (zm_cc 244) 3 = .ok (.iload 4, 2) := by decide +kernel
theorem zd_244_5 : decode (zm_cc 244) 5 = .ok (.iload_n 1, 1) := by decide +kernel
theorem zd_244_6 : decode (zm_cc 244) 6 = .ok (.if_icmp .ge 56, 3) := by decide +kernel
theorem zd_244_9 : decode (zm_cc 244) 9 = .ok (.iload 4, 2) := by decide +kernel
theorem zd_244_11 : decode (zm_cc 244) 11 = .ok (.iconst 4, 1) := by decide +kernel
theorem zd_244_12 : decode (zm_cc 244) 12 = .ok (.if_icmp .ge 50, 3) := by decide +kernel
theorem zd_244_15 : decode (zm_cc 244) 15 = .ok (.aload_n 0, 1) := by decide +kernel
theorem zd_244_16 : decode (zm_cc 244) 16 = .ok (.getfield 15, 3) := by decide +kernel
theorem zd_244_19 : decode (zm_cc 244) 19 = .ok (.iload 4, 2) := by decide +kernel
theorem zd_244_21 : decode (zm_cc 244) 21 = .ok (.iaload, 1) := by decide +kernel
theorem zd_244_22 : decode (zm_cc 244) 22 = .ok (.bipush 24, 2) := by decide +kernel
theorem zd_244_24 : decode (zm_cc 244) 24 = .ok (.idiv, 1) := by decide +kernel
theorem zd_244_25 : decode (zm_cc 244) 25 = .ok (.istore 5, 2) := by decide +kernel
theorem zd_244_27 : decode (zm_cc 244) 27 = .ok (.iload 5, 2) := by decide +kernel
theorem zd_244_29 : decode (zm_cc 244) 29 = .ok (.iload_n 2, 1) := by decide +kernel
theorem zd_244_30 : decode (zm_cc 244) 30 = .ok (.if_icmp .eq 24, 3) := by decide +kernel
theorem zd_244_33 : decode (zm_cc 244) 33 = .ok (.aload_n 0, 1) := by decide +kernel
theorem zd_244_34 : decode (zm_cc 244) 34 = .ok (.iload 5, 2) := by decide +kernel
theorem zd_244_36 : decode (zm_cc 244) 36 = .ok (.aload_n 0, 1) := by decide +kernel
theorem zd_244_37 : decode (zm_cc 244) 37 = .ok (.getfield 15, 3) := by decide +kernel
theorem zd_244_40 : decode (zm_cc 244) 40 = .ok (.iload 4, 2) := by decide +kernel
theorem zd_244_42 : decode (zm_cc 244) 42 = .ok (.iaload, 1) := by decide +kernel
theorem zd_244_43 : decode (zm_cc 244) 43 = .ok (.bipush 24, 2) := by decide +kernel
theorem zd_244_45 : decode (zm_cc 244) 45 = .ok (.irem, 1) := by decide +kernel
theorem zd_244_46 : decode (zm_cc 244) 46 = .ok (.iload_n 2, 1) := by decide +kernel
theorem zd_244_47 : decode (zm_cc 244) 47 = .ok (.iload_n 3, 1) := by decide +kernel
theorem zd_244_48 : decode (zm_cc 244) 48 = .ok (.invokevirtual 104, 3) := by decide +kernel
theorem zd_244_51 : decode (zm_cc 244) 51 = .ok (.ifCond .ne 5, 3) := by decide +kernel
theorem zd_244_54 : decode (zm_cc 244) 54 = .ok (.iconst 0, 1) := by decide +kernel
theorem zd_244_55 : decode (zm_cc 244) 55 = .ok (.ireturn, 1) := by decide +kernel
theorem zd_244_56 : decode (zm_cc 244) 56 = .ok (.iinc 4 1, 3) := by decide +kernel
theorem zd_244_59 : decode (zm_cc 244) 59 = .ok (.goto (-56), 3) := by decide +kernel
theorem zd_244_62 : decode (zm_cc 244) 62 = .ok (.iconst 1, 1) := by decide +kernel
theorem zd_244_63 : decode (zm_cc 244) 63 = .ok (.ireturn, 1) := by decide +kernel
theorem zd_245_0 : decode (zm_cc 245) 0 = .ok (.aload_n 0, 1) := by decide +kernel
theorem zd_245_1 : decode (zm_cc 245) 1 = .ok (.iconst 0, 1) := by decide +kernel
theorem zd_245_2 : decode (zm_cc 245) 2 = .ok (.putfield 1, 3) := by decide +kernel
theorem zd_245_5 : decode (zm_cc 245) 5 = .ok (.aload_n 0, 1) := by decide +kernel
theorem zd_245_6 : decode (zm_cc 245) 6 = .ok (.getfield 335, 3) := by decide +kernel
theorem zd_245_9 : decode (zm_cc 245) 9 = .ok (.ifCond .eq 12, 3) := by decide +kernel
theorem zd_245_12 : decode (zm_cc 245) 12 = .ok (.aload_n 0, 1) := by decide +kernel
theorem zd_245_13 : decode (zm_cc 245) 13 = .ok (.iconst 0, 1) := by decide +kernel
theorem zd_245_14 : decode (zm_cc 245) 14 = .ok (.iconst 1, 1) := by decide +kernel
theorem zd_245_15 : decode (zm_cc 245) 15 = .ok (.invokevirtual 463, 3) := by decide +kernel
theorem zd_245_18 : decode (zm_cc 245) 18 = .ok (.goto 5, 3) := by decide +kernel
theorem zd_245_21 : decode (zm_cc 245) 21 = .ok (.bipush (-101), 2) := by decide +kernel
theorem zd_245_23 : decode (zm_cc 245) 23 = .ok (.ireturn, 1) := by decide +kernel
theorem zd_246_0 : decode (zm_cc 246) 0 = .ok (.iconst 0, 1) := by decide +kernel
theorem zd_246_1 : decode (zm_cc 246) 1 = .ok (.istore_n 3, 1) := by decide +kernel
theorem zd_246_2 : decode (zm_cc 246) 2 = .ok (.iconst 0, 1) := by decide +kernel
theorem zd_246_3 : decode (zm_cc 246) 3 = .ok (.istore 4, 2) := by decide +kernel
theorem zd_246_5 : decode (zm_cc 246) 5 = .ok (.iload 4, 2) := by decide +kernel
theorem zd_246_7 : decode (zm_cc 246) 7 = .ok (.bipush 24, 2) := by decide +kernel
theorem zd_246_9 : decode (zm_cc 246) 9 = .ok (.aload_n 0, 1) := by decide +kernel
theorem zd_246_10 : decode (zm_cc 246) 10 = .ok (.getfield 225, 3) := by decide +kernel
theorem zd_246_13 : decode (zm_cc 246) 13 = .ok (.imul, 1) := by decide +kernel
theorem zd_246_14 : decode (zm_cc 246) 14 = .ok (.if_icmp .ge 107, 3) := by decide +kernel
theorem zd_246_17 : decode (zm_cc 246) 17 = .ok (.bipush 24, 2) := by decide +kernel
theorem zd_246_19 : decode (zm_cc 246) 19 = .ok (.iload 4, 2) := by decide +kernel
theorem zd_246_21 : decode (zm_cc 246) 21 = .ok (.bipush 24, 2) := by decide +kernel
theorem zd_246_23 : decode (zm_cc 246) 23 = .ok (.idiv, 1) := by decide +kernel
theorem zd_246_24 : decode (zm_cc 246) 24 = .ok (.iconst 1, 1) := by decide +kernel
theorem zd_246_25 : decode (zm_cc 246) 25 = .ok (.iadd, 1) := by decide +kernel
theorem zd_246_26 : decode (zm_cc 246) 26 = .ok (.imul, 1) := by decide +kernel
theorem zd_246_27 : decode (zm_cc 246) 27 = .ok (.istore 5, 2) := by decide +kernel
theorem zd_246_29 : decode (zm_cc 246) 29 = .ok (.iload 5, 2) := by decide +kernel
theorem zd_246_31 : decode (zm_cc 246) 31 = .ok (.bipush 24, 2) := by decide +kernel
theorem zd_246_33 : decode (zm_cc 246) 33 = .ok (.aload_n 0, 1) := by decide +kernel
theorem zd_246_34 : decode (zm_cc 246) 34 = .ok (.getfield 225, 3) := by decide +kernel
theorem zd_246_37 : decode (zm_cc 246) 37 = .ok (.imul, 1) := by decide +kernel
theorem zd_246_38 : decode (zm_cc 246) 38 = .ok (.if_icmp .ge 77, 3) := by decide +kernel
theorem zd_246_41 : decode (zm_cc 246) 41 = .ok (.iload 4, 2) := by decide +kernel
theorem zd_246_43 : decode (zm_cc 246) 43 = .ok (.bipush 24, 2) := by decide +kernel
theorem zd_246_45 : decode (zm_cc 246) 45 = .ok (.irem, 1) := by decide +kernel
theorem zd_246_46 : decode (zm_cc 246) 46 = .ok (.aload_n 0, 1) := by decide +kernel
theorem zd_246_47 : decode (zm_cc 246) 47 = .ok (.getfield 37, 3) := by decide +kernel
theorem zd_246_50 : decode (zm_cc 246) 50 = .ok (.iload 4, 2) := by decide +kernel
theorem zd_246_52 : decode (zm_cc 246) 52 = .ok (.bipush 24, 2) := by decide +kernel
theorem zd_246_54 : decode (zm_cc 246) 54 = .ok (.idiv, 1) := by decide +kernel
theorem zd_246_55 : decode (zm_cc 246) 55 = .ok (.iaload, 1) := by decide +kernel
theorem zd_246_56 : decode (zm_cc 246) 56 = .ok (.if_icmp .ge 59, 3) := by decide +kernel
theorem zd_246_59 : decode (zm_cc 246) 59 = .ok (.iload 5, 2) := by decide +kernel
theorem zd_246_61 : decode (zm_cc 246) 61 = .ok (.bipush 24, 2) := by decide +kernel
theorem zd_246_63 : decode (zm_cc 246) 63 = .ok (.irem, 1) := by decide +kernel
theorem zd_246_64 : decode (zm_cc 246) 64 = .ok (.aload_n 0, 1) := by decide +kernel
theorem zd_246_65 : decode (zm_cc 246) 65 = .ok (.getfield 37, 3) := by decide +kernel
theorem zd_246_68 : decode (zm_cc 246) 68 = .ok (.iload 5, 2) := by decide +kernel
theorem zd_246_70 : decode (zm_cc 246) 70 = .ok (.bipush 24, 2) := by decide +kernel
theorem zd_246_72 : decode (zm_cc 246) 72 = .ok (.idiv, 1) := by decide +kernel
theorem zd_246_73 : decode (zm_cc 246) 73 = .ok (.iaload, 1) := by decide +kernel
theorem zd_246_74 : decode (zm_cc 246) 74 = .ok (.if_icmp .ge 35, 3) := by decide +kernel
theorem zd_246_77 : decode (zm_cc 246) 77 = .ok (.aload_n 0, 1) := by decide +kernel
theorem zd_246_78 : decode (zm_cc 246) 78 = .ok (.iload 4, 2) := by decide +kernel
theorem zd_246_80 : decode (zm_cc 246) 80 = .ok (.iload 5, 2) := by decide +kernel
theorem zd_246_82 : decode (zm_cc 246) 82 = .ok (.invokevirtual 460, 3) := by decide +kernel
theorem zd_246_85 : decode (zm_cc 246) 85 = .ok (.ifCond .eq 24, 3) := by decide +kernel
theorem zd_246_88 : decode (zm_cc 246) 88 = .ok (.iload_n 2, 1) := by decide +kernel
theorem zd_246_89 : decode (zm_cc 246) 89 = .ok (.ifCond .ne 17, 3) := by decide +kernel
theorem zd_246_92 : decode (zm_cc 246) 92 = .ok (.iload_n 3, 1) := by decide +kernel
theorem zd_246_93 : decode (zm_cc 246) 93 = .ok (.iload_n 1, 1) := by decide +kernel
theorem zd_246_94 : decode (zm_cc 246) 94 = .ok (.if_icmp .ne 12, 3) := by decide +kernel
theorem zd_246_97 : decode (zm_cc 246) 97 = .ok (.bipush 96, 2) := by decide +kernel
theorem zd_246_99 : decode (zm_cc 246) 99 = .ok (.iload 4, 2) := by decide +kernel
theorem zd_246_101 : decode (zm_cc 246) 101 = .ok (.imul, 1) := by decide +kernel
theorem zd_246_102 : decode (zm_cc 246) 102 = .ok (.iload 5, 2) := by decide +kernel
theorem zd_246_104 : decode (zm_cc 246) 104 = .ok (.iadd, 1) := by decide +kernel
theorem zd_246_105 : decode (zm_cc 246) 105 = .ok (.ireturn, 1) := by decide +kernel
theorem zd_246_106 : decode (zm_cc 246) 106 = .ok (.iinc 3 1, 3) := by decide +kernel
theorem zd_246_109 : decode (zm_cc 246) 109 = .ok (.iinc 5 1, 3) := by decide +kernel
theorem zd_246_112 : decode (zm_cc 246) 112 = .ok (.goto (-83), 3) := by decide +kernel
theorem zd_246_115 : decode (zm_cc 246) 115 = .ok (.iinc 4 1, 3) := by decide +kernel
theorem zd_246_118 : decode (zm_cc 246) 118 = .ok (.goto (-113), 3) := by decide +kernel
theorem zd_246_121 : decode (zm_cc 246) 121 = .ok (.iload_n 2, 1) := by decide +kernel
theorem zd_246_122 : decode (zm_cc 246) 122 = .ok (.ifCond .eq 7, 3) := by decide +kernel
theorem zd_246_125 : decode (zm_cc 246) 125 = .ok (.iload_n 3, 1) := by decide +kernel
theorem zd_246_126 : decode (zm_cc 246) 126 = .ok (.goto 4, 3) := by decide +kernel
theorem zd_246_129 : decode (zm_cc 246) 129 = .ok (.iconst (-1), 1) := by decide +kernel
theorem zd_246_130 : decode (zm_cc 246) 130 = .ok (.ireturn, 1) := by decide +kernel
theorem zd_247_0 : decode (zm_cc 247) 0 = .ok (.aload_n 0, 1) := by decide +kernel
theorem zd_247_1 : decode (zm_cc 247) 1 = .ok (.iload_n 1, 1) := by decide +kernel
theorem zd_247_2 : decode (zm_cc 247) 2 = .ok (.iload_n 2, 1) := by decide +kernel
theorem zd_247_3 : decode (zm_cc 247) 3 = .ok (.invokevirtual 386, 3) := by decide +kernel
theorem zd_247_6 : decode (zm_cc 247) 6 = .ok (.ifCond .eq 46, 3) := by decide +kernel
theorem zd_247_9 : decode (zm_cc 247) 9 = .ok (.aload_n 0, 1) := by decide +kernel
theorem zd_247_10 : decode (zm_cc 247) 10 = .ok (.getfield 55, 3) := by decide +kernel
theorem zd_247_13 : decode (zm_cc 247) 13 = .ok (.iload_n 1, 1) := by decide +kernel
theorem zd_247_14 : decode (zm_cc 247) 14 = .ok (.iaload, 1) := by decide +kernel
theorem zd_247_15 : decode (zm_cc 247) 15 = .ok (.aload_n 0, 1) := by decide +kernel
theorem zd_247_16 : decode (zm_cc 247) 16 = .ok (.getfield 55, 3) := by decide +kernel
theorem zd_247_19 : decode (zm_cc 247) 19 = .ok (.iload_n 2, 1) := by decide +kernel
theorem zd_247_20 : decode (zm_cc 247) 20 = .ok (.iaload, 1) := by decide +kernel
theorem zd_247_21 : decode (zm_cc 247) 21 = .ok (.iand, 1) := by decide +kernel
theorem zd_247_22 : decode (zm_cc 247) 22 = .ok (.ifCond .ne 30, 3) := by decide +kernel
theorem zd_247_25 : decode (zm_cc 247) 25 = .ok (.aload_n 0, 1) := by decide +kernel
theorem zd_247_26 : decode (zm_cc 247) 26 = .ok (.iload_n 1, 1) := by decide +kernel
theorem zd_247_27 : decode (zm_cc 247) 27 = .ok (.bipush 24, 2) := by decide +kernel
theorem zd_247_29 : decode (zm_cc 247) 29 = .ok (.idiv, 1) := by decide +kernel
theorem zd_247_30 : decode (zm_cc 247) 30 = .ok (.iload_n 1, 1) := by decide +kernel
theorem zd_247_31 : decode (zm_cc 247) 31 = .ok (.bipush 24, 2) := by decide +kernel
theorem zd_247_33 : decode (zm_cc 247) 33 = .ok (.irem, 1) := by decide +kernel
theorem zd_247_34 : decode (zm_cc 247) 34 = .ok (.iload_n 2, 1) := by decide +kernel
theorem zd_247_35 : decode (zm_cc 247) 35 = .ok (.bipush 24, 2) := by decide +kernel
theorem zd_247_37 : decode (zm_cc 247) 37 = .ok (.idiv, 1) := by decide +kernel
theorem zd_247_38 : decode (zm_cc 247) 38 = .ok (.iload_n 2, 1) := by decide +kernel
theorem zd_247_39 : decode (zm_cc 247) 39 = .ok (.bipush 24, 2) := by decide +kernel
theorem zd_247_41 : decode (zm_cc 247) 41 = .ok (.irem, 1) := by decide +kernel
theorem zd_247_42 : decode (zm_cc 247) 42 = .ok (.invokevirtual 456, 3) := by decide +kernel
theorem zd_247_45 : decode (zm_cc 247) 45 = .ok (.ifCond .eq 7, 3) := by decide +kernel
theorem zd_247_48 : decode (zm_cc 247) 48 = .ok (.iconst 1, 1) := by decide +kernel
theorem zd_247_49 : decode (zm_cc 247) 49 = .ok (.goto 4, 3) := by decide +kernel
theorem zd_247_52 : decode (zm_cc 247) 52 = .ok (.iconst 0, 1) := by decide +kernel
theorem zd_247_53 : decode (zm_cc 247) 53 = .ok (.ireturn, 1) := by decide +kernel
theorem zd_248_0 : decode (zm_cc 248) 0 = .ok (.aload_n 0, 1) := by decide +kernel
theorem zd_248_1 : decode (zm_cc 248) 1 = .ok (.iload_n 1, 1) := by decide +kernel
theorem zd_248_2 : decode (zm_cc 248) 2 = .ok (.iload_n 3, 1) := by decide +kernel
theorem zd_248_3 : decode (zm_cc 248) 3 = .ok (.iload 4, 2) := by decide +kernel
theorem zd_248_5 : decode (zm_cc 248) 5 = .ok (.invokevirtual 453, 3) := by decide +kernel
theorem zd_248_8 : decode (zm_cc 248) 8 = .ok (.ifCond .ne 17, 3) := by decide +kernel
theorem zd_248_11 : decode (zm_cc 248) 11 = .ok (.aload_n 0, 1) := by decide +kernel
theorem zd_248_12 : decode (zm_cc 248) 12 = .ok (.iload_n 3, 1) := by decide +kernel
theorem zd_248_13 : decode (zm_cc 248) 13 = .ok (.iload_n 1, 1) := by decide +kernel
theorem zd_248_14 : decode (zm_cc 248) 14 = .ok (.iload_n 2, 1) := by decide +kernel
theorem zd_248_15 : decode (zm_cc 248) 15 = .ok (.invokevirtual 453, 3) := by decide +kernel
theorem zd_248_18 : decode (zm_cc 248) 18 = .ok (.ifCond .ne 7, 3) := by decide +kernel
theorem zd_248_21 : decode (zm_cc 248) 21 = .ok (.iconst 1, 1) := by decide +kernel
theorem zd_248_22 : decode (zm_cc 248) 22 = .ok (.goto 4, 3) := by decide +kernel
theorem zd_248_25 : decode (zm_cc 248) 25 = .ok (.iconst 0, 1) := by decide +kernel
theorem zd_248_26 : decode (zm_cc 248) 26 = .ok (.ireturn, 1) := by decide +kernel
theorem zd_249_0 : decode (zm_cc 249) 0 = .ok (.iconst 0, 1) := by decide +kernel
theorem zd_249_1 : decode (zm_cc 249) 1 = .ok (.istore 4, 2) := by decide +kernel
theorem zd_249_3 : decode (zm_cc 249) 3 = .ok (.iconst 1, 1) := by decide +kernel
theorem zd_249_4 : decode (zm_cc 249) 4 = .ok (.istore 5, 2) := by decide +kernel
theorem zd_249_6 : decode (zm_cc 249) 6 = .ok (.iconst 0, 1) := by decide +kernel
theorem zd_249_7 : decode (zm_cc 249) 7 = .ok (.istore 6, 2) := by decide +kernel
theorem zd_249_9 : decode (zm_cc 249) 9 = .ok (.iconst 0, 1) := by decide +kernel
theorem zd_249_10 : decode (zm_cc 249) 10 = .ok (.istore 7, 2) := by decide +kernel
theorem zd_249_12 : decode (zm_cc 249) 12 = .ok (.iconst 0, 1) := by decide +kernel
theorem zd_249_13 : decode (zm_cc 249) 13 = .ok (.istore 8, 2) := by decide +kernel
theorem zd_249_15 : decode (zm_cc 249) 15 = .ok (.iload 8, 2) := by decide +kernel
theorem zd_249_17 : decode (zm_cc 249) 17 = .ok (.bipush 24, 2) := by decide +kernel
theorem zd_249_19 : decode (zm_cc 249) 19 = .ok (.aload_n 0, 1) := by decide +kernel
theorem zd_249_20 : decode (zm_cc 249) 20 = .ok (.getfield 225, 3) := by decide +kernel
theorem zd_249_23 : decode (zm_cc 249) 23 = .ok (.imul, 1) := by decide +kernel
theorem zd_249_24 : decode (zm_cc 249) 24 = .ok (.if_icmp .ge 147, 3) := by decide +kernel
theorem zd_249_27 : decode (zm_cc 249) 27 = .ok (.iload 8, 2) := by decide +kernel
theorem zd_249_29 : decode (zm_cc 249) 29 = .ok (.bipush 24, 2) := by decide +kernel
theorem zd_249_31 : decode (zm_cc 249) 31 = .ok (.idiv, 1) := by decide +kernel
theorem zd_249_32 : decode (zm_cc 249) 32 = .ok (.istore 9, 2) := by decide +kernel
theorem zd_249_34 : decode (zm_cc 249) 34 = .ok (.iload 8, 2) := by decide +kernel
theorem zd_249_36 : decode (zm_cc 249) 36 = .ok (.bipush 24, 2) := by decide +kernel
theorem zd_249_38 : decode (zm_cc 249) 38 = .ok (.irem, 1) := by decide +kernel
theorem zd_249_39 : decode (zm_cc 249) 39 = .ok (.aload_n 0, 1) := by decide +kernel
theorem zd_249_40 : decode (zm_cc 249) 40 = .ok (.getfield 37, 3) := by decide +kernel
theorem zd_249_43 : decode (zm_cc 249) 43 = .ok (.iload 9, 2) := by decide +kernel
theorem zd_249_45 : decode (zm_cc 249) 45 = .ok (.iaload, 1) := by decide +kernel
theorem zd_249_46 : decode (zm_cc 249) 46 = .ok (.if_icmp .ge 119, 3) := by decide +kernel
theorem zd_249_49 : decode (zm_cc 249) 49 = .ok (.aload_n 0, 1) := by decide +kernel
theorem zd_249_50 : decode (zm_cc 249) 50 = .ok (.getfield 46, 3) := by decide +kernel
theorem zd_249_53 : decode (zm_cc 249) 53 = .ok (.iload 8, 2) := by decide +kernel
theorem zd_249_55 : decode (zm_cc 249) 55 = .ok (.iaload, 1) := by decide +kernel
theorem zd_249_56 : decode (zm_cc 249) 56 = .ok (.iload_n 1, 1) := by decide +kernel
theorem zd_249_57 : decode (zm_cc 249) 57 = .ok (.if_icmp .ne 108, 3) := by decide +kernel
theorem zd_249_60 : decode (zm_cc 249) 60 = .ok (.aload_n 0, 1) := by decide +kernel
theorem zd_249_61 : decode (zm_cc 249) 61 = .ok (.getfield 43, 3) := by decide +kernel
theorem zd_249_64 : decode (zm_cc 249) 64 = .ok (.iload 8, 2) := by decide +kernel
theorem zd_249_66 : decode (zm_cc 249) 66 = .ok (.iaload, 1) := by decide +kernel
theorem zd_249_67 : decode (zm_cc 249) 67 = .ok (.bipush 10, 2) := by decide +kernel
theorem zd_249_69 : decode (zm_cc 249) 69 = .ok (.if_icmp .ne 66, 3) := by decide +kernel
theorem zd_249_72 : decode (zm_cc 249) 72 = .ok (.iconst 1, 1) := by decide +kernel
theorem zd_249_73 : decode (zm_cc 249) 73 = .ok (.istore 4, 2) := by decide +kernel
theorem zd_249_75 : decode (zm_cc 249) 75 = .ok (.iload 5, 2) := by decide +kernel
theorem zd_249_77 : decode (zm_cc 249) 77 = .ok (.ifCond .eq 13, 3) := by decide +kernel
theorem zd_249_80 : decode (zm_cc 249) 80 = .ok (.iload 9, 2) := by decide +kernel
theorem zd_249_82 : decode (zm_cc 249) 82 = .ok (.iload_n 2, 1) := by decide +kernel
theorem zd_249_83 : decode (zm_cc 249) 83 = .ok (.if_icmp .ne 7, 3) := by decide +kernel
theorem zd_249_86 : decode (zm_cc 249) 86 = .ok (.iconst 1, 1) := by decide +kernel
theorem zd_249_87 : decode (zm_cc 249) 87 = .ok (.goto 4, 3) := by decide +kernel
theorem zd_249_90 : decode (zm_cc 249) 90 = .ok (.iconst 0, 1) := by decide +kernel
theorem zd_249_91 : decode (zm_cc 249) 91 = .ok (.istore 5, 2) := by decide +kernel
theorem zd_249_93 : decode (zm_cc 249) 93 = .ok (.iload 6, 2) := by decide +kernel
theorem zd_249_95 : decode (zm_cc 249) 95 = .ok (.ifCond .ne 33, 3) := by decide +kernel
theorem zd_249_98 : decode (zm_cc 249) 98 = .ok (.iload 9, 2) := by decide +kernel
theorem zd_249_100 : decode (zm_cc 249) 100 = .ok (.iload_n 2, 1) := by decide +kernel
theorem zd_249_101 : decode (zm_cc 249) 101 = .ok (.if_icmp .ne 31, 3) := by decide +kernel
theorem zd_249_104 : decode (zm_cc 249) 104 = .ok (.aload_n 0, 1) := by decide +kernel
theorem zd_249_105 : decode (zm_cc 249) 105 = .ok (.iload_n 2, 1) := by decide +kernel
theorem zd_249_106 : decode (zm_cc 249) 106 = .ok (.aload_n 0, 1) := by decide +kernel
theorem zd_249_107 : decode (zm_cc 249) 107 = .ok (.iload_n 2, 1) := by decide +kernel
theorem zd_249_108 : decode (zm_cc 249) 108 = .ok (.iload 8, 2) := by decide +kernel
theorem zd_249_110 : decode (zm_cc 249) 110 = .ok (.bipush 24, 2) := by decide +kernel
theorem zd_249_112 : decode (zm_cc 249) 112 = .ok (.irem, 1) := by decide +kernel
theorem zd_249_113 : decode (zm_cc 249) 113 = .ok (.invokevirtual 446, 3) := by decide +kernel
theorem zd_249_116 : decode (zm_cc 249) 116 = .ok (.iconst 0, 1) := by decide +kernel
theorem zd_249_117 : decode (zm_cc 249) 117 = .ok (.invokevirtual 449, 3) := by decide +kernel
theorem zd_249_120 : decode (zm_cc 249) 120 = .ok (.iload_n 3, 1) := by decide +kernel
theorem zd_249_121 : decode (zm_cc 249) 121 = .ok (.ishr, 1) := by decide +kernel
theorem zd_249_122 : decode (zm_cc 249) 122 = .ok (.iconst 1, 1) := by decide +kernel
theorem zd_249_123 : decode (zm_cc 249) 123 = .ok (.iand, 1) := by decide +kernel
theorem zd_249_124 : decode (zm_cc 249) 124 = .ok (.iconst 1, 1) := by decide +kernel
theorem zd_249_125 : decode (zm_cc 249) 125 = .ok (.if_icmp .ne 7, 3) := by decide +kernel
theorem zd_249_128 : decode (zm_cc 249) 128 = .ok (.iconst 1, 1) := by decide +kernel
theorem zd_249_129 : decode (zm_cc 249) 129 = .ok (.goto 4, 3) := by decide +kernel
theorem zd_249_132 : decode (zm_cc 249) 132 = .ok (.iconst 0, 1) := by decide +kernel
theorem zd_249_133 : decode (zm_cc 249) 133 = .ok (.istore 6, 2) := by decide +kernel
theorem zd_249_135 : decode (zm_cc 249) 135 = .ok (.aload_n 0, 1) := by decide +kernel
theorem zd_249_136 : decode (zm_cc 249) 136 = .ok (.getfield 43, 3) := by decide +kernel
theorem zd_249_139 : decode (zm_cc 249) 139 = .ok (.iload 8, 2) := by decide +kernel
theorem zd_249_141 : decode (zm_cc 249) 141 = .ok (.iaload, 1) := by decide +kernel
theorem zd_249_142 : decode (zm_cc 249) 142 = .ok (.bipush 11, 2) := by decide +kernel
theorem zd_249_144 : decode (zm_cc 249) 144 = .ok (.if_icmp .ne 21, 3) := by decide +kernel
theorem zd_249_147 : decode (zm_cc 249) 147 = .ok (.iload 9, 2) := by decide +kernel
theorem zd_249_149 : decode (zm_cc 249) 149 = .ok (.iload_n 2, 1) := by decide +kernel
theorem zd_249_150 : decode (zm_cc 249) 150 = .ok (.if_icmp .ne 15, 3) := by decide +kernel
theorem zd_249_153 : decode (zm_cc 249) 153 = .ok (.iload 7, 2) := by decide +kernel
theorem zd_249_155 : decode (zm_cc 249) 155 = .ok (.iconst 1, 1) := by decide +kernel
theorem zd_249_156 : decode (zm_cc 249) 156 = .ok (.iload 8, 2) := by decide +kernel
theorem zd_249_158 : decode (zm_cc 249) 158 = .ok (.bipush 24, 2) := by decide +kernel
theorem zd_249_160 : decode (zm_cc 249) 160 = .ok (.irem, 1) := by decide +kernel
theorem zd_249_161 : decode (zm_cc 249) 161 = .ok (.ishl, 1) := by decide +kernel
theorem zd_249_162 : decode (zm_cc 249) 162 = .ok (.ior, 1) := by decide +kernel
theorem zd_249_163 : decode (zm_cc 249) 163 = .ok (.istore 7, 2) := by decide +kernel
theorem zd_249_165 : decode (zm_cc 249) 165 = .ok (.iinc 8 1, 3) := by decide +kernel
theorem zd_249_168 : decode (zm_cc 249) 168 = .ok (.goto (-153), 3) := by decide +kernel
theorem zd_249_171 : decode (zm_cc 249) 171 = .ok (.iload 4, 2) := by decide +kernel
theorem zd_249_173 : decode (zm_cc 249) 173 = .ok (.ifCond .eq 13, 3) := by decide +kernel
theorem zd_249_176 : decode (zm_cc 249) 176 = .ok (.iload 5, 2) := by decide +kernel
theorem zd_249_178 : decode (zm_cc 249) 178 = .ok (.ifCond .eq 8, 3) := by decide +kernel
theorem zd_249_181 : decode (zm_cc 249) 181 = .ok (.iload 6, 2) := by decide +kernel
theorem zd_249_183 : decode (zm_cc 249) 183 = .ok (.ifCond .eq 18, 3) := by decide +kernel
theorem zd_249_186 : decode (zm_cc 249) 186 = .ok (.aload_n 0, 1) := by decide +kernel
theorem zd_249_187 : decode (zm_cc 249) 187 = .ok (.iload_n 2, 1) := by decide +kernel
theorem zd_249_188 : decode (zm_cc 249) 188 = .ok (.iconst 1, 1) := by decide +kernel
theorem zd_249_189 : decode (zm_cc 249) 189 = .ok (.iload 7, 2) := by decide +kernel
theorem zd_249_191 : decode (zm_cc 249) 191 = .ok (.invokevirtual 449, 3) := by decide +kernel
theorem zd_249_194 : decode (zm_cc 249) 194 = .ok (.iload_n 3, 1) := by decide +kernel
theorem zd_249_195 : decode (zm_cc 249) 195 = .ok (.ishr, 1) := by decide +kernel
theorem zd_249_196 : decode (zm_cc 249) 196 = .ok (.iconst 1, 1) := by decide +kernel
theorem zd_249_197 : decode (zm_cc 249) 197 = .ok (.iand, 1) := by decide +kernel
theorem zd_249_198 : decode (zm_cc 249) 198 = .ok (.ifCond .ne 7, 3) := by decide +kernel
theorem zd_249_201 : decode (zm_cc 249) 201 = .ok (.iconst 1, 1) := by decide +kernel
theorem zd_249_202 : decode (zm_cc 249) 202 = .ok (.goto 4, 3) := by decide +kernel
theorem zd_249_205 : decode (zm_cc 249) 205 = .ok (.iconst 0, 1) := by decide +kernel
theorem zd_249_206 : decode (zm_cc 249) 206 = .ok (.ireturn, 1) := by decide +kernel
theorem zd_250_0 : decode (zm_cc 250) 0 = .ok (.bipush 24, 2) := by decide +kernel
theorem zd_250_2 : decode (zm_cc 250) 2 = .ok (.iload_n 1, 1) := by decide +kernel
theorem zd_250_3 : decode (zm_cc 250) 3 = .ok (.imul, 1) := by decide +kernel
theorem zd_250_4 : decode (zm_cc 250) 4 = .ok (.iload_n 2, 1) := by decide +kernel
theorem zd_250_5 : decode (zm_cc 250) 5 = .ok (.iadd, 1) := by decide +kernel
theorem zd_250_6 : decode (zm_cc 250) 6 = .ok (.istore_n 3, 1) := by decide +kernel
theorem zd_250_7 : decode (zm_cc 250) 7 = .ok (.aload_n 0, 1) := by decide +kernel
theorem zd_250_8 : decode (zm_cc 250) 8 = .ok (.getfield 43, 3) := by decide +kernel
theorem zd_250_11 : decode (zm_cc 250) 11 = .ok (.iload_n 3, 1) := by decide +kernel
theorem zd_250_12 : decode (zm_cc 250) 12 = .ok (.iaload, 1) := by decide +kernel
theorem zd_250_13 : decode (zm_cc 250) 13 = .ok (.bipush 13, 2) := by decide +kernel
theorem zd_250_15 : decode (zm_cc 250) 15 = .ok (.if_icmp .ne 7, 3) := by decide +kernel
theorem zd_250_18 : decode (zm_cc 250) 18 = .ok (.iconst 0, 1) := by decide +kernel
theorem zd_250_19 : decode (zm_cc 250) 19 = .ok (.goto 11, 3) := by decide +kernel
theorem zd_250_22 : decode (zm_cc 250) 22 = .ok (.iconst 1, 1) := by decide +kernel
theorem zd_250_23 : decode (zm_cc 250) 23 = .ok (.aload_n 0, 1) := by decide +kernel
theorem zd_250_24 : decode (zm_cc 250) 24 = .ok (.getfield 49, 3) := by decide +kernel
theorem zd_250_27 : decode (zm_cc 250) 27 = .ok (.iload_n 3, 1) := by decide +kernel
theorem zd_250_28 : decode (zm_cc 250) 28 = .ok (.iaload, 1) := by decide +kernel
theorem zd_250_29 : decode (zm_cc 250) 29 = .ok (.ishl, 1) := by decide +kernel
theorem zd_250_30 : decode (zm_cc 250) 30 = .ok (.istore 4, 2) := by decide +kernel
theorem zd_250_32 : decode (zm_cc 250) 32 = .ok (.aload_n 0, 1) := by decide +kernel
theorem zd_250_33 : decode (zm_cc 250) 33 = .ok (.getfield 43, 3) := by decide +kernel
theorem zd_250_36 : decode (zm_cc 250) 36 = .ok (.iload_n 3, 1) := by decide +kernel
theorem zd_250_37 : decode (zm_cc 250) 37 = .ok (.iaload, 1) := by decide +kernel
theorem zd_250_38 : decode (zm_cc 250) 38 = .ok (.iconst 5, 1) := by decide +kernel
theorem zd_250_39 : decode (zm_cc 250) 39 = .ok (.if_icmp .eq 14, 3) := by decide +kernel
theorem zd_250_42 : decode (zm_cc 250) 42 = .ok (.aload_n 0, 1) := by decide +kernel
theorem zd_250_43 : decode (zm_cc 250) 43 = .ok (.getfield 43, 3) := by decide +kernel
theorem zd_250_46 : decode (zm_cc 250) 46 = .ok (.iload_n 3, 1) := by decide +kernel
theorem zd_250_47 : decode (zm_cc 250) 47 = .ok (.iaload, 1) := by decide +kernel
theorem zd_250_48 : decode (zm_cc 250) 48 = .ok (.bipush 6, 2) := by decide +kernel
theorem zd_250_50 : decode (zm_cc 250) 50 = .ok (.if_icmp .ne 17, 3) := by decide +kernel
theorem zd_250_53 : decode (zm_cc 250) 53 = .ok (.iload 4, 2) := by decide +kernel
theorem zd_250_55 : decode (zm_cc 250) 55 = .ok (.iconst 1, 1) := by decide +kernel
theorem zd_250_56 : decode (zm_cc 250) 56 = .ok (.aload_n 0, 1) := by decide +kernel
theorem zd_250_57 : decode (zm_cc 250) 57 = .ok (.getfield 52, 3) := by decide +kernel
theorem zd_250_60 : decode (zm_cc 250) 60 = .ok (.iload_n 3, 1) := by decide +kernel
theorem zd_250_61 : decode (zm_cc 250) 61 = .ok (.iaload, 1) := by decide +kernel
theorem zd_250_62 : decode (zm_cc 250) 62 = .ok (.ishl, 1) := by decide +kernel
theorem zd_250_63 : decode (zm_cc 250) 63 = .ok (.ior, 1) := by decide +kernel
theorem zd_250_64 : decode (zm_cc 250) 64 = .ok (.goto 5, 3) := by decide +kernel
theorem zd_250_67 : decode (zm_cc 250) 67 = .ok (.iload 4, 2) := by decide +kernel
theorem zd_250_69 : decode (zm_cc 250) 69 = .ok (.istore 4, 2) := by decide +kernel
theorem zd_250_71 : decode (zm_cc 250) 71 = .ok (.iload 4, 2) := by decide +kernel
theorem zd_250_73 : decode (zm_cc 250) 73 = .ok (.iconst 1, 1) := by decide +kernel
theorem zd_250_74 : decode (zm_cc 250) 74 = .ok (.aload_n 0, 1) := by decide +kernel
theorem zd_250_75 : decode (zm_cc 250) 75 = .ok (.getfield 37, 3) := by decide +kernel
theorem zd_250_78 : decode (zm_cc 250) 78 = .ok (.iload_n 1, 1) := by decide +kernel
theorem zd_250_79 : decode (zm_cc 250) 79 = .ok (.iaload, 1) := by decide +kernel
theorem zd_250_80 : decode (zm_cc 250) 80 = .ok (.ishl, 1) := by decide +kernel
theorem zd_250_81 : decode (zm_cc 250) 81 = .ok (.iconst 1, 1) := by decide +kernel
theorem zd_250_82 : decode (zm_cc 250) 82 = .ok (.isub, 1) := by decide +kernel
theorem zd_250_83 : decode (zm_cc 250) 83 = .ok (.iand, 1) := by decide +kernel
theorem zd_250_84 : decode (zm_cc 250) 84 = .ok (.ireturn, 1) := by decide +kernel
theorem zd_251_0 : decode (zm_cc 251) 0 = .ok (.iload_n 2, 1) := by decide +kernel
theorem zd_251_1 : decode (zm_cc 251) 1 = .ok (.istore 4, 2) := by decide +kernel
theorem zd_251_3 : decode (zm_cc 251) 3 = .ok (.iconst 1, 1) := by decide +kernel
theorem zd_251_4 : decode (zm_cc 251) 4 = .ok (.istore 5, 2) := by decide +kernel
theorem zd_251_6 : decode (zm_cc 251) 6 = .ok (.iload 5, 2) := by decide +kernel
theorem zd_251_8 : decode (zm_cc 251) 8 = .ok (.ifCond .eq 76, 3) := by decide +kernel
theorem zd_251_11 : decode (zm_cc 251) 11 = .ok (.iload 4, 2) := by decide +kernel
theorem zd_251_13 : decode (zm_cc 251) 13 = .ok (.istore 6, 2) := by decide +kernel
theorem zd_251_15 : decode (zm_cc 251) 15 = .ok (.iconst 0, 1) := by decide +kernel
theorem zd_251_16 : decode (zm_cc 251) 16 = .ok (.istore 7, 2) := by decide +kernel
theorem zd_251_18 : decode (zm_cc 251) 18 = .ok (.iload 7, 2) := by decide +kernel
theorem zd_251_20 : decode (zm_cc 251) 20 = .ok (.aload_n 0, 1) := by decide +kernel
theorem zd_251_21 : decode (zm_cc 251) 21 = .ok (.getfield 37, 3) := by decide +kernel
theorem zd_251_24 : decode (zm_cc 251) 24 = .ok (.iload_n 1, 1) := by decide +kernel
theorem zd_251_25 : decode (zm_cc 251) 25 = .ok (.iaload, 1) := by decide +kernel
theorem zd_251_26 : decode (zm_cc 251) 26 = .ok (.if_icmp .ge 41, 3) := by decide +kernel
theorem zd_251_29 : decode (zm_cc 251) 29 = .ok (.iload 4, 2) := by decide +kernel
theorem zd_251_31 : decode (zm_cc 251) 31 = .ok (.iload 7, 2) := by decide +kernel
theorem zd_251_33 : decode (zm_cc 251) 33 = .ok (.ishr, 1) := by decide +kernel
theorem zd_251_34 : decode (zm_cc 251) 34 = .ok (.iconst 1, 1) := by decide +kernel
theorem zd_251_35 : decode (zm_cc 251) 35 = .ok (.iand, 1) := by decide +kernel
theorem zd_251_36 : decode (zm_cc 251) 36 = .ok (.iconst 1, 1) := by decide +kernel
theorem zd_251_37 : decode (zm_cc 251) 37 = .ok (.if_icmp .ne 24, 3) := by decide +kernel
theorem zd_251_40 : decode (zm_cc 251) 40 = .ok (.iload_n 3, 1) := by decide +kernel
theorem zd_251_41 : decode (zm_cc 251) 41 = .ok (.iload 7, 2) := by decide +kernel
theorem zd_251_43 : decode (zm_cc 251) 43 = .ok (.ishr, 1) := by decide +kernel
theorem zd_251_44 : decode (zm_cc 251) 44 = .ok (.iconst 1, 1) := by decide +kernel
theorem zd_251_45 : decode (zm_cc 251) 45 = .ok (.iand, 1) := by decide +kernel
theorem zd_251_46 : decode (zm_cc 251) 46 = .ok (.ifCond .ne 15, 3) := by decide +kernel
theorem zd_251_49 : decode (zm_cc 251) 49 = .ok (.iload 4, 2) := by decide +kernel
theorem zd_251_51 : decode (zm_cc 251) 51 = .ok (.aload_n 0, 1) := by decide +kernel
theorem zd_251_52 : decode (zm_cc 251) 52 = .ok (.iload_n 1, 1) := by decide +kernel
theorem zd_251_53 : decode (zm_cc 251) 53 = .ok (.iload 7, 2) := by decide +kernel
theorem zd_251_55 : decode (zm_cc 251) 55 = .ok (.invokevirtual 446, 3) := by decide +kernel
theorem zd_251_58 : decode (zm_cc 251) 58 = .ok (.ior, 1) := by decide +kernel
theorem zd_251_59 : decode (zm_cc 251) 59 = .ok (.istore 4, 2) := by decide +kernel
theorem zd_251_61 : decode (zm_cc 251) 61 = .ok (.iinc 7 1, 3) := by decide +kernel
theorem zd_251_64 : decode (zm_cc 251) 64 = .ok (.goto (-46), 3) := by decide +kernel
theorem zd_251_67 : decode (zm_cc 251) 67 = .ok (.iload 4, 2) := by decide +kernel
theorem zd_251_69 : decode (zm_cc 251) 69 = .ok (.iload 6, 2) := by decide +kernel
theorem zd_251_71 : decode (zm_cc 251) 71 = .ok (.if_icmp .eq 7, 3) := by decide +kernel
theorem zd_251_74 : decode (zm_cc 251) 74 = .ok (.iconst 1, 1) := by decide +kernel
theorem zd_251_75 : decode (zm_cc 251) 75 = .ok (.goto 4, 3) := by decide +kernel
theorem zd_251_78 : decode (zm_cc 251) 78 = .ok (.iconst 0, 1) := by decide +kernel
theorem zd_251_79 : decode (zm_cc 251) 79 = .ok (.istore 5, 2) := by decide +kernel
theorem zd_251_81 : decode (zm_cc 251) 81 = .ok (.goto (-75), 3) := by decide +kernel
theorem zd_251_84 : decode (zm_cc 251) 84 = .ok (.iload 4, 2) := by decide +kernel
theorem zd_251_86 : decode (zm_cc 251) 86 = .ok (.ireturn, 1) := by decide +kernel
theorem zd_252_0 : decode (zm_cc 252) 0 = .ok (.aload_n 0, 1) := by decide +kernel
theorem zd_252_1 : decode (zm_cc 252) 1 = .ok (.getfield 110, 3) := by decide +kernel
theorem zd_252_4 : decode (zm_cc 252) 4 = .ok (.ifCond .ne 6, 3) := by decide +kernel
theorem zd_252_7 : decode (zm_cc 252) 7 = .ok (.bipush (-101), 2) := by decide +kernel
theorem zd_252_9 : decode (zm_cc 252) 9 = .ok (.ireturn, 1) := by decide +kernel
theorem zd_252_10 : decode (zm_cc 252) 10 = .ok (.aload_n 0, 1) := by decide +kernel
theorem zd_252_11 : decode (zm_cc 252) 11 = .ok (.getfield 73, 3) := by decide +kernel
theorem zd_252_14 : decode (zm_cc 252) 14 = .ok (.invokevirtual 264, 3) := by decide +kernel
theorem zd_252_17 : decode (zm_cc 252) 17 = .ok (.aload_n 0, 1) := by decide +kernel
theorem zd_252_18 : decode (zm_cc 252) 18 = .ok (.getfield 16, 3) := by decide +kernel
theorem zd_252_21 : decode (zm_cc 252) 21 = .ok (.aload_n 0, 1) := by decide +kernel
theorem zd_252_22 : decode (zm_cc 252) 22 = .ok (.getfield 73, 3) := by decide +kernel
theorem zd_252_25 : decode (zm_cc 252) 25 = .ok (.getfield 267, 3) := by decide +kernel
theorem zd_252_28 : decode (zm_cc 252) 28 = .ok (.iload_n 1, 1) := by decide +kernel
theorem zd_252_29 : decode (zm_cc 252) 29 = .ok (.invokevirtual 212, 3) := by decide +kernel
theorem zd_252_32 : decode (zm_cc 252) 32 = .ok (.iload_n 2, 1) := by decide +kernel
theorem zd_252_33 : decode (zm_cc 252) 33 = .ok (.invokevirtual 216, 3) := by decide +kernel
theorem zd_252_36 : decode (zm_cc 252) 36 = .ok (.ireturn, 1) := by decide +kernel
theorem zd_253_0 : decode (zm_cc 253) 0 = .ok (.aload_n 0, 1) := by decide +kernel
theorem zd_253_1 : decode (zm_cc 253) 1 = .ok (.iconst 0, 1) := by decide +kernel
theorem zd_253_2 : decode (zm_cc 253) 2 = .ok (.putfield 1, 3) := by decide +kernel
theorem zd_253_5 : decode (zm_cc 253) 5 = .ok (.aload_n 0, 1) := by decide +kernel
theorem zd_253_6 : decode (zm_cc 253) 6 = .ok (.getfield 335, 3) := by decide +kernel
theorem zd_253_9 : decode (zm_cc 253) 9 = .ok (.ifCond .ne 6, 3) := by decide +kernel
theorem zd_253_12 : decode (zm_cc 253) 12 = .ok (.bipush (-101), 2) := by decide +kernel
theorem zd_253_14 : decode (zm_cc 253) 14 = .ok (.ireturn, 1) := by decide +kernel
theorem zd_253_15 : decode (zm_cc 253) 15 = .ok (.aload_n 0, 1) := by decide +kernel
theorem zd_253_16 : decode (zm_cc 253) 16 = .ok (.iload_n 1, 1) := by decide +kernel
theorem zd_253_17 : decode (zm_cc 253) 17 = .ok (.iconst 0, 1) := by decide +kernel
theorem zd_253_18 : decode (zm_cc 253) 18 = .ok (.invokevirtual 463, 3) := by decide +kernel
theorem zd_253_21 : decode (zm_cc 253) 21 = .ok (.istore_n 3, 1) := by decide +kernel
theorem zd_253_22 : decode (zm_cc 253) 22 = .ok (.iload_n 3, 1) := by decide +kernel
theorem zd_253_23 : decode (zm_cc 253) 23 = .ok (.iconst (-1), 1) := by decide +kernel
theorem zd_253_24 : decode (zm_cc 253) 24 = .ok (.if_icmp .ne 8, 3) := by decide +kernel
theorem zd_253_27 : decode (zm_cc 253) 27 = .ok (.bipush (-102), 2) := by decide +kernel
theorem zd_253_29 : decode (zm_cc 253) 29 = .ok (.goto 9, 3) := by decide +kernel
theorem zd_253_32 : decode (zm_cc 253) 32 = .ok (.aload_n 0, 1) := by decide +kernel
theorem zd_253_33 : decode (zm_cc 253) 33 = .ok (.iload_n 3, 1) := by decide +kernel
theorem zd_253_34 : decode (zm_cc 253) 34 = .ok (.iload_n 2, 1) := by decide +kernel
theorem zd_253_35 : decode (zm_cc 253) 35 = .ok (.invokevirtual 437, 3) := by decide +kernel
theorem zd_253_38 : decode (zm_cc 253) 38 = .ok (.ireturn, 1) := by decide +kernel
theorem zd_254_0 : decode (zm_cc 254) 0 = .ok (.aload_n 0, 1) := by decide +kernel
theorem zd_254_1 : decode (zm_cc 254) 1 = .ok (.getfield 110, 3) := by decide +kernel
theorem zd_254_4 : decode (zm_cc 254) 4 = .ok (.ifCond .ne 6, 3) := by decide +kernel
theorem zd_254_7 : decode (zm_cc 254) 7 = .ok (.bipush (-101), 2) := by decide +kernel
theorem zd_254_9 : decode (zm_cc 254) 9 = .ok (.ireturn, 1) := by decide +kernel
theorem zd_254_10 : decode (zm_cc 254) 10 = .ok (.iload_n 1, 1) := by decide +kernel
theorem zd_254_11 : decode (zm_cc 254) 11 = .ok (.iload_n 3, 1) := by decide +kernel
theorem zd_254_12 : decode (zm_cc 254) 12 = .ok (.if_icmp .eq 32, 3) := by decide +kernel
theorem zd_254_15 : decode (zm_cc 254) 15 = .ok (.aload_n 0, 1) := by decide +kernel
theorem zd_254_16 : decode (zm_cc 254) 16 = .ok (.getfield 16, 3) := by decide +kernel
theorem zd_254_19 : decode (zm_cc 254) 19 = .ok (.iload_n 1, 1) := by decide +kernel
theorem zd_254_20 : decode (zm_cc 254) 20 = .ok (.iload_n 2, 1) := by decide +kernel
theorem zd_254_21 : decode (zm_cc 254) 21 = .ok (.invokevirtual 147, 3) := by decide +kernel
theorem zd_254_24 : decode (zm_cc 254) 24 = .ok (.bipush 96, 2) := by decide +kernel
theorem zd_254_26 : decode (zm_cc 254) 26 = .ok (.if_icmp .eq 18, 3) := by decide +kernel
theorem zd_254_29 : decode (zm_cc 254) 29 = .ok (.aload_n 0, 1) := by decide +kernel
theorem zd_254_30 : decode (zm_cc 254) 30 = .ok (.getfield 16, 3) := by decide +kernel
theorem zd_254_33 : decode (zm_cc 254) 33 = .ok (.iload_n 3, 1) := by decide +kernel
theorem zd_254_34 : decode (zm_cc 254) 34 = .ok (.iload 4, 2) := by decide +kernel
theorem zd_254_36 : decode (zm_cc 254) 36 = .ok (.invokevirtual 147, 3) := by decide +kernel
theorem zd_254_39 : decode (zm_cc 254) 39 = .ok (.bipush 96, 2) := by decide +kernel
theorem zd_254_41 : decode (zm_cc 254) 41 = .ok (.if_icmp .ne 6, 3) := by decide +kernel
theorem zd_254_44 : decode (zm_cc 254) 44 = .ok (.bipush (-102), 2) := by decide +kernel
theorem zd_254_46 : decode (zm_cc 254) 46 = .ok (.ireturn, 1) := by decide +kernel
theorem zd_254_47 : decode (zm_cc 254) 47 = .ok (.aload_n 0, 1) := by decide +kernel
theorem zd_254_48 : decode (zm_cc 254) 48 = .ok (.getfield 73, 3) := by decide +kernel
theorem zd_254_51 : decode (zm_cc 254) 51 = .ok (.invokevirtual 264, 3) := by decide +kernel
theorem zd_254_54 : decode (zm_cc 254) 54 = .ok (.aload_n 0, 1) := by decide +kernel
theorem zd_254_55 : decode (zm_cc 254) 55 = .ok (.getfield 73, 3) := by decide +kernel
theorem zd_254_58 : decode (zm_cc 254) 58 = .ok (.iload_n 1, 1) := by decide +kernel
theorem zd_254_59 : decode (zm_cc 254) 59 = .ok (.iload_n 2, 1) := by decide +kernel
theorem zd_254_60 : decode (zm_cc 254) 60 = .ok (.iload_n 3, 1) := by decide +kernel
theorem zd_254_61 : decode (zm_cc 254) 61 = .ok (.iload 4, 2) := by decide +kernel
theorem zd_254_63 : decode (zm_cc 254) 63 = .ok (.invokevirtual 270, 3) := by decide +kernel
theorem zd_254_66 : decode (zm_cc 254) 66 = .ok (.ifCond .eq 7, 3) := by decide +kernel
theorem zd_254_69 : decode (zm_cc 254) 69 = .ok (.iconst 1, 1) := by decide +kernel
theorem zd_254_70 : decode (zm_cc 254) 70 = .ok (.goto 4, 3) := by decide +kernel
theorem zd_254_73 : decode (zm_cc 254) 73 = .ok (.iconst 0, 1) := by decide +kernel
theorem zd_254_74 : decode (zm_cc 254) 74 = .ok (.ireturn, 1) := by decide +kernel
theorem zd_255_0 : decode (zm_cc 255) 0 = .ok (.aload_n 0, 1) := by decide +kernel
theorem zd_255_1 : decode (zm_cc 255) 1 = .ok (.iconst 0, 1) := by decide +kernel
theorem zd_255_2 : decode (zm_cc 255) 2 = .ok (.putfield 1, 3) := by decide +kernel
theorem zd_255_5 : decode (zm_cc 255) 5 = .ok (.aload_n 0, 1) := by decide +kernel
theorem zd_255_6 : decode (zm_cc 255) 6 = .ok (.getfield 335, 3) := by decide +kernel
theorem zd_255_9 : decode (zm_cc 255) 9 = .ok (.ifCond .ne 6, 3) := by decide +kernel
theorem zd_255_12 : decode (zm_cc 255) 12 = .ok (.bipush (-101), 2) := by decide +kernel
theorem zd_255_14 : decode (zm_cc 255) 14 = .ok (.ireturn, 1) := by decide +kernel
theorem zd_255_15 : decode (zm_cc 255) 15 = .ok (.aload_n 0, 1) := by decide +kernel
theorem zd_255_16 : decode (zm_cc 255) 16 = .ok (.iload_n 1, 1) := by decide +kernel
theorem zd_255_17 : decode (zm_cc 255) 17 = .ok (.iload_n 2, 1) := by decide +kernel
theorem zd_255_18 : decode (zm_cc 255) 18 = .ok (.invokevirtual 344, 3) := by decide +kernel
theorem zd_255_21 : decode (zm_cc 255) 21 = .ok (.ifCond .eq 18, 3) := by decide +kernel
theorem zd_255_24 : decode (zm_cc 255) 24 = .ok (.aload_n 0, 1) := by decide +kernel
theorem zd_255_25 : decode (zm_cc 255) 25 = .ok (.iload_n 3, 1) := by decide +kernel
theorem zd_255_26 : decode (zm_cc 255) 26 = .ok (.iload 4, 2) := by decide +kernel
theorem zd_255_28 : decode (zm_cc 255) 28 = .ok (.invokevirtual 344, 3) := by decide +kernel
theorem zd_255_31 : decode (zm_cc 255) 31 = .ok (.ifCond .eq 8, 3) := by decide +kernel
theorem zd_255_34 : decode (zm_cc 255) 34 = .ok (.iload_n 1, 1) := by decide +kernel
theorem zd_255_35 : decode (zm_cc 255) 35 = .ok (.iload_n 3, 1) := by decide +kernel
theorem zd_255_36 : decode (zm_cc 255) 36 = .ok (.if_icmp .ne 6, 3) := by decide +kernel
theorem zd_255_39 : decode (zm_cc 255) 39 = .ok (.bipush (-102), 2) := by decide +kernel
theorem zd_255_41 : decode (zm_cc 255) 41 = .ok (.ireturn, 1) := by decide +kernel
theorem zd_255_42 : decode (zm_cc 255) 42 = .ok (.aload_n 0, 1) := by decide +kernel
theorem zd_255_43 : decode (zm_cc 255) 43 = .ok (.iload_n 1, 1) := by decide +kernel
theorem zd_255_44 : decode (zm_cc 255) 44 = .ok (.iload_n 2, 1) := by decide +kernel
theorem zd_255_45 : decode (zm_cc 255) 45 = .ok (.iload_n 3, 1) := by decide +kernel
theorem zd_255_46 : decode (zm_cc 255) 46 = .ok (.iload 4, 2) := by decide +kernel
theorem zd_255_48 : decode (zm_cc 255) 48 = .ok (.invokevirtual 456, 3) := by decide +kernel
theorem zd_255_51 : decode (zm_cc 255) 51 = .ok (.ifCond .eq 7, 3) := by decide +kernel
theorem zd_255_54 : decode (zm_cc 255) 54 = .ok (.iconst 1, 1) := by decide +kernel
theorem zd_255_55 : decode (zm_cc 255) 55 = .ok (.goto 4, 3) := by decide +kernel
theorem zd_255_58 : decode (zm_cc 255) 58 = .ok (.iconst 0, 1) := by decide +kernel
theorem zd_255_59 : decode (zm_cc 255) 59 = .ok (.ireturn, 1) := by decide +kernel
theorem zd_256_0 : decode (zm_cc 256) 0 = .ok (.aload_n 0, 1) := by decide +kernel
theorem zd_256_1 : decode (zm_cc 256) 1 = .ok (.getfield 110, 3) := by decide +kernel
theorem zd_256_4 : decode (zm_cc 256) 4 = .ok (.ifCond .ne 6, 3) := by decide +kernel
theorem zd_256_7 : decode (zm_cc 256) 7 = .ok (.bipush (-101), 2) := by decide +kernel
theorem zd_256_9 : decode (zm_cc 256) 9 = .ok (.ireturn, 1) := by decide +kernel
theorem zd_256_10 : decode (zm_cc 256) 10 = .ok (.iload_n 1, 1) := by decide +kernel
theorem zd_256_11 : decode (zm_cc 256) 11 = .ok (.ifCond .lt 14, 3) := by decide +kernel
theorem zd_256_14 : decode (zm_cc 256) 14 = .ok (.iload_n 1, 1) := by decide +kernel
theorem zd_256_15 : decode (zm_cc 256) 15 = .ok (.aload_n 0, 1) := by decide +kernel
theorem zd_256_16 : decode (zm_cc 256) 16 = .ok (.getfield 16, 3) := by decide +kernel
theorem zd_256_19 : decode (zm_cc 256) 19 = .ok (.getfield 135, 3) := by decide +kernel
theorem zd_256_22 : decode (zm_cc 256) 22 = .ok (.if_icmp .lt 6, 3) := by decide +kernel
theorem zd_256_25 : decode (zm_cc 256) 25 = .ok (.bipush (-102), 2) := by decide +kernel
theorem zd_256_27 : decode (zm_cc 256) 27 = .ok (.ireturn, 1) := by decide +kernel
theorem zd_256_28 : decode (zm_cc 256) 28 = .ok (.aload_n 0, 1) := by decide +kernel
theorem zd_256_29 : decode (zm_cc 256) 29 = .ok (.getfield 73, 3) := by decide +kernel
theorem zd_256_32 : decode (zm_cc 256) 32 = .ok (.iload_n 1, 1) := by decide +kernel
theorem zd_256_33 : decode (zm_cc 256) 33 = .ok (.invokevirtual 274, 3) := by decide +kernel
theorem zd_256_36 : decode (zm_cc 256) 36 = .ok (.ireturn, 1) := by decide +kernel
theorem zd_257_0 : decode (zm_cc 257) 0 = .ok (.iconst 1, 1) := by decide +kernel
theorem zd_257_1 : decode (zm_cc 257) 1 = .ok (.aload_n 0, 1) := by decide +kernel
theorem zd_257_2 : decode (zm_cc 257) 2 = .ok (.getfield 27, 3) := by decide +kernel
theorem zd_257_5 : decode (zm_cc 257) 5 = .ok (.getfield 107, 3) := by decide +kernel
theorem zd_257_8 : decode (zm_cc 257) 8 = .ok (.ishl, 1) := by decide +kernel
theorem zd_257_9 : decode (zm_cc 257) 9 = .ok (.iconst 1, 1) := by decide +kernel
theorem zd_257_10 : decode (zm_cc 257) 10 = .ok (.isub, 1) := by decide +kernel
theorem zd_257_11 : decode (zm_cc 257) 11 = .ok (.istore_n 2, 1) := by decide +kernel
theorem zd_257_12 : decode (zm_cc 257) 12 = .ok (.iconst 0, 1) := by decide +kernel
theorem zd_257_13 : decode (zm_cc 257) 13 = .ok (.istore_n 3, 1) := by decide +kernel
theorem zd_257_14 : decode (zm_cc 257) 14 = .ok (.iload_n 3, 1) := by decide +kernel
theorem zd_257_15 : decode (zm_cc 257) 15 = .ok (.bipush 96, 2) := by decide +kernel
theorem zd_257_17 : decode (zm_cc 257) 17 = .ok (.if_icmp .ge 92, 3) := by decide +kernel
theorem zd_257_20 : decode (zm_cc 257) 20 = .ok (.aload_n 0, 1) := by decide +kernel
theorem zd_257_21 : decode (zm_cc 257) 21 = .ok (.getfield 27, 3) := by decide +kernel
theorem zd_257_24 : decode (zm_cc 257) 24 = .ok (.iload_n 3, 1) := by decide +kernel
theorem zd_257_25 : decode (zm_cc 257) 25 = .ok (.bipush 24, 2) := by decide +kernel
theorem zd_257_27 : decode (zm_cc 257) 27 = .ok (.idiv, 1) := by decide +kernel
theorem zd_257_28 : decode (zm_cc 257) 28 = .ok (.iload_n 3, 1) := by decide +kernel
theorem zd_257_29 : decode (zm_cc 257) 29 = .ok (.bipush 24, 2) := by decide +kernel
theorem zd_257_31 : decode (zm_cc 257) 31 = .ok (.irem, 1) := by decide +kernel
theorem zd_257_32 : decode (zm_cc 257) 32 = .ok (.invokevirtual 50, 3) := by decide +kernel
theorem zd_257_35 : decode (zm_cc 257) 35 = .ok (.istore 4, 2) := by decide +kernel
theorem zd_257_37 : decode (zm_cc 257) 37 = .ok (.aload_n 0, 1) := by decide +kernel
theorem zd_257_38 : decode (zm_cc 257) 38 = .ok (.getfield 27, 3) := by decide +kernel
theorem zd_257_41 : decode (zm_cc 257) 41 = .ok (.getfield 68, 3) := by decide +kernel
theorem zd_257_44 : decode (zm_cc 257) 44 = .ok (.iload 4, 2) := by decide +kernel
theorem zd_257_46 : decode (zm_cc 257) 46 = .ok (.iaload, 1) := by decide +kernel
theorem zd_257_47 : decode (zm_cc 257) 47 = .ok (.ifCond .eq 17, 3) := by decide +kernel
theorem zd_257_50 : decode (zm_cc 257) 50 = .ok (.aload_n 0, 1) := by decide +kernel
theorem zd_257_51 : decode (zm_cc 257) 51 = .ok (.getfield 27, 3) := by decide +kernel
theorem zd_257_54 : decode (zm_cc 257) 54 = .ok (.getfield 68, 3) := by decide +kernel
theorem zd_257_57 : decode (zm_cc 257) 57 = .ok (.iload 4, 2) := by decide +kernel
theorem zd_257_59 : decode (zm_cc 257) 59 = .ok (.iaload, 1) := by decide +kernel
theorem zd_257_60 : decode (zm_cc 257) 60 = .ok (.iconst 1, 1) := by decide +kernel
theorem zd_257_61 : decode (zm_cc 257) 61 = .ok (.if_icmp .ne 7, 3) := by decide +kernel
theorem zd_257_64 : decode (zm_cc 257) 64 = .ok (.iconst 1, 1) := by decide +kernel
theorem zd_257_65 : decode (zm_cc 257) 65 = .ok (.goto 4, 3) := by decide +kernel
theorem zd_257_68 : decode (zm_cc 257) 68 = .ok (.iconst 0, 1) := by decide +kernel
theorem zd_257_69 : decode (zm_cc 257) 69 = .ok (.istore 5, 2) := by decide +kernel
theorem zd_257_71 : decode (zm_cc 257) 71 = .ok (.iload 5, 2) := by decide +kernel
theorem zd_257_73 : decode (zm_cc 257) 73 = .ok (.ifCond .eq 30, 3) := by decide +kernel
theorem zd_257_76 : decode (zm_cc 257) 76 = .ok (.aload_n 0, 1) := by decide +kernel
theorem zd_257_77 : decode (zm_cc 257) 77 = .ok (.getfield 27, 3) := by decide +kernel
theorem zd_257_80 : decode (zm_cc 257) 80 = .ok (.getfield 71, 3) := by decide +kernel
theorem zd_257_83 : decode (zm_cc 257) 83 = .ok (.iload 4, 2) := by decide +kernel
theorem zd_257_85 : decode (zm_cc 257) 85 = .ok (.iaload, 1) := by decide +kernel
theorem zd_257_86 : decode (zm_cc 257) 86 = .ok (.iload_n 1, 1) := by decide +kernel
theorem zd_257_87 : decode (zm_cc 257) 87 = .ok (.if_icmp .ne 16, 3) := by decide +kernel
theorem zd_257_90 : decode (zm_cc 257) 90 = .ok (.iload_n 2, 1) := by decide +kernel
theorem zd_257_91 : decode (zm_cc 257) 91 = .ok (.aload_n 0, 1) := by decide +kernel
theorem zd_257_92 : decode (zm_cc 257) 92 = .ok (.getfield 27, 3) := by decide +kernel
theorem zd_257_95 : decode (zm_cc 257) 95 = .ok (.getfield 101, 3) := by decide +kernel
theorem zd_257_98 : decode (zm_cc 257) 98 = .ok (.iload 4, 2) := by decide +kernel
theorem zd_257_100 : decode (zm_cc 257) 100 = .ok (.iaload, 1) := by decide +kernel
theorem zd_257_101 : decode (zm_cc 257) 101 = .ok (.iand, 1) := by decide +kernel
theorem zd_257_102 : decode (zm_cc 257) 102 = .ok (.istore_n 2, 1) := by decide +kernel
theorem zd_257_103 : decode (zm_cc 257) 103 = .ok (.iinc 3 1, 3) := by decide +kernel
theorem zd_257_106 : decode (zm_cc 257) 106 = .ok (.goto (-92), 3) := by decide +kernel
theorem zd_257_109 : decode (zm_cc 257) 109 = .ok (.iload_n 2, 1) := by decide +kernel
theorem zd_257_110 : decode (zm_cc 257) 110 = .ok (.ireturn, 1) := by decide +kernel
theorem zd_258_0 : decode (zm_cc 258) 0 = .ok (.aload_n 0, 1) := by decide +kernel
theorem zd_258_1 : decode (zm_cc 258) 1 = .ok (.iconst 0, 1) := by decide +kernel
theorem zd_258_2 : decode (zm_cc 258) 2 = .ok (.putfield 1, 3) := by decide +kernel
theorem zd_258_5 : decode (zm_cc 258) 5 = .ok (.aload_n 0, 1) := by decide +kernel
theorem zd_258_6 : decode (zm_cc 258) 6 = .ok (.getfield 335, 3) := by decide +kernel
theorem zd_258_9 : decode (zm_cc 258) 9 = .ok (.ifCond .ne 6, 3) := by decide +kernel
theorem zd_258_12 : decode (zm_cc 258) 12 = .ok (.bipush (-101), 2) := by decide +kernel
theorem zd_258_14 : decode (zm_cc 258) 14 = .ok (.ireturn, 1) := by decide +kernel
theorem zd_258_15 : decode (zm_cc 258) 15 = .ok (.iload_n 1, 1) := by decide +kernel
theorem zd_258_16 : decode (zm_cc 258) 16 = .ok (.iconst 0, 1) := by decide +kernel
theorem zd_258_17 : decode (zm_cc 258) 17 = .ok (.aload_n 0, 1) := by decide +kernel
theorem zd_258_18 : decode (zm_cc 258) 18 = .ok (.getfield 215, 3) := by decide +kernel
theorem zd_258_21 : decode (zm_cc 258) 21 = .ok (.iconst 1, 1) := by decide +kernel
theorem zd_258_22 : decode (zm_cc 258) 22 = .ok (.isub, 1) := by decide +kernel
theorem zd_258_23 : decode (zm_cc 258) 23 = .ok (.invokestatic 128, 3) := by decide +kernel
theorem zd_258_26 : decode (zm_cc 258) 26 = .ok (.ifCond .ne 6, 3) := by decide +kernel
theorem zd_258_29 : decode (zm_cc 258) 29 = .ok (.bipush (-102), 2) := by decide +kernel
theorem zd_258_31 : decode (zm_cc 258) 31 = .ok (.ireturn, 1) := by decide +kernel
theorem zd_258_32 : decode (zm_cc 258) 32 = .ok (.iconst 1, 1) := by decide +kernel
theorem zd_258_33 : decode (zm_cc 258) 33 = .ok (.aload_n 0, 1) := by decide +kernel
theorem zd_258_34 : decode (zm_cc 258) 34 = .ok (.getfield 222, 3) := by decide +kernel
theorem zd_258_37 : decode (zm_cc 258) 37 = .ok (.ishl, 1) := by decide +kernel
theorem zd_258_38 : decode (zm_cc 258) 38 = .ok (.iconst 1, 1) := by decide +kernel
theorem zd_258_39 : decode (zm_cc 258) 39 = .ok (.isub, 1) := by decide +kernel
theorem zd_258_40 : decode (zm_cc 258) 40 = .ok (.istore_n 2, 1) := by decide +kernel
theorem zd_258_41 : decode (zm_cc 258) 41 = .ok (.iconst 0, 1) := by decide +kernel
theorem zd_258_42 : decode (zm_cc 258) 42 = .ok (.istore_n 3, 1) := by decide +kernel
theorem zd_258_43 : decode (zm_cc 258) 43 = .ok (.iload_n 3, 1) := by decide +kernel
theorem zd_258_44 : decode (zm_cc 258) 44 = .ok (.bipush 24, 2) := by decide +kernel
theorem zd_258_46 : decode (zm_cc 258) 46 = .ok (.aload_n 0, 1) := by decide +kernel
theorem zd_258_47 : decode (zm_cc 258) 47 = .ok (.getfield 225, 3) := by decide +kernel
theorem zd_258_50 : decode (zm_cc 258) 50 = .ok (.imul, 1) := by decide +kernel
theorem zd_258_51 : decode (zm_cc 258) 51 = .ok (.if_icmp .ge 52, 3) := by decide +kernel
theorem zd_258_54 : decode (zm_cc 258) 54 = .ok (.iload_n 3, 1) := by decide +kernel
theorem zd_258_55 : decode (zm_cc 258) 55 = .ok (.bipush 24, 2) := by decide +kernel
theorem zd_258_57 : decode (zm_cc 258) 57 = .ok (.irem, 1) := by decide +kernel
theorem zd_258_58 : decode (zm_cc 258) 58 = .ok (.aload_n 0, 1) := by decide +kernel
theorem zd_258_59 : decode (zm_cc 258) 59 = .ok (.getfield 37, 3) := by decide +kernel
theorem zd_258_62 : decode (zm_cc 258) 62 = .ok (.iload_n 3, 1) := by decide +kernel
theorem zd_258_63 : decode (zm_cc 258) 63 = .ok (.bipush 24, 2) := by decide +kernel
theorem zd_258_65 : decode (zm_cc 258) 65 = .ok (.idiv, 1) := by decide +kernel
theorem zd_258_66 : decode (zm_cc 258) 66 = .ok (.iaload, 1) := by decide +kernel
theorem zd_258_67 : decode (zm_cc 258) 67 = .ok (.if_icmp .ge 30, 3) := by decide +kernel
theorem zd_258_70 : decode (zm_cc 258) 70 = .ok (.aload_n 0, 1) := by decide +kernel
theorem zd_258_71 : decode (zm_cc 258) 71 = .ok (.iload_n 3, 1) := by decide +kernel
theorem zd_258_72 : decode (zm_cc 258) 72 = .ok (.invokevirtual 383, 3) := by decide +kernel
theorem zd_258_75 : decode (zm_cc 258) 75 = .ok (.ifCond .eq 22, 3) := by decide +kernel
theorem zd_258_78 : decode (zm_cc 258) 78 = .ok (.aload_n 0, 1) := by decide +kernel
theorem zd_258_79 : decode (zm_cc 258) 79 = .ok (.getfield 46, 3) := by decide +kernel
theorem zd_258_82 : decode (zm_cc 258) 82 = .ok (.iload_n 3, 1) := by decide +kernel
theorem zd_258_83 : decode (zm_cc 258) 83 = .ok (.iaload, 1) := by decide +kernel
theorem zd_258_84 : decode (zm_cc 258) 84 = .ok (.iload_n 1, 1) := by decide +kernel
theorem zd_258_85 : decode (zm_cc 258) 85 = .ok (.if_icmp .ne 12, 3) := by decide +kernel
theorem zd_258_88 : decode (zm_cc 258) 88 = .ok (.iload_n 2, 1) := by decide +kernel
theorem zd_258_89 : decode (zm_cc 258) 89 = .ok (.aload_n 0, 1) := by decide +kernel
theorem zd_258_90 : decode (zm_cc 258) 90 = .ok (.getfield 55, 3) := by decide +kernel
theorem zd_258_93 : decode (zm_cc 258) 93 = .ok (.iload_n 3, 1) := by decide +kernel
theorem zd_258_94 : decode (zm_cc 258) 94 = .ok (.iaload, 1) := by decide +kernel
theorem zd_258_95 : decode (zm_cc 258) 95 = .ok (.iand, 1) := by decide +kernel
theorem zd_258_96 : decode (zm_cc 258) 96 = .ok (.istore_n 2, 1) := by decide +kernel
theorem zd_258_97 : decode (zm_cc 258) 97 = .ok (.iinc 3 1, 3) := by decide +kernel
theorem zd_258_100 : decode (zm_cc 258) 100 = .ok (.goto (-57), 3) := by decide +kernel
theorem zd_258_103 : decode (zm_cc 258) 103 = .ok (.iload_n 2, 1) := by decide +kernel
theorem zd_258_104 : decode (zm_cc 258) 104 = .ok (.ireturn, 1) := by decide +kernel
theorem zd_259_0 : decode (zm_cc 259) 0 = .ok (.aload_n 0, 1) := by decide +kernel
theorem zd_259_1 : decode (zm_cc 259) 1 = .ok (.getfield 110, 3) := by decide +kernel
theorem zd_259_4 : decode (zm_cc 259) 4 = .ok (.ifCond .ne 6, 3) := by decide +kernel
theorem zd_259_7 : decode (zm_cc 259) 7 = .ok (.bipush (-101), 2) := by decide +kernel
theorem zd_259_9 : decode (zm_cc 259) 9 = .ok (.ireturn, 1) := by decide +kernel
theorem zd_259_10 : decode (zm_cc 259) 10 = .ok (.aload_n 0, 1) := by decide +kernel
theorem zd_259_11 : decode (zm_cc 259) 11 = .ok (.getfield 73, 3) := by decide +kernel
theorem zd_259_14 : decode (zm_cc 259) 14 = .ok (.invokevirtual 264, 3) := by decide +kernel
theorem zd_259_17 : decode (zm_cc 259) 17 = .ok (.aload_n 0, 1) := by decide +kernel
theorem zd_259_18 : decode (zm_cc 259) 18 = .ok (.getfield 73, 3) := by decide +kernel
theorem zd_259_21 : decode (zm_cc 259) 21 = .ok (.getfield 277, 3) := by decide +kernel
theorem zd_259_24 : decode (zm_cc 259) 24 = .ok (.ireturn, 1) := by decide +kernel
theorem zd_260_0 : decode (zm_cc 260) 0 = .ok (.aload_n 0, 1) := by decide +kernel
theorem zd_260_1 : decode (zm_cc 260) 1 = .ok (.iconst 0, 1) := by decide +kernel
theorem zd_260_2 : decode (zm_cc 260) 2 = .ok (.putfield 1, 3) := by decide +kernel
theorem zd_260_5 : decode (zm_cc 260) 5 = .ok (.aload_n 0, 1) := by decide +kernel
theorem zd_260_6 : decode (zm_cc 260) 6 = .ok (.getfield 335, 3) := by decide +kernel
theorem zd_260_9 : decode (zm_cc 260) 9 = .ok (.ifCond .ne 6, 3) := by decide +kernel
theorem zd_260_12 : decode (zm_cc 260) 12 = .ok (.bipush (-101), 2) := by decide +kernel
theorem zd_260_14 : decode (zm_cc 260) 14 = .ok (.ireturn, 1) := by decide +kernel
theorem zd_260_15 : decode (zm_cc 260) 15 = .ok (.bipush 24, 2) := by decide +kernel
theorem zd_260_17 : decode (zm_cc 260) 17 = .ok (.aload_n 0, 1) := by decide +kernel
theorem zd_260_18 : decode (zm_cc 260) 18 = .ok (.getfield 225, 3) := by decide +kernel
theorem zd_260_21 : decode (zm_cc 260) 21 = .ok (.imul, 1) := by decide +kernel
theorem zd_260_22 : decode (zm_cc 260) 22 = .ok (.istore_n 1, 1) := by decide +kernel
theorem zd_260_23 : decode (zm_cc 260) 23 = .ok (.iconst 0, 1) := by decide +kernel
theorem zd_260_24 : decode (zm_cc 260) 24 = .ok (.istore_n 2, 1) := by decide +kernel
theorem zd_260_25 : decode (zm_cc 260) 25 = .ok (.iconst 0, 1) := by decide +kernel
theorem zd_260_26 : decode (zm_cc 260) 26 = .ok (.istore_n 3, 1) := by decide +kernel
theorem zd_260_27 : decode (zm_cc 260) 27 = .ok (.iload_n 3, 1) := by decide +kernel
theorem zd_260_28 : decode (zm_cc 260) 28 = .ok (.iload_n 1, 1) := by decide +kernel
theorem zd_260_29 : decode (zm_cc 260) 29 = .ok (.if_icmp .ge 263, 3) := by decide +kernel
theorem zd_260_32 : decode (zm_cc 260) 32 = .ok (.bipush 24, 2) := by decide +kernel
theorem zd_260_34 : decode (zm_cc 260) 34 = .ok (.iload_n 3, 1) := by decide +kernel
theorem zd_260_35 : decode (zm_cc 260) 35 = .ok (.bipush 24, 2) := by decide +kernel
theorem zd_260_37 : decode (zm_cc 260) 37 = .ok (.idiv, 1) := by decide +kernel
theorem zd_260_38 : decode (zm_cc 260) 38 = .ok (.iconst 1, 1) := by decide +kernel
theorem zd_260_39 : decode (zm_cc 260) 39 = .ok (.iadd, 1) := by decide +kernel
theorem zd_260_40 : decode (zm_cc 260) 40 = .ok (.imul, 1) := by decide +kernel
theorem zd_260_41 : decode (zm_cc 260) 41 = .ok (.istore 4, 2) := by decide +kernel
theorem zd_260_43 : decode (zm_cc 260) 43 = .ok (.iload 4, 2) := by decide +kernel
theorem zd_260_45 : decode (zm_cc 260) 45 = .ok (.iload_n 1, 1) := by decide +kernel
theorem zd_260_46 : decode (zm_cc 260) 46 = .ok (.if_icmp .ge 240, 3) := by decide +kernel
theorem zd_260_49 : decode (zm_cc 260) 49 = .ok (.aload_n 0, 1) := by decide +kernel
theorem zd_260_50 : decode (zm_cc 260) 50 = .ok (.iload_n 3, 1) := by decide +kernel
theorem zd_260_51 : decode (zm_cc 260) 51 = .ok (.invokevirtual 467, 3) := by decide +kernel
theorem zd_260_54 : decode (zm_cc 260) 54 = .ok (.ifCond .eq 232, 3) := by decide +kernel
theorem zd_260_57 : decode (zm_cc 260) 57 = .ok (.aload_n 0, 1) := by decide +kernel
theorem zd_260_58 : decode (zm_cc 260) 58 = .ok (.iload 4, 2) := by decide +kernel
theorem zd_260_60 : decode (zm_cc 260) 60 = .ok (.invokevirtual 467, 3) := by decide +kernel
theorem zd_260_63 : decode (zm_cc 260) 63 = .ok (.ifCond .eq 217, 3) := by decide +kernel
theorem zd_260_66 : decode (zm_cc 260) 66 = .ok (.aload_n 0, 1) := by decide +kernel
theorem zd_260_67 : decode (zm_cc 260) 67 = .ok (.iload_n 3, 1) := by decide +kernel
theorem zd_260_68 : decode (zm_cc 260) 68 = .ok (.iload 4, 2) := by decide +kernel
theorem zd_260_70 : decode (zm_cc 260) 70 = .ok (.invokevirtual 470, 3) := by decide +kernel
theorem zd_260_73 : decode (zm_cc 260) 73 = .ok (.ifCond .eq 207, 3) := by decide +kernel
theorem zd_260_76 : decode (zm_cc 260) 76 = .ok (.aload_n 0, 1) := by decide +kernel
theorem zd_260_77 : decode (zm_cc 260) 77 = .ok (.iload_n 3, 1) := by decide +kernel
theorem zd_260_78 : decode (zm_cc 260) 78 = .ok (.iload 4, 2) := by decide +kernel
theorem zd_260_80 : decode (zm_cc 260) 80 = .ok (.invokevirtual 473, 3) := by decide +kernel
theorem zd_260_83 : decode (zm_cc 260) 83 = .ok (.ifCond .ne 6, 3) := by decide +kernel
theorem zd_260_86 : decode (zm_cc 260) 86 = .ok (.goto 194, 3) := by decide +kernel
theorem zd_260_89 : decode (zm_cc 260) 89 = .ok (.iload_n 2, 1) := by decide +kernel
theorem zd_260_90 : decode (zm_cc 260) 90 = .ok (.aload_n 0, 1) := by decide +kernel
theorem zd_260_91 : decode (zm_cc 260) 91 = .ok (.iload 4, 2) := by decide +kernel
theorem zd_260_93 : decode (zm_cc 260) 93 = .ok (.iload_n 3, 1) := by decide +kernel
theorem zd_260_94 : decode (zm_cc 260) 94 = .ok (.invokevirtual 470, 3) := by decide +kernel
theorem zd_260_97 : decode (zm_cc 260) 97 = .ok (.ifCond .eq 7, 3) := by decide +kernel
theorem zd_260_100 : decode (zm_cc 260) 100 = .ok (.iconst 1, 1) := by decide +kernel
theorem zd_260_101 : decode (zm_cc 260) 101 = .ok (.goto 4, 3) := by decide +kernel
theorem zd_260_104 : decode (zm_cc 260) 104 = .ok (.iconst 0, 1) := by decide +kernel
theorem zd_260_105 : decode (zm_cc 260) 105 = .ok (.iadd, 1) := by decide +kernel
theorem zd_260_106 : decode (zm_cc 260) 106 = .ok (.istore_n 2, 1) := by decide +kernel
theorem zd_260_107 : decode (zm_cc 260) 107 = .ok (.bipush 24, 2) := by decide +kernel
theorem zd_260_109 : decode (zm_cc 260) 109 = .ok (.iload_n 3, 1) := by decide +kernel
theorem zd_260_110 : decode (zm_cc 260) 110 = .ok (.bipush 24, 2) := by decide +kernel
theorem zd_260_112 : decode (zm_cc 260) 112 = .ok (.idiv, 1) := by decide +kernel
theorem zd_260_113 : decode (zm_cc 260) 113 = .ok (.iconst 1, 1) := by decide +kernel
theorem zd_260_114 : decode (zm_cc 260) 114 = .ok (.iadd, 1) := by decide +kernel
theorem zd_260_115 : decode (zm_cc 260) 115 = .ok (.imul, 1) := by decide +kernel
theorem zd_260_116 : decode (zm_cc 260) 116 = .ok (.istore 5, 2) := by decide +kernel
theorem zd_260_118 : decode (zm_cc 260) 118 = .ok (.iload 5, 2) := by decide +kernel
theorem zd_260_120 : decode (zm_cc 260) 120 = .ok (.iload_n 1, 1) := by decide +kernel
theorem zd_260_121 : decode (zm_cc 260) 121 = .ok (.if_icmp .ge 159, 3) := by decide +kernel
theorem zd_260_124 : decode (zm_cc 260) 124 = .ok (.aload_n 0, 1) := by decide +kernel
theorem zd_260_125 : decode (zm_cc 260) 125 = .ok (.iload 5, 2) := by decide +kernel
theorem zd_260_127 : decode (zm_cc 260) 127 = .ok (.invokevirtual 467, 3) := by decide +kernel
theorem zd_260_130 : decode (zm_cc 260) 130 = .ok (.ifCond .eq 144, 3) := by decide +kernel
theorem zd_260_133 : decode (zm_cc 260) 133 = .ok (.aload_n 0, 1) := by decide +kernel
theorem zd_260_134 : decode (zm_cc 260) 134 = .ok (.iload 4, 2) := by decide +kernel
theorem zd_260_136 : decode (zm_cc 260) 136 = .ok (.iload 5, 2) := by decide +kernel
theorem zd_260_138 : decode (zm_cc 260) 138 = .ok (.invokevirtual 470, 3) := by decide +kernel
theorem zd_260_141 : decode (zm_cc 260) 141 = .ok (.ifCond .eq 133, 3) := by decide +kernel
theorem zd_260_144 : decode (zm_cc 260) 144 = .ok (.aload_n 0, 1) := by decide +kernel
theorem zd_260_145 : decode (zm_cc 260) 145 = .ok (.iload_n 3, 1) := by decide +kernel
theorem zd_260_146 : decode (zm_cc 260) 146 = .ok (.iload 5, 2) := by decide +kernel
theorem zd_260_148 : decode (zm_cc 260) 148 = .ok (.invokevirtual 473, 3) := by decide +kernel
theorem zd_260_151 : decode (zm_cc 260) 151 = .ok (.ifCond .eq 123, 3) := by decide +kernel
theorem zd_260_154 : decode (zm_cc 260) 154 = .ok (.aload_n 0, 1) := by decide +kernel
theorem zd_260_155 : decode (zm_cc 260) 155 = .ok (.iload 4, 2) := by decide +kernel
theorem zd_260_157 : decode (zm_cc 260) 157 = .ok (.iload 5, 2) := by decide +kernel
theorem zd_260_159 : decode (zm_cc 260) 159 = .ok (.invokevirtual 473, 3) := by decide +kernel
theorem zd_260_162 : decode (zm_cc 260) 162 = .ok (.ifCond .ne 6, 3) := by decide +kernel
theorem zd_260_165 : decode (zm_cc 260) 165 = .ok (.goto 109, 3) := by decide +kernel
theorem zd_260_168 : decode (zm_cc 260) 168 = .ok (.iload_n 2, 1) := by decide +kernel
theorem zd_260_169 : decode (zm_cc 260) 169 = .ok (.aload_n 0, 1) := by decide +kernel
theorem zd_260_170 : decode (zm_cc 260) 170 = .ok (.iload 5, 2) := by decide +kernel
theorem zd_260_172 : decode (zm_cc 260) 172 = .ok (.iload_n 3, 1) := by decide +kernel
theorem zd_260_173 : decode (zm_cc 260) 173 = .ok (.invokevirtual 470, 3) := by decide +kernel
theorem zd_260_176 : decode (zm_cc 260) 176 = .ok (.ifCond .eq 7, 3) := by decide +kernel
theorem zd_260_179 : decode (zm_cc 260) 179 = .ok (.iconst 1, 1) := by decide +kernel
theorem zd_260_180 : decode (zm_cc 260) 180 = .ok (.goto 4, 3) := by decide +kernel
theorem zd_260_183 : decode (zm_cc 260) 183 = .ok (.iconst 0, 1) := by decide +kernel
theorem zd_260_184 : decode (zm_cc 260) 184 = .ok (.iadd, 1) := by decide +kernel
theorem zd_260_185 : decode (zm_cc 260) 185 = .ok (.istore_n 2, 1) := by decide +kernel
theorem zd_260_186 : decode (zm_cc 260) 186 = .ok (.bipush 24, 2) := by decide +kernel
theorem zd_260_188 : decode (zm_cc 260) 188 = .ok (.iload_n 3, 1) := by decide +kernel
theorem zd_260_189 : decode (zm_cc 260) 189 = .ok (.bipush 24, 2) := by decide +kernel
theorem zd_260_191 : decode (zm_cc 260) 191 = .ok (.idiv, 1) := by decide +kernel
theorem zd_260_192 : decode (zm_cc 260) 192 = .ok (.iconst 1, 1) := by decide +kernel
theorem zd_260_193 : decode (zm_cc 260) 193 = .ok (.iadd, 1) := by decide +kernel
theorem zd_260_194 : decode (zm_cc 260) 194 = .ok (.imul, 1) := by decide +kernel
theorem zd_260_195 : decode (zm_cc 260) 195 = .ok (.istore 6, 2) := by decide +kernel
theorem zd_260_197 : decode (zm_cc 260) 197 = .ok (.iload 6, 2) := by decide +kernel
theorem zd_260_199 : decode (zm_cc 260) 199 = .ok (.iload_n 1, 1) := by decide +kernel
theorem zd_260_200 : decode (zm_cc 260) 200 = .ok (.if_icmp .ge 74, 3) := by decide +kernel
theorem zd_260_203 : decode (zm_cc 260) 203 = .ok (.aload_n 0, 1) := by decide +kernel
theorem zd_260_204 : decode (zm_cc 260) 204 = .ok (.iload 6, 2) := by decide +kernel
theorem zd_260_206 : decode (zm_cc 260) 206 = .ok (.invokevirtual 467, 3) := by decide +kernel
theorem zd_260_209 : decode (zm_cc 260) 209 = .ok (.ifCond .eq 59, 3) := by decide +kernel
theorem zd_260_212 : decode (zm_cc 260) 212 = .ok (.aload_n 0, 1) := by decide +kernel
theorem zd_260_213 : decode (zm_cc 260) 213 = .ok (.iload 5, 2) := by decide +kernel
theorem zd_260_215 : decode (zm_cc 260) 215 = .ok (.iload 6, 2) := by decide +kernel
theorem zd_260_217 : decode (zm_cc 260) 217 = .ok (.invokevirtual 470, 3) := by decide +kernel
theorem zd_260_220 : decode (zm_cc 260) 220 = .ok (.ifCond .eq 48, 3) := by decide +kernel
theorem zd_260_223 : decode (zm_cc 260) 223 = .ok (.aload_n 0, 1) := by decide +kernel
theorem zd_260_224 : decode (zm_cc 260) 224 = .ok (.iload 6, 2) := by decide +kernel
theorem zd_260_226 : decode (zm_cc 260) 226 = .ok (.iload_n 3, 1) := by decide +kernel
theorem zd_260_227 : decode (zm_cc 260) 227 = .ok (.invokevirtual 470, 3) := by decide +kernel
theorem zd_260_230 : decode (zm_cc 260) 230 = .ok (.ifCond .eq 38, 3) := by decide +kernel
theorem zd_260_233 : decode (zm_cc 260) 233 = .ok (.aload_n 0, 1) := by decide +kernel
theorem zd_260_234 : decode (zm_cc 260) 234 = .ok (.iload_n 3, 1) := by decide +kernel
theorem zd_260_235 : decode (zm_cc 260) 235 = .ok (.iload 6, 2) := by decide +kernel
theorem zd_260_237 : decode (zm_cc 260) 237 = .ok (.invokevirtual 473, 3) := by decide +kernel
theorem zd_260_240 : decode (zm_cc 260) 240 = .ok (.ifCond .eq 28, 3) := by decide +kernel
theorem zd_260_243 : decode (zm_cc 260) 243 = .ok (.aload_n 0, 1) := by decide +kernel
theorem zd_260_244 : decode (zm_cc 260) 244 = .ok (.iload 4, 2) := by decide +kernel
theorem zd_260_246 : decode (zm_cc 260) 246 = .ok (.iload 6, 2) := by decide +kernel
theorem zd_260_248 : decode (zm_cc 260) 248 = .ok (.invokevirtual 473, 3) := by decide +kernel
theorem zd_260_251 : decode (zm_cc 260) 251 = .ok (.ifCond .eq 17, 3) := by decide +kernel
theorem zd_260_254 : decode (zm_cc 260) 254 = .ok (.aload_n 0, 1) := by decide +kernel
theorem zd_260_255 : decode (zm_cc 260) 255 = .ok (.iload 5, 2) := by decide +kernel
theorem zd_260_257 : decode (zm_cc 260) 257 = .ok (.iload 6, 2) := by decide +kernel
theorem zd_260_259 : decode (zm_cc 260) 259 = .ok (.invokevirtual 473, 3) := by decide +kernel
theorem zd_260_262 : decode (zm_cc 260) 262 = .ok (.ifCond .eq 6, 3) := by decide +kernel
theorem zd_260_265 : decode (zm_cc 260) 265 = .ok (.iinc 2 1, 3) := by decide +kernel
theorem zd_260_268 : decode (zm_cc 260) 268 = .ok (.iinc 6 1, 3) := by decide +kernel
theorem zd_260_271 : decode (zm_cc 260) 271 = .ok (.goto (-74), 3) := by decide +kernel
theorem zd_260_274 : decode (zm_cc 260) 274 = .ok (.iinc 5 1, 3) := by decide +kernel
theorem zd_260_277 : decode (zm_cc 260) 277 = .ok (.goto (-159), 3) := by decide +kernel
theorem zd_260_280 : decode (zm_cc 260) 280 = .ok (.iinc 4 1, 3) := by decide +kernel
theorem zd_260_283 : decode (zm_cc 260) 283 = .ok (.goto (-240), 3) := by decide +kernel
theorem zd_260_286 : decode (zm_cc 260) 286 = .ok (.iinc 3 1, 3) := by decide +kernel
theorem zd_260_289 : decode (zm_cc 260) 289 = .ok (.goto (-262), 3) := by decide +kernel
theorem zd_260_292 : decode (zm_cc 260) 292 = .ok (.iload_n 2, 1) := by decide +kernel
theorem zd_260_293 : decode (zm_cc 260) 293 = .ok (.ireturn, 1) := by decide +kernel
theorem zd_261_0 : decode (zm_cc 261) 0 = .ok (.iload_n 1, 1) := by decide +kernel
theorem zd_261_1 : decode (zm_cc 261) 1 = .ok (.bipush 24, 2) := by decide +kernel
theorem zd_261_3 : decode (zm_cc 261) 3 = .ok (.irem, 1) := by decide +kernel
theorem zd_261_4 : decode (zm_cc 261) 4 = .ok (.aload_n 0, 1) := by decide +kernel
theorem zd_261_5 : decode (zm_cc 261) 5 = .ok (.getfield 37, 3) := by decide +kernel
theorem zd_261_8 : decode (zm_cc 261) 8 = .ok (.iload_n 1, 1) := by decide +kernel
theorem zd_261_9 : decode (zm_cc 261) 9 = .ok (.bipush 24, 2) := by decide +kernel
theorem zd_261_11 : decode (zm_cc 261) 11 = .ok (.idiv, 1) := by decide +kernel
theorem zd_261_12 : decode (zm_cc 261) 12 = .ok (.iaload, 1) := by decide +kernel
theorem zd_261_13 : decode (zm_cc 261) 13 = .ok (.if_icmp .ge 17, 3) := by decide +kernel
theorem zd_261_16 : decode (zm_cc 261) 16 = .ok (.aload_n 0, 1) := by decide +kernel
theorem zd_261_17 : decode (zm_cc 261) 17 = .ok (.getfield 43, 3) := by decide +kernel
theorem zd_261_20 : decode (zm_cc 261) 20 = .ok (.iload_n 1, 1) := by decide +kernel
theorem zd_261_21 : decode (zm_cc 261) 21 = .ok (.iaload, 1) := by decide +kernel
theorem zd_261_22 : decode (zm_cc 261) 22 = .ok (.iconst 3, 1) := by decide +kernel
theorem zd_261_23 : decode (zm_cc 261) 23 = .ok (.if_icmp .ne 7, 3) := by decide +kernel
theorem zd_261_26 : decode (zm_cc 261) 26 = .ok (.iconst 1, 1) := by decide +kernel
theorem zd_261_27 : decode (zm_cc 261) 27 = .ok (.goto 4, 3) := by decide +kernel
theorem zd_261_30 : decode (zm_cc 261) 30 = .ok (.iconst 0, 1) := by decide +kernel
theorem zd_261_31 : decode (zm_cc 261) 31 = .ok (.ireturn, 1) := by decide +kernel
theorem zd_262_0 : decode (zm_cc 262) 0 = .ok (.aload_n 0, 1) := by decide +kernel
theorem zd_262_1 : decode (zm_cc 262) 1 = .ok (.getfield 55, 3) := by decide +kernel
theorem zd_262_4 : decode (zm_cc 262) 4 = .ok (.iload_n 2, 1) := by decide +kernel
theorem zd_262_5 : decode (zm_cc 262) 5 = .ok (.iaload, 1) := by decide +kernel
theorem zd_262_6 : decode (zm_cc 262) 6 = .ok (.aload_n 0, 1) := by decide +kernel
theorem zd_262_7 : decode (zm_cc 262) 7 = .ok (.getfield 46, 3) := by decide +kernel
theorem zd_262_10 : decode (zm_cc 262) 10 = .ok (.iload_n 1, 1) := by decide +kernel
theorem zd_262_11 : decode (zm_cc 262) 11 = .ok (.iaload, 1) := by decide +kernel
theorem zd_262_12 : decode (zm_cc 262) 12 = .ok (.ishr, 1) := by decide +kernel
theorem zd_262_13 : decode (zm_cc 262) 13 = .ok (.iconst 1, 1) := by decide +kernel
theorem zd_262_14 : decode (zm_cc 262) 14 = .ok (.iand, 1) := by decide +kernel
theorem zd_262_15 : decode (zm_cc 262) 15 = .ok (.iconst 1, 1) := by decide +kernel
theorem zd_262_16 : decode (zm_cc 262) 16 = .ok (.if_icmp .ne 7, 3) := by decide +kernel
theorem zd_262_19 : decode (zm_cc 262) 19 = .ok (.iconst 1, 1) := by decide +kernel
theorem zd_262_20 : decode (zm_cc 262) 20 = .ok (.goto 4, 3) := by decide +kernel
theorem zd_262_23 : decode (zm_cc 262) 23 = .ok (.iconst 0, 1) := by decide +kernel
theorem zd_262_24 : decode (zm_cc 262) 24 = .ok (.ireturn, 1) := by decide +kernel
theorem zd_263_0 : decode (zm_cc 263) 0 = .ok (.iload_n 1, 1) := by decide +kernel
theorem zd_263_1 : decode (zm_cc 263) 1 = .ok (.bipush 24, 2) := by decide +kernel
theorem zd_263_3 : decode (zm_cc 263) 3 = .ok (.idiv, 1) := by decide +kernel
theorem zd_263_4 : decode (zm_cc 263) 4 = .ok (.iload_n 2, 1) := by decide +kernel
theorem zd_263_5 : decode (zm_cc 263) 5 = .ok (.bipush 24, 2) := by decide +kernel
theorem zd_263_7 : decode (zm_cc 263) 7 = .ok (.idiv, 1) := by decide +kernel
theorem zd_263_8 : decode (zm_cc 263) 8 = .ok (.if_icmp .eq 61, 3) := by decide +kernel
theorem zd_263_11 : decode (zm_cc 263) 11 = .ok (.aload_n 0, 1) := by decide +kernel
theorem zd_263_12 : decode (zm_cc 263) 12 = .ok (.getfield 46, 3) := by decide +kernel
theorem zd_263_15 : decode (zm_cc 263) 15 = .ok (.iload_n 1, 1) := by decide +kernel
theorem zd_263_16 : decode (zm_cc 263) 16 = .ok (.iaload, 1) := by decide +kernel
theorem zd_263_17 : decode (zm_cc 263) 17 = .ok (.aload_n 0, 1) := by decide +kernel
theorem zd_263_18 : decode (zm_cc 263) 18 = .ok (.getfield 46, 3) := by decide +kernel
theorem zd_263_21 : decode (zm_cc 263) 21 = .ok (.iload_n 2, 1) := by decide +kernel
theorem zd_263_22 : decode (zm_cc 263) 22 = .ok (.iaload, 1) := by decide +kernel
theorem zd_263_23 : decode (zm_cc 263) 23 = .ok (.if_icmp .eq 46, 3) := by decide +kernel
theorem zd_263_26 : decode (zm_cc 263) 26 = .ok (.aload_n 0, 1) := by decide +kernel
theorem zd_263_27 : decode (zm_cc 263) 27 = .ok (.getfield 55, 3) := by decide +kernel
theorem zd_263_30 : decode (zm_cc 263) 30 = .ok (.iload_n 1, 1) := by decide +kernel
theorem zd_263_31 : decode (zm_cc 263) 31 = .ok (.iaload, 1) := by decide +kernel
theorem zd_263_32 : decode (zm_cc 263) 32 = .ok (.aload_n 0, 1) := by decide +kernel
theorem zd_263_33 : decode (zm_cc 263) 33 = .ok (.getfield 55, 3) := by decide +kernel
theorem zd_263_36 : decode (zm_cc 263) 36 = .ok (.iload_n 2, 1) := by decide +kernel
theorem zd_263_37 : decode (zm_cc 263) 37 = .ok (.iaload, 1) := by decide +kernel
theorem zd_263_38 : decode (zm_cc 263) 38 = .ok (.iand, 1) := by decide +kernel
theorem zd_263_39 : decode (zm_cc 263) 39 = .ok (.ifCond .ne 30, 3) := by decide +kernel
theorem zd_263_42 : decode (zm_cc 263) 42 = .ok (.aload_n 0, 1) := by decide +kernel
theorem zd_263_43 : decode (zm_cc 263) 43 = .ok (.iload_n 1, 1) := by decide +kernel
theorem zd_263_44 : decode (zm_cc 263) 44 = .ok (.bipush 24, 2) := by decide +kernel
theorem zd_263_46 : decode (zm_cc 263) 46 = .ok (.idiv, 1) := by decide +kernel
theorem zd_263_47 : decode (zm_cc 263) 47 = .ok (.iload_n 1, 1) := by decide +kernel
theorem zd_263_48 : decode (zm_cc 263) 48 = .ok (.bipush 24, 2) := by decide +kernel
theorem zd_263_50 : decode (zm_cc 263) 50 = .ok (.irem, 1) := by decide +kernel
theorem zd_263_51 : decode (zm_cc 263) 51 = .ok (.iload_n 2, 1) := by decide +kernel
theorem zd_263_52 : decode (zm_cc 263) 52 = .ok (.bipush 24, 2) := by decide +kernel
theorem zd_263_54 : decode (zm_cc 263) 54 = .ok (.idiv, 1) := by decide +kernel
theorem zd_263_55 : decode (zm_cc 263) 55 = .ok (.iload_n 2, 1) := by decide +kernel
theorem zd_263_56 : decode (zm_cc 263) 56 = .ok (.bipush 24, 2) := by decide +kernel
theorem zd_263_58 : decode (zm_cc 263) 58 = .ok (.irem, 1) := by decide +kernel
theorem zd_263_59 : decode (zm_cc 263) 59 = .ok (.invokevirtual 456, 3) := by decide +kernel
theorem zd_263_62 : decode (zm_cc 263) 62 = .ok (.ifCond .eq 7, 3) := by decide +kernel
theorem zd_263_65 : decode (zm_cc 263) 65 = .ok (.iconst 1, 1) := by decide +kernel
theorem zd_263_66 : decode (zm_cc 263) 66 = .ok (.goto 4, 3) := by decide +kernel
theorem zd_263_69 : decode (zm_cc 263) 69 = .ok (.iconst 0, 1) := by decide +kernel
theorem zd_263_70 : decode (zm_cc 263) 70 = .ok (.ireturn, 1) := by decide +kernel
