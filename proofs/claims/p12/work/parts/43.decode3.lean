/-! decode rows -/
theorem zd_201_73 : decode (zm_cc 201) 73 = .ok (.arraylength, 1) := by decide +kernel
theorem zd_201_74 : decode (zm_cc 201) 74 = .ok (.if_icmp .ge 16, 3) := by decide +kernel
theorem zd_201_77 : decode (zm_cc 201) 77 = .ok (.aload_n 2, 1) := by decide +kernel
theorem zd_201_78 : decode (zm_cc 201) 78 = .ok (.iload 4, 2) := by decide +kernel
theorem zd_201_80 : decode (zm_cc 201) 80 = .ok (.aload_n 0, 1) := by decide +kernel
theorem zd_201_81 : decode (zm_cc 201) 81 = .ok (.getfield 15, 3) := by decide +kernel
theorem zd_201_84 : decode (zm_cc 201) 84 = .ok (.iload 5, 2) := by decide +kernel
theorem zd_201_86 : decode (zm_cc 201) 86 = .ok (.iaload, 1) := by decide +kernel
theorem zd_201_87 : decode (zm_cc 201) 87 = .ok (.iconst 4, 1) := by decide +kernel
theorem zd_201_88 : decode (zm_cc 201) 88 = .ok (.irem, 1) := by decide +kernel
theorem zd_201_89 : decode (zm_cc 201) 89 = .ok (.iastore, 1) := by decide +kernel
theorem zd_201_90 : decode (zm_cc 201) 90 = .ok (.iinc 4 (-1), 3) := by decide +kernel
theorem zd_201_93 : decode (zm_cc 201) 93 = .ok (.aload_n 0, 1) := by decide +kernel
theorem zd_201_94 : decode (zm_cc 201) 94 = .ok (.getfield 15, 3) := by decide +kernel
theorem zd_201_97 : decode (zm_cc 201) 97 = .ok (.iload 5, 2) := by decide +kernel
theorem zd_201_99 : decode (zm_cc 201) 99 = .ok (.iaload, 1) := by decide +kernel
theorem zd_201_100 : decode (zm_cc 201) 100 = .ok (.iconst 4, 1) := by decide +kernel
theorem zd_201_101 : decode (zm_cc 201) 101 = .ok (.idiv, 1) := by decide +kernel
theorem zd_201_102 : decode (zm_cc 201) 102 = .ok (.istore 5, 2) := by decide +kernel
theorem zd_201_104 : decode (zm_cc 201) 104 = .ok (.goto (-53), 3) := by decide +kernel
theorem zd_201_107 : decode (zm_cc 201) 107 = .ok (.iload_n 3, 1) := by decide +kernel
theorem zd_201_108 : decode (zm_cc 201) 108 = .ok (.ireturn, 1) := by decide +kernel
theorem zd_202_0 : decode (zm_cc 202) 0 = .ok (.aload_n 0, 1) := by decide +kernel
theorem zd_202_1 : decode (zm_cc 202) 1 = .ok (.iconst 0, 1) := by decide +kernel
theorem zd_202_2 : decode (zm_cc 202) 2 = .ok (.putfield 1, 3) := by decide +kernel
theorem zd_202_5 : decode (zm_cc 202) 5 = .ok (.aload_n 0, 1) := by decide +kernel
theorem zd_202_6 : decode (zm_cc 202) 6 = .ok (.getfield 322, 3) := by decide +kernel
theorem zd_202_9 : decode (zm_cc 202) 9 = .ok (.ifCond .ne 6, 3) := by decide +kernel
theorem zd_202_12 : decode (zm_cc 202) 12 = .ok (.bipush (-101), 2) := by decide +kernel
theorem zd_202_14 : decode (zm_cc 202) 14 = .ok (.ireturn, 1) := by decide +kernel
theorem zd_202_15 : decode (zm_cc 202) 15 = .ok (.aload_n 0, 1) := by decide +kernel
theorem zd_202_16 : decode (zm_cc 202) 16 = .ok (.iload_n 1, 1) := by decide +kernel
theorem zd_202_17 : decode (zm_cc 202) 17 = .ok (.iload_n 2, 1) := by decide +kernel
theorem zd_202_18 : decode (zm_cc 202) 18 = .ok (.invokevirtual 434, 3) := by decide +kernel
theorem zd_202_21 : decode (zm_cc 202) 21 = .ok (.istore_n 3, 1) := by decide +kernel
theorem zd_202_22 : decode (zm_cc 202) 22 = .ok (.iload_n 3, 1) := by decide +kernel
theorem zd_202_23 : decode (zm_cc 202) 23 = .ok (.iconst (-1), 1) := by decide +kernel
theorem zd_202_24 : decode (zm_cc 202) 24 = .ok (.if_icmp .ne 6, 3) := by decide +kernel
theorem zd_202_27 : decode (zm_cc 202) 27 = .ok (.bipush (-102), 2) := by decide +kernel
theorem zd_202_29 : decode (zm_cc 202) 29 = .ok (.ireturn, 1) := by decide +kernel
theorem zd_202_30 : decode (zm_cc 202) 30 = .ok (.aload_n 0, 1) := by decide +kernel
theorem zd_202_31 : decode (zm_cc 202) 31 = .ok (.iconst 0, 1) := by decide +kernel
theorem zd_202_32 : decode (zm_cc 202) 32 = .ok (.putfield 119, 3) := by decide +kernel
theorem zd_202_35 : decode (zm_cc 202) 35 = .ok (.iload_n 3, 1) := by decide +kernel
theorem zd_202_36 : decode (zm_cc 202) 36 = .ok (.istore 4, 2) := by decide +kernel
theorem zd_202_38 : decode (zm_cc 202) 38 = .ok (.iload 4, 2) := by decide +kernel
theorem zd_202_40 : decode (zm_cc 202) 40 = .ok (.ifCond .le 25, 3) := by decide +kernel
theorem zd_202_43 : decode (zm_cc 202) 43 = .ok (.aload_n 0, 1) := by decide +kernel
theorem zd_202_44 : decode (zm_cc 202) 44 = .ok (.dup, 1) := by decide +kernel
theorem zd_202_45 : decode (zm_cc 202) 45 = .ok (.getfield 119, 3) := by decide +kernel
theorem zd_202_48 : decode (zm_cc 202) 48 = .ok (.iconst 1, 1) := by decide +kernel
theorem zd_202_49 : decode (zm_cc 202) 49 = .ok (.iadd, 1) := by decide +kernel
theorem zd_202_50 : decode (zm_cc 202) 50 = .ok (.putfield 119, 3) := by decide +kernel
theorem zd_202_53 : decode (zm_cc 202) 53 = .ok (.aload_n 0, 1) := by decide +kernel
theorem zd_202_54 : decode (zm_cc 202) 54 = .ok (.getfield 101, 3) := by decide +kernel
theorem zd_202_57 : decode (zm_cc 202) 57 = .ok (.iload 4, 2) := by decide +kernel
theorem zd_202_59 : decode (zm_cc 202) 59 = .ok (.iaload, 1) := by decide +kernel
theorem zd_202_60 : decode (zm_cc 202) 60 = .ok (.istore 4, 2) := by decide +kernel
theorem zd_202_62 : decode (zm_cc 202) 62 = .ok (.goto (-24), 3) := by decide +kernel
theorem zd_202_65 : decode (zm_cc 202) 65 = .ok (.aload_n 0, 1) := by decide +kernel
theorem zd_202_66 : decode (zm_cc 202) 66 = .ok (.getfield 119, 3) := by decide +kernel
theorem zd_202_69 : decode (zm_cc 202) 69 = .ok (.istore 4, 2) := by decide +kernel
theorem zd_202_71 : decode (zm_cc 202) 71 = .ok (.iload_n 3, 1) := by decide +kernel
theorem zd_202_72 : decode (zm_cc 202) 72 = .ok (.istore 5, 2) := by decide +kernel
theorem zd_202_74 : decode (zm_cc 202) 74 = .ok (.iload 5, 2) := by decide +kernel
theorem zd_202_76 : decode (zm_cc 202) 76 = .ok (.ifCond .le 32, 3) := by decide +kernel
theorem zd_202_79 : decode (zm_cc 202) 79 = .ok (.iinc 4 (-1), 3) := by decide +kernel
theorem zd_202_82 : decode (zm_cc 202) 82 = .ok (.aload_n 0, 1) := by decide +kernel
theorem zd_202_83 : decode (zm_cc 202) 83 = .ok (.getfield 116, 3) := by decide +kernel
theorem zd_202_86 : decode (zm_cc 202) 86 = .ok (.iload 4, 2) := by decide +kernel
theorem zd_202_88 : decode (zm_cc 202) 88 = .ok (.aload_n 0, 1) := by decide +kernel
theorem zd_202_89 : decode (zm_cc 202) 89 = .ok (.getfield 104, 3) := by decide +kernel
theorem zd_202_92 : decode (zm_cc 202) 92 = .ok (.iload 5, 2) := by decide +kernel
theorem zd_202_94 : decode (zm_cc 202) 94 = .ok (.iaload, 1) := by decide +kernel
theorem zd_202_95 : decode (zm_cc 202) 95 = .ok (.iastore, 1) := by decide +kernel
theorem zd_202_96 : decode (zm_cc 202) 96 = .ok (.aload_n 0, 1) := by decide +kernel
theorem zd_202_97 : decode (zm_cc 202) 97 = .ok (.getfield 101, 3) := by decide +kernel
theorem zd_202_100 : decode (zm_cc 202) 100 = .ok (.iload 5, 2) := by decide +kernel
theorem zd_202_102 : decode (zm_cc 202) 102 = .ok (.iaload, 1) := by decide +kernel
theorem zd_202_103 : decode (zm_cc 202) 103 = .ok (.istore 5, 2) := by decide +kernel
theorem zd_202_105 : decode (zm_cc 202) 105 = .ok (.goto (-31), 3) := by decide +kernel
theorem zd_202_108 : decode (zm_cc 202) 108 = .ok (.iload_n 3, 1) := by decide +kernel
theorem zd_202_109 : decode (zm_cc 202) 109 = .ok (.ireturn, 1) := by decide +kernel
theorem zd_203_0 : decode (zm_cc 203) 0 = .ok (.iload_n 1, 1) := by decide +kernel
theorem zd_203_1 : decode (zm_cc 203) 1 = .ok (.ifCond .ne 27, 3) := by decide +kernel
theorem zd_203_4 : decode (zm_cc 203) 4 = .ok (.aload_n 0, 1) := by decide +kernel
theorem zd_203_5 : decode (zm_cc 203) 5 = .ok (.iload_n 2, 1) := by decide +kernel
theorem zd_203_6 : decode (zm_cc 203) 6 = .ok (.invokevirtual 431, 3) := by decide +kernel
theorem zd_203_9 : decode (zm_cc 203) 9 = .ok (.istore_n 3, 1) := by decide +kernel
theorem zd_203_10 : decode (zm_cc 203) 10 = .ok (.iload_n 3, 1) := by decide +kernel
theorem zd_203_11 : decode (zm_cc 203) 11 = .ok (.iconst (-1), 1) := by decide +kernel
theorem zd_203_12 : decode (zm_cc 203) 12 = .ok (.if_icmp .ne 7, 3) := by decide +kernel
theorem zd_203_15 : decode (zm_cc 203) 15 = .ok (.iconst (-1), 1) := by decide +kernel
theorem zd_203_16 : decode (zm_cc 203) 16 = .ok (.goto 11, 3) := by decide +kernel
theorem zd_203_19 : decode (zm_cc 203) 19 = .ok (.aload_n 0, 1) := by decide +kernel
theorem zd_203_20 : decode (zm_cc 203) 20 = .ok (.getfield 110, 3) := by decide +kernel
theorem zd_203_23 : decode (zm_cc 203) 23 = .ok (.iload_n 3, 1) := by decide +kernel
theorem zd_203_24 : decode (zm_cc 203) 24 = .ok (.iaload, 1) := by decide +kernel
theorem zd_203_25 : decode (zm_cc 203) 25 = .ok (.iconst 1, 1) := by decide +kernel
theorem zd_203_26 : decode (zm_cc 203) 26 = .ok (.isub, 1) := by decide +kernel
theorem zd_203_27 : decode (zm_cc 203) 27 = .ok (.ireturn, 1) := by decide +kernel
theorem zd_203_28 : decode (zm_cc 203) 28 = .ok (.iload_n 1, 1) := by decide +kernel
theorem zd_203_29 : decode (zm_cc 203) 29 = .ok (.iconst 3, 1) := by decide +kernel
theorem zd_203_30 : decode (zm_cc 203) 30 = .ok (.if_icmp .ne 28, 3) := by decide +kernel
theorem zd_203_33 : decode (zm_cc 203) 33 = .ok (.iload_n 2, 1) := by decide +kernel
theorem zd_203_34 : decode (zm_cc 203) 34 = .ok (.iconst 0, 1) := by decide +kernel
theorem zd_203_35 : decode (zm_cc 203) 35 = .ok (.aload_n 0, 1) := by decide +kernel
theorem zd_203_36 : decode (zm_cc 203) 36 = .ok (.getfield 392, 3) := by decide +kernel
theorem zd_203_39 : decode (zm_cc 203) 39 = .ok (.iconst 1, 1) := by decide +kernel
theorem zd_203_40 : decode (zm_cc 203) 40 = .ok (.isub, 1) := by decide +kernel
theorem zd_203_41 : decode (zm_cc 203) 41 = .ok (.invokestatic 128, 3) := by decide +kernel
theorem zd_203_44 : decode (zm_cc 203) 44 = .ok (.ifCond .eq 12, 3) := by decide +kernel
theorem zd_203_47 : decode (zm_cc 203) 47 = .ok (.aload_n 0, 1) := by decide +kernel
theorem zd_203_48 : decode (zm_cc 203) 48 = .ok (.getfield 113, 3) := by decide +kernel
theorem zd_203_51 : decode (zm_cc 203) 51 = .ok (.iload_n 2, 1) := by decide +kernel
theorem zd_203_52 : decode (zm_cc 203) 52 = .ok (.iaload, 1) := by decide +kernel
theorem zd_203_53 : decode (zm_cc 203) 53 = .ok (.goto 4, 3) := by decide +kernel
theorem zd_203_56 : decode (zm_cc 203) 56 = .ok (.iconst (-1), 1) := by decide +kernel
theorem zd_203_57 : decode (zm_cc 203) 57 = .ok (.ireturn, 1) := by decide +kernel
theorem zd_203_58 : decode (zm_cc 203) 58 = .ok (.iload_n 1, 1) := by decide +kernel
theorem zd_203_59 : decode (zm_cc 203) 59 = .ok (.iconst 1, 1) := by decide +kernel
theorem zd_203_60 : decode (zm_cc 203) 60 = .ok (.if_icmp .eq 15, 3) := by decide +kernel
theorem zd_203_63 : decode (zm_cc 203) 63 = .ok (.iload_n 1, 1) := by decide +kernel
theorem zd_203_64 : decode (zm_cc 203) 64 = .ok (.iconst 2, 1) := by decide +kernel
theorem zd_203_65 : decode (zm_cc 203) 65 = .ok (.if_icmp .eq 10, 3) := by decide +kernel
theorem zd_203_68 : decode (zm_cc 203) 68 = .ok (.iload_n 1, 1) := by decide +kernel
theorem zd_203_69 : decode (zm_cc 203) 69 = .ok (.iconst 4, 1) := by decide +kernel
theorem zd_203_70 : decode (zm_cc 203) 70 = .ok (.if_icmp .eq 5, 3) := by decide +kernel
theorem zd_203_73 : decode (zm_cc 203) 73 = .ok (.iconst (-1), 1) := by decide +kernel
theorem zd_203_74 : decode (zm_cc 203) 74 = .ok (.ireturn, 1) := by decide +kernel
theorem zd_203_75 : decode (zm_cc 203) 75 = .ok (.iload_n 2, 1) := by decide +kernel
theorem zd_203_76 : decode (zm_cc 203) 76 = .ok (.istore_n 3, 1) := by decide +kernel
theorem zd_203_77 : decode (zm_cc 203) 77 = .ok (.iconst 0, 1) := by decide +kernel
theorem zd_203_78 : decode (zm_cc 203) 78 = .ok (.istore 4, 2) := by decide +kernel
theorem zd_203_80 : decode (zm_cc 203) 80 = .ok (.iload 4, 2) := by decide +kernel
theorem zd_203_82 : decode (zm_cc 203) 82 = .ok (.aload_n 0, 1) := by decide +kernel
theorem zd_203_83 : decode (zm_cc 203) 83 = .ok (.getfield 419, 3) := by decide +kernel
theorem zd_203_86 : decode (zm_cc 203) 86 = .ok (.if_icmp .ge 33, 3) := by decide +kernel
theorem zd_203_89 : decode (zm_cc 203) 89 = .ok (.iload_n 2, 1) := by decide +kernel
theorem zd_203_90 : decode (zm_cc 203) 90 = .ok (.ifCond .lt 29, 3) := by decide +kernel
theorem zd_203_93 : decode (zm_cc 203) 93 = .ok (.aload_n 0, 1) := by decide +kernel
theorem zd_203_94 : decode (zm_cc 203) 94 = .ok (.iload 4, 2) := by decide +kernel
theorem zd_203_96 : decode (zm_cc 203) 96 = .ok (.iload_n 1, 1) := by decide +kernel
theorem zd_203_97 : decode (zm_cc 203) 97 = .ok (.invokevirtual 422, 3) := by decide +kernel
theorem zd_203_100 : decode (zm_cc 203) 100 = .ok (.ifCond .eq 13, 3) := by decide +kernel
theorem zd_203_103 : decode (zm_cc 203) 103 = .ok (.iload_n 3, 1) := by decide +kernel
theorem zd_203_104 : decode (zm_cc 203) 104 = .ok (.ifCond .ne 6, 3) := by decide +kernel
theorem zd_203_107 : decode (zm_cc 203) 107 = .ok (.iload 4, 2) := by decide +kernel
theorem zd_203_109 : decode (zm_cc 203) 109 = .ok (.ireturn, 1) := by decide +kernel
theorem zd_203_110 : decode (zm_cc 203) 110 = .ok (.iinc 3 (-1), 3) := by decide +kernel
theorem zd_203_113 : decode (zm_cc 203) 113 = .ok (.iinc 4 1, 3) := by decide +kernel
theorem zd_203_116 : decode (zm_cc 203) 116 = .ok (.goto (-36), 3) := by decide +kernel
theorem zd_203_119 : decode (zm_cc 203) 119 = .ok (.iconst (-1), 1) := by decide +kernel
theorem zd_203_120 : decode (zm_cc 203) 120 = .ok (.ireturn, 1) := by decide +kernel
theorem zd_204_0 : decode (zm_cc 204) 0 = .ok (.iload_n 1, 1) := by decide +kernel
theorem zd_204_1 : decode (zm_cc 204) 1 = .ok (.istore_n 2, 1) := by decide +kernel
theorem zd_204_2 : decode (zm_cc 204) 2 = .ok (.iconst 0, 1) := by decide +kernel
theorem zd_204_3 : decode (zm_cc 204) 3 = .ok (.istore_n 3, 1) := by decide +kernel
theorem zd_204_4 : decode (zm_cc 204) 4 = .ok (.iload_n 3, 1) := by decide +kernel
theorem zd_204_5 : decode (zm_cc 204) 5 = .ok (.sipush 9216, 3) := by decide +kernel
theorem zd_204_8 : decode (zm_cc 204) 8 = .ok (.if_icmp .ge 31, 3) := by decide +kernel
theorem zd_204_11 : decode (zm_cc 204) 11 = .ok (.iload_n 1, 1) := by decide +kernel
theorem zd_204_12 : decode (zm_cc 204) 12 = .ok (.ifCond .lt 27, 3) := by decide +kernel
theorem zd_204_15 : decode (zm_cc 204) 15 = .ok (.aload_n 0, 1) := by decide +kernel
theorem zd_204_16 : decode (zm_cc 204) 16 = .ok (.getfield 110, 3) := by decide +kernel
theorem zd_204_19 : decode (zm_cc 204) 19 = .ok (.iload_n 3, 1) := by decide +kernel
theorem zd_204_20 : decode (zm_cc 204) 20 = .ok (.iaload, 1) := by decide +kernel
theorem zd_204_21 : decode (zm_cc 204) 21 = .ok (.ifCond .le 12, 3) := by decide +kernel
theorem zd_204_24 : decode (zm_cc 204) 24 = .ok (.iload_n 2, 1) := by decide +kernel
theorem zd_204_25 : decode (zm_cc 204) 25 = .ok (.ifCond .ne 5, 3) := by decide +kernel
theorem zd_204_28 : decode (zm_cc 204) 28 = .ok (.iload_n 3, 1) := by decide +kernel
theorem zd_204_29 : decode (zm_cc 204) 29 = .ok (.ireturn, 1) := by decide +kernel
theorem zd_204_30 : decode (zm_cc 204) 30 = .ok (.iinc 2 (-1), 3) := by decide +kernel
theorem zd_204_33 : decode (zm_cc 204) 33 = .ok (.iinc 3 1, 3) := by decide +kernel
theorem zd_204_36 : decode (zm_cc 204) 36 = .ok (.goto (-32), 3) := by decide +kernel
theorem zd_204_39 : decode (zm_cc 204) 39 = .ok (.iconst (-1), 1) := by decide +kernel
theorem zd_204_40 : decode (zm_cc 204) 40 = .ok (.ireturn, 1) := by decide +kernel
theorem zd_205_0 : decode (zm_cc 205) 0 = .ok (.aload_n 0, 1) := by decide +kernel
theorem zd_205_1 : decode (zm_cc 205) 1 = .ok (.getfield 80, 3) := by decide +kernel
theorem zd_205_4 : decode (zm_cc 205) 4 = .ok (.iconst (-1), 1) := by decide +kernel
theorem zd_205_5 : decode (zm_cc 205) 5 = .ok (.if_icmp .ne 8, 3) := by decide +kernel
theorem zd_205_8 : decode (zm_cc 205) 8 = .ok (.bipush (-101), 2) := by decide +kernel
theorem zd_205_10 : decode (zm_cc 205) 10 = .ok (.goto 7, 3) := by decide +kernel
theorem zd_205_13 : decode (zm_cc 205) 13 = .ok (.aload_n 0, 1) := by decide +kernel
theorem zd_205_14 : decode (zm_cc 205) 14 = .ok (.getfield 80, 3) := by decide +kernel
theorem zd_205_17 : decode (zm_cc 205) 17 = .ok (.ireturn, 1) := by decide +kernel
theorem zd_206_0 : decode (zm_cc 206) 0 = .ok (.aload_n 0, 1) := by decide +kernel
theorem zd_206_1 : decode (zm_cc 206) 1 = .ok (.iconst 0, 1) := by decide +kernel
theorem zd_206_2 : decode (zm_cc 206) 2 = .ok (.putfield 1, 3) := by decide +kernel
theorem zd_206_5 : decode (zm_cc 206) 5 = .ok (.aload_n 0, 1) := by decide +kernel
theorem zd_206_6 : decode (zm_cc 206) 6 = .ok (.getfield 322, 3) := by decide +kernel
theorem zd_206_9 : decode (zm_cc 206) 9 = .ok (.ifCond .eq 18, 3) := by decide +kernel
theorem zd_206_12 : decode (zm_cc 206) 12 = .ok (.aload_n 0, 1) := by decide +kernel
theorem zd_206_13 : decode (zm_cc 206) 13 = .ok (.getfield 119, 3) := by decide +kernel
theorem zd_206_16 : decode (zm_cc 206) 16 = .ok (.iconst (-1), 1) := by decide +kernel
theorem zd_206_17 : decode (zm_cc 206) 17 = .ok (.if_icmp .eq 10, 3) := by decide +kernel
theorem zd_206_20 : decode (zm_cc 206) 20 = .ok (.aload_n 0, 1) := by decide +kernel
theorem zd_206_21 : decode (zm_cc 206) 21 = .ok (.getfield 119, 3) := by decide +kernel
theorem zd_206_24 : decode (zm_cc 206) 24 = .ok (.goto 5, 3) := by decide +kernel
theorem zd_206_27 : decode (zm_cc 206) 27 = .ok (.bipush (-101), 2) := by decide +kernel
theorem zd_206_29 : decode (zm_cc 206) 29 = .ok (.ireturn, 1) := by decide +kernel
theorem zd_207_0 : decode (zm_cc 207) 0 = .ok (.aload_n 0, 1) := by decide +kernel
theorem zd_207_1 : decode (zm_cc 207) 1 = .ok (.getfield 80, 3) := by decide +kernel
theorem zd_207_4 : decode (zm_cc 207) 4 = .ok (.iconst (-1), 1) := by decide +kernel
theorem zd_207_5 : decode (zm_cc 207) 5 = .ok (.if_icmp .ne 6, 3) := by decide +kernel
theorem zd_207_8 : decode (zm_cc 207) 8 = .ok (.bipush (-101), 2) := by decide +kernel
theorem zd_207_10 : decode (zm_cc 207) 10 = .ok (.ireturn, 1) := by decide +kernel
theorem zd_207_11 : decode (zm_cc 207) 11 = .ok (.iload_n 1, 1) := by decide +kernel
theorem zd_207_12 : decode (zm_cc 207) 12 = .ok (.ifCond .lt 18, 3) := by decide +kernel
theorem zd_207_15 : decode (zm_cc 207) 15 = .ok (.iload_n 1, 1) := by decide +kernel
theorem zd_207_16 : decode (zm_cc 207) 16 = .ok (.aload_n 0, 1) := by decide +kernel
theorem zd_207_17 : decode (zm_cc 207) 17 = .ok (.getfield 80, 3) := by decide +kernel
theorem zd_207_20 : decode (zm_cc 207) 20 = .ok (.if_icmp .ge 10, 3) := by decide +kernel
theorem zd_207_23 : decode (zm_cc 207) 23 = .ok (.iload_n 1, 1) := by decide +kernel
theorem zd_207_24 : decode (zm_cc 207) 24 = .ok (.sipush 4000, 3) := by decide +kernel
theorem zd_207_27 : decode (zm_cc 207) 27 = .ok (.if_icmp .lt 8, 3) := by decide +kernel
theorem zd_207_30 : decode (zm_cc 207) 30 = .ok (.bipush (-102), 2) := by decide +kernel
theorem zd_207_32 : decode (zm_cc 207) 32 = .ok (.goto 9, 3) := by decide +kernel
theorem zd_207_35 : decode (zm_cc 207) 35 = .ok (.aload_n 0, 1) := by decide +kernel
theorem zd_207_36 : decode (zm_cc 207) 36 = .ok (.getfield 77, 3) := by decide +kernel
theorem zd_207_39 : decode (zm_cc 207) 39 = .ok (.iload_n 1, 1) := by decide +kernel
theorem zd_207_40 : decode (zm_cc 207) 40 = .ok (.iaload, 1) := by decide +kernel
theorem zd_207_41 : decode (zm_cc 207) 41 = .ok (.ireturn, 1) := by decide +kernel
theorem zd_208_0 : decode (zm_cc 208) 0 = .ok (.aload_n 0, 1) := by decide +kernel
theorem zd_208_1 : decode (zm_cc 208) 1 = .ok (.iconst 0, 1) := by decide +kernel
theorem zd_208_2 : decode (zm_cc 208) 2 = .ok (.putfield 1, 3) := by decide +kernel
theorem zd_208_5 : decode (zm_cc 208) 5 = .ok (.aload_n 0, 1) := by decide +kernel
theorem zd_208_6 : decode (zm_cc 208) 6 = .ok (.getfield 322, 3) := by decide +kernel
theorem zd_208_9 : decode (zm_cc 208) 9 = .ok (.ifCond .eq 11, 3) := by decide +kernel
theorem zd_208_12 : decode (zm_cc 208) 12 = .ok (.aload_n 0, 1) := by decide +kernel
theorem zd_208_13 : decode (zm_cc 208) 13 = .ok (.getfield 119, 3) := by decide +kernel
theorem zd_208_16 : decode (zm_cc 208) 16 = .ok (.iconst (-1), 1) := by decide +kernel
theorem zd_208_17 : decode (zm_cc 208) 17 = .ok (.if_icmp .ne 6, 3) := by decide +kernel
theorem zd_208_20 : decode (zm_cc 208) 20 = .ok (.bipush (-101), 2) := by decide +kernel
theorem zd_208_22 : decode (zm_cc 208) 22 = .ok (.ireturn, 1) := by decide +kernel
theorem zd_208_23 : decode (zm_cc 208) 23 = .ok (.iload_n 1, 1) := by decide +kernel
theorem zd_208_24 : decode (zm_cc 208) 24 = .ok (.iconst 0, 1) := by decide +kernel
theorem zd_208_25 : decode (zm_cc 208) 25 = .ok (.aload_n 0, 1) := by decide +kernel
theorem zd_208_26 : decode (zm_cc 208) 26 = .ok (.getfield 119, 3) := by decide +kernel
theorem zd_208_29 : decode (zm_cc 208) 29 = .ok (.iconst 1, 1) := by decide +kernel
theorem zd_208_30 : decode (zm_cc 208) 30 = .ok (.isub, 1) := by decide +kernel
theorem zd_208_31 : decode (zm_cc 208) 31 = .ok (.invokestatic 128, 3) := by decide +kernel
theorem zd_208_34 : decode (zm_cc 208) 34 = .ok (.ifCond .eq 12, 3) := by decide +kernel
theorem zd_208_37 : decode (zm_cc 208) 37 = .ok (.aload_n 0, 1) := by decide +kernel
theorem zd_208_38 : decode (zm_cc 208) 38 = .ok (.getfield 116, 3) := by decide +kernel
theorem zd_208_41 : decode (zm_cc 208) 41 = .ok (.iload_n 1, 1) := by decide +kernel
theorem zd_208_42 : decode (zm_cc 208) 42 = .ok (.iaload, 1) := by decide +kernel
theorem zd_208_43 : decode (zm_cc 208) 43 = .ok (.goto 5, 3) := by decide +kernel
theorem zd_208_46 : decode (zm_cc 208) 46 = .ok (.bipush (-102), 2) := by decide +kernel
theorem zd_208_48 : decode (zm_cc 208) 48 = .ok (.ireturn, 1) := by decide +kernel
theorem zd_209_0 : decode (zm_cc 209) 0 = .ok (.aload_n 0, 1) := by decide +kernel
theorem zd_209_1 : decode (zm_cc 209) 1 = .ok (.getfield 117, 3) := by decide +kernel
theorem zd_209_4 : decode (zm_cc 209) 4 = .ok (.ifCond .ne 6, 3) := by decide +kernel
theorem zd_209_7 : decode (zm_cc 209) 7 = .ok (.bipush (-101), 2) := by decide +kernel
theorem zd_209_9 : decode (zm_cc 209) 9 = .ok (.ireturn, 1) := by decide +kernel
theorem zd_209_10 : decode (zm_cc 209) 10 = .ok (.aload_n 0, 1) := by decide +kernel
theorem zd_209_11 : decode (zm_cc 209) 11 = .ok (.getfield 16, 3) := by decide +kernel
theorem zd_209_14 : decode (zm_cc 209) 14 = .ok (.aload_n 0, 1) := by decide +kernel
theorem zd_209_15 : decode (zm_cc 209) 15 = .ok (.getfield 50, 3) := by decide +kernel
theorem zd_209_18 : decode (zm_cc 209) 18 = .ok (.getfield 190, 3) := by decide +kernel
theorem zd_209_21 : decode (zm_cc 209) 21 = .ok (.iload_n 1, 1) := by decide +kernel
theorem zd_209_22 : decode (zm_cc 209) 22 = .ok (.invokevirtual 212, 3) := by decide +kernel
theorem zd_209_25 : decode (zm_cc 209) 25 = .ok (.iload_n 2, 1) := by decide +kernel
theorem zd_209_26 : decode (zm_cc 209) 26 = .ok (.invokevirtual 216, 3) := by decide +kernel
theorem zd_209_29 : decode (zm_cc 209) 29 = .ok (.ireturn, 1) := by decide +kernel
theorem zd_210_0 : decode (zm_cc 210) 0 = .ok (.iload_n 1, 1) := by decide +kernel
theorem zd_210_1 : decode (zm_cc 210) 1 = .ok (.bipush 96, 2) := by decide +kernel
theorem zd_210_3 : decode (zm_cc 210) 3 = .ok (.idiv, 1) := by decide +kernel
theorem zd_210_4 : decode (zm_cc 210) 4 = .ok (.istore_n 3, 1) := by decide +kernel
theorem zd_210_5 : decode (zm_cc 210) 5 = .ok (.iload_n 1, 1) := by decide +kernel
theorem zd_210_6 : decode (zm_cc 210) 6 = .ok (.bipush 96, 2) := by decide +kernel
theorem zd_210_8 : decode (zm_cc 210) 8 = .ok (.irem, 1) := by decide +kernel
theorem zd_210_9 : decode (zm_cc 210) 9 = .ok (.istore 4, 2) := by decide +kernel
theorem zd_210_11 : decode (zm_cc 210) 11 = .ok (.iload_n 1, 1) := by decide +kernel
theorem zd_210_12 : decode (zm_cc 210) 12 = .ok (.ifCond .lt 9, 3) := by decide +kernel
theorem zd_210_15 : decode (zm_cc 210) 15 = .ok (.iload_n 3, 1) := by decide +kernel
theorem zd_210_16 : decode (zm_cc 210) 16 = .ok (.bipush 96, 2) := by decide +kernel
theorem zd_210_18 : decode (zm_cc 210) 18 = .ok (.if_icmp .lt 6, 3) := by decide +kernel
theorem zd_210_21 : decode (zm_cc 210) 21 = .ok (.bipush (-102), 2) := by decide +kernel
theorem zd_210_23 : decode (zm_cc 210) 23 = .ok (.ireturn, 1) := by decide +kernel
theorem zd_210_24 : decode (zm_cc 210) 24 = .ok (.iload_n 2, 1) := by decide +kernel
theorem zd_210_25 : decode (zm_cc 210) 25 = .ok (.tableswitch 64 0 4 #[35, 40, 45, 51, 57], 35) := by decide +kernel
theorem zd_210_60 : decode (zm_cc 210) 60 = .ok (.iload_n 3, 1) := by decide +kernel
theorem zd_210_61 : decode (zm_cc 210) 61 = .ok (.bipush 24, 2) := by decide +kernel
theorem zd_210_63 : decode (zm_cc 210) 63 = .ok (.idiv, 1) := by decide +kernel
theorem zd_210_64 : decode (zm_cc 210) 64 = .ok (.ireturn, 1) := by decide +kernel
theorem zd_210_65 : decode (zm_cc 210) 65 = .ok (.iload_n 3, 1) := by decide +kernel
theorem zd_210_66 : decode (zm_cc 210) 66 = .ok (.bipush 24, 2) := by decide +kernel
theorem zd_210_68 : decode (zm_cc 210) 68 = .ok (.irem, 1) := by decide +kernel
theorem zd_210_69 : decode (zm_cc 210) 69 = .ok (.ireturn, 1) := by decide +kernel
theorem zd_210_70 : decode (zm_cc 210) 70 = .ok (.iload 4, 2) := by decide +kernel
theorem zd_210_72 : decode (zm_cc 210) 72 = .ok (.bipush 24, 2) := by decide +kernel
theorem zd_210_74 : decode (zm_cc 210) 74 = .ok (.idiv, 1) := by decide +kernel
theorem zd_210_75 : decode (zm_cc 210) 75 = .ok (.ireturn, 1) := by decide +kernel
theorem zd_210_76 : decode (zm_cc 210) 76 = .ok (.iload 4, 2) := by decide +kernel
theorem zd_210_78 : decode (zm_cc 210) 78 = .ok (.bipush 24, 2) := by decide +kernel
theorem zd_210_80 : decode (zm_cc 210) 80 = .ok (.irem, 1) := by decide +kernel
theorem zd_210_81 : decode (zm_cc 210) 81 = .ok (.ireturn, 1) := by decide +kernel
theorem zd_210_82 : decode (zm_cc 210) 82 = .ok (.aload_n 0, 1) := by decide +kernel
theorem zd_210_83 : decode (zm_cc 210) 83 = .ok (.getfield 21, 3) := by decide +kernel
theorem zd_210_86 : decode (zm_cc 210) 86 = .ok (.iload_n 3, 1) := by decide +kernel
theorem zd_210_87 : decode (zm_cc 210) 87 = .ok (.iaload, 1) := by decide +kernel
theorem zd_210_88 : decode (zm_cc 210) 88 = .ok (.ireturn, 1) := by decide +kernel
theorem zd_210_89 : decode (zm_cc 210) 89 = .ok (.bipush (-102), 2) := by decide +kernel
theorem zd_210_91 : decode (zm_cc 210) 91 = .ok (.ireturn, 1) := by decide +kernel
theorem zd_211_0 : decode (zm_cc 211) 0 = .ok (.aload_n 0, 1) := by decide +kernel
theorem zd_211_1 : decode (zm_cc 211) 1 = .ok (.iconst 0, 1) := by decide +kernel
theorem zd_211_2 : decode (zm_cc 211) 2 = .ok (.putfield 1, 3) := by decide +kernel
theorem zd_211_5 : decode (zm_cc 211) 5 = .ok (.aload_n 0, 1) := by decide +kernel
theorem zd_211_6 : decode (zm_cc 211) 6 = .ok (.getfield 322, 3) := by decide +kernel
theorem zd_211_9 : decode (zm_cc 211) 9 = .ok (.ifCond .ne 6, 3) := by decide +kernel
theorem zd_211_12 : decode (zm_cc 211) 12 = .ok (.bipush (-101), 2) := by decide +kernel
theorem zd_211_14 : decode (zm_cc 211) 14 = .ok (.ireturn, 1) := by decide +kernel
theorem zd_211_15 : decode (zm_cc 211) 15 = .ok (.aload_n 0, 1) := by decide +kernel
theorem zd_211_16 : decode (zm_cc 211) 16 = .ok (.iload_n 1, 1) := by decide +kernel
theorem zd_211_17 : decode (zm_cc 211) 17 = .ok (.invokevirtual 431, 3) := by decide +kernel
theorem zd_211_20 : decode (zm_cc 211) 20 = .ok (.istore_n 3, 1) := by decide +kernel
theorem zd_211_21 : decode (zm_cc 211) 21 = .ok (.iload_n 3, 1) := by decide +kernel
theorem zd_211_22 : decode (zm_cc 211) 22 = .ok (.iconst (-1), 1) := by decide +kernel
theorem zd_211_23 : decode (zm_cc 211) 23 = .ok (.if_icmp .ne 8, 3) := by decide +kernel
theorem zd_211_26 : decode (zm_cc 211) 26 = .ok (.bipush (-102), 2) := by decide +kernel
theorem zd_211_28 : decode (zm_cc 211) 28 = .ok (.goto 9, 3) := by decide +kernel
theorem zd_211_31 : decode (zm_cc 211) 31 = .ok (.aload_n 0, 1) := by decide +kernel
theorem zd_211_32 : decode (zm_cc 211) 32 = .ok (.iload_n 3, 1) := by decide +kernel
theorem zd_211_33 : decode (zm_cc 211) 33 = .ok (.iload_n 2, 1) := by decide +kernel
theorem zd_211_34 : decode (zm_cc 211) 34 = .ok (.invokevirtual 437, 3) := by decide +kernel
theorem zd_211_37 : decode (zm_cc 211) 37 = .ok (.ireturn, 1) := by decide +kernel
theorem zd_212_0 : decode (zm_cc 212) 0 = .ok (.iload_n 1, 1) := by decide +kernel
theorem zd_212_1 : decode (zm_cc 212) 1 = .ok (.bipush 96, 2) := by decide +kernel
theorem zd_212_3 : decode (zm_cc 212) 3 = .ok (.idiv, 1) := by decide +kernel
theorem zd_212_4 : decode (zm_cc 212) 4 = .ok (.istore_n 3, 1) := by decide +kernel
theorem zd_212_5 : decode (zm_cc 212) 5 = .ok (.iload_n 1, 1) := by decide +kernel
theorem zd_212_6 : decode (zm_cc 212) 6 = .ok (.bipush 96, 2) := by decide +kernel
theorem zd_212_8 : decode (zm_cc 212) 8 = .ok (.irem, 1) := by decide +kernel
theorem zd_212_9 : decode (zm_cc 212) 9 = .ok (.istore 4, 2) := by decide +kernel
theorem zd_212_11 : decode (zm_cc 212) 11 = .ok (.iload_n 2, 1) := by decide +kernel
theorem zd_212_12 : decode (zm_cc 212) 12 = .ok (.tableswitch 65 0 4 #[36, 41, 46, 52, 58], 36) := by decide +kernel
theorem zd_212_48 : decode (zm_cc 212) 48 = .ok (.iload_n 3, 1) := by decide +kernel
theorem zd_212_49 : decode (zm_cc 212) 49 = .ok (.bipush 24, 2) := by decide +kernel
theorem zd_212_51 : decode (zm_cc 212) 51 = .ok (.idiv, 1) := by decide +kernel
theorem zd_212_52 : decode (zm_cc 212) 52 = .ok (.ireturn, 1) := by decide +kernel
theorem zd_212_53 : decode (zm_cc 212) 53 = .ok (.iload_n 3, 1) := by decide +kernel
theorem zd_212_54 : decode (zm_cc 212) 54 = .ok (.bipush 24, 2) := by decide +kernel
theorem zd_212_56 : decode (zm_cc 212) 56 = .ok (.irem, 1) := by decide +kernel
theorem zd_212_57 : decode (zm_cc 212) 57 = .ok (.ireturn, 1) := by decide +kernel
theorem zd_212_58 : decode (zm_cc 212) 58 = .ok (.iload 4, 2) := by decide +kernel
theorem zd_212_60 : decode (zm_cc 212) 60 = .ok (.bipush 24, 2) := by decide +kernel
theorem zd_212_62 : decode (zm_cc 212) 62 = .ok (.idiv, 1) := by decide +kernel
theorem zd_212_63 : decode (zm_cc 212) 63 = .ok (.ireturn, 1) := by decide +kernel
theorem zd_212_64 : decode (zm_cc 212) 64 = .ok (.iload 4, 2) := by decide +kernel
theorem zd_212_66 : decode (zm_cc 212) 66 = .ok (.bipush 24, 2) := by decide +kernel
theorem zd_212_68 : decode (zm_cc 212) 68 = .ok (.irem, 1) := by decide +kernel
theorem zd_212_69 : decode (zm_cc 212) 69 = .ok (.ireturn, 1) := by decide +kernel
theorem zd_212_70 : decode (zm_cc 212) 70 = .ok (.aload_n 0, 1) := by decide +kernel
theorem zd_212_71 : decode (zm_cc 212) 71 = .ok (.getfield 46, 3) := by decide +kernel
theorem zd_212_74 : decode (zm_cc 212) 74 = .ok (.iload_n 3, 1) := by decide +kernel
theorem zd_212_75 : decode (zm_cc 212) 75 = .ok (.iaload, 1) := by decide +kernel
theorem zd_212_76 : decode (zm_cc 212) 76 = .ok (.ireturn, 1) := by decide +kernel
theorem zd_212_77 : decode (zm_cc 212) 77 = .ok (.bipush (-102), 2) := by decide +kernel
theorem zd_212_79 : decode (zm_cc 212) 79 = .ok (.ireturn, 1) := by decide +kernel
theorem zd_213_0 : decode (zm_cc 213) 0 = .ok (.aload_n 0, 1) := by decide +kernel
theorem zd_213_1 : decode (zm_cc 213) 1 = .ok (.getfield 117, 3) := by decide +kernel
theorem zd_213_4 : decode (zm_cc 213) 4 = .ok (.ifCond .ne 6, 3) := by decide +kernel
theorem zd_213_7 : decode (zm_cc 213) 7 = .ok (.bipush (-101), 2) := by decide +kernel
theorem zd_213_9 : decode (zm_cc 213) 9 = .ok (.ireturn, 1) := by decide +kernel
theorem zd_213_10 : decode (zm_cc 213) 10 = .ok (.aload_n 0, 1) := by decide +kernel
theorem zd_213_11 : decode (zm_cc 213) 11 = .ok (.getfield 16, 3) := by decide +kernel
theorem zd_213_14 : decode (zm_cc 213) 14 = .ok (.iload_n 2, 1) := by decide +kernel
theorem zd_213_15 : decode (zm_cc 213) 15 = .ok (.invokevirtual 219, 3) := by decide +kernel
theorem zd_213_18 : decode (zm_cc 213) 18 = .ok (.ifCond .eq 14, 3) := by decide +kernel
theorem zd_213_21 : decode (zm_cc 213) 21 = .ok (.aload_n 0, 1) := by decide +kernel
theorem zd_213_22 : decode (zm_cc 213) 22 = .ok (.getfield 43, 3) := by decide +kernel
theorem zd_213_25 : decode (zm_cc 213) 25 = .ok (.iload_n 1, 1) := by decide +kernel
theorem zd_213_26 : decode (zm_cc 213) 26 = .ok (.invokevirtual 222, 3) := by decide +kernel
theorem zd_213_29 : decode (zm_cc 213) 29 = .ok (.ifCond .ne 6, 3) := by decide +kernel
theorem zd_213_32 : decode (zm_cc 213) 32 = .ok (.bipush (-102), 2) := by decide +kernel
theorem zd_213_34 : decode (zm_cc 213) 34 = .ok (.ireturn, 1) := by decide +kernel
theorem zd_213_35 : decode (zm_cc 213) 35 = .ok (.aload_n 0, 1) := by decide +kernel
theorem zd_213_36 : decode (zm_cc 213) 36 = .ok (.getfield 43, 3) := by decide +kernel
theorem zd_213_39 : decode (zm_cc 213) 39 = .ok (.iload_n 1, 1) := by decide +kernel
theorem zd_213_40 : decode (zm_cc 213) 40 = .ok (.invokevirtual 225, 3) := by decide +kernel
theorem zd_213_43 : decode (zm_cc 213) 43 = .ok (.iload_n 3, 1) := by decide +kernel
theorem zd_213_44 : decode (zm_cc 213) 44 = .ok (.tableswitch 87 0 5 #[40, 49, 58, 75, 75, 75], 40) := by decide +kernel
theorem zd_213_84 : decode (zm_cc 213) 84 = .ok (.aload_n 0, 1) := by decide +kernel
theorem zd_213_85 : decode (zm_cc 213) 85 = .ok (.getfield 34, 3) := by decide +kernel
theorem zd_213_88 : decode (zm_cc 213) 88 = .ok (.iload_n 2, 1) := by decide +kernel
theorem zd_213_89 : decode (zm_cc 213) 89 = .ok (.invokevirtual 228, 3) := by decide +kernel
theorem zd_213_92 : decode (zm_cc 213) 92 = .ok (.ireturn, 1) := by decide +kernel
theorem zd_213_93 : decode (zm_cc 213) 93 = .ok (.aload_n 0, 1) := by decide +kernel
theorem zd_213_94 : decode (zm_cc 213) 94 = .ok (.getfield 34, 3) := by decide +kernel
theorem zd_213_97 : decode (zm_cc 213) 97 = .ok (.iload_n 2, 1) := by decide +kernel
theorem zd_213_98 : decode (zm_cc 213) 98 = .ok (.invokevirtual 231, 3) := by decide +kernel
theorem zd_213_101 : decode (zm_cc 213) 101 = .ok (.ireturn, 1) := by decide +kernel
theorem zd_213_102 : decode (zm_cc 213) 102 = .ok (.aload_n 0, 1) := by decide +kernel
theorem zd_213_103 : decode (zm_cc 213) 103 = .ok (.getfield 34, 3) := by decide +kernel
theorem zd_213_106 : decode (zm_cc 213) 106 = .ok (.iload_n 2, 1) := by decide +kernel
theorem zd_213_107 : decode (zm_cc 213) 107 = .ok (.invokevirtual 234, 3) := by decide +kernel
theorem zd_213_110 : decode (zm_cc 213) 110 = .ok (.ifCond .eq 7, 3) := by decide +kernel
theorem zd_213_113 : decode (zm_cc 213) 113 = .ok (.iconst 1, 1) := by decide +kernel
theorem zd_213_114 : decode (zm_cc 213) 114 = .ok (.goto 4, 3) := by decide +kernel
theorem zd_213_117 : decode (zm_cc 213) 117 = .ok (.iconst 0, 1) := by decide +kernel
theorem zd_213_118 : decode (zm_cc 213) 118 = .ok (.ireturn, 1) := by decide +kernel
theorem zd_213_119 : decode (zm_cc 213) 119 = .ok (.aload_n 0, 1) := by decide +kernel
theorem zd_213_120 : decode (zm_cc 213) 120 = .ok (.getfield 34, 3) := by decide +kernel
theorem zd_213_123 : decode (zm_cc 213) 123 = .ok (.iload_n 2, 1) := by decide +kernel
theorem zd_213_124 : decode (zm_cc 213) 124 = .ok (.iload_n 3, 1) := by decide +kernel
theorem zd_213_125 : decode (zm_cc 213) 125 = .ok (.iconst 3, 1) := by decide +kernel
theorem zd_213_126 : decode (zm_cc 213) 126 = .ok (.isub, 1) := by decide +kernel
theorem zd_213_127 : decode (zm_cc 213) 127 = .ok (.invokevirtual 237, 3) := by decide +kernel
theorem zd_213_130 : decode (zm_cc 213) 130 = .ok (.ireturn, 1) := by decide +kernel
theorem zd_213_131 : decode (zm_cc 213) 131 = .ok (.bipush (-102), 2) := by decide +kernel
theorem zd_213_133 : decode (zm_cc 213) 133 = .ok (.ireturn, 1) := by decide +kernel
theorem zd_214_0 : decode (zm_cc 214) 0 = .ok (.iload_n 1, 1) := by decide +kernel
theorem zd_214_1 : decode (zm_cc 214) 1 = .ok (.ifCond .lt 20, 3) := by decide +kernel
theorem zd_214_4 : decode (zm_cc 214) 4 = .ok (.iload_n 1, 1) := by decide +kernel
theorem zd_214_5 : decode (zm_cc 214) 5 = .ok (.aload_n 0, 1) := by decide +kernel
theorem zd_214_6 : decode (zm_cc 214) 6 = .ok (.getfield 55, 3) := by decide +kernel
theorem zd_214_9 : decode (zm_cc 214) 9 = .ok (.if_icmp .ge 12, 3) := by decide +kernel
theorem zd_214_12 : decode (zm_cc 214) 12 = .ok (.iload_n 1, 1) := by decide +kernel
theorem zd_214_13 : decode (zm_cc 214) 13 = .ok (.iconst 4, 1) := by decide +kernel
theorem zd_214_14 : decode (zm_cc 214) 14 = .ok (.if_icmp .ge 7, 3) := by decide +kernel
theorem zd_214_17 : decode (zm_cc 214) 17 = .ok (.iconst 1, 1) := by decide +kernel
theorem zd_214_18 : decode (zm_cc 214) 18 = .ok (.goto 4, 3) := by decide +kernel
theorem zd_214_21 : decode (zm_cc 214) 21 = .ok (.iconst 0, 1) := by decide +kernel
theorem zd_214_22 : decode (zm_cc 214) 22 = .ok (.ireturn, 1) := by decide +kernel
theorem zd_215_0 : decode (zm_cc 215) 0 = .ok (.aload_n 0, 1) := by decide +kernel
theorem zd_215_1 : decode (zm_cc 215) 1 = .ok (.iconst 0, 1) := by decide +kernel
theorem zd_215_2 : decode (zm_cc 215) 2 = .ok (.putfield 1, 3) := by decide +kernel
theorem zd_215_5 : decode (zm_cc 215) 5 = .ok (.aload_n 0, 1) := by decide +kernel
theorem zd_215_6 : decode (zm_cc 215) 6 = .ok (.getfield 322, 3) := by decide +kernel
theorem zd_215_9 : decode (zm_cc 215) 9 = .ok (.ifCond .ne 6, 3) := by decide +kernel
theorem zd_215_12 : decode (zm_cc 215) 12 = .ok (.bipush (-101), 2) := by decide +kernel
theorem zd_215_14 : decode (zm_cc 215) 14 = .ok (.ireturn, 1) := by decide +kernel
theorem zd_215_15 : decode (zm_cc 215) 15 = .ok (.aload_n 0, 1) := by decide +kernel
theorem zd_215_16 : decode (zm_cc 215) 16 = .ok (.iload_n 1, 1) := by decide +kernel
theorem zd_215_17 : decode (zm_cc 215) 17 = .ok (.invokevirtual 440, 3) := by decide +kernel
theorem zd_215_20 : decode (zm_cc 215) 20 = .ok (.ifCond .eq 26, 3) := by decide +kernel
theorem zd_215_23 : decode (zm_cc 215) 23 = .ok (.iload_n 2, 1) := by decide +kernel
theorem zd_215_24 : decode (zm_cc 215) 24 = .ok (.iconst 0, 1) := by decide +kernel
theorem zd_215_25 : decode (zm_cc 215) 25 = .ok (.aload_n 0, 1) := by decide +kernel
theorem zd_215_26 : decode (zm_cc 215) 26 = .ok (.getfield 225, 3) := by decide +kernel
theorem zd_215_29 : decode (zm_cc 215) 29 = .ok (.iconst 1, 1) := by decide +kernel
theorem zd_215_30 : decode (zm_cc 215) 30 = .ok (.isub, 1) := by decide +kernel
theorem zd_215_31 : decode (zm_cc 215) 31 = .ok (.invokestatic 128, 3) := by decide +kernel
theorem zd_215_34 : decode (zm_cc 215) 34 = .ok (.ifCond .eq 12, 3) := by decide +kernel
theorem zd_215_37 : decode (zm_cc 215) 37 = .ok (.iload_n 3, 1) := by decide +kernel
theorem zd_215_38 : decode (zm_cc 215) 38 = .ok (.iconst 0, 1) := by decide +kernel
theorem zd_215_39 : decode (zm_cc 215) 39 = .ok (.iconst 5, 1) := by decide +kernel
theorem zd_215_40 : decode (zm_cc 215) 40 = .ok (.invokestatic 128, 3) := by decide +kernel
theorem zd_215_43 : decode (zm_cc 215) 43 = .ok (.ifCond .ne 6, 3) := by decide +kernel
theorem zd_215_46 : decode (zm_cc 215) 46 = .ok (.bipush (-102), 2) := by decide +kernel
theorem zd_215_48 : decode (zm_cc 215) 48 = .ok (.ireturn, 1) := by decide +kernel
theorem zd_215_49 : decode (zm_cc 215) 49 = .ok (.aload_n 0, 1) := by decide +kernel
theorem zd_215_50 : decode (zm_cc 215) 50 = .ok (.iload_n 1, 1) := by decide +kernel
theorem zd_215_51 : decode (zm_cc 215) 51 = .ok (.invokevirtual 401, 3) := by decide +kernel
theorem zd_215_54 : decode (zm_cc 215) 54 = .ok (.iload_n 3, 1) := by decide +kernel
theorem zd_215_55 : decode (zm_cc 215) 55 = .ok (.ifCond .ne 11, 3) := by decide +kernel
theorem zd_215_58 : decode (zm_cc 215) 58 = .ok (.aload_n 0, 1) := by decide +kernel
theorem zd_215_59 : decode (zm_cc 215) 59 = .ok (.iload_n 2, 1) := by decide +kernel
theorem zd_215_60 : decode (zm_cc 215) 60 = .ok (.invokevirtual 357, 3) := by decide +kernel
theorem zd_215_63 : decode (zm_cc 215) 63 = .ok (.goto 56, 3) := by decide +kernel
theorem zd_215_66 : decode (zm_cc 215) 66 = .ok (.iload_n 3, 1) := by decide +kernel
theorem zd_215_67 : decode (zm_cc 215) 67 = .ok (.iconst 1, 1) := by decide +kernel
theorem zd_215_68 : decode (zm_cc 215) 68 = .ok (.if_icmp .ne 16, 3) := by decide +kernel
theorem zd_215_71 : decode (zm_cc 215) 71 = .ok (.aload_n 0, 1) := by decide +kernel
theorem zd_215_72 : decode (zm_cc 215) 72 = .ok (.getfield 88, 3) := by decide +kernel
theorem zd_215_75 : decode (zm_cc 215) 75 = .ok (.aload_n 0, 1) := by decide +kernel
theorem zd_215_76 : decode (zm_cc 215) 76 = .ok (.iload_n 2, 1) := by decide +kernel
theorem zd_215_77 : decode (zm_cc 215) 77 = .ok (.invokevirtual 348, 3) := by decide +kernel
theorem zd_215_80 : decode (zm_cc 215) 80 = .ok (.iaload, 1) := by decide +kernel
theorem zd_215_81 : decode (zm_cc 215) 81 = .ok (.goto 38, 3) := by decide +kernel
theorem zd_215_84 : decode (zm_cc 215) 84 = .ok (.iload_n 3, 1) := by decide +kernel
theorem zd_215_85 : decode (zm_cc 215) 85 = .ok (.iconst 2, 1) := by decide +kernel
theorem zd_215_86 : decode (zm_cc 215) 86 = .ok (.if_icmp .ne 19, 3) := by decide +kernel
theorem zd_215_89 : decode (zm_cc 215) 89 = .ok (.aload_n 0, 1) := by decide +kernel
theorem zd_215_90 : decode (zm_cc 215) 90 = .ok (.iload_n 2, 1) := by decide +kernel
theorem zd_215_91 : decode (zm_cc 215) 91 = .ok (.invokevirtual 407, 3) := by decide +kernel
theorem zd_215_94 : decode (zm_cc 215) 94 = .ok (.ifCond .eq 7, 3) := by decide +kernel
theorem zd_215_97 : decode (zm_cc 215) 97 = .ok (.iconst 1, 1) := by decide +kernel
theorem zd_215_98 : decode (zm_cc 215) 98 = .ok (.goto 21, 3) := by decide +kernel
theorem zd_215_101 : decode (zm_cc 215) 101 = .ok (.iconst 0, 1) := by decide +kernel
theorem zd_215_102 : decode (zm_cc 215) 102 = .ok (.goto 17, 3) := by decide +kernel
theorem zd_215_105 : decode (zm_cc 215) 105 = .ok (.aload_n 0, 1) := by decide +kernel
theorem zd_215_106 : decode (zm_cc 215) 106 = .ok (.getfield 88, 3) := by decide +kernel
theorem zd_215_109 : decode (zm_cc 215) 109 = .ok (.aload_n 0, 1) := by decide +kernel
theorem zd_215_110 : decode (zm_cc 215) 110 = .ok (.iload_n 2, 1) := by decide +kernel
theorem zd_215_111 : decode (zm_cc 215) 111 = .ok (.invokevirtual 348, 3) := by decide +kernel
theorem zd_215_114 : decode (zm_cc 215) 114 = .ok (.iload_n 3, 1) := by decide +kernel
theorem zd_215_115 : decode (zm_cc 215) 115 = .ok (.iadd, 1) := by decide +kernel
theorem zd_215_116 : decode (zm_cc 215) 116 = .ok (.iconst 1, 1) := by decide +kernel
theorem zd_215_117 : decode (zm_cc 215) 117 = .ok (.isub, 1) := by decide +kernel
theorem zd_215_118 : decode (zm_cc 215) 118 = .ok (.iaload, 1) := by decide +kernel
theorem zd_215_119 : decode (zm_cc 215) 119 = .ok (.ireturn, 1) := by decide +kernel
theorem zd_216_0 : decode (zm_cc 216) 0 = .ok (.iload_n 1, 1) := by decide +kernel
theorem zd_216_1 : decode (zm_cc 216) 1 = .ok (.iconst 0, 1) := by decide +kernel
theorem zd_216_2 : decode (zm_cc 216) 2 = .ok (.aload_n 0, 1) := by decide +kernel
theorem zd_216_3 : decode (zm_cc 216) 3 = .ok (.getfield 419, 3) := by decide +kernel
theorem zd_216_6 : decode (zm_cc 216) 6 = .ok (.iconst 1, 1) := by decide +kernel
theorem zd_216_7 : decode (zm_cc 216) 7 = .ok (.isub, 1) := by decide +kernel
theorem zd_216_8 : decode (zm_cc 216) 8 = .ok (.invokestatic 128, 3) := by decide +kernel
theorem zd_216_11 : decode (zm_cc 216) 11 = .ok (.ireturn, 1) := by decide +kernel
theorem zd_217_0 : decode (zm_cc 217) 0 = .ok (.aload_n 0, 1) := by decide +kernel
theorem zd_217_1 : decode (zm_cc 217) 1 = .ok (.getfield 117, 3) := by decide +kernel
theorem zd_217_4 : decode (zm_cc 217) 4 = .ok (.ifCond .ne 6, 3) := by decide +kernel
theorem zd_217_7 : decode (zm_cc 217) 7 = .ok (.bipush (-101), 2) := by decide +kernel
theorem zd_217_9 : decode (zm_cc 217) 9 = .ok (.ireturn, 1) := by decide +kernel
theorem zd_217_10 : decode (zm_cc 217) 10 = .ok (.iload_n 2, 1) := by decide +kernel
theorem zd_217_11 : decode (zm_cc 217) 11 = .ok (.ifCond .lt 25, 3) := by decide +kernel
theorem zd_217_14 : decode (zm_cc 217) 14 = .ok (.iload_n 2, 1) := by decide +kernel
theorem zd_217_15 : decode (zm_cc 217) 15 = .ok (.aload_n 0, 1) := by decide +kernel
theorem zd_217_16 : decode (zm_cc 217) 16 = .ok (.getfield 16, 3) := by decide +kernel
theorem zd_217_19 : decode (zm_cc 217) 19 = .ok (.getfield 135, 3) := by decide +kernel
theorem zd_217_22 : decode (zm_cc 217) 22 = .ok (.if_icmp .ge 14, 3) := by decide +kernel
theorem zd_217_25 : decode (zm_cc 217) 25 = .ok (.aload_n 0, 1) := by decide +kernel
theorem zd_217_26 : decode (zm_cc 217) 26 = .ok (.getfield 43, 3) := by decide +kernel
theorem zd_217_29 : decode (zm_cc 217) 29 = .ok (.iload_n 1, 1) := by decide +kernel
theorem zd_217_30 : decode (zm_cc 217) 30 = .ok (.invokevirtual 222, 3) := by decide +kernel
theorem zd_217_33 : decode (zm_cc 217) 33 = .ok (.ifCond .ne 6, 3) := by decide +kernel
theorem zd_217_36 : decode (zm_cc 217) 36 = .ok (.bipush (-102), 2) := by decide +kernel
theorem zd_217_38 : decode (zm_cc 217) 38 = .ok (.ireturn, 1) := by decide +kernel
theorem zd_217_39 : decode (zm_cc 217) 39 = .ok (.aload_n 0, 1) := by decide +kernel
theorem zd_217_40 : decode (zm_cc 217) 40 = .ok (.getfield 43, 3) := by decide +kernel
theorem zd_217_43 : decode (zm_cc 217) 43 = .ok (.iload_n 1, 1) := by decide +kernel
theorem zd_217_44 : decode (zm_cc 217) 44 = .ok (.invokevirtual 225, 3) := by decide +kernel
theorem zd_217_47 : decode (zm_cc 217) 47 = .ok (.aload_n 0, 1) := by decide +kernel
theorem zd_217_48 : decode (zm_cc 217) 48 = .ok (.getfield 34, 3) := by decide +kernel
theorem zd_217_51 : decode (zm_cc 217) 51 = .ok (.iload_n 2, 1) := by decide +kernel
theorem zd_217_52 : decode (zm_cc 217) 52 = .ok (.invokevirtual 240, 3) := by decide +kernel
theorem zd_217_55 : decode (zm_cc 217) 55 = .ok (.ireturn, 1) := by decide +kernel
theorem zd_218_0 : decode (zm_cc 218) 0 = .ok (.aload_n 0, 1) := by decide +kernel
theorem zd_218_1 : decode (zm_cc 218) 1 = .ok (.iconst 0, 1) := by decide +kernel
theorem zd_218_2 : decode (zm_cc 218) 2 = .ok (.putfield 1, 3) := by decide +kernel
theorem zd_218_5 : decode (zm_cc 218) 5 = .ok (.aload_n 0, 1) := by decide +kernel
theorem zd_218_6 : decode (zm_cc 218) 6 = .ok (.getfield 322, 3) := by decide +kernel
theorem zd_218_9 : decode (zm_cc 218) 9 = .ok (.ifCond .ne 6, 3) := by decide +kernel
theorem zd_218_12 : decode (zm_cc 218) 12 = .ok (.bipush (-101), 2) := by decide +kernel
theorem zd_218_14 : decode (zm_cc 218) 14 = .ok (.ireturn, 1) := by decide +kernel
theorem zd_218_15 : decode (zm_cc 218) 15 = .ok (.aload_n 0, 1) := by decide +kernel
theorem zd_218_16 : decode (zm_cc 218) 16 = .ok (.iload_n 1, 1) := by decide +kernel
theorem zd_218_17 : decode (zm_cc 218) 17 = .ok (.invokevirtual 440, 3) := by decide +kernel
theorem zd_218_20 : decode (zm_cc 218) 20 = .ok (.ifCond .eq 31, 3) := by decide +kernel
theorem zd_218_23 : decode (zm_cc 218) 23 = .ok (.iload_n 2, 1) := by decide +kernel
theorem zd_218_24 : decode (zm_cc 218) 24 = .ok (.iconst 0, 1) := by decide +kernel
theorem zd_218_25 : decode (zm_cc 218) 25 = .ok (.aload_n 0, 1) := by decide +kernel
theorem zd_218_26 : decode (zm_cc 218) 26 = .ok (.getfield 215, 3) := by decide +kernel
theorem zd_218_29 : decode (zm_cc 218) 29 = .ok (.iconst 1, 1) := by decide +kernel
theorem zd_218_30 : decode (zm_cc 218) 30 = .ok (.isub, 1) := by decide +kernel
theorem zd_218_31 : decode (zm_cc 218) 31 = .ok (.invokestatic 128, 3) := by decide +kernel
theorem zd_218_34 : decode (zm_cc 218) 34 = .ok (.ifCond .eq 17, 3) := by decide +kernel
theorem zd_218_37 : decode (zm_cc 218) 37 = .ok (.aload_n 0, 1) := by decide +kernel
theorem zd_218_38 : decode (zm_cc 218) 38 = .ok (.getfield 92, 3) := by decide +kernel
theorem zd_218_41 : decode (zm_cc 218) 41 = .ok (.bipush 40, 2) := by decide +kernel
theorem zd_218_43 : decode (zm_cc 218) 43 = .ok (.iload_n 1, 1) := by decide +kernel
theorem zd_218_44 : decode (zm_cc 218) 44 = .ok (.imul, 1) := by decide +kernel
theorem zd_218_45 : decode (zm_cc 218) 45 = .ok (.iload_n 2, 1) := by decide +kernel
theorem zd_218_46 : decode (zm_cc 218) 46 = .ok (.iadd, 1) := by decide +kernel
theorem zd_218_47 : decode (zm_cc 218) 47 = .ok (.baload, 1) := by decide +kernel
theorem zd_218_48 : decode (zm_cc 218) 48 = .ok (.goto 5, 3) := by decide +kernel
theorem zd_218_51 : decode (zm_cc 218) 51 = .ok (.bipush (-102), 2) := by decide +kernel
theorem zd_218_53 : decode (zm_cc 218) 53 = .ok (.ireturn, 1) := by decide +kernel
theorem zd_219_0 : decode (zm_cc 219) 0 = .ok (.aload_n 0, 1) := by decide +kernel
theorem zd_219_1 : decode (zm_cc 219) 1 = .ok (.getfield 117, 3) := by decide +kernel
theorem zd_219_4 : decode (zm_cc 219) 4 = .ok (.ifCond .ne 6, 3) := by decide +kernel
theorem zd_219_7 : decode (zm_cc 219) 7 = .ok (.bipush (-101), 2) := by decide +kernel
theorem zd_219_9 : decode (zm_cc 219) 9 = .ok (.ireturn, 1) := by decide +kernel
theorem zd_219_10 : decode (zm_cc 219) 10 = .ok (.iload_n 2, 1) := by decide +kernel
theorem zd_219_11 : decode (zm_cc 219) 11 = .ok (.ifCond .lt 25, 3) := by decide +kernel
theorem zd_219_14 : decode (zm_cc 219) 14 = .ok (.iload_n 2, 1) := by decide +kernel
theorem zd_219_15 : decode (zm_cc 219) 15 = .ok (.aload_n 0, 1) := by decide +kernel
theorem zd_219_16 : decode (zm_cc 219) 16 = .ok (.getfield 16, 3) := by decide +kernel
theorem zd_219_19 : decode (zm_cc 219) 19 = .ok (.getfield 138, 3) := by decide +kernel
theorem zd_219_22 : decode (zm_cc 219) 22 = .ok (.if_icmp .ge 14, 3) := by decide +kernel
theorem zd_219_25 : decode (zm_cc 219) 25 = .ok (.aload_n 0, 1) := by decide +kernel
theorem zd_219_26 : decode (zm_cc 219) 26 = .ok (.getfield 43, 3) := by decide +kernel
theorem zd_219_29 : decode (zm_cc 219) 29 = .ok (.iload_n 1, 1) := by decide +kernel
theorem zd_219_30 : decode (zm_cc 219) 30 = .ok (.invokevirtual 222, 3) := by decide +kernel
theorem zd_219_33 : decode (zm_cc 219) 33 = .ok (.ifCond .ne 6, 3) := by decide +kernel
theorem zd_219_36 : decode (zm_cc 219) 36 = .ok (.bipush (-102), 2) := by decide +kernel
theorem zd_219_38 : decode (zm_cc 219) 38 = .ok (.ireturn, 1) := by decide +kernel
theorem zd_219_39 : decode (zm_cc 219) 39 = .ok (.aload_n 0, 1) := by decide +kernel
theorem zd_219_40 : decode (zm_cc 219) 40 = .ok (.getfield 43, 3) := by decide +kernel
theorem zd_219_43 : decode (zm_cc 219) 43 = .ok (.iload_n 1, 1) := by decide +kernel
theorem zd_219_44 : decode (zm_cc 219) 44 = .ok (.invokevirtual 225, 3) := by decide +kernel
theorem zd_219_47 : decode (zm_cc 219) 47 = .ok (.aload_n 0, 1) := by decide +kernel
theorem zd_219_48 : decode (zm_cc 219) 48 = .ok (.getfield 34, 3) := by decide +kernel
theorem zd_219_51 : decode (zm_cc 219) 51 = .ok (.iload_n 2, 1) := by decide +kernel
theorem zd_219_52 : decode (zm_cc 219) 52 = .ok (.invokevirtual 243, 3) := by decide +kernel
theorem zd_219_55 : decode (zm_cc 219) 55 = .ok (.ireturn, 1) := by decide +kernel
theorem zd_220_0 : decode (zm_cc 220) 0 = .ok (.aload_n 0, 1) := by decide +kernel
theorem zd_220_1 : decode (zm_cc 220) 1 = .ok (.iconst 0, 1) := by decide +kernel
theorem zd_220_2 : decode (zm_cc 220) 2 = .ok (.putfield 1, 3) := by decide +kernel
theorem zd_220_5 : decode (zm_cc 220) 5 = .ok (.aload_n 0, 1) := by decide +kernel
theorem zd_220_6 : decode (zm_cc 220) 6 = .ok (.getfield 322, 3) := by decide +kernel
theorem zd_220_9 : decode (zm_cc 220) 9 = .ok (.ifCond .ne 6, 3) := by decide +kernel
theorem zd_220_12 : decode (zm_cc 220) 12 = .ok (.bipush (-101), 2) := by decide +kernel
theorem zd_220_14 : decode (zm_cc 220) 14 = .ok (.ireturn, 1) := by decide +kernel
theorem zd_220_15 : decode (zm_cc 220) 15 = .ok (.aload_n 0, 1) := by decide +kernel
theorem zd_220_16 : decode (zm_cc 220) 16 = .ok (.iload_n 1, 1) := by decide +kernel
theorem zd_220_17 : decode (zm_cc 220) 17 = .ok (.invokevirtual 440, 3) := by decide +kernel
theorem zd_220_20 : decode (zm_cc 220) 20 = .ok (.ifCond .eq 36, 3) := by decide +kernel
theorem zd_220_23 : decode (zm_cc 220) 23 = .ok (.iload_n 2, 1) := by decide +kernel
theorem zd_220_24 : decode (zm_cc 220) 24 = .ok (.iconst 0, 1) := by decide +kernel
theorem zd_220_25 : decode (zm_cc 220) 25 = .ok (.aload_n 0, 1) := by decide +kernel
theorem zd_220_26 : decode (zm_cc 220) 26 = .ok (.getfield 222, 3) := by decide +kernel
theorem zd_220_29 : decode (zm_cc 220) 29 = .ok (.iconst 1, 1) := by decide +kernel
theorem zd_220_30 : decode (zm_cc 220) 30 = .ok (.isub, 1) := by decide +kernel
theorem zd_220_31 : decode (zm_cc 220) 31 = .ok (.invokestatic 128, 3) := by decide +kernel
theorem zd_220_34 : decode (zm_cc 220) 34 = .ok (.ifCond .eq 22, 3) := by decide +kernel
theorem zd_220_37 : decode (zm_cc 220) 37 = .ok (.aload_n 0, 1) := by decide +kernel
theorem zd_220_38 : decode (zm_cc 220) 38 = .ok (.getfield 92, 3) := by decide +kernel
theorem zd_220_41 : decode (zm_cc 220) 41 = .ok (.bipush 40, 2) := by decide +kernel
theorem zd_220_43 : decode (zm_cc 220) 43 = .ok (.iload_n 1, 1) := by decide +kernel
theorem zd_220_44 : decode (zm_cc 220) 44 = .ok (.imul, 1) := by decide +kernel
theorem zd_220_45 : decode (zm_cc 220) 45 = .ok (.bipush 6, 2) := by decide +kernel
theorem zd_220_47 : decode (zm_cc 220) 47 = .ok (.iadd, 1) := by decide +kernel
theorem zd_220_48 : decode (zm_cc 220) 48 = .ok (.iload_n 2, 1) := by decide +kernel
theorem zd_220_49 : decode (zm_cc 220) 49 = .ok (.iadd, 1) := by decide +kernel
theorem zd_220_50 : decode (zm_cc 220) 50 = .ok (.baload, 1) := by decide +kernel
theorem zd_220_51 : decode (zm_cc 220) 51 = .ok (.iconst 1, 1) := by decide +kernel
theorem zd_220_52 : decode (zm_cc 220) 52 = .ok (.isub, 1) := by decide +kernel
theorem zd_220_53 : decode (zm_cc 220) 53 = .ok (.goto 5, 3) := by decide +kernel
theorem zd_220_56 : decode (zm_cc 220) 56 = .ok (.bipush (-102), 2) := by decide +kernel
theorem zd_220_58 : decode (zm_cc 220) 58 = .ok (.ireturn, 1) := by decide +kernel
theorem zd_221_0 : decode (zm_cc 221) 0 = .ok (.aload_n 0, 1) := by decide +kernel
theorem zd_221_1 : decode (zm_cc 221) 1 = .ok (.getfield 117, 3) := by decide +kernel
theorem zd_221_4 : decode (zm_cc 221) 4 = .ok (.ifCond .ne 6, 3) := by decide +kernel
theorem zd_221_7 : decode (zm_cc 221) 7 = .ok (.bipush (-101), 2) := by decide +kernel
theorem zd_221_9 : decode (zm_cc 221) 9 = .ok (.ireturn, 1) := by decide +kernel
theorem zd_221_10 : decode (zm_cc 221) 10 = .ok (.aload_n 0, 1) := by decide +kernel
theorem zd_221_11 : decode (zm_cc 221) 11 = .ok (.getfield 43, 3) := by decide +kernel
theorem zd_221_14 : decode (zm_cc 221) 14 = .ok (.iload_n 1, 1) := by decide +kernel
theorem zd_221_15 : decode (zm_cc 221) 15 = .ok (.invokevirtual 222, 3) := by decide +kernel
theorem zd_221_18 : decode (zm_cc 221) 18 = .ok (.ifCond .eq 14, 3) := by decide +kernel
theorem zd_221_21 : decode (zm_cc 221) 21 = .ok (.aload_n 0, 1) := by decide +kernel
theorem zd_221_22 : decode (zm_cc 221) 22 = .ok (.getfield 43, 3) := by decide +kernel
theorem zd_221_25 : decode (zm_cc 221) 25 = .ok (.iload_n 1, 1) := by decide +kernel
theorem zd_221_26 : decode (zm_cc 221) 26 = .ok (.invokevirtual 246, 3) := by decide +kernel
theorem zd_221_29 : decode (zm_cc 221) 29 = .ok (.ifCond .ne 6, 3) := by decide +kernel
theorem zd_221_32 : decode (zm_cc 221) 32 = .ok (.bipush (-102), 2) := by decide +kernel
theorem zd_221_34 : decode (zm_cc 221) 34 = .ok (.ireturn, 1) := by decide +kernel
theorem zd_221_35 : decode (zm_cc 221) 35 = .ok (.aload_n 0, 1) := by decide +kernel
theorem zd_221_36 : decode (zm_cc 221) 36 = .ok (.getfield 43, 3) := by decide +kernel
theorem zd_221_39 : decode (zm_cc 221) 39 = .ok (.iload_n 1, 1) := by decide +kernel
theorem zd_221_40 : decode (zm_cc 221) 40 = .ok (.invokevirtual 225, 3) := by decide +kernel
theorem zd_221_43 : decode (zm_cc 221) 43 = .ok (.aload_n 0, 1) := by decide +kernel
theorem zd_221_44 : decode (zm_cc 221) 44 = .ok (.getfield 34, 3) := by decide +kernel
theorem zd_221_47 : decode (zm_cc 221) 47 = .ok (.invokevirtual 249, 3) := by decide +kernel
theorem zd_221_50 : decode (zm_cc 221) 50 = .ok (.ifCond .eq 6, 3) := by decide +kernel
theorem zd_221_53 : decode (zm_cc 221) 53 = .ok (.bipush (-102), 2) := by decide +kernel
theorem zd_221_55 : decode (zm_cc 221) 55 = .ok (.ireturn, 1) := by decide +kernel
theorem zd_221_56 : decode (zm_cc 221) 56 = .ok (.aload_n 0, 1) := by decide +kernel
theorem zd_221_57 : decode (zm_cc 221) 57 = .ok (.getfield 34, 3) := by decide +kernel
theorem zd_221_60 : decode (zm_cc 221) 60 = .ok (.invokevirtual 253, 3) := by decide +kernel
theorem zd_221_63 : decode (zm_cc 221) 63 = .ok (.ifCond .eq 5, 3) := by decide +kernel
theorem zd_221_66 : decode (zm_cc 221) 66 = .ok (.iconst 1, 1) := by decide +kernel
theorem zd_221_67 : decode (zm_cc 221) 67 = .ok (.ireturn, 1) := by decide +kernel
theorem zd_221_68 : decode (zm_cc 221) 68 = .ok (.aload_n 0, 1) := by decide +kernel
theorem zd_221_69 : decode (zm_cc 221) 69 = .ok (.getfield 34, 3) := by decide +kernel
theorem zd_221_72 : decode (zm_cc 221) 72 = .ok (.invokevirtual 256, 3) := by decide +kernel
theorem zd_221_75 : decode (zm_cc 221) 75 = .ok (.ifCond .eq 7, 3) := by decide +kernel
theorem zd_221_78 : decode (zm_cc 221) 78 = .ok (.iconst 2, 1) := by decide +kernel
theorem zd_221_79 : decode (zm_cc 221) 79 = .ok (.goto 4, 3) := by decide +kernel
theorem zd_221_82 : decode (zm_cc 221) 82 = .ok (.iconst 3, 1) := by decide +kernel
theorem zd_221_83 : decode (zm_cc 221) 83 = .ok (.ireturn, 1) := by decide +kernel
theorem zd_222_0 : decode (zm_cc 222) 0 = .ok (.iconst 0, 1) := by decide +kernel
theorem zd_222_1 : decode (zm_cc 222) 1 = .ok (.istore_n 1, 1) := by decide +kernel
theorem zd_222_2 : decode (zm_cc 222) 2 = .ok (.iload_n 1, 1) := by decide +kernel
theorem zd_222_3 : decode (zm_cc 222) 3 = .ok (.aload_n 0, 1) := by decide +kernel
theorem zd_222_4 : decode (zm_cc 222) 4 = .ok (.getfield 27, 3) := by decide +kernel
theorem zd_222_7 : decode (zm_cc 222) 7 = .ok (.getfield 83, 3) := by decide +kernel
theorem zd_222_10 : decode (zm_cc 222) 10 = .ok (.if_icmp .ge 46, 3) := by decide +kernel
theorem zd_222_13 : decode (zm_cc 222) 13 = .ok (.aload_n 0, 1) := by decide +kernel
theorem zd_222_14 : decode (zm_cc 222) 14 = .ok (.iload_n 1, 1) := by decide +kernel
theorem zd_222_15 : decode (zm_cc 222) 15 = .ok (.invokevirtual 149, 3) := by decide +kernel
theorem zd_222_18 : decode (zm_cc 222) 18 = .ok (.istore_n 2, 1) := by decide +kernel
theorem zd_222_19 : decode (zm_cc 222) 19 = .ok (.iconst 0, 1) := by decide +kernel
theorem zd_222_20 : decode (zm_cc 222) 20 = .ok (.istore_n 3, 1) := by decide +kernel
theorem zd_222_21 : decode (zm_cc 222) 21 = .ok (.iload_n 3, 1) := by decide +kernel
theorem zd_222_22 : decode (zm_cc 222) 22 = .ok (.iconst 4, 1) := by decide +kernel
theorem zd_222_23 : decode (zm_cc 222) 23 = .ok (.if_icmp .ge 27, 3) := by decide +kernel
theorem zd_222_26 : decode (zm_cc 222) 26 = .ok (.iload_n 2, 1) := by decide +kernel
theorem zd_222_27 : decode (zm_cc 222) 27 = .ok (.iconst (-1), 1) := by decide +kernel
theorem zd_222_28 : decode (zm_cc 222) 28 = .ok (.if_icmp .eq 22, 3) := by decide +kernel
theorem zd_222_31 : decode (zm_cc 222) 31 = .ok (.iload_n 2, 1) := by decide +kernel
theorem zd_222_32 : decode (zm_cc 222) 32 = .ok (.iload_n 1, 1) := by decide +kernel
theorem zd_222_33 : decode (zm_cc 222) 33 = .ok (.if_icmp .ne 5, 3) := by decide +kernel
theorem zd_222_36 : decode (zm_cc 222) 36 = .ok (.iconst 1, 1) := by decide +kernel
theorem zd_222_37 : decode (zm_cc 222) 37 = .ok (.ireturn, 1) := by decide +kernel
theorem zd_222_38 : decode (zm_cc 222) 38 = .ok (.aload_n 0, 1) := by decide +kernel
theorem zd_222_39 : decode (zm_cc 222) 39 = .ok (.iload_n 2, 1) := by decide +kernel
theorem zd_222_40 : decode (zm_cc 222) 40 = .ok (.invokevirtual 149, 3) := by decide +kernel
theorem zd_222_43 : decode (zm_cc 222) 43 = .ok (.istore_n 2, 1) := by decide +kernel
theorem zd_222_44 : decode (zm_cc 222) 44 = .ok (.iinc 3 1, 3) := by decide +kernel
theorem zd_222_47 : decode (zm_cc 222) 47 = .ok (.goto (-26), 3) := by decide +kernel
theorem zd_222_50 : decode (zm_cc 222) 50 = .ok (.iinc 1 1, 3) := by decide +kernel
theorem zd_222_53 : decode (zm_cc 222) 53 = .ok (.goto (-51), 3) := by decide +kernel
theorem zd_222_56 : decode (zm_cc 222) 56 = .ok (.iconst 0, 1) := by decide +kernel
theorem zd_222_57 : decode (zm_cc 222) 57 = .ok (.ireturn, 1) := by decide +kernel
theorem zd_223_0 : decode (zm_cc 223) 0 = .ok (.aload_n 0, 1) := by decide +kernel
theorem zd_223_1 : decode (zm_cc 223) 1 = .ok (.iload_n 1, 1) := by decide +kernel
theorem zd_223_2 : decode (zm_cc 223) 2 = .ok (.invokevirtual 63, 3) := by decide +kernel
theorem zd_223_5 : decode (zm_cc 223) 5 = .ok (.istore_n 2, 1) := by decide +kernel
theorem zd_223_6 : decode (zm_cc 223) 6 = .ok (.aload_n 0, 1) := by decide +kernel
theorem zd_223_7 : decode (zm_cc 223) 7 = .ok (.iload_n 1, 1) := by decide +kernel
theorem zd_223_8 : decode (zm_cc 223) 8 = .ok (.invokevirtual 65, 3) := by decide +kernel
theorem zd_223_11 : decode (zm_cc 223) 11 = .ok (.iconst 1, 1) := by decide +kernel
theorem zd_223_12 : decode (zm_cc 223) 12 = .ok (.if_icmp .ne 16, 3) := by decide +kernel
theorem zd_223_15 : decode (zm_cc 223) 15 = .ok (.aload_n 0, 1) := by decide +kernel
theorem zd_223_16 : decode (zm_cc 223) 16 = .ok (.getfield 27, 3) := by decide +kernel
theorem zd_223_19 : decode (zm_cc 223) 19 = .ok (.getfield 80, 3) := by decide +kernel
theorem zd_223_22 : decode (zm_cc 223) 22 = .ok (.iload_n 2, 1) := by decide +kernel
theorem zd_223_23 : decode (zm_cc 223) 23 = .ok (.iaload, 1) := by decide +kernel
theorem zd_223_24 : decode (zm_cc 223) 24 = .ok (.iconst 3, 1) := by decide +kernel
theorem zd_223_25 : decode (zm_cc 223) 25 = .ok (.if_icmp .eq 5, 3) := by decide +kernel
theorem zd_223_28 : decode (zm_cc 223) 28 = .ok (.iconst (-1), 1) := by decide +kernel
theorem zd_223_29 : decode (zm_cc 223) 29 = .ok (.ireturn, 1) := by decide +kernel
theorem zd_223_30 : decode (zm_cc 223) 30 = .ok (.aload_n 0, 1) := by decide +kernel
theorem zd_223_31 : decode (zm_cc 223) 31 = .ok (.aload_n 0, 1) := by decide +kernel
theorem zd_223_32 : decode (zm_cc 223) 32 = .ok (.getfield 27, 3) := by decide +kernel
theorem zd_223_35 : decode (zm_cc 223) 35 = .ok (.getfield 71, 3) := by decide +kernel
theorem zd_223_38 : decode (zm_cc 223) 38 = .ok (.iload_n 2, 1) := by decide +kernel
theorem zd_223_39 : decode (zm_cc 223) 39 = .ok (.iaload, 1) := by decide +kernel
theorem zd_223_40 : decode (zm_cc 223) 40 = .ok (.invokevirtual 77, 3) := by decide +kernel
theorem zd_223_43 : decode (zm_cc 223) 43 = .ok (.istore_n 3, 1) := by decide +kernel
theorem zd_223_44 : decode (zm_cc 223) 44 = .ok (.iload_n 3, 1) := by decide +kernel
theorem zd_223_45 : decode (zm_cc 223) 45 = .ok (.iload_n 1, 1) := by decide +kernel
theorem zd_223_46 : decode (zm_cc 223) 46 = .ok (.if_icmp .ne 7, 3) := by decide +kernel
theorem zd_223_49 : decode (zm_cc 223) 49 = .ok (.iconst (-1), 1) := by decide +kernel
theorem zd_223_50 : decode (zm_cc 223) 50 = .ok (.goto 4, 3) := by decide +kernel
theorem zd_223_53 : decode (zm_cc 223) 53 = .ok (.iload_n 3, 1) := by decide +kernel
theorem zd_223_54 : decode (zm_cc 223) 54 = .ok (.ireturn, 1) := by decide +kernel
theorem zd_224_0 : decode (zm_cc 224) 0 = .ok (.iconst 0, 1) := by decide +kernel
theorem zd_224_1 : decode (zm_cc 224) 1 = .ok (.istore_n 1, 1) := by decide +kernel
theorem zd_224_2 : decode (zm_cc 224) 2 = .ok (.iload_n 1, 1) := by decide +kernel
theorem zd_224_3 : decode (zm_cc 224) 3 = .ok (.aload_n 0, 1) := by decide +kernel
theorem zd_224_4 : decode (zm_cc 224) 4 = .ok (.getfield 27, 3) := by decide +kernel
theorem zd_224_7 : decode (zm_cc 224) 7 = .ok (.getfield 83, 3) := by decide +kernel
theorem zd_224_10 : decode (zm_cc 224) 10 = .ok (.if_icmp .ge 28, 3) := by decide +kernel
theorem zd_224_13 : decode (zm_cc 224) 13 = .ok (.aload_n 0, 1) := by decide +kernel
theorem zd_224_14 : decode (zm_cc 224) 14 = .ok (.iload_n 1, 1) := by decide +kernel
theorem zd_224_15 : decode (zm_cc 224) 15 = .ok (.invokevirtual 146, 3) := by decide +kernel
theorem zd_224_18 : decode (zm_cc 224) 18 = .ok (.ifCond .ne 14, 3) := by decide +kernel
theorem zd_224_21 : decode (zm_cc 224) 21 = .ok (.aload_n 0, 1) := by decide +kernel
theorem zd_224_22 : decode (zm_cc 224) 22 = .ok (.iload_n 1, 1) := by decide +kernel
theorem zd_224_23 : decode (zm_cc 224) 23 = .ok (.invokevirtual 65, 3) := by decide +kernel
theorem zd_224_26 : decode (zm_cc 224) 26 = .ok (.iconst 2, 1) := by decide +kernel
theorem zd_224_27 : decode (zm_cc 224) 27 = .ok (.if_icmp .eq 5, 3) := by decide +kernel
theorem zd_224_30 : decode (zm_cc 224) 30 = .ok (.iconst 0, 1) := by decide +kernel
theorem zd_224_31 : decode (zm_cc 224) 31 = .ok (.ireturn, 1) := by decide +kernel
theorem zd_224_32 : decode (zm_cc 224) 32 = .ok (.iinc 1 1, 3) := by decide +kernel
theorem zd_224_35 : decode (zm_cc 224) 35 = .ok (.goto (-33), 3) := by decide +kernel
theorem zd_224_38 : decode (zm_cc 224) 38 = .ok (.iconst 1, 1) := by decide +kernel
theorem zd_224_39 : decode (zm_cc 224) 39 = .ok (.ireturn, 1) := by decide +kernel
theorem zd_225_0 : decode (zm_cc 225) 0 = .ok (.aload_n 0, 1) := by decide +kernel
theorem zd_225_1 : decode (zm_cc 225) 1 = .ok (.iconst 0, 1) := by decide +kernel
theorem zd_225_2 : decode (zm_cc 225) 2 = .ok (.putfield 1, 3) := by decide +kernel
theorem zd_225_5 : decode (zm_cc 225) 5 = .ok (.aload_n 0, 1) := by decide +kernel
theorem zd_225_6 : decode (zm_cc 225) 6 = .ok (.getfield 322, 3) := by decide +kernel
theorem zd_225_9 : decode (zm_cc 225) 9 = .ok (.ifCond .ne 6, 3) := by decide +kernel
theorem zd_225_12 : decode (zm_cc 225) 12 = .ok (.bipush (-101), 2) := by decide +kernel
theorem zd_225_14 : decode (zm_cc 225) 14 = .ok (.ireturn, 1) := by decide +kernel
theorem zd_225_15 : decode (zm_cc 225) 15 = .ok (.aload_n 0, 1) := by decide +kernel
theorem zd_225_16 : decode (zm_cc 225) 16 = .ok (.iload_n 1, 1) := by decide +kernel
theorem zd_225_17 : decode (zm_cc 225) 17 = .ok (.invokevirtual 440, 3) := by decide +kernel
theorem zd_225_20 : decode (zm_cc 225) 20 = .ok (.ifCond .eq 13, 3) := by decide +kernel
theorem zd_225_23 : decode (zm_cc 225) 23 = .ok (.aload_n 0, 1) := by decide +kernel
theorem zd_225_24 : decode (zm_cc 225) 24 = .ok (.getfield 107, 3) := by decide +kernel
theorem zd_225_27 : decode (zm_cc 225) 27 = .ok (.iload_n 1, 1) := by decide +kernel
theorem zd_225_28 : decode (zm_cc 225) 28 = .ok (.iaload, 1) := by decide +kernel
theorem zd_225_29 : decode (zm_cc 225) 29 = .ok (.iconst 2, 1) := by decide +kernel
theorem zd_225_30 : decode (zm_cc 225) 30 = .ok (.if_icmp .eq 6, 3) := by decide +kernel
theorem zd_225_33 : decode (zm_cc 225) 33 = .ok (.bipush (-102), 2) := by decide +kernel
theorem zd_225_35 : decode (zm_cc 225) 35 = .ok (.ireturn, 1) := by decide +kernel
theorem zd_225_36 : decode (zm_cc 225) 36 = .ok (.aload_n 0, 1) := by decide +kernel
theorem zd_225_37 : decode (zm_cc 225) 37 = .ok (.iload_n 1, 1) := by decide +kernel
theorem zd_225_38 : decode (zm_cc 225) 38 = .ok (.invokevirtual 401, 3) := by decide +kernel
theorem zd_225_41 : decode (zm_cc 225) 41 = .ok (.iconst 1, 1) := by decide +kernel
theorem zd_225_42 : decode (zm_cc 225) 42 = .ok (.istore_n 2, 1) := by decide +kernel
theorem zd_225_43 : decode (zm_cc 225) 43 = .ok (.iconst 0, 1) := by decide +kernel
theorem zd_225_44 : decode (zm_cc 225) 44 = .ok (.istore_n 3, 1) := by decide +kernel
theorem zd_225_45 : decode (zm_cc 225) 45 = .ok (.iload_n 3, 1) := by decide +kernel
theorem zd_225_46 : decode (zm_cc 225) 46 = .ok (.aload_n 0, 1) := by decide +kernel
theorem zd_225_47 : decode (zm_cc 225) 47 = .ok (.getfield 225, 3) := by decide +kernel
theorem zd_225_50 : decode (zm_cc 225) 50 = .ok (.if_icmp .ge 92, 3) := by decide +kernel
theorem zd_225_53 : decode (zm_cc 225) 53 = .ok (.iload_n 3, 1) := by decide +kernel
theorem zd_225_54 : decode (zm_cc 225) 54 = .ok (.istore 4, 2) := by decide +kernel
theorem zd_225_56 : decode (zm_cc 225) 56 = .ok (.iconst 0, 1) := by decide +kernel
theorem zd_225_57 : decode (zm_cc 225) 57 = .ok (.istore 5, 2) := by decide +kernel
theorem zd_225_59 : decode (zm_cc 225) 59 = .ok (.iload 5, 2) := by decide +kernel
theorem zd_225_61 : decode (zm_cc 225) 61 = .ok (.aload_n 0, 1) := by decide +kernel
theorem zd_225_62 : decode (zm_cc 225) 62 = .ok (.getfield 225, 3) := by decide +kernel
theorem zd_225_65 : decode (zm_cc 225) 65 = .ok (.if_icmp .ge 31, 3) := by decide +kernel
theorem zd_225_68 : decode (zm_cc 225) 68 = .ok (.iload 4, 2) := by decide +kernel
theorem zd_225_70 : decode (zm_cc 225) 70 = .ok (.iconst (-1), 1) := by decide +kernel
theorem zd_225_71 : decode (zm_cc 225) 71 = .ok (.if_icmp .eq 25, 3) := by decide +kernel
theorem zd_225_74 : decode (zm_cc 225) 74 = .ok (.aload_n 0, 1) := by decide +kernel
theorem zd_225_75 : decode (zm_cc 225) 75 = .ok (.iload 4, 2) := by decide +kernel
theorem zd_225_77 : decode (zm_cc 225) 77 = .ok (.invokevirtual 443, 3) := by decide +kernel
theorem zd_225_80 : decode (zm_cc 225) 80 = .ok (.istore 4, 2) := by decide +kernel
theorem zd_225_82 : decode (zm_cc 225) 82 = .ok (.iload 4, 2) := by decide +kernel
theorem zd_225_84 : decode (zm_cc 225) 84 = .ok (.iload_n 3, 1) := by decide +kernel
theorem zd_225_85 : decode (zm_cc 225) 85 = .ok (.if_icmp .ne 5, 3) := by decide +kernel
theorem zd_225_88 : decode (zm_cc 225) 88 = .ok (.iconst 1, 1) := by decide +kernel
theorem zd_225_89 : decode (zm_cc 225) 89 = .ok (.ireturn, 1) := by decide +kernel
theorem zd_225_90 : decode (zm_cc 225) 90 = .ok (.iinc 5 1, 3) := by decide +kernel
theorem zd_225_93 : decode (zm_cc 225) 93 = .ok (.goto (-34), 3) := by decide +kernel
theorem zd_225_96 : decode (zm_cc 225) 96 = .ok (.aload_n 0, 1) := by decide +kernel
theorem zd_225_97 : decode (zm_cc 225) 97 = .ok (.iload_n 3, 1) := by decide +kernel
theorem zd_225_98 : decode (zm_cc 225) 98 = .ok (.invokevirtual 357, 3) := by decide +kernel
theorem zd_225_101 : decode (zm_cc 225) 101 = .ok (.istore 5, 2) := by decide +kernel
theorem zd_225_103 : decode (zm_cc 225) 103 = .ok (.iload_n 2, 1) := by decide +kernel
theorem zd_225_104 : decode (zm_cc 225) 104 = .ok (.ifCond .eq 30, 3) := by decide +kernel
theorem zd_225_107 : decode (zm_cc 225) 107 = .ok (.iload 5, 2) := by decide +kernel
theorem zd_225_109 : decode (zm_cc 225) 109 = .ok (.iconst 4, 1) := by decide +kernel
theorem zd_225_110 : decode (zm_cc 225) 110 = .ok (.if_icmp .eq 20, 3) := by decide +kernel
theorem zd_225_113 : decode (zm_cc 225) 113 = .ok (.iload 5, 2) := by decide +kernel
theorem zd_225_115 : decode (zm_cc 225) 115 = .ok (.iconst 5, 1) := by decide +kernel
theorem zd_225_116 : decode (zm_cc 225) 116 = .ok (.if_icmp .eq 14, 3) := by decide +kernel
theorem zd_225_119 : decode (zm_cc 225) 119 = .ok (.iload 5, 2) := by decide +kernel
theorem zd_225_121 : decode (zm_cc 225) 121 = .ok (.ifCond .eq 9, 3) := by decide +kernel
theorem zd_225_124 : decode (zm_cc 225) 124 = .ok (.iload 5, 2) := by decide +kernel
theorem zd_225_126 : decode (zm_cc 225) 126 = .ok (.iconst 2, 1) := by decide +kernel
theorem zd_225_127 : decode (zm_cc 225) 127 = .ok (.if_icmp .ne 7, 3) := by decide +kernel
theorem zd_225_130 : decode (zm_cc 225) 130 = .ok (.iconst 1, 1) := by decide +kernel
theorem zd_225_131 : decode (zm_cc 225) 131 = .ok (.goto 4, 3) := by decide +kernel
theorem zd_225_134 : decode (zm_cc 225) 134 = .ok (.iconst 0, 1) := by decide +kernel
theorem zd_225_135 : decode (zm_cc 225) 135 = .ok (.istore_n 2, 1) := by decide +kernel
theorem zd_225_136 : decode (zm_cc 225) 136 = .ok (.iinc 3 1, 3) := by decide +kernel
theorem zd_225_139 : decode (zm_cc 225) 139 = .ok (.goto (-94), 3) := by decide +kernel
theorem zd_225_142 : decode (zm_cc 225) 142 = .ok (.iload_n 2, 1) := by decide +kernel
theorem zd_225_143 : decode (zm_cc 225) 143 = .ok (.ifCond .eq 7, 3) := by decide +kernel
theorem zd_225_146 : decode (zm_cc 225) 146 = .ok (.iconst 2, 1) := by decide +kernel
theorem zd_225_147 : decode (zm_cc 225) 147 = .ok (.goto 4, 3) := by decide +kernel
theorem zd_225_150 : decode (zm_cc 225) 150 = .ok (.iconst 3, 1) := by decide +kernel
theorem zd_225_151 : decode (zm_cc 225) 151 = .ok (.ireturn, 1) := by decide +kernel
theorem zd_226_0 : decode (zm_cc 226) 0 = .ok (.bipush 24, 2) := by decide +kernel
theorem zd_226_2 : decode (zm_cc 226) 2 = .ok (.iload_n 1, 1) := by decide +kernel
theorem zd_226_3 : decode (zm_cc 226) 3 = .ok (.imul, 1) := by decide +kernel
theorem zd_226_4 : decode (zm_cc 226) 4 = .ok (.aload_n 0, 1) := by decide +kernel
theorem zd_226_5 : decode (zm_cc 226) 5 = .ok (.getfield 88, 3) := by decide +kernel
theorem zd_226_8 : decode (zm_cc 226) 8 = .ok (.aload_n 0, 1) := by decide +kernel
theorem zd_226_9 : decode (zm_cc 226) 9 = .ok (.iload_n 1, 1) := by decide +kernel
theorem zd_226_10 : decode (zm_cc 226) 10 = .ok (.invokevirtual 348, 3) := by decide +kernel
theorem zd_226_13 : decode (zm_cc 226) 13 = .ok (.iaload, 1) := by decide +kernel
theorem zd_226_14 : decode (zm_cc 226) 14 = .ok (.iadd, 1) := by decide +kernel
theorem zd_226_15 : decode (zm_cc 226) 15 = .ok (.istore_n 2, 1) := by decide +kernel
theorem zd_226_16 : decode (zm_cc 226) 16 = .ok (.aload_n 0, 1) := by decide +kernel
theorem zd_226_17 : decode (zm_cc 226) 17 = .ok (.iload_n 1, 1) := by decide +kernel
theorem zd_226_18 : decode (zm_cc 226) 18 = .ok (.invokevirtual 357, 3) := by decide +kernel
theorem zd_226_21 : decode (zm_cc 226) 21 = .ok (.iconst 1, 1) := by decide +kernel
theorem zd_226_22 : decode (zm_cc 226) 22 = .ok (.if_icmp .ne 32, 3) := by decide +kernel
theorem zd_226_25 : decode (zm_cc 226) 25 = .ok (.aload_n 0, 1) := by decide +kernel
theorem zd_226_26 : decode (zm_cc 226) 26 = .ok (.getfield 43, 3) := by decide +kernel
theorem zd_226_29 : decode (zm_cc 226) 29 = .ok (.iload_n 2, 1) := by decide +kernel
theorem zd_226_30 : decode (zm_cc 226) 30 = .ok (.iaload, 1) := by decide +kernel
theorem zd_226_31 : decode (zm_cc 226) 31 = .ok (.iconst 3, 1) := by decide +kernel
theorem zd_226_32 : decode (zm_cc 226) 32 = .ok (.if_icmp .ne 22, 3) := by decide +kernel
theorem zd_226_35 : decode (zm_cc 226) 35 = .ok (.aload_n 0, 1) := by decide +kernel
theorem zd_226_36 : decode (zm_cc 226) 36 = .ok (.getfield 88, 3) := by decide +kernel
theorem zd_226_39 : decode (zm_cc 226) 39 = .ok (.bipush 6, 2) := by decide +kernel
theorem zd_226_41 : decode (zm_cc 226) 41 = .ok (.aload_n 0, 1) := by decide +kernel
theorem zd_226_42 : decode (zm_cc 226) 42 = .ok (.getfield 46, 3) := by decide +kernel
theorem zd_226_45 : decode (zm_cc 226) 45 = .ok (.iload_n 2, 1) := by decide +kernel
theorem zd_226_46 : decode (zm_cc 226) 46 = .ok (.iaload, 1) := by decide +kernel
theorem zd_226_47 : decode (zm_cc 226) 47 = .ok (.iadd, 1) := by decide +kernel
theorem zd_226_48 : decode (zm_cc 226) 48 = .ok (.iaload, 1) := by decide +kernel
theorem zd_226_49 : decode (zm_cc 226) 49 = .ok (.iconst 1, 1) := by decide +kernel
theorem zd_226_50 : decode (zm_cc 226) 50 = .ok (.isub, 1) := by decide +kernel
theorem zd_226_51 : decode (zm_cc 226) 51 = .ok (.goto 4, 3) := by decide +kernel
theorem zd_226_54 : decode (zm_cc 226) 54 = .ok (.iconst (-1), 1) := by decide +kernel
theorem zd_226_55 : decode (zm_cc 226) 55 = .ok (.ireturn, 1) := by decide +kernel
theorem zd_227_0 : decode (zm_cc 227) 0 = .ok (.aload_n 0, 1) := by decide +kernel
theorem zd_227_1 : decode (zm_cc 227) 1 = .ok (.getfield 117, 3) := by decide +kernel
theorem zd_227_4 : decode (zm_cc 227) 4 = .ok (.ifCond .ne 6, 3) := by decide +kernel
theorem zd_227_7 : decode (zm_cc 227) 7 = .ok (.bipush (-101), 2) := by decide +kernel
theorem zd_227_9 : decode (zm_cc 227) 9 = .ok (.ireturn, 1) := by decide +kernel
theorem zd_227_10 : decode (zm_cc 227) 10 = .ok (.iload_n 1, 1) := by decide +kernel
theorem zd_227_11 : decode (zm_cc 227) 11 = .ok (.ifCond .lt 20, 3) := by decide +kernel
theorem zd_227_14 : decode (zm_cc 227) 14 = .ok (.iload_n 1, 1) := by decide +kernel
theorem zd_227_15 : decode (zm_cc 227) 15 = .ok (.aload_n 0, 1) := by decide +kernel
theorem zd_227_16 : decode (zm_cc 227) 16 = .ok (.getfield 16, 3) := by decide +kernel
theorem zd_227_19 : decode (zm_cc 227) 19 = .ok (.getfield 144, 3) := by decide +kernel
theorem zd_227_22 : decode (zm_cc 227) 22 = .ok (.if_icmp .ge 9, 3) := by decide +kernel
theorem zd_227_25 : decode (zm_cc 227) 25 = .ok (.iload_n 1, 1) := by decide +kernel
theorem zd_227_26 : decode (zm_cc 227) 26 = .ok (.bipush 6, 2) := by decide +kernel
theorem zd_227_28 : decode (zm_cc 227) 28 = .ok (.if_icmp .lt 6, 3) := by decide +kernel
theorem zd_227_31 : decode (zm_cc 227) 31 = .ok (.bipush (-102), 2) := by decide +kernel
theorem zd_227_33 : decode (zm_cc 227) 33 = .ok (.ireturn, 1) := by decide +kernel
theorem zd_227_34 : decode (zm_cc 227) 34 = .ok (.aload_n 0, 1) := by decide +kernel
theorem zd_227_35 : decode (zm_cc 227) 35 = .ok (.getfield 66, 3) := by decide +kernel
theorem zd_227_38 : decode (zm_cc 227) 38 = .ok (.iload_n 1, 1) := by decide +kernel
theorem zd_227_39 : decode (zm_cc 227) 39 = .ok (.iaload, 1) := by decide +kernel
theorem zd_227_40 : decode (zm_cc 227) 40 = .ok (.iconst (-1), 1) := by decide +kernel
theorem zd_227_41 : decode (zm_cc 227) 41 = .ok (.if_icmp .ne 61, 3) := by decide +kernel
theorem zd_227_44 : decode (zm_cc 227) 44 = .ok (.aload_n 0, 1) := by decide +kernel
theorem zd_227_45 : decode (zm_cc 227) 45 = .ok (.getfield 66, 3) := by decide +kernel
theorem zd_227_48 : decode (zm_cc 227) 48 = .ok (.iload_n 1, 1) := by decide +kernel
theorem zd_227_49 : decode (zm_cc 227) 49 = .ok (.bipush (-103), 2) := by decide +kernel
theorem zd_227_51 : decode (zm_cc 227) 51 = .ok (.iastore, 1) := by decide +kernel
theorem zd_227_52 : decode (zm_cc 227) 52 = .ok (.aload_n 0, 1) := by decide +kernel
theorem zd_227_53 : decode (zm_cc 227) 53 = .ok (.getfield 54, 3) := by decide +kernel
theorem zd_227_56 : decode (zm_cc 227) 56 = .ok (.iload_n 1, 1) := by decide +kernel
theorem zd_227_57 : decode (zm_cc 227) 57 = .ok (.invokevirtual 169, 3) := by decide +kernel
theorem zd_227_60 : decode (zm_cc 227) 60 = .ok (.ifCond .eq 42, 3) := by decide +kernel
theorem zd_227_63 : decode (zm_cc 227) 63 = .ok (.aload_n 0, 1) := by decide +kernel
theorem zd_227_64 : decode (zm_cc 227) 64 = .ok (.getfield 62, 3) := by decide +kernel
theorem zd_227_67 : decode (zm_cc 227) 67 = .ok (.aload_n 0, 1) := by decide +kernel
theorem zd_227_68 : decode (zm_cc 227) 68 = .ok (.getfield 54, 3) := by decide +kernel
theorem zd_227_71 : decode (zm_cc 227) 71 = .ok (.invokevirtual 259, 3) := by decide +kernel
theorem zd_227_74 : decode (zm_cc 227) 74 = .ok (.aload_n 0, 1) := by decide +kernel
theorem zd_227_75 : decode (zm_cc 227) 75 = .ok (.getfield 66, 3) := by decide +kernel
theorem zd_227_78 : decode (zm_cc 227) 78 = .ok (.iload_n 1, 1) := by decide +kernel
theorem zd_227_79 : decode (zm_cc 227) 79 = .ok (.aload_n 0, 1) := by decide +kernel
theorem zd_227_80 : decode (zm_cc 227) 80 = .ok (.getfield 62, 3) := by decide +kernel
theorem zd_227_83 : decode (zm_cc 227) 83 = .ok (.aload_n 0, 1) := by decide +kernel
theorem zd_227_84 : decode (zm_cc 227) 84 = .ok (.getfield 50, 3) := by decide +kernel
theorem zd_227_87 : decode (zm_cc 227) 87 = .ok (.getfield 193, 3) := by decide +kernel
theorem zd_227_90 : decode (zm_cc 227) 90 = .ok (.invokevirtual 260, 3) := by decide +kernel
theorem zd_227_93 : decode (zm_cc 227) 93 = .ok (.ifCond .eq 7, 3) := by decide +kernel
theorem zd_227_96 : decode (zm_cc 227) 96 = .ok (.iconst 1, 1) := by decide +kernel
theorem zd_227_97 : decode (zm_cc 227) 97 = .ok (.goto 4, 3) := by decide +kernel
theorem zd_227_100 : decode (zm_cc 227) 100 = .ok (.iconst 0, 1) := by decide +kernel
theorem zd_227_101 : decode (zm_cc 227) 101 = .ok (.iastore, 1) := by decide +kernel
theorem zd_227_102 : decode (zm_cc 227) 102 = .ok (.aload_n 0, 1) := by decide +kernel
theorem zd_227_103 : decode (zm_cc 227) 103 = .ok (.getfield 66, 3) := by decide +kernel
theorem zd_227_106 : decode (zm_cc 227) 106 = .ok (.iload_n 1, 1) := by decide +kernel
theorem zd_227_107 : decode (zm_cc 227) 107 = .ok (.iaload, 1) := by decide +kernel
theorem zd_227_108 : decode (zm_cc 227) 108 = .ok (.ireturn, 1) := by decide +kernel
theorem zd_228_0 : decode (zm_cc 228) 0 = .ok (.aload_n 0, 1) := by decide +kernel
theorem zd_228_1 : decode (zm_cc 228) 1 = .ok (.getfield 14, 3) := by decide +kernel
theorem zd_228_4 : decode (zm_cc 228) 4 = .ok (.getfield 70, 3) := by decide +kernel
theorem zd_228_7 : decode (zm_cc 228) 7 = .ok (.aload_n 1, 1) := by decide +kernel
theorem zd_228_8 : decode (zm_cc 228) 8 = .ok (.getfield 14, 3) := by decide +kernel
theorem zd_228_11 : decode (zm_cc 228) 11 = .ok (.getfield 70, 3) := by decide +kernel
theorem zd_228_14 : decode (zm_cc 228) 14 = .ok (.if_icmp .eq 5, 3) := by decide +kernel
theorem zd_228_17 : decode (zm_cc 228) 17 = .ok (.iconst 0, 1) := by decide +kernel
theorem zd_228_18 : decode (zm_cc 228) 18 = .ok (.ireturn, 1) := by decide +kernel
theorem zd_228_19 : decode (zm_cc 228) 19 = .ok (.iconst 0, 1) := by decide +kernel
theorem zd_228_20 : decode (zm_cc 228) 20 = .ok (.istore_n 2, 1) := by decide +kernel
theorem zd_228_21 : decode (zm_cc 228) 21 = .ok (.iload_n 2, 1) := by decide +kernel
theorem zd_228_22 : decode (zm_cc 228) 22 = .ok (.aload_n 1, 1) := by decide +kernel
theorem zd_228_23 : decode (zm_cc 228) 23 = .ok (.getfield 14, 3) := by decide +kernel
theorem zd_228_26 : decode (zm_cc 228) 26 = .ok (.getfield 70, 3) := by decide +kernel
theorem zd_228_29 : decode (zm_cc 228) 29 = .ok (.if_icmp .ge 31, 3) := by decide +kernel
theorem zd_228_32 : decode (zm_cc 228) 32 = .ok (.aload_n 0, 1) := by decide +kernel
theorem zd_228_33 : decode (zm_cc 228) 33 = .ok (.getfield 23, 3) := by decide +kernel
theorem zd_228_36 : decode (zm_cc 228) 36 = .ok (.aload_n 0, 1) := by decide +kernel
theorem zd_228_37 : decode (zm_cc 228) 37 = .ok (.aload_n 1, 1) := by decide +kernel
theorem zd_228_38 : decode (zm_cc 228) 38 = .ok (.getfield 14, 3) := by decide +kernel
theorem zd_228_41 : decode (zm_cc 228) 41 = .ok (.iload_n 2, 1) := by decide +kernel
theorem zd_228_42 : decode (zm_cc 228) 42 = .ok (.invokevirtual 72, 3) := by decide +kernel
theorem zd_228_45 : decode (zm_cc 228) 45 = .ok (.invokevirtual 63, 3) := by decide +kernel
theorem zd_228_48 : decode (zm_cc 228) 48 = .ok (.iaload, 1) := by decide +kernel
theorem zd_228_49 : decode (zm_cc 228) 49 = .ok (.ifCond .ne 5, 3) := by decide +kernel
theorem zd_228_52 : decode (zm_cc 228) 52 = .ok (.iconst 0, 1) := by decide +kernel
theorem zd_228_53 : decode (zm_cc 228) 53 = .ok (.ireturn, 1) := by decide +kernel
theorem zd_228_54 : decode (zm_cc 228) 54 = .ok (.iinc 2 1, 3) := by decide +kernel
theorem zd_228_57 : decode (zm_cc 228) 57 = .ok (.goto (-36), 3) := by decide +kernel
theorem zd_228_60 : decode (zm_cc 228) 60 = .ok (.iconst 1, 1) := by decide +kernel
theorem zd_228_61 : decode (zm_cc 228) 61 = .ok (.ireturn, 1) := by decide +kernel
theorem zd_229_0 : decode (zm_cc 229) 0 = .ok (.aload_n 0, 1) := by decide +kernel
theorem zd_229_1 : decode (zm_cc 229) 1 = .ok (.iconst 0, 1) := by decide +kernel
theorem zd_229_2 : decode (zm_cc 229) 2 = .ok (.putfield 1, 3) := by decide +kernel
theorem zd_229_5 : decode (zm_cc 229) 5 = .ok (.aload_n 0, 1) := by decide +kernel
theorem zd_229_6 : decode (zm_cc 229) 6 = .ok (.getfield 322, 3) := by decide +kernel
theorem zd_229_9 : decode (zm_cc 229) 9 = .ok (.ifCond .ne 6, 3) := by decide +kernel
theorem zd_229_12 : decode (zm_cc 229) 12 = .ok (.bipush (-101), 2) := by decide +kernel
theorem zd_229_14 : decode (zm_cc 229) 14 = .ok (.ireturn, 1) := by decide +kernel
theorem zd_229_15 : decode (zm_cc 229) 15 = .ok (.iload_n 1, 1) := by decide +kernel
theorem zd_229_16 : decode (zm_cc 229) 16 = .ok (.iconst 0, 1) := by decide +kernel
theorem zd_229_17 : decode (zm_cc 229) 17 = .ok (.aload_n 0, 1) := by decide +kernel
theorem zd_229_18 : decode (zm_cc 229) 18 = .ok (.getfield 303, 3) := by decide +kernel
theorem zd_229_21 : decode (zm_cc 229) 21 = .ok (.iconst 1, 1) := by decide +kernel
theorem zd_229_22 : decode (zm_cc 229) 22 = .ok (.isub, 1) := by decide +kernel
theorem zd_229_23 : decode (zm_cc 229) 23 = .ok (.invokestatic 128, 3) := by decide +kernel
theorem zd_229_26 : decode (zm_cc 229) 26 = .ok (.ifCond .ne 6, 3) := by decide +kernel
theorem zd_229_29 : decode (zm_cc 229) 29 = .ok (.bipush (-102), 2) := by decide +kernel
theorem zd_229_31 : decode (zm_cc 229) 31 = .ok (.ireturn, 1) := by decide +kernel
theorem zd_229_32 : decode (zm_cc 229) 32 = .ok (.aload_n 0, 1) := by decide +kernel
theorem zd_229_33 : decode (zm_cc 229) 33 = .ok (.getfield 40, 3) := by decide +kernel
theorem zd_229_36 : decode (zm_cc 229) 36 = .ok (.iload_n 1, 1) := by decide +kernel
theorem zd_229_37 : decode (zm_cc 229) 37 = .ok (.iaload, 1) := by decide +kernel
theorem zd_229_38 : decode (zm_cc 229) 38 = .ok (.istore_n 2, 1) := by decide +kernel
theorem zd_229_39 : decode (zm_cc 229) 39 = .ok (.aload_n 0, 1) := by decide +kernel
theorem zd_229_40 : decode (zm_cc 229) 40 = .ok (.sipush 4000, 3) := by decide +kernel
theorem zd_229_43 : decode (zm_cc 229) 43 = .ok (.invokevirtual 389, 3) := by decide +kernel
theorem zd_229_46 : decode (zm_cc 229) 46 = .ok (.aload_n 0, 1) := by decide +kernel
theorem zd_229_47 : decode (zm_cc 229) 47 = .ok (.invokevirtual 395, 3) := by decide +kernel
theorem zd_229_50 : decode (zm_cc 229) 50 = .ok (.aload_n 0, 1) := by decide +kernel
theorem zd_229_51 : decode (zm_cc 229) 51 = .ok (.invokevirtual 398, 3) := by decide +kernel
theorem zd_229_54 : decode (zm_cc 229) 54 = .ok (.istore_n 3, 1) := by decide +kernel
theorem zd_229_55 : decode (zm_cc 229) 55 = .ok (.iconst 0, 1) := by decide +kernel
theorem zd_229_56 : decode (zm_cc 229) 56 = .ok (.istore 4, 2) := by decide +kernel
theorem zd_229_58 : decode (zm_cc 229) 58 = .ok (.sipush 4000, 3) := by decide +kernel
theorem zd_229_61 : decode (zm_cc 229) 61 = .ok (.istore 5, 2) := by decide +kernel
theorem zd_229_63 : decode (zm_cc 229) 63 = .ok (.iload 5, 2) := by decide +kernel
theorem zd_229_65 : decode (zm_cc 229) 65 = .ok (.sipush 4000, 3) := by decide +kernel
theorem zd_229_68 : decode (zm_cc 229) 68 = .ok (.aload_n 0, 1) := by decide +kernel
theorem zd_229_69 : decode (zm_cc 229) 69 = .ok (.getfield 377, 3) := by decide +kernel
theorem zd_229_72 : decode (zm_cc 229) 72 = .ok (.iadd, 1) := by decide +kernel
theorem zd_229_73 : decode (zm_cc 229) 73 = .ok (.if_icmp .ge 304, 3) := by decide +kernel
theorem zd_229_76 : decode (zm_cc 229) 76 = .ok (.aload_n 0, 1) := by decide +kernel
theorem zd_229_77 : decode (zm_cc 229) 77 = .ok (.iload 5, 2) := by decide +kernel
theorem zd_229_79 : decode (zm_cc 229) 79 = .ok (.invokevirtual 401, 3) := by decide +kernel
theorem zd_229_82 : decode (zm_cc 229) 82 = .ok (.aload_n 0, 1) := by decide +kernel
theorem zd_229_83 : decode (zm_cc 229) 83 = .ok (.getfield 88, 3) := by decide +kernel
theorem zd_229_86 : decode (zm_cc 229) 86 = .ok (.bipush 38, 2) := by decide +kernel
theorem zd_229_88 : decode (zm_cc 229) 88 = .ok (.iaload, 1) := by decide +kernel
theorem zd_229_89 : decode (zm_cc 229) 89 = .ok (.iconst 1, 1) := by decide +kernel
theorem zd_229_90 : decode (zm_cc 229) 90 = .ok (.if_icmp .ne 48, 3) := by decide +kernel
theorem zd_229_93 : decode (zm_cc 229) 93 = .ok (.aload_n 0, 1) := by decide +kernel
theorem zd_229_94 : decode (zm_cc 229) 94 = .ok (.iload_n 2, 1) := by decide +kernel
theorem zd_229_95 : decode (zm_cc 229) 95 = .ok (.invokevirtual 357, 3) := by decide +kernel
theorem zd_229_98 : decode (zm_cc 229) 98 = .ok (.iconst 1, 1) := by decide +kernel
theorem zd_229_99 : decode (zm_cc 229) 99 = .ok (.if_icmp .ne 39, 3) := by decide +kernel
theorem zd_229_102 : decode (zm_cc 229) 102 = .ok (.aload_n 0, 1) := by decide +kernel
theorem zd_229_103 : decode (zm_cc 229) 103 = .ok (.getfield 58, 3) := by decide +kernel
theorem zd_229_106 : decode (zm_cc 229) 106 = .ok (.bipush 24, 2) := by decide +kernel
theorem zd_229_108 : decode (zm_cc 229) 108 = .ok (.iload_n 2, 1) := by decide +kernel
theorem zd_229_109 : decode (zm_cc 229) 109 = .ok (.imul, 1) := by decide +kernel
theorem zd_229_110 : decode (zm_cc 229) 110 = .ok (.aload_n 0, 1) := by decide +kernel
theorem zd_229_111 : decode (zm_cc 229) 111 = .ok (.getfield 88, 3) := by decide +kernel
theorem zd_229_114 : decode (zm_cc 229) 114 = .ok (.aload_n 0, 1) := by decide +kernel
theorem zd_229_115 : decode (zm_cc 229) 115 = .ok (.iload_n 2, 1) := by decide +kernel
theorem zd_229_116 : decode (zm_cc 229) 116 = .ok (.invokevirtual 348, 3) := by decide +kernel
theorem zd_229_119 : decode (zm_cc 229) 119 = .ok (.iaload, 1) := by decide +kernel
theorem zd_229_120 : decode (zm_cc 229) 120 = .ok (.iadd, 1) := by decide +kernel
theorem zd_229_121 : decode (zm_cc 229) 121 = .ok (.iaload, 1) := by decide +kernel
theorem zd_229_122 : decode (zm_cc 229) 122 = .ok (.iload_n 1, 1) := by decide +kernel
theorem zd_229_123 : decode (zm_cc 229) 123 = .ok (.if_icmp .ne 15, 3) := by decide +kernel
theorem zd_229_126 : decode (zm_cc 229) 126 = .ok (.aload_n 0, 1) := by decide +kernel
theorem zd_229_127 : decode (zm_cc 229) 127 = .ok (.iload_n 2, 1) := by decide +kernel
theorem zd_229_128 : decode (zm_cc 229) 128 = .ok (.invokevirtual 407, 3) := by decide +kernel
theorem zd_229_131 : decode (zm_cc 229) 131 = .ok (.ifCond .eq 7, 3) := by decide +kernel
theorem zd_229_134 : decode (zm_cc 229) 134 = .ok (.iconst 1, 1) := by decide +kernel
theorem zd_229_135 : decode (zm_cc 229) 135 = .ok (.goto 4, 3) := by decide +kernel
theorem zd_229_138 : decode (zm_cc 229) 138 = .ok (.iconst 0, 1) := by decide +kernel
theorem zd_229_139 : decode (zm_cc 229) 139 = .ok (.istore 6, 2) := by decide +kernel
theorem zd_229_141 : decode (zm_cc 229) 141 = .ok (.iconst 1, 1) := by decide +kernel
theorem zd_229_142 : decode (zm_cc 229) 142 = .ok (.istore 7, 2) := by decide +kernel
theorem zd_229_144 : decode (zm_cc 229) 144 = .ok (.iconst 0, 1) := by decide +kernel
theorem zd_229_145 : decode (zm_cc 229) 145 = .ok (.istore 8, 2) := by decide +kernel
theorem zd_229_147 : decode (zm_cc 229) 147 = .ok (.iload 8, 2) := by decide +kernel
theorem zd_229_149 : decode (zm_cc 229) 149 = .ok (.aload_n 0, 1) := by decide +kernel
theorem zd_229_150 : decode (zm_cc 229) 150 = .ok (.getfield 225, 3) := by decide +kernel
theorem zd_229_153 : decode (zm_cc 229) 153 = .ok (.if_icmp .ge 149, 3) := by decide +kernel
theorem zd_229_156 : decode (zm_cc 229) 156 = .ok (.aload_n 0, 1) := by decide +kernel
theorem zd_229_157 : decode (zm_cc 229) 157 = .ok (.iload 5, 2) := by decide +kernel
theorem zd_229_159 : decode (zm_cc 229) 159 = .ok (.invokevirtual 401, 3) := by decide +kernel
theorem zd_229_162 : decode (zm_cc 229) 162 = .ok (.aload_n 0, 1) := by decide +kernel
theorem zd_229_163 : decode (zm_cc 229) 163 = .ok (.iload 8, 2) := by decide +kernel
theorem zd_229_165 : decode (zm_cc 229) 165 = .ok (.invokevirtual 407, 3) := by decide +kernel
theorem zd_229_168 : decode (zm_cc 229) 168 = .ok (.ifCond .eq 128, 3) := by decide +kernel
theorem zd_229_171 : decode (zm_cc 229) 171 = .ok (.iload 6, 2) := by decide +kernel
theorem zd_229_173 : decode (zm_cc 229) 173 = .ok (.ifCond .eq 9, 3) := by decide +kernel
theorem zd_229_176 : decode (zm_cc 229) 176 = .ok (.iload 8, 2) := by decide +kernel
theorem zd_229_178 : decode (zm_cc 229) 178 = .ok (.iload_n 2, 1) := by decide +kernel
theorem zd_229_179 : decode (zm_cc 229) 179 = .ok (.if_icmp .ne 117, 3) := by decide +kernel
theorem zd_229_182 : decode (zm_cc 229) 182 = .ok (.iconst 0, 1) := by decide +kernel
theorem zd_229_183 : decode (zm_cc 229) 183 = .ok (.istore 7, 2) := by decide +kernel
theorem zd_229_185 : decode (zm_cc 229) 185 = .ok (.bipush 24, 2) := by decide +kernel
theorem zd_229_187 : decode (zm_cc 229) 187 = .ok (.iload 8, 2) := by decide +kernel
theorem zd_229_189 : decode (zm_cc 229) 189 = .ok (.imul, 1) := by decide +kernel
theorem zd_229_190 : decode (zm_cc 229) 190 = .ok (.aload_n 0, 1) := by decide +kernel
theorem zd_229_191 : decode (zm_cc 229) 191 = .ok (.getfield 88, 3) := by decide +kernel
theorem zd_229_194 : decode (zm_cc 229) 194 = .ok (.aload_n 0, 1) := by decide +kernel
theorem zd_229_195 : decode (zm_cc 229) 195 = .ok (.iload 8, 2) := by decide +kernel
theorem zd_229_197 : decode (zm_cc 229) 197 = .ok (.invokevirtual 348, 3) := by decide +kernel
theorem zd_229_200 : decode (zm_cc 229) 200 = .ok (.iaload, 1) := by decide +kernel
theorem zd_229_201 : decode (zm_cc 229) 201 = .ok (.iadd, 1) := by decide +kernel
theorem zd_229_202 : decode (zm_cc 229) 202 = .ok (.istore 9, 2) := by decide +kernel
theorem zd_229_204 : decode (zm_cc 229) 204 = .ok (.aload_n 0, 1) := by decide +kernel
theorem zd_229_205 : decode (zm_cc 229) 205 = .ok (.iload 8, 2) := by decide +kernel
theorem zd_229_207 : decode (zm_cc 229) 207 = .ok (.invokevirtual 410, 3) := by decide +kernel
theorem zd_229_210 : decode (zm_cc 229) 210 = .ok (.aload_n 0, 1) := by decide +kernel
theorem zd_229_211 : decode (zm_cc 229) 211 = .ok (.getfield 88, 3) := by decide +kernel
theorem zd_229_214 : decode (zm_cc 229) 214 = .ok (.bipush 38, 2) := by decide +kernel
theorem zd_229_216 : decode (zm_cc 229) 216 = .ok (.iload 8, 2) := by decide +kernel
theorem zd_229_218 : decode (zm_cc 229) 218 = .ok (.iload_n 2, 1) := by decide +kernel
theorem zd_229_219 : decode (zm_cc 229) 219 = .ok (.if_icmp .ne 22, 3) := by decide +kernel
theorem zd_229_222 : decode (zm_cc 229) 222 = .ok (.aload_n 0, 1) := by decide +kernel
theorem zd_229_223 : decode (zm_cc 229) 223 = .ok (.getfield 58, 3) := by decide +kernel
theorem zd_229_226 : decode (zm_cc 229) 226 = .ok (.iload 9, 2) := by decide +kernel
theorem zd_229_228 : decode (zm_cc 229) 228 = .ok (.iaload, 1) := by decide +kernel
theorem zd_229_229 : decode (zm_cc 229) 229 = .ok (.iload_n 1, 1) := by decide +kernel
theorem zd_229_230 : decode (zm_cc 229) 230 = .ok (.if_icmp .ne 7, 3) := by decide +kernel
theorem zd_229_233 : decode (zm_cc 229) 233 = .ok (.iconst 1, 1) := by decide +kernel
theorem zd_229_234 : decode (zm_cc 229) 234 = .ok (.goto 14, 3) := by decide +kernel
theorem zd_229_237 : decode (zm_cc 229) 237 = .ok (.iconst 0, 1) := by decide +kernel
theorem zd_229_238 : decode (zm_cc 229) 238 = .ok (.goto 10, 3) := by decide +kernel
theorem zd_229_241 : decode (zm_cc 229) 241 = .ok (.aload_n 0, 1) := by decide +kernel
theorem zd_229_242 : decode (zm_cc 229) 242 = .ok (.getfield 88, 3) := by decide +kernel
theorem zd_229_245 : decode (zm_cc 229) 245 = .ok (.bipush 38, 2) := by decide +kernel
theorem zd_229_247 : decode (zm_cc 229) 247 = .ok (.iaload, 1) := by decide +kernel
theorem zd_229_248 : decode (zm_cc 229) 248 = .ok (.iastore, 1) := by decide +kernel
theorem zd_229_249 : decode (zm_cc 229) 249 = .ok (.aload_n 0, 1) := by decide +kernel
theorem zd_229_250 : decode (zm_cc 229) 250 = .ok (.getfield 88, 3) := by decide +kernel
theorem zd_229_253 : decode (zm_cc 229) 253 = .ok (.bipush 38, 2) := by decide +kernel
theorem zd_229_255 : decode (zm_cc 229) 255 = .ok (.aload_n 0, 1) := by decide +kernel
theorem zd_229_256 : decode (zm_cc 229) 256 = .ok (.iload_n 2, 1) := by decide +kernel
theorem zd_229_257 : decode (zm_cc 229) 257 = .ok (.invokevirtual 357, 3) := by decide +kernel
theorem zd_229_260 : decode (zm_cc 229) 260 = .ok (.iconst 4, 1) := by decide +kernel
theorem zd_229_261 : decode (zm_cc 229) 261 = .ok (.if_icmp .eq 12, 3) := by decide +kernel
theorem zd_229_264 : decode (zm_cc 229) 264 = .ok (.aload_n 0, 1) := by decide +kernel
theorem zd_229_265 : decode (zm_cc 229) 265 = .ok (.iload_n 2, 1) := by decide +kernel
theorem zd_229_266 : decode (zm_cc 229) 266 = .ok (.invokevirtual 357, 3) := by decide +kernel
theorem zd_229_269 : decode (zm_cc 229) 269 = .ok (.iconst 5, 1) := by decide +kernel
theorem zd_229_270 : decode (zm_cc 229) 270 = .ok (.if_icmp .ne 7, 3) := by decide +kernel
theorem zd_229_273 : decode (zm_cc 229) 273 = .ok (.iconst 0, 1) := by decide +kernel
theorem zd_229_274 : decode (zm_cc 229) 274 = .ok (.goto 10, 3) := by decide +kernel
theorem zd_229_277 : decode (zm_cc 229) 277 = .ok (.aload_n 0, 1) := by decide +kernel
theorem zd_229_278 : decode (zm_cc 229) 278 = .ok (.getfield 88, 3) := by decide +kernel
theorem zd_229_281 : decode (zm_cc 229) 281 = .ok (.bipush 38, 2) := by decide +kernel
theorem zd_229_283 : decode (zm_cc 229) 283 = .ok (.iaload, 1) := by decide +kernel
theorem zd_229_284 : decode (zm_cc 229) 284 = .ok (.iastore, 1) := by decide +kernel
theorem zd_229_285 : decode (zm_cc 229) 285 = .ok (.aload_n 0, 1) := by decide +kernel
theorem zd_229_286 : decode (zm_cc 229) 286 = .ok (.invokevirtual 398, 3) := by decide +kernel
theorem zd_229_289 : decode (zm_cc 229) 289 = .ok (.iconst (-1), 1) := by decide +kernel
theorem zd_229_290 : decode (zm_cc 229) 290 = .ok (.if_icmp .ne 6, 3) := by decide +kernel
theorem zd_229_293 : decode (zm_cc 229) 293 = .ok (.bipush (-103), 2) := by decide +kernel
theorem zd_229_295 : decode (zm_cc 229) 295 = .ok (.ireturn, 1) := by decide +kernel
theorem zd_229_296 : decode (zm_cc 229) 296 = .ok (.iinc 8 1, 3) := by decide +kernel
theorem zd_229_299 : decode (zm_cc 229) 299 = .ok (.goto (-152), 3) := by decide +kernel
theorem zd_229_302 : decode (zm_cc 229) 302 = .ok (.iload 7, 2) := by decide +kernel
theorem zd_229_304 : decode (zm_cc 229) 304 = .ok (.ifCond .eq 67, 3) := by decide +kernel
theorem zd_229_307 : decode (zm_cc 229) 307 = .ok (.iconst 1, 1) := by decide +kernel
theorem zd_229_308 : decode (zm_cc 229) 308 = .ok (.istore 8, 2) := by decide +kernel
theorem zd_229_310 : decode (zm_cc 229) 310 = .ok (.iconst 0, 1) := by decide +kernel
theorem zd_229_311 : decode (zm_cc 229) 311 = .ok (.istore 9, 2) := by decide +kernel
theorem zd_229_313 : decode (zm_cc 229) 313 = .ok (.iload 9, 2) := by decide +kernel
theorem zd_229_315 : decode (zm_cc 229) 315 = .ok (.iload 4, 2) := by decide +kernel
theorem zd_229_317 : decode (zm_cc 229) 317 = .ok (.if_icmp .ge 37, 3) := by decide +kernel
theorem zd_229_320 : decode (zm_cc 229) 320 = .ok (.iload 8, 2) := by decide +kernel
theorem zd_229_322 : decode (zm_cc 229) 322 = .ok (.ifCond .eq 32, 3) := by decide +kernel
theorem zd_229_325 : decode (zm_cc 229) 325 = .ok (.aload_n 0, 1) := by decide +kernel
theorem zd_229_326 : decode (zm_cc 229) 326 = .ok (.aload_n 0, 1) := by decide +kernel
theorem zd_229_327 : decode (zm_cc 229) 327 = .ok (.getfield 122, 3) := by decide +kernel
theorem zd_229_330 : decode (zm_cc 229) 330 = .ok (.iload 9, 2) := by decide +kernel
theorem zd_229_332 : decode (zm_cc 229) 332 = .ok (.iaload, 1) := by decide +kernel
theorem zd_229_333 : decode (zm_cc 229) 333 = .ok (.iload 5, 2) := by decide +kernel
theorem zd_229_335 : decode (zm_cc 229) 335 = .ok (.invokevirtual 416, 3) := by decide +kernel
theorem zd_229_338 : decode (zm_cc 229) 338 = .ok (.ifCond .ne 7, 3) := by decide +kernel
theorem zd_229_341 : decode (zm_cc 229) 341 = .ok (.iconst 1, 1) := by decide +kernel
theorem zd_229_342 : decode (zm_cc 229) 342 = .ok (.goto 4, 3) := by decide +kernel
theorem zd_229_345 : decode (zm_cc 229) 345 = .ok (.iconst 0, 1) := by decide +kernel
theorem zd_229_346 : decode (zm_cc 229) 346 = .ok (.istore 8, 2) := by decide +kernel
theorem zd_229_348 : decode (zm_cc 229) 348 = .ok (.iinc 9 1, 3) := by decide +kernel
theorem zd_229_351 : decode (zm_cc 229) 351 = .ok (.goto (-38), 3) := by decide +kernel
theorem zd_229_354 : decode (zm_cc 229) 354 = .ok (.iload 8, 2) := by decide +kernel
theorem zd_229_356 : decode (zm_cc 229) 356 = .ok (.ifCond .eq 15, 3) := by decide +kernel
theorem zd_229_359 : decode (zm_cc 229) 359 = .ok (.aload_n 0, 1) := by decide +kernel
theorem zd_229_360 : decode (zm_cc 229) 360 = .ok (.getfield 122, 3) := by decide +kernel
theorem zd_229_363 : decode (zm_cc 229) 363 = .ok (.iload 4, 2) := by decide +kernel
theorem zd_229_365 : decode (zm_cc 229) 365 = .ok (.iload 5, 2) := by decide +kernel
theorem zd_229_367 : decode (zm_cc 229) 367 = .ok (.iastore, 1) := by decide +kernel
theorem zd_229_368 : decode (zm_cc 229) 368 = .ok (.iinc 4 1, 3) := by decide +kernel
theorem zd_229_371 : decode (zm_cc 229) 371 = .ok (.iinc 5 1, 3) := by decide +kernel
theorem zd_229_374 : decode (zm_cc 229) 374 = .ok (.goto (-311), 3) := by decide +kernel
theorem zd_229_377 : decode (zm_cc 229) 377 = .ok (.iload 4, 2) := by decide +kernel
theorem zd_229_379 : decode (zm_cc 229) 379 = .ok (.aload_n 0, 1) := by decide +kernel
theorem zd_229_380 : decode (zm_cc 229) 380 = .ok (.getfield 392, 3) := by decide +kernel
theorem zd_229_383 : decode (zm_cc 229) 383 = .ok (.if_icmp .ne 7, 3) := by decide +kernel
theorem zd_229_386 : decode (zm_cc 229) 386 = .ok (.iconst 1, 1) := by decide +kernel
theorem zd_229_387 : decode (zm_cc 229) 387 = .ok (.goto 4, 3) := by decide +kernel
theorem zd_229_390 : decode (zm_cc 229) 390 = .ok (.iconst 0, 1) := by decide +kernel
theorem zd_229_391 : decode (zm_cc 229) 391 = .ok (.istore 5, 2) := by decide +kernel
theorem zd_229_393 : decode (zm_cc 229) 393 = .ok (.iconst 0, 1) := by decide +kernel
theorem zd_229_394 : decode (zm_cc 229) 394 = .ok (.istore 6, 2) := by decide +kernel
theorem zd_229_396 : decode (zm_cc 229) 396 = .ok (.iload 6, 2) := by decide +kernel
theorem zd_229_398 : decode (zm_cc 229) 398 = .ok (.iload 4, 2) := by decide +kernel
theorem zd_229_400 : decode (zm_cc 229) 400 = .ok (.if_icmp .ge 72, 3) := by decide +kernel
theorem zd_229_403 : decode (zm_cc 229) 403 = .ok (.iload 5, 2) := by decide +kernel
theorem zd_229_405 : decode (zm_cc 229) 405 = .ok (.ifCond .eq 67, 3) := by decide +kernel
theorem zd_229_408 : decode (zm_cc 229) 408 = .ok (.iconst 0, 1) := by decide +kernel
theorem zd_229_409 : decode (zm_cc 229) 409 = .ok (.istore 7, 2) := by decide +kernel
theorem zd_229_411 : decode (zm_cc 229) 411 = .ok (.iconst 0, 1) := by decide +kernel
theorem zd_229_412 : decode (zm_cc 229) 412 = .ok (.istore 8, 2) := by decide +kernel
theorem zd_229_414 : decode (zm_cc 229) 414 = .ok (.iload 8, 2) := by decide +kernel
theorem zd_229_416 : decode (zm_cc 229) 416 = .ok (.aload_n 0, 1) := by decide +kernel
theorem zd_229_417 : decode (zm_cc 229) 417 = .ok (.getfield 392, 3) := by decide +kernel
theorem zd_229_420 : decode (zm_cc 229) 420 = .ok (.if_icmp .ge 42, 3) := by decide +kernel
theorem zd_229_423 : decode (zm_cc 229) 423 = .ok (.iload 7, 2) := by decide +kernel
theorem zd_229_425 : decode (zm_cc 229) 425 = .ok (.ifCond .ne 24, 3) := by decide +kernel
theorem zd_229_428 : decode (zm_cc 229) 428 = .ok (.aload_n 0, 1) := by decide +kernel
theorem zd_229_429 : decode (zm_cc 229) 429 = .ok (.aload_n 0, 1) := by decide +kernel
theorem zd_229_430 : decode (zm_cc 229) 430 = .ok (.getfield 122, 3) := by decide +kernel
theorem zd_229_433 : decode (zm_cc 229) 433 = .ok (.iload 6, 2) := by decide +kernel
theorem zd_229_435 : decode (zm_cc 229) 435 = .ok (.iaload, 1) := by decide +kernel
theorem zd_229_436 : decode (zm_cc 229) 436 = .ok (.aload_n 0, 1) := by decide +kernel
theorem zd_229_437 : decode (zm_cc 229) 437 = .ok (.getfield 113, 3) := by decide +kernel
theorem zd_229_440 : decode (zm_cc 229) 440 = .ok (.iload 8, 2) := by decide +kernel
theorem zd_229_442 : decode (zm_cc 229) 442 = .ok (.iaload, 1) := by decide +kernel
theorem zd_229_443 : decode (zm_cc 229) 443 = .ok (.invokevirtual 416, 3) := by decide +kernel
theorem zd_229_446 : decode (zm_cc 229) 446 = .ok (.ifCond .eq 7, 3) := by decide +kernel
theorem zd_229_449 : decode (zm_cc 229) 449 = .ok (.iconst 1, 1) := by decide +kernel
theorem zd_229_450 : decode (zm_cc 229) 450 = .ok (.goto 4, 3) := by decide +kernel
theorem zd_229_453 : decode (zm_cc 229) 453 = .ok (.iconst 0, 1) := by decide +kernel
theorem zd_229_454 : decode (zm_cc 229) 454 = .ok (.istore 7, 2) := by decide +kernel
theorem zd_229_456 : decode (zm_cc 229) 456 = .ok (.iinc 8 1, 3) := by decide +kernel
theorem zd_229_459 : decode (zm_cc 229) 459 = .ok (.goto (-45), 3) := by decide +kernel
theorem zd_229_462 : decode (zm_cc 229) 462 = .ok (.iload 7, 2) := by decide +kernel
theorem zd_229_464 : decode (zm_cc 229) 464 = .ok (.istore 5, 2) := by decide +kernel
theorem zd_229_466 : decode (zm_cc 229) 466 = .ok (.iinc 6 1, 3) := by decide +kernel
theorem zd_229_469 : decode (zm_cc 229) 469 = .ok (.goto (-73), 3) := by decide +kernel
theorem zd_229_472 : decode (zm_cc 229) 472 = .ok (.iload 5, 2) := by decide +kernel
theorem zd_229_474 : decode (zm_cc 229) 474 = .ok (.ifCond .eq 7, 3) := by decide +kernel
theorem zd_229_477 : decode (zm_cc 229) 477 = .ok (.iconst 1, 1) := by decide +kernel
theorem zd_229_478 : decode (zm_cc 229) 478 = .ok (.goto 4, 3) := by decide +kernel
theorem zd_229_481 : decode (zm_cc 229) 481 = .ok (.iconst 0, 1) := by decide +kernel
theorem zd_229_482 : decode (zm_cc 229) 482 = .ok (.ireturn, 1) := by decide +kernel
theorem zd_230_0 : decode (zm_cc 230) 0 = .ok (.aload_n 0, 1) := by decide +kernel
theorem zd_230_1 : decode (zm_cc 230) 1 = .ok (.getfield 110, 3) := by decide +kernel
theorem zd_230_4 : decode (zm_cc 230) 4 = .ok (.ifCond .ne 6, 3) := by decide +kernel
theorem zd_230_7 : decode (zm_cc 230) 7 = .ok (.bipush (-101), 2) := by decide +kernel
theorem zd_230_9 : decode (zm_cc 230) 9 = .ok (.ireturn, 1) := by decide +kernel
theorem zd_230_10 : decode (zm_cc 230) 10 = .ok (.aload_n 0, 1) := by decide +kernel
theorem zd_230_11 : decode (zm_cc 230) 11 = .ok (.getfield 73, 3) := by decide +kernel
theorem zd_230_14 : decode (zm_cc 230) 14 = .ok (.invokevirtual 264, 3) := by decide +kernel
theorem zd_230_17 : decode (zm_cc 230) 17 = .ok (.aload_n 0, 1) := by decide +kernel
theorem zd_230_18 : decode (zm_cc 230) 18 = .ok (.getfield 73, 3) := by decide +kernel
theorem zd_230_21 : decode (zm_cc 230) 21 = .ok (.getfield 267, 3) := by decide +kernel
theorem zd_230_24 : decode (zm_cc 230) 24 = .ok (.getfield 184, 3) := by decide +kernel
theorem zd_230_27 : decode (zm_cc 230) 27 = .ok (.ireturn, 1) := by decide +kernel
theorem zd_231_0 : decode (zm_cc 231) 0 = .ok (.aload_n 0, 1) := by decide +kernel
theorem zd_231_1 : decode (zm_cc 231) 1 = .ok (.getfield 31, 3) := by decide +kernel
theorem zd_231_4 : decode (zm_cc 231) 4 = .ok (.ifCond .ne 50, 3) := by decide +kernel
theorem zd_231_7 : decode (zm_cc 231) 7 = .ok (.aload_n 0, 1) := by decide +kernel
theorem zd_231_8 : decode (zm_cc 231) 8 = .ok (.iconst 1, 1) := by decide +kernel
theorem zd_231_9 : decode (zm_cc 231) 9 = .ok (.putfield 31, 3) := by decide +kernel
theorem zd_231_12 : decode (zm_cc 231) 12 = .ok (.iconst 0, 1) := by decide +kernel
theorem zd_231_13 : decode (zm_cc 231) 13 = .ok (.istore_n 1, 1) := by decide +kernel
theorem zd_231_14 : decode (zm_cc 231) 14 = .ok (.iload_n 1, 1) := by decide +kernel
theorem zd_231_15 : decode (zm_cc 231) 15 = .ok (.bipush 16, 2) := by decide +kernel
theorem zd_231_17 : decode (zm_cc 231) 17 = .ok (.if_icmp .ge 25, 3) := by decide +kernel
theorem zd_231_20 : decode (zm_cc 231) 20 = .ok (.aload_n 0, 1) := by decide +kernel
theorem zd_231_21 : decode (zm_cc 231) 21 = .ok (.getfield 9, 3) := by decide +kernel
theorem zd_231_24 : decode (zm_cc 231) 24 = .ok (.iload_n 1, 1) := by decide +kernel
theorem zd_231_25 : decode (zm_cc 231) 25 = .ok (.aload_n 0, 1) := by decide +kernel
theorem zd_231_26 : decode (zm_cc 231) 26 = .ok (.iload_n 1, 1) := by decide +kernel
theorem zd_231_27 : decode (zm_cc 231) 27 = .ok (.iconst 4, 1) := by decide +kernel
theorem zd_231_28 : decode (zm_cc 231) 28 = .ok (.idiv, 1) := by decide +kernel
theorem zd_231_29 : decode (zm_cc 231) 29 = .ok (.iload_n 1, 1) := by decide +kernel
theorem zd_231_30 : decode (zm_cc 231) 30 = .ok (.iconst 4, 1) := by decide +kernel
theorem zd_231_31 : decode (zm_cc 231) 31 = .ok (.irem, 1) := by decide +kernel
theorem zd_231_32 : decode (zm_cc 231) 32 = .ok (.invokevirtual 35, 3) := by decide +kernel
theorem zd_231_35 : decode (zm_cc 231) 35 = .ok (.iastore, 1) := by decide +kernel
theorem zd_231_36 : decode (zm_cc 231) 36 = .ok (.iinc 1 1, 3) := by decide +kernel
theorem zd_231_39 : decode (zm_cc 231) 39 = .ok (.goto (-25), 3) := by decide +kernel
theorem zd_231_42 : decode (zm_cc 231) 42 = .ok (.aload_n 0, 1) := by decide +kernel
theorem zd_231_43 : decode (zm_cc 231) 43 = .ok (.invokevirtual 39, 3) := by decide +kernel
theorem zd_231_46 : decode (zm_cc 231) 46 = .ok (.aload_n 0, 1) := by decide +kernel
theorem zd_231_47 : decode (zm_cc 231) 47 = .ok (.aload_n 0, 1) := by decide +kernel
theorem zd_231_48 : decode (zm_cc 231) 48 = .ok (.invokevirtual 42, 3) := by decide +kernel
theorem zd_231_51 : decode (zm_cc 231) 51 = .ok (.putfield 46, 3) := by decide +kernel
theorem zd_231_54 : decode (zm_cc 231) 54 = .ok (.return_, 1) := by decide +kernel
theorem zd_232_0 : decode (zm_cc 232) 0 = .ok (.aload_n 0, 1) := by decide +kernel
theorem zd_232_1 : decode (zm_cc 232) 1 = .ok (.getfield 27, 3) := by decide +kernel
theorem zd_232_4 : decode (zm_cc 232) 4 = .ok (.iload_n 1, 1) := by decide +kernel
theorem zd_232_5 : decode (zm_cc 232) 5 = .ok (.invokevirtual 61, 3) := by decide +kernel
theorem zd_232_8 : decode (zm_cc 232) 8 = .ok (.ifCond .le 7, 3) := by decide +kernel
theorem zd_232_11 : decode (zm_cc 232) 11 = .ok (.iconst 1, 1) := by decide +kernel
theorem zd_232_12 : decode (zm_cc 232) 12 = .ok (.goto 4, 3) := by decide +kernel
theorem zd_232_15 : decode (zm_cc 232) 15 = .ok (.iconst 0, 1) := by decide +kernel
theorem zd_232_16 : decode (zm_cc 232) 16 = .ok (.istore_n 3, 1) := by decide +kernel
theorem zd_232_17 : decode (zm_cc 232) 17 = .ok (.aload_n 0, 1) := by decide +kernel
theorem zd_232_18 : decode (zm_cc 232) 18 = .ok (.iload_n 1, 1) := by decide +kernel
theorem zd_232_19 : decode (zm_cc 232) 19 = .ok (.iload_n 3, 1) := by decide +kernel
theorem zd_232_20 : decode (zm_cc 232) 20 = .ok (.aload_n 0, 1) := by decide +kernel
theorem zd_232_21 : decode (zm_cc 232) 21 = .ok (.iload_n 1, 1) := by decide +kernel
theorem zd_232_22 : decode (zm_cc 232) 22 = .ok (.bipush 11, 2) := by decide +kernel
theorem zd_232_24 : decode (zm_cc 232) 24 = .ok (.iload_n 2, 1) := by decide +kernel
theorem zd_232_25 : decode (zm_cc 232) 25 = .ok (.invokevirtual 74, 3) := by decide +kernel
theorem zd_232_28 : decode (zm_cc 232) 28 = .ok (.invokevirtual 78, 3) := by decide +kernel
theorem zd_232_31 : decode (zm_cc 232) 31 = .ok (.istore 4, 2) := by decide +kernel
theorem zd_232_33 : decode (zm_cc 232) 33 = .ok (.iload_n 2, 1) := by decide +kernel
theorem zd_232_34 : decode (zm_cc 232) 34 = .ok (.iload_n 1, 1) := by decide +kernel
theorem zd_232_35 : decode (zm_cc 232) 35 = .ok (.if_icmp .eq 35, 3) := by decide +kernel
theorem zd_232_38 : decode (zm_cc 232) 38 = .ok (.aload_n 0, 1) := by decide +kernel
theorem zd_232_39 : decode (zm_cc 232) 39 = .ok (.getfield 27, 3) := by decide +kernel
theorem zd_232_42 : decode (zm_cc 232) 42 = .ok (.iload_n 2, 1) := by decide +kernel
theorem zd_232_43 : decode (zm_cc 232) 43 = .ok (.invokevirtual 81, 3) := by decide +kernel
theorem zd_232_46 : decode (zm_cc 232) 46 = .ok (.iconst 1, 1) := by decide +kernel
theorem zd_232_47 : decode (zm_cc 232) 47 = .ok (.iload_n 1, 1) := by decide +kernel
theorem zd_232_48 : decode (zm_cc 232) 48 = .ok (.ishl, 1) := by decide +kernel
theorem zd_232_49 : decode (zm_cc 232) 49 = .ok (.if_icmp .ne 21, 3) := by decide +kernel
theorem zd_232_52 : decode (zm_cc 232) 52 = .ok (.iload 4, 2) := by decide +kernel
theorem zd_232_54 : decode (zm_cc 232) 54 = .ok (.aload_n 0, 1) := by decide +kernel
theorem zd_232_55 : decode (zm_cc 232) 55 = .ok (.iload_n 1, 1) := by decide +kernel
theorem zd_232_56 : decode (zm_cc 232) 56 = .ok (.aload_n 0, 1) := by decide +kernel
theorem zd_232_57 : decode (zm_cc 232) 57 = .ok (.iload_n 1, 1) := by decide +kernel
theorem zd_232_58 : decode (zm_cc 232) 58 = .ok (.bipush 10, 2) := by decide +kernel
theorem zd_232_60 : decode (zm_cc 232) 60 = .ok (.iload_n 2, 1) := by decide +kernel
theorem zd_232_61 : decode (zm_cc 232) 61 = .ok (.invokevirtual 74, 3) := by decide +kernel
theorem zd_232_64 : decode (zm_cc 232) 64 = .ok (.invokevirtual 84, 3) := by decide +kernel
theorem zd_232_67 : decode (zm_cc 232) 67 = .ok (.iand, 1) := by decide +kernel
theorem zd_232_68 : decode (zm_cc 232) 68 = .ok (.istore 4, 2) := by decide +kernel
theorem zd_232_70 : decode (zm_cc 232) 70 = .ok (.iload 4, 2) := by decide +kernel
theorem zd_232_72 : decode (zm_cc 232) 72 = .ok (.ireturn, 1) := by decide +kernel
theorem zd_233_0 : decode (zm_cc 233) 0 = .ok (.iconst 0, 1) := by decide +kernel
theorem zd_233_1 : decode (zm_cc 233) 1 = .ok (.istore 4, 2) := by decide +kernel
theorem zd_233_3 : decode (zm_cc 233) 3 = .ok (.iconst 0, 1) := by decide +kernel
theorem zd_233_4 : decode (zm_cc 233) 4 = .ok (.istore 5, 2) := by decide +kernel
theorem zd_233_6 : decode (zm_cc 233) 6 = .ok (.iload 5, 2) := by decide +kernel
theorem zd_233_8 : decode (zm_cc 233) 8 = .ok (.aload_n 0, 1) := by decide +kernel
theorem zd_233_9 : decode (zm_cc 233) 9 = .ok (.getfield 27, 3) := by decide +kernel
theorem zd_233_12 : decode (zm_cc 233) 12 = .ok (.iload_n 1, 1) := by decide +kernel
theorem zd_233_13 : decode (zm_cc 233) 13 = .ok (.invokevirtual 61, 3) := by decide +kernel
theorem zd_233_16 : decode (zm_cc 233) 16 = .ok (.if_icmp .ge 58, 3) := by decide +kernel
theorem zd_233_19 : decode (zm_cc 233) 19 = .ok (.aload_n 0, 1) := by decide +kernel
theorem zd_233_20 : decode (zm_cc 233) 20 = .ok (.getfield 27, 3) := by decide +kernel
theorem zd_233_23 : decode (zm_cc 233) 23 = .ok (.iload_n 1, 1) := by decide +kernel
theorem zd_233_24 : decode (zm_cc 233) 24 = .ok (.iload 5, 2) := by decide +kernel
theorem zd_233_26 : decode (zm_cc 233) 26 = .ok (.invokevirtual 50, 3) := by decide +kernel
theorem zd_233_29 : decode (zm_cc 233) 29 = .ok (.istore 6, 2) := by decide +kernel
theorem zd_233_31 : decode (zm_cc 233) 31 = .ok (.aload_n 0, 1) := by decide +kernel
theorem zd_233_32 : decode (zm_cc 233) 32 = .ok (.getfield 27, 3) := by decide +kernel
theorem zd_233_35 : decode (zm_cc 233) 35 = .ok (.getfield 68, 3) := by decide +kernel
theorem zd_233_38 : decode (zm_cc 233) 38 = .ok (.iload 6, 2) := by decide +kernel
theorem zd_233_40 : decode (zm_cc 233) 40 = .ok (.iaload, 1) := by decide +kernel
theorem zd_233_41 : decode (zm_cc 233) 41 = .ok (.iload_n 2, 1) := by decide +kernel
theorem zd_233_42 : decode (zm_cc 233) 42 = .ok (.if_icmp .ne 26, 3) := by decide +kernel
theorem zd_233_45 : decode (zm_cc 233) 45 = .ok (.aload_n 0, 1) := by decide +kernel
theorem zd_233_46 : decode (zm_cc 233) 46 = .ok (.getfield 27, 3) := by decide +kernel
theorem zd_233_49 : decode (zm_cc 233) 49 = .ok (.getfield 71, 3) := by decide +kernel
theorem zd_233_52 : decode (zm_cc 233) 52 = .ok (.iload 6, 2) := by decide +kernel
theorem zd_233_54 : decode (zm_cc 233) 54 = .ok (.iaload, 1) := by decide +kernel
theorem zd_233_55 : decode (zm_cc 233) 55 = .ok (.iload_n 3, 1) := by decide +kernel
theorem zd_233_56 : decode (zm_cc 233) 56 = .ok (.if_icmp .ne 12, 3) := by decide +kernel
theorem zd_233_59 : decode (zm_cc 233) 59 = .ok (.iload 4, 2) := by decide +kernel
theorem zd_233_61 : decode (zm_cc 233) 61 = .ok (.iconst 1, 1) := by decide +kernel
theorem zd_233_62 : decode (zm_cc 233) 62 = .ok (.iload 5, 2) := by decide +kernel
theorem zd_233_64 : decode (zm_cc 233) 64 = .ok (.ishl, 1) := by decide +kernel
theorem zd_233_65 : decode (zm_cc 233) 65 = .ok (.ior, 1) := by decide +kernel
theorem zd_233_66 : decode (zm_cc 233) 66 = .ok (.istore 4, 2) := by decide +kernel
theorem zd_233_68 : decode (zm_cc 233) 68 = .ok (.iinc 5 1, 3) := by decide +kernel
theorem zd_233_71 : decode (zm_cc 233) 71 = .ok (.goto (-65), 3) := by decide +kernel
theorem zd_233_74 : decode (zm_cc 233) 74 = .ok (.iload 4, 2) := by decide +kernel
theorem zd_233_76 : decode (zm_cc 233) 76 = .ok (.ireturn, 1) := by decide +kernel
theorem zd_234_0 : decode (zm_cc 234) 0 = .ok (.iload_n 2, 1) := by decide +kernel
theorem zd_234_1 : decode (zm_cc 234) 1 = .ok (.istore 4, 2) := by decide +kernel
theorem zd_234_3 : decode (zm_cc 234) 3 = .ok (.iconst 0, 1) := by decide +kernel
theorem zd_234_4 : decode (zm_cc 234) 4 = .ok (.istore 5, 2) := by decide +kernel
theorem zd_234_6 : decode (zm_cc 234) 6 = .ok (.iload 5, 2) := by decide +kernel
theorem zd_234_8 : decode (zm_cc 234) 8 = .ok (.bipush 24, 2) := by decide +kernel
theorem zd_234_10 : decode (zm_cc 234) 10 = .ok (.if_icmp .ge 65, 3) := by decide +kernel
theorem zd_234_13 : decode (zm_cc 234) 13 = .ok (.iload 4, 2) := by decide +kernel
theorem zd_234_15 : decode (zm_cc 234) 15 = .ok (.istore 6, 2) := by decide +kernel
theorem zd_234_17 : decode (zm_cc 234) 17 = .ok (.iconst 0, 1) := by decide +kernel
theorem zd_234_18 : decode (zm_cc 234) 18 = .ok (.istore 7, 2) := by decide +kernel
theorem zd_234_20 : decode (zm_cc 234) 20 = .ok (.iload 7, 2) := by decide +kernel
theorem zd_234_22 : decode (zm_cc 234) 22 = .ok (.bipush 24, 2) := by decide +kernel
theorem zd_234_24 : decode (zm_cc 234) 24 = .ok (.if_icmp .ge 35, 3) := by decide +kernel
theorem zd_234_27 : decode (zm_cc 234) 27 = .ok (.iload 4, 2) := by decide +kernel
theorem zd_234_29 : decode (zm_cc 234) 29 = .ok (.iload_n 3, 1) := by decide +kernel
theorem zd_234_30 : decode (zm_cc 234) 30 = .ok (.iconst (-1), 1) := by decide +kernel
theorem zd_234_31 : decode (zm_cc 234) 31 = .ok (.ixor, 1) := by decide +kernel
theorem zd_234_32 : decode (zm_cc 234) 32 = .ok (.iand, 1) := by decide +kernel
theorem zd_234_33 : decode (zm_cc 234) 33 = .ok (.iconst 1, 1) := by decide +kernel
theorem zd_234_34 : decode (zm_cc 234) 34 = .ok (.iload 7, 2) := by decide +kernel
theorem zd_234_36 : decode (zm_cc 234) 36 = .ok (.ishl, 1) := by decide +kernel
theorem zd_234_37 : decode (zm_cc 234) 37 = .ok (.iand, 1) := by decide +kernel
theorem zd_234_38 : decode (zm_cc 234) 38 = .ok (.ifCond .eq 15, 3) := by decide +kernel
theorem zd_234_41 : decode (zm_cc 234) 41 = .ok (.iload 4, 2) := by decide +kernel
theorem zd_234_43 : decode (zm_cc 234) 43 = .ok (.aload_n 0, 1) := by decide +kernel
theorem zd_234_44 : decode (zm_cc 234) 44 = .ok (.iload_n 1, 1) := by decide +kernel
theorem zd_234_45 : decode (zm_cc 234) 45 = .ok (.iload 7, 2) := by decide +kernel
theorem zd_234_47 : decode (zm_cc 234) 47 = .ok (.invokevirtual 65, 3) := by decide +kernel
theorem zd_234_50 : decode (zm_cc 234) 50 = .ok (.ior, 1) := by decide +kernel
theorem zd_234_51 : decode (zm_cc 234) 51 = .ok (.istore 4, 2) := by decide +kernel
theorem zd_234_53 : decode (zm_cc 234) 53 = .ok (.iinc 7 1, 3) := by decide +kernel
theorem zd_234_56 : decode (zm_cc 234) 56 = .ok (.goto (-36), 3) := by decide +kernel
theorem zd_234_59 : decode (zm_cc 234) 59 = .ok (.iload 4, 2) := by decide +kernel
theorem zd_234_61 : decode (zm_cc 234) 61 = .ok (.iload 6, 2) := by decide +kernel
theorem zd_234_63 : decode (zm_cc 234) 63 = .ok (.if_icmp .ne 6, 3) := by decide +kernel
theorem zd_234_66 : decode (zm_cc 234) 66 = .ok (.iload 4, 2) := by decide +kernel
theorem zd_234_68 : decode (zm_cc 234) 68 = .ok (.ireturn, 1) := by decide +kernel
theorem zd_234_69 : decode (zm_cc 234) 69 = .ok (.iinc 5 1, 3) := by decide +kernel
theorem zd_234_72 : decode (zm_cc 234) 72 = .ok (.goto (-66), 3) := by decide +kernel
theorem zd_234_75 : decode (zm_cc 234) 75 = .ok (.iload 4, 2) := by decide +kernel
theorem zd_234_77 : decode (zm_cc 234) 77 = .ok (.ireturn, 1) := by decide +kernel
theorem zd_235_0 : decode (zm_cc 235) 0 = .ok (.aload_n 0, 1) := by decide +kernel
theorem zd_235_1 : decode (zm_cc 235) 1 = .ok (.getfield 27, 3) := by decide +kernel
theorem zd_235_4 : decode (zm_cc 235) 4 = .ok (.iload_n 1, 1) := by decide +kernel
theorem zd_235_5 : decode (zm_cc 235) 5 = .ok (.iload_n 2, 1) := by decide +kernel
theorem zd_235_6 : decode (zm_cc 235) 6 = .ok (.invokevirtual 50, 3) := by decide +kernel
theorem zd_235_9 : decode (zm_cc 235) 9 = .ok (.istore_n 3, 1) := by decide +kernel
theorem zd_235_10 : decode (zm_cc 235) 10 = .ok (.aload_n 0, 1) := by decide +kernel
theorem zd_235_11 : decode (zm_cc 235) 11 = .ok (.getfield 27, 3) := by decide +kernel
theorem zd_235_14 : decode (zm_cc 235) 14 = .ok (.getfield 55, 3) := by decide +kernel
theorem zd_235_17 : decode (zm_cc 235) 17 = .ok (.iload_n 3, 1) := by decide +kernel
theorem zd_235_18 : decode (zm_cc 235) 18 = .ok (.iaload, 1) := by decide +kernel
theorem zd_235_19 : decode (zm_cc 235) 19 = .ok (.istore 4, 2) := by decide +kernel
theorem zd_235_21 : decode (zm_cc 235) 21 = .ok (.aload_n 0, 1) := by decide +kernel
theorem zd_235_22 : decode (zm_cc 235) 22 = .ok (.getfield 27, 3) := by decide +kernel
theorem zd_235_25 : decode (zm_cc 235) 25 = .ok (.getfield 58, 3) := by decide +kernel
theorem zd_235_28 : decode (zm_cc 235) 28 = .ok (.iload_n 3, 1) := by decide +kernel
theorem zd_235_29 : decode (zm_cc 235) 29 = .ok (.iaload, 1) := by decide +kernel
theorem zd_235_30 : decode (zm_cc 235) 30 = .ok (.istore 5, 2) := by decide +kernel
theorem zd_235_32 : decode (zm_cc 235) 32 = .ok (.aload_n 0, 1) := by decide +kernel
theorem zd_235_33 : decode (zm_cc 235) 33 = .ok (.getfield 27, 3) := by decide +kernel
theorem zd_235_36 : decode (zm_cc 235) 36 = .ok (.iload_n 1, 1) := by decide +kernel
theorem zd_235_37 : decode (zm_cc 235) 37 = .ok (.invokevirtual 61, 3) := by decide +kernel
theorem zd_235_40 : decode (zm_cc 235) 40 = .ok (.istore 6, 2) := by decide +kernel
theorem zd_235_42 : decode (zm_cc 235) 42 = .ok (.iload 4, 2) := by decide +kernel
theorem zd_235_44 : decode (zm_cc 235) 44 = .ok (.ifCond .lt 17, 3) := by decide +kernel
theorem zd_235_47 : decode (zm_cc 235) 47 = .ok (.iload 4, 2) := by decide +kernel
theorem zd_235_49 : decode (zm_cc 235) 49 = .ok (.iload 6, 2) := by decide +kernel
theorem zd_235_51 : decode (zm_cc 235) 51 = .ok (.if_icmp .ge 10, 3) := by decide +kernel
theorem zd_235_54 : decode (zm_cc 235) 54 = .ok (.iconst 1, 1) := by decide +kernel
theorem zd_235_55 : decode (zm_cc 235) 55 = .ok (.iload 4, 2) := by decide +kernel
theorem zd_235_57 : decode (zm_cc 235) 57 = .ok (.ishl, 1) := by decide +kernel
theorem zd_235_58 : decode (zm_cc 235) 58 = .ok (.goto 4, 3) := by decide +kernel
theorem zd_235_61 : decode (zm_cc 235) 61 = .ok (.iconst 0, 1) := by decide +kernel
theorem zd_235_62 : decode (zm_cc 235) 62 = .ok (.istore 7, 2) := by decide +kernel
theorem zd_235_64 : decode (zm_cc 235) 64 = .ok (.iload 5, 2) := by decide +kernel
theorem zd_235_66 : decode (zm_cc 235) 66 = .ok (.ifCond .lt 20, 3) := by decide +kernel
theorem zd_235_69 : decode (zm_cc 235) 69 = .ok (.iload 5, 2) := by decide +kernel
theorem zd_235_71 : decode (zm_cc 235) 71 = .ok (.iload 6, 2) := by decide +kernel
theorem zd_235_73 : decode (zm_cc 235) 73 = .ok (.if_icmp .ge 13, 3) := by decide +kernel
theorem zd_235_76 : decode (zm_cc 235) 76 = .ok (.iload 7, 2) := by decide +kernel
theorem zd_235_78 : decode (zm_cc 235) 78 = .ok (.iconst 1, 1) := by decide +kernel
theorem zd_235_79 : decode (zm_cc 235) 79 = .ok (.iload 5, 2) := by decide +kernel
theorem zd_235_81 : decode (zm_cc 235) 81 = .ok (.ishl, 1) := by decide +kernel
theorem zd_235_82 : decode (zm_cc 235) 82 = .ok (.ior, 1) := by decide +kernel
theorem zd_235_83 : decode (zm_cc 235) 83 = .ok (.goto 5, 3) := by decide +kernel
theorem zd_235_86 : decode (zm_cc 235) 86 = .ok (.iload 7, 2) := by decide +kernel
theorem zd_235_88 : decode (zm_cc 235) 88 = .ok (.ireturn, 1) := by decide +kernel
theorem zd_236_0 : decode (zm_cc 236) 0 = .ok (.iconst 0, 1) := by decide +kernel
theorem zd_236_1 : decode (zm_cc 236) 1 = .ok (.istore_n 3, 1) := by decide +kernel
theorem zd_236_2 : decode (zm_cc 236) 2 = .ok (.iconst 0, 1) := by decide +kernel
theorem zd_236_3 : decode (zm_cc 236) 3 = .ok (.istore 4, 2) := by decide +kernel
theorem zd_236_5 : decode (zm_cc 236) 5 = .ok (.iload 4, 2) := by decide +kernel
theorem zd_236_7 : decode (zm_cc 236) 7 = .ok (.bipush 24, 2) := by decide +kernel
theorem zd_236_9 : decode (zm_cc 236) 9 = .ok (.if_icmp .ge 28, 3) := by decide +kernel
theorem zd_236_12 : decode (zm_cc 236) 12 = .ok (.iload_n 2, 1) := by decide +kernel
theorem zd_236_13 : decode (zm_cc 236) 13 = .ok (.iload 4, 2) := by decide +kernel
theorem zd_236_15 : decode (zm_cc 236) 15 = .ok (.iushr, 1) := by decide +kernel
theorem zd_236_16 : decode (zm_cc 236) 16 = .ok (.iconst 1, 1) := by decide +kernel
theorem zd_236_17 : decode (zm_cc 236) 17 = .ok (.iand, 1) := by decide +kernel
theorem zd_236_18 : decode (zm_cc 236) 18 = .ok (.ifCond .eq 13, 3) := by decide +kernel
theorem zd_236_21 : decode (zm_cc 236) 21 = .ok (.iload_n 3, 1) := by decide +kernel
theorem zd_236_22 : decode (zm_cc 236) 22 = .ok (.aload_n 0, 1) := by decide +kernel
theorem zd_236_23 : decode (zm_cc 236) 23 = .ok (.iload_n 1, 1) := by decide +kernel
theorem zd_236_24 : decode (zm_cc 236) 24 = .ok (.iload 4, 2) := by decide +kernel
theorem zd_236_26 : decode (zm_cc 236) 26 = .ok (.invokevirtual 65, 3) := by decide +kernel
theorem zd_236_29 : decode (zm_cc 236) 29 = .ok (.ior, 1) := by decide +kernel
theorem zd_236_30 : decode (zm_cc 236) 30 = .ok (.istore_n 3, 1) := by decide +kernel
theorem zd_236_31 : decode (zm_cc 236) 31 = .ok (.iinc 4 1, 3) := by decide +kernel
theorem zd_236_34 : decode (zm_cc 236) 34 = .ok (.goto (-29), 3) := by decide +kernel
theorem zd_236_37 : decode (zm_cc 236) 37 = .ok (.aload_n 0, 1) := by decide +kernel
theorem zd_236_38 : decode (zm_cc 236) 38 = .ok (.iload_n 1, 1) := by decide +kernel
theorem zd_236_39 : decode (zm_cc 236) 39 = .ok (.iload_n 3, 1) := by decide +kernel
theorem zd_236_40 : decode (zm_cc 236) 40 = .ok (.iconst 0, 1) := by decide +kernel
theorem zd_236_41 : decode (zm_cc 236) 41 = .ok (.invokevirtual 78, 3) := by decide +kernel
theorem zd_236_44 : decode (zm_cc 236) 44 = .ok (.ireturn, 1) := by decide +kernel
theorem zd_237_0 : decode (zm_cc 237) 0 = .ok (.aload_n 0, 1) := by decide +kernel
theorem zd_237_1 : decode (zm_cc 237) 1 = .ok (.getfield 23, 3) := by decide +kernel
theorem zd_237_4 : decode (zm_cc 237) 4 = .ok (.invokevirtual 87, 3) := by decide +kernel
theorem zd_237_7 : decode (zm_cc 237) 7 = .ok (.iconst 0, 1) := by decide +kernel
theorem zd_237_8 : decode (zm_cc 237) 8 = .ok (.istore_n 1, 1) := by decide +kernel
theorem zd_237_9 : decode (zm_cc 237) 9 = .ok (.iload_n 1, 1) := by decide +kernel
theorem zd_237_10 : decode (zm_cc 237) 10 = .ok (.bipush 96, 2) := by decide +kernel
theorem zd_237_12 : decode (zm_cc 237) 12 = .ok (.if_icmp .ge 66, 3) := by decide +kernel
theorem zd_237_15 : decode (zm_cc 237) 15 = .ok (.iload_n 1, 1) := by decide +kernel
theorem zd_237_16 : decode (zm_cc 237) 16 = .ok (.bipush 24, 2) := by decide +kernel
theorem zd_237_18 : decode (zm_cc 237) 18 = .ok (.idiv, 1) := by decide +kernel
theorem zd_237_19 : decode (zm_cc 237) 19 = .ok (.istore_n 2, 1) := by decide +kernel
theorem zd_237_20 : decode (zm_cc 237) 20 = .ok (.iload_n 2, 1) := by decide +kernel
theorem zd_237_21 : decode (zm_cc 237) 21 = .ok (.iconst 1, 1) := by decide +kernel
theorem zd_237_22 : decode (zm_cc 237) 22 = .ok (.iadd, 1) := by decide +kernel
theorem zd_237_23 : decode (zm_cc 237) 23 = .ok (.bipush 24, 2) := by decide +kernel
theorem zd_237_25 : decode (zm_cc 237) 25 = .ok (.imul, 1) := by decide +kernel
theorem zd_237_26 : decode (zm_cc 237) 26 = .ok (.istore_n 3, 1) := by decide +kernel
theorem zd_237_27 : decode (zm_cc 237) 27 = .ok (.iload_n 3, 1) := by decide +kernel
theorem zd_237_28 : decode (zm_cc 237) 28 = .ok (.bipush 96, 2) := by decide +kernel
theorem zd_237_30 : decode (zm_cc 237) 30 = .ok (.if_icmp .ge 42, 3) := by decide +kernel
theorem zd_237_33 : decode (zm_cc 237) 33 = .ok (.aload_n 0, 1) := by decide +kernel
theorem zd_237_34 : decode (zm_cc 237) 34 = .ok (.iload_n 2, 1) := by decide +kernel
theorem zd_237_35 : decode (zm_cc 237) 35 = .ok (.iload_n 1, 1) := by decide +kernel
theorem zd_237_36 : decode (zm_cc 237) 36 = .ok (.bipush 24, 2) := by decide +kernel
theorem zd_237_38 : decode (zm_cc 237) 38 = .ok (.irem, 1) := by decide +kernel
theorem zd_237_39 : decode (zm_cc 237) 39 = .ok (.iload_n 3, 1) := by decide +kernel
theorem zd_237_40 : decode (zm_cc 237) 40 = .ok (.bipush 24, 2) := by decide +kernel
theorem zd_237_42 : decode (zm_cc 237) 42 = .ok (.idiv, 1) := by decide +kernel
theorem zd_237_43 : decode (zm_cc 237) 43 = .ok (.iload_n 3, 1) := by decide +kernel
theorem zd_237_44 : decode (zm_cc 237) 44 = .ok (.bipush 24, 2) := by decide +kernel
theorem zd_237_46 : decode (zm_cc 237) 46 = .ok (.irem, 1) := by decide +kernel
theorem zd_237_47 : decode (zm_cc 237) 47 = .ok (.invokevirtual 90, 3) := by decide +kernel
theorem zd_237_50 : decode (zm_cc 237) 50 = .ok (.ifCond .eq 16, 3) := by decide +kernel
theorem zd_237_53 : decode (zm_cc 237) 53 = .ok (.aload_n 0, 1) := by decide +kernel
theorem zd_237_54 : decode (zm_cc 237) 54 = .ok (.getfield 23, 3) := by decide +kernel
theorem zd_237_57 : decode (zm_cc 237) 57 = .ok (.iload_n 1, 1) := by decide +kernel
theorem zd_237_58 : decode (zm_cc 237) 58 = .ok (.bipush 96, 2) := by decide +kernel
theorem zd_237_60 : decode (zm_cc 237) 60 = .ok (.imul, 1) := by decide +kernel
theorem zd_237_61 : decode (zm_cc 237) 61 = .ok (.iload_n 3, 1) := by decide +kernel
theorem zd_237_62 : decode (zm_cc 237) 62 = .ok (.iadd, 1) := by decide +kernel
theorem zd_237_63 : decode (zm_cc 237) 63 = .ok (.invokevirtual 94, 3) := by decide +kernel
theorem zd_237_66 : decode (zm_cc 237) 66 = .ok (.iinc 3 1, 3) := by decide +kernel
theorem zd_237_69 : decode (zm_cc 237) 69 = .ok (.goto (-42), 3) := by decide +kernel
theorem zd_237_72 : decode (zm_cc 237) 72 = .ok (.iinc 1 1, 3) := by decide +kernel
theorem zd_237_75 : decode (zm_cc 237) 75 = .ok (.goto (-66), 3) := by decide +kernel
theorem zd_237_78 : decode (zm_cc 237) 78 = .ok (.return_, 1) := by decide +kernel
theorem zd_238_0 : decode (zm_cc 238) 0 = .ok (.aload_n 0, 1) := by decide +kernel
theorem zd_238_1 : decode (zm_cc 238) 1 = .ok (.getfield 27, 3) := by decide +kernel
theorem zd_238_4 : decode (zm_cc 238) 4 = .ok (.iload_n 1, 1) := by decide +kernel
theorem zd_238_5 : decode (zm_cc 238) 5 = .ok (.iload_n 2, 1) := by decide +kernel
theorem zd_238_6 : decode (zm_cc 238) 6 = .ok (.invokevirtual 50, 3) := by decide +kernel
theorem zd_238_9 : decode (zm_cc 238) 9 = .ok (.istore 5, 2) := by decide +kernel
theorem zd_238_11 : decode (zm_cc 238) 11 = .ok (.aload_n 0, 1) := by decide +kernel
theorem zd_238_12 : decode (zm_cc 238) 12 = .ok (.getfield 27, 3) := by decide +kernel
theorem zd_238_15 : decode (zm_cc 238) 15 = .ok (.iload_n 3, 1) := by decide +kernel
theorem zd_238_16 : decode (zm_cc 238) 16 = .ok (.iload 4, 2) := by decide +kernel
theorem zd_238_18 : decode (zm_cc 238) 18 = .ok (.invokevirtual 50, 3) := by decide +kernel
theorem zd_238_21 : decode (zm_cc 238) 21 = .ok (.istore 6, 2) := by decide +kernel
theorem zd_238_23 : decode (zm_cc 238) 23 = .ok (.aload_n 0, 1) := by decide +kernel
theorem zd_238_24 : decode (zm_cc 238) 24 = .ok (.getfield 27, 3) := by decide +kernel
theorem zd_238_27 : decode (zm_cc 238) 27 = .ok (.iload 5, 2) := by decide +kernel
theorem zd_238_29 : decode (zm_cc 238) 29 = .ok (.iload 6, 2) := by decide +kernel
theorem zd_238_31 : decode (zm_cc 238) 31 = .ok (.invokevirtual 97, 3) := by decide +kernel
theorem zd_238_34 : decode (zm_cc 238) 34 = .ok (.ifCond .eq 43, 3) := by decide +kernel
theorem zd_238_37 : decode (zm_cc 238) 37 = .ok (.aload_n 0, 1) := by decide +kernel
theorem zd_238_38 : decode (zm_cc 238) 38 = .ok (.getfield 27, 3) := by decide +kernel
theorem zd_238_41 : decode (zm_cc 238) 41 = .ok (.getfield 101, 3) := by decide +kernel
theorem zd_238_44 : decode (zm_cc 238) 44 = .ok (.iload 5, 2) := by decide +kernel
theorem zd_238_46 : decode (zm_cc 238) 46 = .ok (.iaload, 1) := by decide +kernel
theorem zd_238_47 : decode (zm_cc 238) 47 = .ok (.aload_n 0, 1) := by decide +kernel
theorem zd_238_48 : decode (zm_cc 238) 48 = .ok (.getfield 27, 3) := by decide +kernel
theorem zd_238_51 : decode (zm_cc 238) 51 = .ok (.getfield 101, 3) := by decide +kernel
theorem zd_238_54 : decode (zm_cc 238) 54 = .ok (.iload 6, 2) := by decide +kernel
theorem zd_238_56 : decode (zm_cc 238) 56 = .ok (.iaload, 1) := by decide +kernel
theorem zd_238_57 : decode (zm_cc 238) 57 = .ok (.iand, 1) := by decide +kernel
theorem zd_238_58 : decode (zm_cc 238) 58 = .ok (.ifCond .ne 19, 3) := by decide +kernel
theorem zd_238_61 : decode (zm_cc 238) 61 = .ok (.aload_n 0, 1) := by decide +kernel
theorem zd_238_62 : decode (zm_cc 238) 62 = .ok (.iload_n 1, 1) := by decide +kernel
theorem zd_238_63 : decode (zm_cc 238) 63 = .ok (.iload_n 2, 1) := by decide +kernel
theorem zd_238_64 : decode (zm_cc 238) 64 = .ok (.iload_n 3, 1) := by decide +kernel
theorem zd_238_65 : decode (zm_cc 238) 65 = .ok (.iload 4, 2) := by decide +kernel
theorem zd_238_67 : decode (zm_cc 238) 67 = .ok (.invokevirtual 104, 3) := by decide +kernel
theorem zd_238_70 : decode (zm_cc 238) 70 = .ok (.ifCond .eq 7, 3) := by decide +kernel
theorem zd_238_73 : decode (zm_cc 238) 73 = .ok (.iconst 1, 1) := by decide +kernel
theorem zd_238_74 : decode (zm_cc 238) 74 = .ok (.goto 4, 3) := by decide +kernel
theorem zd_238_77 : decode (zm_cc 238) 77 = .ok (.iconst 0, 1) := by decide +kernel
theorem zd_238_78 : decode (zm_cc 238) 78 = .ok (.ireturn, 1) := by decide +kernel
theorem zd_239_0 : decode (zm_cc 239) 0 = .ok (.iload_n 1, 1) := by decide +kernel
theorem zd_239_1 : decode (zm_cc 239) 1 = .ok (.ifCond .lt 17, 3) := by decide +kernel
theorem zd_239_4 : decode (zm_cc 239) 4 = .ok (.iload_n 1, 1) := by decide +kernel
theorem zd_239_5 : decode (zm_cc 239) 5 = .ok (.iconst 4, 1) := by decide +kernel
theorem zd_239_6 : decode (zm_cc 239) 6 = .ok (.if_icmp .ge 12, 3) := by decide +kernel
theorem zd_239_9 : decode (zm_cc 239) 9 = .ok (.iload_n 3, 1) := by decide +kernel
theorem zd_239_10 : decode (zm_cc 239) 10 = .ok (.ifCond .lt 8, 3) := by decide +kernel
theorem zd_239_13 : decode (zm_cc 239) 13 = .ok (.iload_n 3, 1) := by decide +kernel
theorem zd_239_14 : decode (zm_cc 239) 14 = .ok (.iconst 4, 1) := by decide +kernel
theorem zd_239_15 : decode (zm_cc 239) 15 = .ok (.if_icmp .lt 5, 3) := by decide +kernel
theorem zd_239_18 : decode (zm_cc 239) 18 = .ok (.iconst 0, 1) := by decide +kernel
theorem zd_239_19 : decode (zm_cc 239) 19 = .ok (.ireturn, 1) := by decide +kernel
theorem zd_239_20 : decode (zm_cc 239) 20 = .ok (.aload_n 0, 1) := by decide +kernel
theorem zd_239_21 : decode (zm_cc 239) 21 = .ok (.getfield 9, 3) := by decide +kernel
theorem zd_239_24 : decode (zm_cc 239) 24 = .ok (.iload_n 1, 1) := by decide +kernel
theorem zd_239_25 : decode (zm_cc 239) 25 = .ok (.iconst 4, 1) := by decide +kernel
theorem zd_239_26 : decode (zm_cc 239) 26 = .ok (.imul, 1) := by decide +kernel
theorem zd_239_27 : decode (zm_cc 239) 27 = .ok (.iload_n 3, 1) := by decide +kernel
theorem zd_239_28 : decode (zm_cc 239) 28 = .ok (.iadd, 1) := by decide +kernel
theorem zd_239_29 : decode (zm_cc 239) 29 = .ok (.iaload, 1) := by decide +kernel
theorem zd_239_30 : decode (zm_cc 239) 30 = .ok (.iload_n 2, 1) := by decide +kernel
theorem zd_239_31 : decode (zm_cc 239) 31 = .ok (.iushr, 1) := by decide +kernel
theorem zd_239_32 : decode (zm_cc 239) 32 = .ok (.aload_n 0, 1) := by decide +kernel
theorem zd_239_33 : decode (zm_cc 239) 33 = .ok (.getfield 9, 3) := by decide +kernel
theorem zd_239_36 : decode (zm_cc 239) 36 = .ok (.iload_n 3, 1) := by decide +kernel
theorem zd_239_37 : decode (zm_cc 239) 37 = .ok (.iconst 4, 1) := by decide +kernel
theorem zd_239_38 : decode (zm_cc 239) 38 = .ok (.imul, 1) := by decide +kernel
theorem zd_239_39 : decode (zm_cc 239) 39 = .ok (.iload_n 1, 1) := by decide +kernel
theorem zd_239_40 : decode (zm_cc 239) 40 = .ok (.iadd, 1) := by decide +kernel
theorem zd_239_41 : decode (zm_cc 239) 41 = .ok (.iaload, 1) := by decide +kernel
theorem zd_239_42 : decode (zm_cc 239) 42 = .ok (.iload 4, 2) := by decide +kernel
theorem zd_239_44 : decode (zm_cc 239) 44 = .ok (.iushr, 1) := by decide +kernel
theorem zd_239_45 : decode (zm_cc 239) 45 = .ok (.iand, 1) := by decide +kernel
theorem zd_239_46 : decode (zm_cc 239) 46 = .ok (.iconst 1, 1) := by decide +kernel
theorem zd_239_47 : decode (zm_cc 239) 47 = .ok (.iand, 1) := by decide +kernel
theorem zd_239_48 : decode (zm_cc 239) 48 = .ok (.ifCond .eq 7, 3) := by decide +kernel
theorem zd_239_51 : decode (zm_cc 239) 51 = .ok (.iconst 1, 1) := by decide +kernel
theorem zd_239_52 : decode (zm_cc 239) 52 = .ok (.goto 4, 3) := by decide +kernel
theorem zd_239_55 : decode (zm_cc 239) 55 = .ok (.iconst 0, 1) := by decide +kernel
theorem zd_239_56 : decode (zm_cc 239) 56 = .ok (.ireturn, 1) := by decide +kernel
theorem zd_240_0 : decode (zm_cc 240) 0 = .ok (.iconst 0, 1) := by decide +kernel
theorem zd_240_1 : decode (zm_cc 240) 1 = .ok (.istore_n 1, 1) := by decide +kernel
theorem zd_240_2 : decode (zm_cc 240) 2 = .ok (.iconst 0, 1) := by decide +kernel
theorem zd_240_3 : decode (zm_cc 240) 3 = .ok (.istore_n 2, 1) := by decide +kernel
theorem zd_240_4 : decode (zm_cc 240) 4 = .ok (.iload_n 2, 1) := by decide +kernel
theorem zd_240_5 : decode (zm_cc 240) 5 = .ok (.bipush 96, 2) := by decide +kernel
theorem zd_240_7 : decode (zm_cc 240) 7 = .ok (.if_icmp .ge 62, 3) := by decide +kernel
theorem zd_240_10 : decode (zm_cc 240) 10 = .ok (.aload_n 0, 1) := by decide +kernel
theorem zd_240_11 : decode (zm_cc 240) 11 = .ok (.getfield 27, 3) := by decide +kernel
theorem zd_240_14 : decode (zm_cc 240) 14 = .ok (.iload_n 2, 1) := by decide +kernel
theorem zd_240_15 : decode (zm_cc 240) 15 = .ok (.bipush 24, 2) := by decide +kernel
theorem zd_240_17 : decode (zm_cc 240) 17 = .ok (.idiv, 1) := by decide +kernel
theorem zd_240_18 : decode (zm_cc 240) 18 = .ok (.iload_n 2, 1) := by decide +kernel
theorem zd_240_19 : decode (zm_cc 240) 19 = .ok (.bipush 24, 2) := by decide +kernel
theorem zd_240_21 : decode (zm_cc 240) 21 = .ok (.irem, 1) := by decide +kernel
theorem zd_240_22 : decode (zm_cc 240) 22 = .ok (.invokevirtual 50, 3) := by decide +kernel
theorem zd_240_25 : decode (zm_cc 240) 25 = .ok (.istore_n 3, 1) := by decide +kernel
theorem zd_240_26 : decode (zm_cc 240) 26 = .ok (.aload_n 0, 1) := by decide +kernel
theorem zd_240_27 : decode (zm_cc 240) 27 = .ok (.getfield 27, 3) := by decide +kernel
theorem zd_240_30 : decode (zm_cc 240) 30 = .ok (.getfield 68, 3) := by decide +kernel
theorem zd_240_33 : decode (zm_cc 240) 33 = .ok (.iload_n 3, 1) := by decide +kernel
theorem zd_240_34 : decode (zm_cc 240) 34 = .ok (.iaload, 1) := by decide +kernel
theorem zd_240_35 : decode (zm_cc 240) 35 = .ok (.iconst 3, 1) := by decide +kernel
theorem zd_240_36 : decode (zm_cc 240) 36 = .ok (.if_icmp .ne 27, 3) := by decide +kernel
theorem zd_240_39 : decode (zm_cc 240) 39 = .ok (.aload_n 0, 1) := by decide +kernel
theorem zd_240_40 : decode (zm_cc 240) 40 = .ok (.getfield 15, 3) := by decide +kernel
theorem zd_240_43 : decode (zm_cc 240) 43 = .ok (.iconst 0, 1) := by decide +kernel
theorem zd_240_44 : decode (zm_cc 240) 44 = .ok (.iload_n 3, 1) := by decide +kernel
theorem zd_240_45 : decode (zm_cc 240) 45 = .ok (.iastore, 1) := by decide +kernel
theorem zd_240_46 : decode (zm_cc 240) 46 = .ok (.iload_n 1, 1) := by decide +kernel
theorem zd_240_47 : decode (zm_cc 240) 47 = .ok (.aload_n 0, 1) := by decide +kernel
theorem zd_240_48 : decode (zm_cc 240) 48 = .ok (.iconst 1, 1) := by decide +kernel
theorem zd_240_49 : decode (zm_cc 240) 49 = .ok (.aload_n 0, 1) := by decide +kernel
theorem zd_240_50 : decode (zm_cc 240) 50 = .ok (.getfield 27, 3) := by decide +kernel
theorem zd_240_53 : decode (zm_cc 240) 53 = .ok (.getfield 101, 3) := by decide +kernel
theorem zd_240_56 : decode (zm_cc 240) 56 = .ok (.iload_n 3, 1) := by decide +kernel
theorem zd_240_57 : decode (zm_cc 240) 57 = .ok (.iaload, 1) := by decide +kernel
theorem zd_240_58 : decode (zm_cc 240) 58 = .ok (.invokevirtual 110, 3) := by decide +kernel
theorem zd_240_61 : decode (zm_cc 240) 61 = .ok (.iadd, 1) := by decide +kernel
theorem zd_240_62 : decode (zm_cc 240) 62 = .ok (.istore_n 1, 1) := by decide +kernel
theorem zd_240_63 : decode (zm_cc 240) 63 = .ok (.iinc 2 1, 3) := by decide +kernel
theorem zd_240_66 : decode (zm_cc 240) 66 = .ok (.goto (-62), 3) := by decide +kernel
theorem zd_240_69 : decode (zm_cc 240) 69 = .ok (.iload_n 1, 1) := by decide +kernel
theorem zd_240_70 : decode (zm_cc 240) 70 = .ok (.ireturn, 1) := by decide +kernel
theorem zd_241_0 : decode (zm_cc 241) 0 = .ok (.iload_n 1, 1) := by decide +kernel
theorem zd_241_1 : decode (zm_cc 241) 1 = .ok (.ifCond .le 8, 3) := by decide +kernel
theorem zd_241_4 : decode (zm_cc 241) 4 = .ok (.iload_n 1, 1) := by decide +kernel
theorem zd_241_5 : decode (zm_cc 241) 5 = .ok (.iconst 4, 1) := by decide +kernel
theorem zd_241_6 : decode (zm_cc 241) 6 = .ok (.if_icmp .le 5, 3) := by decide +kernel
theorem zd_241_9 : decode (zm_cc 241) 9 = .ok (.iconst 0, 1) := by decide +kernel
theorem zd_241_10 : decode (zm_cc 241) 10 = .ok (.ireturn, 1) := by decide +kernel
theorem zd_241_11 : decode (zm_cc 241) 11 = .ok (.aload_n 0, 1) := by decide +kernel
theorem zd_241_12 : decode (zm_cc 241) 12 = .ok (.getfield 15, 3) := by decide +kernel
theorem zd_241_15 : decode (zm_cc 241) 15 = .ok (.iconst 0, 1) := by decide +kernel
theorem zd_241_16 : decode (zm_cc 241) 16 = .ok (.iaload, 1) := by decide +kernel
theorem zd_241_17 : decode (zm_cc 241) 17 = .ok (.istore_n 3, 1) := by decide +kernel
theorem zd_241_18 : decode (zm_cc 241) 18 = .ok (.aload_n 0, 1) := by decide +kernel
theorem zd_241_19 : decode (zm_cc 241) 19 = .ok (.getfield 27, 3) := by decide +kernel
theorem zd_241_22 : decode (zm_cc 241) 22 = .ok (.getfield 71, 3) := by decide +kernel
theorem zd_241_25 : decode (zm_cc 241) 25 = .ok (.aload_n 0, 1) := by decide +kernel
theorem zd_241_26 : decode (zm_cc 241) 26 = .ok (.getfield 15, 3) := by decide +kernel
theorem zd_241_29 : decode (zm_cc 241) 29 = .ok (.iload_n 1, 1) := by decide +kernel
theorem zd_241_30 : decode (zm_cc 241) 30 = .ok (.iconst 1, 1) := by decide +kernel
theorem zd_241_31 : decode (zm_cc 241) 31 = .ok (.isub, 1) := by decide +kernel
theorem zd_241_32 : decode (zm_cc 241) 32 = .ok (.iaload, 1) := by decide +kernel
theorem zd_241_33 : decode (zm_cc 241) 33 = .ok (.iaload, 1) := by decide +kernel
theorem zd_241_34 : decode (zm_cc 241) 34 = .ok (.istore 4, 2) := by decide +kernel
theorem zd_241_36 : decode (zm_cc 241) 36 = .ok (.iload_n 1, 1) := by decide +kernel
theorem zd_241_37 : decode (zm_cc 241) 37 = .ok (.iconst 1, 1) := by decide +kernel
theorem zd_241_38 : decode (zm_cc 241) 38 = .ok (.if_icmp .le 20, 3) := by decide +kernel
theorem zd_241_41 : decode (zm_cc 241) 41 = .ok (.aload_n 0, 1) := by decide +kernel
theorem zd_241_42 : decode (zm_cc 241) 42 = .ok (.getfield 27, 3) := by decide +kernel
theorem zd_241_45 : decode (zm_cc 241) 45 = .ok (.getfield 101, 3) := by decide +kernel
theorem zd_241_48 : decode (zm_cc 241) 48 = .ok (.iload_n 3, 1) := by decide +kernel
theorem zd_241_49 : decode (zm_cc 241) 49 = .ok (.iaload, 1) := by decide +kernel
theorem zd_241_50 : decode (zm_cc 241) 50 = .ok (.iload 4, 2) := by decide +kernel
theorem zd_241_52 : decode (zm_cc 241) 52 = .ok (.iushr, 1) := by decide +kernel
theorem zd_241_53 : decode (zm_cc 241) 53 = .ok (.iconst 1, 1) := by decide +kernel
theorem zd_241_54 : decode (zm_cc 241) 54 = .ok (.iand, 1) := by decide +kernel
theorem zd_241_55 : decode (zm_cc 241) 55 = .ok (.goto 4, 3) := by decide +kernel
theorem zd_241_58 : decode (zm_cc 241) 58 = .ok (.iconst 0, 1) := by decide +kernel
theorem zd_241_59 : decode (zm_cc 241) 59 = .ok (.istore 5, 2) := by decide +kernel
theorem zd_241_61 : decode (zm_cc 241) 61 = .ok (.iload_n 3, 1) := by decide +kernel
theorem zd_241_62 : decode (zm_cc 241) 62 = .ok (.bipush 24, 2) := by decide +kernel
theorem zd_241_64 : decode (zm_cc 241) 64 = .ok (.idiv, 1) := by decide +kernel
theorem zd_241_65 : decode (zm_cc 241) 65 = .ok (.iconst 1, 1) := by decide +kernel
theorem zd_241_66 : decode (zm_cc 241) 66 = .ok (.iadd, 1) := by decide +kernel
theorem zd_241_67 : decode (zm_cc 241) 67 = .ok (.istore 6, 2) := by decide +kernel
theorem zd_241_69 : decode (zm_cc 241) 69 = .ok (.iload 6, 2) := by decide +kernel
theorem zd_241_71 : decode (zm_cc 241) 71 = .ok (.aload_n 0, 1) := by decide +kernel
theorem zd_241_72 : decode (zm_cc 241) 72 = .ok (.getfield 27, 3) := by decide +kernel
theorem zd_241_75 : decode (zm_cc 241) 75 = .ok (.getfield 113, 3) := by decide +kernel
theorem zd_241_78 : decode (zm_cc 241) 78 = .ok (.if_icmp .ge 24, 3) := by decide +kernel
theorem zd_241_81 : decode (zm_cc 241) 81 = .ok (.iload 5, 2) := by decide +kernel
theorem zd_241_83 : decode (zm_cc 241) 83 = .ok (.aload_n 0, 1) := by decide +kernel
theorem zd_241_84 : decode (zm_cc 241) 84 = .ok (.iload_n 1, 1) := by decide +kernel
theorem zd_241_85 : decode (zm_cc 241) 85 = .ok (.iload_n 2, 1) := by decide +kernel
theorem zd_241_86 : decode (zm_cc 241) 86 = .ok (.iload 4, 2) := by decide +kernel
theorem zd_241_88 : decode (zm_cc 241) 88 = .ok (.iload 6, 2) := by decide +kernel
theorem zd_241_90 : decode (zm_cc 241) 90 = .ok (.invokevirtual 116, 3) := by decide +kernel
theorem zd_241_93 : decode (zm_cc 241) 93 = .ok (.iadd, 1) := by decide +kernel
theorem zd_241_94 : decode (zm_cc 241) 94 = .ok (.istore 5, 2) := by decide +kernel
theorem zd_241_96 : decode (zm_cc 241) 96 = .ok (.iinc 6 1, 3) := by decide +kernel
theorem zd_241_99 : decode (zm_cc 241) 99 = .ok (.goto (-30), 3) := by decide +kernel
theorem zd_241_102 : decode (zm_cc 241) 102 = .ok (.iload 5, 2) := by decide +kernel
theorem zd_241_104 : decode (zm_cc 241) 104 = .ok (.ireturn, 1) := by decide +kernel
theorem zd_242_0 : decode (zm_cc 242) 0 = .ok (.iconst 0, 1) := by decide +kernel
theorem zd_242_1 : decode (zm_cc 242) 1 = .ok (.istore 5, 2) := by decide +kernel
theorem zd_242_3 : decode (zm_cc 242) 3 = .ok (.iconst 0, 1) := by decide +kernel
theorem zd_242_4 : decode (zm_cc 242) 4 = .ok (.istore 6, 2) := by decide +kernel
theorem zd_242_6 : decode (zm_cc 242) 6 = .ok (.iload 6, 2) := by decide +kernel
theorem zd_242_8 : decode (zm_cc 242) 8 = .ok (.aload_n 0, 1) := by decide +kernel
theorem zd_242_9 : decode (zm_cc 242) 9 = .ok (.getfield 27, 3) := by decide +kernel
theorem zd_242_12 : decode (zm_cc 242) 12 = .ok (.iload 4, 2) := by decide +kernel
theorem zd_242_14 : decode (zm_cc 242) 14 = .ok (.invokevirtual 61, 3) := by decide +kernel
theorem zd_242_17 : decode (zm_cc 242) 17 = .ok (.if_icmp .ge 105, 3) := by decide +kernel
theorem zd_242_20 : decode (zm_cc 242) 20 = .ok (.iload_n 1, 1) := by decide +kernel
theorem zd_242_21 : decode (zm_cc 242) 21 = .ok (.iconst 4, 1) := by decide +kernel
theorem zd_242_22 : decode (zm_cc 242) 22 = .ok (.if_icmp .ge 100, 3) := by decide +kernel
theorem zd_242_25 : decode (zm_cc 242) 25 = .ok (.aload_n 0, 1) := by decide +kernel
theorem zd_242_26 : decode (zm_cc 242) 26 = .ok (.getfield 27, 3) := by decide +kernel
theorem zd_242_29 : decode (zm_cc 242) 29 = .ok (.iload 4, 2) := by decide +kernel
theorem zd_242_31 : decode (zm_cc 242) 31 = .ok (.iload 6, 2) := by decide +kernel
theorem zd_242_33 : decode (zm_cc 242) 33 = .ok (.invokevirtual 50, 3) := by decide +kernel
theorem zd_242_36 : decode (zm_cc 242) 36 = .ok (.istore 7, 2) := by decide +kernel
theorem zd_242_38 : decode (zm_cc 242) 38 = .ok (.aload_n 0, 1) := by decide +kernel
theorem zd_242_39 : decode (zm_cc 242) 39 = .ok (.getfield 27, 3) := by decide +kernel
theorem zd_242_42 : decode (zm_cc 242) 42 = .ok (.getfield 101, 3) := by decide +kernel
theorem zd_242_45 : decode (zm_cc 242) 45 = .ok (.iload 7, 2) := by decide +kernel
theorem zd_242_47 : decode (zm_cc 242) 47 = .ok (.iaload, 1) := by decide +kernel
theorem zd_242_48 : decode (zm_cc 242) 48 = .ok (.istore 8, 2) := by decide +kernel
theorem zd_242_50 : decode (zm_cc 242) 50 = .ok (.aload_n 0, 1) := by decide +kernel
theorem zd_242_51 : decode (zm_cc 242) 51 = .ok (.getfield 27, 3) := by decide +kernel
theorem zd_242_54 : decode (zm_cc 242) 54 = .ok (.getfield 68, 3) := by decide +kernel
theorem zd_242_57 : decode (zm_cc 242) 57 = .ok (.iload 7, 2) := by decide +kernel
theorem zd_242_59 : decode (zm_cc 242) 59 = .ok (.iaload, 1) := by decide +kernel
theorem zd_242_60 : decode (zm_cc 242) 60 = .ok (.iconst 3, 1) := by decide +kernel
theorem zd_242_61 : decode (zm_cc 242) 61 = .ok (.if_icmp .ne 55, 3) := by decide +kernel
theorem zd_242_64 : decode (zm_cc 242) 64 = .ok (.iload 8, 2) := by decide +kernel
theorem zd_242_66 : decode (zm_cc 242) 66 = .ok (.iload_n 3, 1) := by decide +kernel
theorem zd_242_67 : decode (zm_cc 242) 67 = .ok (.iushr, 1) := by decide +kernel
theorem zd_242_68 : decode (zm_cc 242) 68 = .ok (.iconst 1, 1) := by decide +kernel
theorem zd_242_69 : decode (zm_cc 242) 69 = .ok (.iand, 1) := by decide +kernel
theorem zd_242_70 : decode (zm_cc 242) 70 = .ok (.ifCond .eq 46, 3) := by decide +kernel
theorem zd_242_73 : decode (zm_cc 242) 73 = .ok (.iload 8, 2) := by decide +kernel
theorem zd_242_75 : decode (zm_cc 242) 75 = .ok (.iload_n 2, 1) := by decide +kernel
theorem zd_242_76 : decode (zm_cc 242) 76 = .ok (.iand, 1) := by decide +kernel
theorem zd_242_77 : decode (zm_cc 242) 77 = .ok (.ifCond .ne 39, 3) := by decide +kernel
theorem zd_242_80 : decode (zm_cc 242) 80 = .ok (.aload_n 0, 1) := by decide +kernel
theorem zd_242_81 : decode (zm_cc 242) 81 = .ok (.iload_n 1, 1) := by decide +kernel
theorem zd_242_82 : decode (zm_cc 242) 82 = .ok (.iload 4, 2) := by decide +kernel
theorem zd_242_84 : decode (zm_cc 242) 84 = .ok (.iload 6, 2) := by decide +kernel
theorem zd_242_86 : decode (zm_cc 242) 86 = .ok (.invokevirtual 120, 3) := by decide +kernel
theorem zd_242_89 : decode (zm_cc 242) 89 = .ok (.ifCond .eq 27, 3) := by decide +kernel
theorem zd_242_92 : decode (zm_cc 242) 92 = .ok (.aload_n 0, 1) := by decide +kernel
theorem zd_242_93 : decode (zm_cc 242) 93 = .ok (.getfield 15, 3) := by decide +kernel
theorem zd_242_96 : decode (zm_cc 242) 96 = .ok (.iload_n 1, 1) := by decide +kernel
theorem zd_242_97 : decode (zm_cc 242) 97 = .ok (.iload 7, 2) := by decide +kernel
theorem zd_242_99 : decode (zm_cc 242) 99 = .ok (.iastore, 1) := by decide +kernel
theorem zd_242_100 : decode (zm_cc 242) 100 = .ok (.iload 5, 2) := by decide +kernel
theorem zd_242_102 : decode (zm_cc 242) 102 = .ok (.aload_n 0, 1) := by decide +kernel
theorem zd_242_103 : decode (zm_cc 242) 103 = .ok (.iload_n 1, 1) := by decide +kernel
theorem zd_242_104 : decode (zm_cc 242) 104 = .ok (.iconst 1, 1) := by decide +kernel
theorem zd_242_105 : decode (zm_cc 242) 105 = .ok (.iadd, 1) := by decide +kernel
theorem zd_242_106 : decode (zm_cc 242) 106 = .ok (.iload_n 2, 1) := by decide +kernel
theorem zd_242_107 : decode (zm_cc 242) 107 = .ok (.iload 8, 2) := by decide +kernel
theorem zd_242_109 : decode (zm_cc 242) 109 = .ok (.ior, 1) := by decide +kernel
theorem zd_242_110 : decode (zm_cc 242) 110 = .ok (.invokevirtual 110, 3) := by decide +kernel
theorem zd_242_113 : decode (zm_cc 242) 113 = .ok (.iadd, 1) := by decide +kernel
theorem zd_242_114 : decode (zm_cc 242) 114 = .ok (.istore 5, 2) := by decide +kernel
theorem zd_242_116 : decode (zm_cc 242) 116 = .ok (.iinc 6 1, 3) := by decide +kernel
theorem zd_242_119 : decode (zm_cc 242) 119 = .ok (.goto (-113), 3) := by decide +kernel
theorem zd_242_122 : decode (zm_cc 242) 122 = .ok (.iload 5, 2) := by decide +kernel
theorem zd_242_124 : decode (zm_cc 242) 124 = .ok (.ireturn, 1) := by decide +kernel
theorem zd_243_0 : decode (zm_cc 243) 0 = .ok (.iconst 0, 1) := by decide +kernel
theorem zd_243_1 : decode (zm_cc 243) 1 = .ok (.istore 4, 2) := by decide +kernel
theorem zd_243_3 : decode (zm_cc 243) 3 = .ok (.iload 4, 2) := by decide +kernel
theorem zd_243_5 : decode (zm_cc 243) 5 = .ok (.iload_n 1, 1) := by decide +kernel
theorem zd_243_6 : decode (zm_cc 243) 6 = .ok (.if_icmp .ge 56, 3) := by decide +kernel
theorem zd_243_9 : decode (zm_cc 243) 9 = .ok (.iload 4, 2) := by decide +kernel
theorem zd_243_11 : decode (zm_cc 243) 11 = .ok (.iconst 4, 1) := by decide +kernel
theorem zd_243_12 : decode (zm_cc 243) 12 = .ok (.if_icmp .ge 50, 3) := by decide +kernel
theorem zd_243_15 : decode (zm_cc 243) 15 = .ok (.aload_n 0, 1) := by decide +kernel
theorem zd_243_16 : decode (zm_cc 243) 16 = .ok (.getfield 15, 3) := by decide +kernel
theorem zd_243_19 : decode (zm_cc 243) 19 = .ok (.iload 4, 2) := by decide +kernel
theorem zd_243_21 : decode (zm_cc 243) 21 = .ok (.iaload, 1) := by decide +kernel
theorem zd_243_22 : decode (zm_cc 243) 22 = .ok (.bipush 24, 2) := by decide +kernel
theorem zd_243_24 : decode (zm_cc 243) 24 = .ok (.idiv, 1) := by decide +kernel
theorem zd_243_25 : decode (zm_cc 243) 25 = .ok (.istore 5, 2) := by decide +kernel
theorem zd_243_27 : decode (zm_cc 243) 27 = .ok (.iload 5, 2) := by decide +kernel
theorem zd_243_29 : decode (zm_cc 243) 29 = .ok (.iload_n 2, 1) := by decide +kernel
theorem zd_243_30 : decode (zm_cc 243) 30 = .ok (.if_icmp .eq 24, 3) := by decide +kernel
theorem zd_243_33 : decode (zm_cc 243) 33 = .ok (.aload_n 0, 1) := by decide +kernel
theorem zd_243_34 : decode (zm_cc 243) 34 = .ok (.iload 5, 2) := by decide +kernel
theorem zd_243_36 : decode (zm_cc 243) 36 = .ok (.aload_n 0, 1) := by decide +kernel
theorem zd_243_37 : decode (zm_cc 243) 37 = .ok (.getfield 15, 3) := by decide +kernel
theorem zd_243_40 : decode (zm_cc 243) 40 = .ok (.iload 4, 2) := by decide +kernel
theorem zd_243_42 : decode (zm_cc 243) 42 = .ok (.iaload, 1) := by decide +kernel
theorem zd_243_43 : decode (zm_cc 243) 43 = .ok (.bipush 24, 2) := by decide +kernel
theorem zd_243_45 : decode (zm_cc 243) 45 = .ok (.irem, 1) := by decide +kernel
theorem zd_243_46 : decode (zm_cc 243) 46 = .ok (.iload_n 2, 1) := by decide +kernel
theorem zd_243_47 : decode (zm_cc 243) 47 = .ok (.iload_n 3, 1) := by decide +kernel
theorem zd_243_48 : decode (zm_cc 243) 48 = .ok (.invokevirtual 104, 3) := by decide +kernel
theorem zd_243_51 : decode (zm_cc 243) 51 = .ok (.ifCond .ne 5, 3) := by decide +kernel
theorem zd_243_54 : decode (zm_cc 243) 54 = .ok (.iconst 0, 1) := by decide +kernel
theorem zd_243_55 : decode (zm_cc 243) 55 = .ok (.ireturn, 1) := by decide +kernel
theorem zd_243_56 : decode (zm_cc 243) 56 = .ok (.iinc 4 1, 3) := by decide +kernel
theorem zd_243_59 : decode (zm_cc 243) 59 = .ok (.goto (-56), 3) := by decide +kernel
theorem zd_243_62 : decode (zm_cc 243) 62 = .ok (.iconst 1, 1) := by decide +kernel
theorem zd_243_63 : decode (zm_cc 243) 63 = .ok (.ireturn, 1) := by decide +kernel
theorem zd_244_0 : decode (zm_cc 244) 0 = .ok (.aload_n 0, 1) := by decide +kernel
theorem zd_244_1 : decode (zm_cc 244) 1 = .ok (.iconst 0, 1) := by decide +kernel
theorem zd_244_2 : decode (zm_cc 244) 2 = .ok (.putfield 1, 3) := by decide +kernel
theorem zd_244_5 : decode (zm_cc 244) 5 = .ok (.aload_n 0, 1) := by decide +kernel
theorem zd_244_6 : decode (zm_cc 244) 6 = .ok (.getfield 335, 3) := by decide +kernel
theorem zd_244_9 : decode (zm_cc 244) 9 = .ok (.ifCond .eq 12, 3) := by decide +kernel
theorem zd_244_12 : decode (zm_cc 244) 12 = .ok (.aload_n 0, 1) := by decide +kernel
theorem zd_244_13 : decode (zm_cc 244) 13 = .ok (.iconst 0, 1) := by decide +kernel
theorem zd_244_14 : decode (zm_cc 244) 14 = .ok (.iconst 1, 1) := by decide +kernel
theorem zd_244_15 : decode (zm_cc 244) 15 = .ok (.invokevirtual 463, 3) := by decide +kernel
theorem zd_244_18 : decode (zm_cc 244) 18 = .ok (.goto 5, 3) := by decide +kernel
theorem zd_244_21 : decode (zm_cc 244) 21 = .ok (.bipush (-101), 2) := by decide +kernel
theorem zd_244_23 : decode (zm_cc 244) 23 = .ok (.ireturn, 1) := by decide +kernel
theorem zd_245_0 : decode (zm_cc 245) 0 = .ok (.iconst 0, 1) := by decide +kernel
theorem zd_245_1 : decode (zm_cc 245) 1 = .ok (.istore_n 3, 1) := by decide +kernel
theorem zd_245_2 : decode (zm_cc 245) 2 = .ok (.iconst 0, 1) := by decide +kernel
theorem zd_245_3 : decode (zm_cc 245) 3 = .ok (.istore 4, 2) := by decide +kernel
theorem zd_245_5 : decode (zm_cc 245) 5 = .ok (.iload 4, 2) := by decide +kernel
theorem zd_245_7 : decode (zm_cc 245) 7 = .ok (.bipush 24, 2) := by decide +kernel
theorem zd_245_9 : decode (zm_cc 245) 9 = .ok (.aload_n 0, 1) := by decide +kernel
theorem zd_245_10 : decode (zm_cc 245) 10 = .ok (.getfield 225, 3) := by decide +kernel
theorem zd_245_13 : decode (zm_cc 245) 13 = .ok (.imul, 1) := by decide +kernel
theorem zd_245_14 : decode (zm_cc 245) 14 = .ok (.if_icmp .ge 107, 3) := by decide +kernel
theorem zd_245_17 : decode (zm_cc 245) 17 = .ok (.bipush 24, 2) := by decide +kernel
theorem zd_245_19 : decode (zm_cc 245) 19 = .ok (.iload 4, 2) := by decide +kernel
theorem zd_245_21 : decode (zm_cc 245) 21 = .ok (.bipush 24, 2) := by decide +kernel
theorem zd_245_23 : decode (zm_cc 245) 23 = .ok (.idiv, 1) := by decide +kernel
theorem zd_245_24 : decode (zm_cc 245) 24 = .ok (.iconst 1, 1) := by decide +kernel
theorem zd_245_25 : decode (zm_cc 245) 25 = .ok (.iadd, 1) := by decide +kernel
theorem zd_245_26 : decode (zm_cc 245) 26 = .ok (.imul, 1) := by decide +kernel
theorem zd_245_27 : decode (zm_cc 245) 27 = .ok (.istore 5, 2) := by decide +kernel
theorem zd_245_29 : decode (zm_cc 245) 29 = .ok (.iload 5, 2) := by decide +kernel
theorem zd_245_31 : decode (zm_cc 245) 31 = .ok (.bipush 24, 2) := by decide +kernel
theorem zd_245_33 : decode (zm_cc 245) 33 = .ok (.aload_n 0, 1) := by decide +kernel
theorem zd_245_34 : decode (zm_cc 245) 34 = .ok (.getfield 225, 3) := by decide +kernel
theorem zd_245_37 : decode (zm_cc 245) 37 = .ok (.imul, 1) := by decide +kernel
theorem zd_245_38 : decode (zm_cc 245) 38 = .ok (.if_icmp .ge 77, 3) := by decide +kernel
theorem zd_245_41 : decode (zm_cc 245) 41 = .ok (.iload 4, 2) := by decide +kernel
theorem zd_245_43 : decode (zm_cc 245) 43 = .ok (.bipush 24, 2) := by decide +kernel
theorem zd_245_45 : decode (zm_cc 245) 45 = .ok (.irem, 1) := by decide +kernel
theorem zd_245_46 : decode (zm_cc 245) 46 = .ok (.aload_n 0, 1) := by decide +kernel
theorem zd_245_47 : decode (zm_cc 245) 47 = .ok (.getfield 37, 3) := by decide +kernel
theorem zd_245_50 : decode (zm_cc 245) 50 = .ok (.iload 4, 2) := by decide +kernel
theorem zd_245_52 : decode (zm_cc 245) 52 = .ok (.bipush 24, 2) := by decide +kernel
theorem zd_245_54 : decode (zm_cc 245) 54 = .ok (.idiv, 1) := by decide +kernel
theorem zd_245_55 : decode (zm_cc 245) 55 = .ok (.iaload, 1) := by decide +kernel
theorem zd_245_56 : decode (zm_cc 245) 56 = .ok (.if_icmp .ge 59, 3) := by decide +kernel
theorem zd_245_59 : decode (zm_cc 245) 59 = .ok (.iload 5, 2) := by decide +kernel
theorem zd_245_61 : decode (zm_cc 245) 61 = .ok (.bipush 24, 2) := by decide +kernel
theorem zd_245_63 : decode (zm_cc 245) 63 = .ok (.irem, 1) := by decide +kernel
theorem zd_245_64 : decode (zm_cc 245) 64 = .ok (.aload_n 0, 1) := by decide +kernel
theorem zd_245_65 : decode (zm_cc 245) 65 = .ok (.getfield 37, 3) := by decide +kernel
theorem zd_245_68 : decode (zm_cc 245) 68 = .ok (.iload 5, 2) := by decide +kernel
theorem zd_245_70 : decode (zm_cc 245) 70 = .ok (.bipush 24, 2) := by decide +kernel
theorem zd_245_72 : decode (zm_cc 245) 72 = .ok (.idiv, 1) := by decide +kernel
theorem zd_245_73 : decode (zm_cc 245) 73 = .ok (.iaload, 1) := by decide +kernel
theorem zd_245_74 : decode (zm_cc 245) 74 = .ok (.if_icmp .ge 35, 3) := by decide +kernel
theorem zd_245_77 : decode (zm_cc 245) 77 = .ok (.aload_n 0, 1) := by decide +kernel
theorem zd_245_78 : decode (zm_cc 245) 78 = .ok (.iload 4, 2) := by decide +kernel
theorem zd_245_80 : decode (zm_cc 245) 80 = .ok (.iload 5, 2) := by decide +kernel
theorem zd_245_82 : decode (zm_cc 245) 82 = .ok (.invokevirtual 460, 3) := by decide +kernel
theorem zd_245_85 : decode (zm_cc 245) 85 = .ok (.ifCond .eq 24, 3) := by decide +kernel
theorem zd_245_88 : decode (zm_cc 245) 88 = .ok (.iload_n 2, 1) := by decide +kernel
theorem zd_245_89 : decode (zm_cc 245) 89 = .ok (.ifCond .ne 17, 3) := by decide +kernel
theorem zd_245_92 : decode (zm_cc 245) 92 = .ok (.iload_n 3, 1) := by decide +kernel
theorem zd_245_93 : decode (zm_cc 245) 93 = .ok (.iload_n 1, 1) := by decide +kernel
theorem zd_245_94 : decode (zm_cc 245) 94 = .ok (.if_icmp .ne 12, 3) := by decide +kernel
theorem zd_245_97 : decode (zm_cc 245) 97 = .ok (.bipush 96, 2) := by decide +kernel
theorem zd_245_99 : decode (zm_cc 245) 99 = .ok (.iload 4, 2) := by decide +kernel
theorem zd_245_101 : decode (zm_cc 245) 101 = .ok (.imul, 1) := by decide +kernel
theorem zd_245_102 : decode (zm_cc 245) 102 = .ok (.iload 5, 2) := by decide +kernel
theorem zd_245_104 : decode (zm_cc 245) 104 = .ok (.iadd, 1) := by decide +kernel
theorem zd_245_105 : decode (zm_cc 245) 105 = .ok (.ireturn, 1) := by decide +kernel
theorem zd_245_106 : decode (zm_cc 245) 106 = .ok (.iinc 3 1, 3) := by decide +kernel
theorem zd_245_109 : decode (zm_cc 245) 109 = .ok (.iinc 5 1, 3) := by decide +kernel
theorem zd_245_112 : decode (zm_cc 245) 112 = .ok (.goto (-83), 3) := by decide +kernel
theorem zd_245_115 : decode (zm_cc 245) 115 = .ok (.iinc 4 1, 3) := by decide +kernel
theorem zd_245_118 : decode (zm_cc 245) 118 = .ok (.goto (-113), 3) := by decide +kernel
theorem zd_245_121 : decode (zm_cc 245) 121 = .ok (.iload_n 2, 1) := by decide +kernel
theorem zd_245_122 : decode (zm_cc 245) 122 = .ok (.ifCond .eq 7, 3) := by decide +kernel
theorem zd_245_125 : decode (zm_cc 245) 125 = .ok (.iload_n 3, 1) := by decide +kernel
theorem zd_245_126 : decode (zm_cc 245) 126 = .ok (.goto 4, 3) := by decide +kernel
theorem zd_245_129 : decode (zm_cc 245) 129 = .ok (.iconst (-1), 1) := by decide +kernel
theorem zd_245_130 : decode (zm_cc 245) 130 = .ok (.ireturn, 1) := by decide +kernel
theorem zd_246_0 : decode (zm_cc 246) 0 = .ok (.aload_n 0, 1) := by decide +kernel
theorem zd_246_1 : decode (zm_cc 246) 1 = .ok (.iload_n 1, 1) := by decide +kernel
theorem zd_246_2 : decode (zm_cc 246) 2 = .ok (.iload_n 2, 1) := by decide +kernel
theorem zd_246_3 : decode (zm_cc 246) 3 = .ok (.invokevirtual 386, 3) := by decide +kernel
theorem zd_246_6 : decode (zm_cc 246) 6 = .ok (.ifCond .eq 46, 3) := by decide +kernel
theorem zd_246_9 : decode (zm_cc 246) 9 = .ok (.aload_n 0, 1) := by decide +kernel
theorem zd_246_10 : decode (zm_cc 246) 10 = .ok (.getfield 55, 3) := by decide +kernel
theorem zd_246_13 : decode (zm_cc 246) 13 = .ok (.iload_n 1, 1) := by decide +kernel
theorem zd_246_14 : decode (zm_cc 246) 14 = .ok (.iaload, 1) := by decide +kernel
theorem zd_246_15 : decode (zm_cc 246) 15 = .ok (.aload_n 0, 1) := by decide +kernel
theorem zd_246_16 : decode (zm_cc 246) 16 = .ok (.getfield 55, 3) := by decide +kernel
theorem zd_246_19 : decode (zm_cc 246) 19 = .ok (.iload_n 2, 1) := by decide +kernel
theorem zd_246_20 : decode (zm_cc 246) 20 = .ok (.iaload, 1) := by decide +kernel
theorem zd_246_21 : decode (zm_cc 246) 21 = .ok (.iand, 1) := by decide +kernel
theorem zd_246_22 : decode (zm_cc 246) 22 = .ok (.ifCond .ne 30, 3) := by decide +kernel
theorem zd_246_25 : decode (zm_cc 246) 25 = .ok (.aload_n 0, 1) := by decide +kernel
theorem zd_246_26 : decode (zm_cc 246) 26 = .ok (.iload_n 1, 1) := by decide +kernel
theorem zd_246_27 : decode (zm_cc 246) 27 = .ok (.bipush 24, 2) := by decide +kernel
theorem zd_246_29 : decode (zm_cc 246) 29 = .ok (.idiv, 1) := by decide +kernel
theorem zd_246_30 : decode (zm_cc 246) 30 = .ok (.iload_n 1, 1) := by decide +kernel
theorem zd_246_31 : decode (zm_cc 246) 31 = .ok (.bipush 24, 2) := by decide +kernel
theorem zd_246_33 : decode (zm_cc 246) 33 = .ok (.irem, 1) := by decide +kernel
theorem zd_246_34 : decode (zm_cc 246) 34 = .ok (.iload_n 2, 1) := by decide +kernel
theorem zd_246_35 : decode (zm_cc 246) 35 = .ok (.bipush 24, 2) := by decide +kernel
theorem zd_246_37 : decode (zm_cc 246) 37 = .ok (.idiv, 1) := by decide +kernel
theorem zd_246_38 : decode (zm_cc 246) 38 = .ok (.iload_n 2, 1) := by decide +kernel
theorem zd_246_39 : decode (zm_cc 246) 39 = .ok (.bipush 24, 2) := by decide +kernel
theorem zd_246_41 : decode (zm_cc 246) 41 = .ok (.irem, 1) := by decide +kernel
theorem zd_246_42 : decode (zm_cc 246) 42 = .ok (.invokevirtual 456, 3) := by decide +kernel
theorem zd_246_45 : decode (zm_cc 246) 45 = .ok (.ifCond .eq 7, 3) := by decide +kernel
theorem zd_246_48 : decode (zm_cc 246) 48 = .ok (.iconst 1, 1) := by decide +kernel
theorem zd_246_49 : decode (zm_cc 246) 49 = .ok (.goto 4, 3) := by decide +kernel
theorem zd_246_52 : decode (zm_cc 246) 52 = .ok (.iconst 0, 1) := by decide +kernel
theorem zd_246_53 : decode (zm_cc 246) 53 = .ok (.ireturn, 1) := by decide +kernel
theorem zd_247_0 : decode (zm_cc 247) 0 = .ok (.aload_n 0, 1) := by decide +kernel
theorem zd_247_1 : decode (zm_cc 247) 1 = .ok (.iload_n 1, 1) := by decide +kernel
theorem zd_247_2 : decode (zm_cc 247) 2 = .ok (.iload_n 3, 1) := by decide +kernel
theorem zd_247_3 : decode (zm_cc 247) 3 = .ok (.iload 4, 2) := by decide +kernel
theorem zd_247_5 : decode (zm_cc 247) 5 = .ok (.invokevirtual 453, 3) := by decide +kernel
theorem zd_247_8 : decode (zm_cc 247) 8 = .ok (.ifCond .ne 17, 3) := by decide +kernel
theorem zd_247_11 : decode (zm_cc 247) 11 = .ok (.aload_n 0, 1) := by decide +kernel
theorem zd_247_12 : decode (zm_cc 247) 12 = .ok (.iload_n 3, 1) := by decide +kernel
theorem zd_247_13 : decode (zm_cc 247) 13 = .ok (.iload_n 1, 1) := by decide +kernel
theorem zd_247_14 : decode (zm_cc 247) 14 = .ok (.iload_n 2, 1) := by decide +kernel
theorem zd_247_15 : decode (zm_cc 247) 15 = .ok (.invokevirtual 453, 3) := by decide +kernel
theorem zd_247_18 : decode (zm_cc 247) 18 = .ok (.ifCond .ne 7, 3) := by decide +kernel
theorem zd_247_21 : decode (zm_cc 247) 21 = .ok (.iconst 1, 1) := by decide +kernel
theorem zd_247_22 : decode (zm_cc 247) 22 = .ok (.goto 4, 3) := by decide +kernel
theorem zd_247_25 : decode (zm_cc 247) 25 = .ok (.iconst 0, 1) := by decide +kernel
theorem zd_247_26 : decode (zm_cc 247) 26 = .ok (.ireturn, 1) := by decide +kernel
theorem zd_248_0 : decode (zm_cc 248) 0 = .ok (.iconst 0, 1) := by decide +kernel
theorem zd_248_1 : decode (zm_cc 248) 1 = .ok (.istore 4, 2) := by decide +kernel
theorem zd_248_3 : decode (zm_cc 248) 3 = .ok (.iconst 1, 1) := by decide +kernel
theorem zd_248_4 : decode (zm_cc 248) 4 = .ok (.istore 5, 2) := by decide +kernel
theorem zd_248_6 : decode (zm_cc 248) 6 = .ok (.iconst 0, 1) := by decide +kernel
theorem zd_248_7 : decode (zm_cc 248) 7 = .ok (.istore 6, 2) := by decide +kernel
theorem zd_248_9 : decode (zm_cc 248) 9 = .ok (.iconst 0, 1) := by decide +kernel
theorem zd_248_10 : decode (zm_cc 248) 10 = .ok (.istore 7, 2) := by decide +kernel
theorem zd_248_12 : decode (zm_cc 248) 12 = .ok (.iconst 0, 1) := by decide +kernel
theorem zd_248_13 : decode (zm_cc 248) 13 = .ok (.istore 8, 2) := by decide +kernel
theorem zd_248_15 : decode (zm_cc 248) 15 = .ok (.iload 8, 2) := by decide +kernel
theorem zd_248_17 : decode (zm_cc 248) 17 = .ok (.bipush 24, 2) := by decide +kernel
theorem zd_248_19 : decode (zm_cc 248) 19 = .ok (.aload_n 0, 1) := by decide +kernel
theorem zd_248_20 : decode (zm_cc 248) 20 = .ok (.getfield 225, 3) := by decide +kernel
theorem zd_248_23 : decode (zm_cc 248) 23 = .ok (.imul, 1) := by decide +kernel
theorem zd_248_24 : decode (zm_cc 248) 24 = .ok (.if_icmp .ge 147, 3) := by decide +kernel
theorem zd_248_27 : decode (zm_cc 248) 27 = .ok (.iload 8, 2) := by decide +kernel
theorem zd_248_29 : decode (zm_cc 248) 29 = .ok (.bipush 24, 2) := by decide +kernel
theorem zd_248_31 : decode (zm_cc 248) 31 = .ok (.idiv, 1) := by decide +kernel
theorem zd_248_32 : decode (zm_cc 248) 32 = .ok (.istore 9, 2) := by decide +kernel
theorem zd_248_34 : decode (zm_cc 248) 34 = .ok (.iload 8, 2) := by decide +kernel
theorem zd_248_36 : decode (zm_cc 248) 36 = .ok (.bipush 24, 2) := by decide +kernel
theorem zd_248_38 : decode (zm_cc 248) 38 = .ok (.irem, 1) := by decide +kernel
theorem zd_248_39 : decode (zm_cc 248) 39 = .ok (.aload_n 0, 1) := by decide +kernel
theorem zd_248_40 : decode (zm_cc 248) 40 = .ok (.getfield 37, 3) := by decide +kernel
theorem zd_248_43 : decode (zm_cc 248) 43 = .ok (.iload 9, 2) := by decide +kernel
theorem zd_248_45 : decode (zm_cc 248) 45 = .ok (.iaload, 1) := by decide +kernel
theorem zd_248_46 : decode (zm_cc 248) 46 = .ok (.if_icmp .ge 119, 3) := by decide +kernel
theorem zd_248_49 : decode (zm_cc 248) 49 = .ok (.aload_n 0, 1) := by decide +kernel
theorem zd_248_50 : decode (zm_cc 248) 50 = .ok (.getfield 46, 3) := by decide +kernel
theorem zd_248_53 : decode (zm_cc 248) 53 = .ok (.iload 8, 2) := by decide +kernel
theorem zd_248_55 : decode (zm_cc 248) 55 = .ok (.iaload, 1) := by decide +kernel
theorem zd_248_56 : decode (zm_cc 248) 56 = .ok (.iload_n 1, 1) := by decide +kernel
theorem zd_248_57 : decode (zm_cc 248) 57 = .ok (.if_icmp .ne 108, 3) := by decide +kernel
theorem zd_248_60 : decode (zm_cc 248) 60 = .ok (.aload_n 0, 1) := by decide +kernel
theorem zd_248_61 : decode (zm_cc 248) 61 = .ok (.getfield 43, 3) := by decide +kernel
theorem zd_248_64 : decode (zm_cc 248) 64 = .ok (.iload 8, 2) := by decide +kernel
theorem zd_248_66 : decode (zm_cc 248) 66 = .ok (.iaload, 1) := by decide +kernel
theorem zd_248_67 : decode (zm_cc 248) 67 = .ok (.bipush 10, 2) := by decide +kernel
theorem zd_248_69 : decode (zm_cc 248) 69 = .ok (.if_icmp .ne 66, 3) := by decide +kernel
theorem zd_248_72 : decode (zm_cc 248) 72 = .ok (.iconst 1, 1) := by decide +kernel
theorem zd_248_73 : decode (zm_cc 248) 73 = .ok (.istore 4, 2) := by decide +kernel
theorem zd_248_75 : decode (zm_cc 248) 75 = .ok (.iload 5, 2) := by decide +kernel
theorem zd_248_77 : decode (zm_cc 248) 77 = .ok (.ifCond .eq 13, 3) := by decide +kernel
theorem zd_248_80 : decode (zm_cc 248) 80 = .ok (.iload 9, 2) := by decide +kernel
theorem zd_248_82 : decode (zm_cc 248) 82 = .ok (.iload_n 2, 1) := by decide +kernel
theorem zd_248_83 : decode (zm_cc 248) 83 = .ok (.if_icmp .ne 7, 3) := by decide +kernel
theorem zd_248_86 : decode (zm_cc 248) 86 = .ok (.iconst 1, 1) := by decide +kernel
theorem zd_248_87 : decode (zm_cc 248) 87 = .ok (.goto 4, 3) := by decide +kernel
theorem zd_248_90 : decode (zm_cc 248) 90 = .ok (.iconst 0, 1) := by decide +kernel
theorem zd_248_91 : decode (zm_cc 248) 91 = .ok (.istore 5, 2) := by decide +kernel
theorem zd_248_93 : decode (zm_cc 248) 93 = .ok (.iload 6, 2) := by decide +kernel
theorem zd_248_95 : decode (zm_cc 248) 95 = .ok (.ifCond .ne 33, 3) := by decide +kernel
theorem zd_248_98 : decode (zm_cc 248) 98 = .ok (.iload 9, 2) := by decide +kernel
theorem zd_248_100 : decode (zm_cc 248) 100 = .ok (.iload_n 2, 1) := by decide +kernel
theorem zd_248_101 : decode (zm_cc 248) 101 = .ok (.if_icmp .ne 31, 3) := by decide +kernel
theorem zd_248_104 : decode (zm_cc 248) 104 = .ok (.aload_n 0, 1) := by decide +kernel
theorem zd_248_105 : decode (zm_cc 248) 105 = .ok (.iload_n 2, 1) := by decide +kernel
theorem zd_248_106 : decode (zm_cc 248) 106 = .ok (.aload_n 0, 1) := by decide +kernel
theorem zd_248_107 : decode (zm_cc 248) 107 = .ok (.iload_n 2, 1) := by decide +kernel
theorem zd_248_108 : decode (zm_cc 248) 108 = .ok (.iload 8, 2) := by decide +kernel
theorem zd_248_110 : decode (zm_cc 248) 110 = .ok (.bipush 24, 2) := by decide +kernel
theorem zd_248_112 : decode (zm_cc 248) 112 = .ok (.irem, 1) := by decide +kernel
theorem zd_248_113 : decode (zm_cc 248) 113 = .ok (.invokevirtual 446, 3) := by decide +kernel
theorem zd_248_116 : decode (zm_cc 248) 116 = .ok (.iconst 0, 1) := by decide +kernel
theorem zd_248_117 : decode (zm_cc 248) 117 = .ok (.invokevirtual 449, 3) := by decide +kernel
theorem zd_248_120 : decode (zm_cc 248) 120 = .ok (.iload_n 3, 1) := by decide +kernel
theorem zd_248_121 : decode (zm_cc 248) 121 = .ok (.ishr, 1) := by decide +kernel
theorem zd_248_122 : decode (zm_cc 248) 122 = .ok (.iconst 1, 1) := by decide +kernel
theorem zd_248_123 : decode (zm_cc 248) 123 = .ok (.iand, 1) := by decide +kernel
theorem zd_248_124 : decode (zm_cc 248) 124 = .ok (.iconst 1, 1) := by decide +kernel
theorem zd_248_125 : decode (zm_cc 248) 125 = .ok (.if_icmp .ne 7, 3) := by decide +kernel
theorem zd_248_128 : decode (zm_cc 248) 128 = .ok (.iconst 1, 1) := by decide +kernel
theorem zd_248_129 : decode (zm_cc 248) 129 = .ok (.goto 4, 3) := by decide +kernel
theorem zd_248_132 : decode (zm_cc 248) 132 = .ok (.iconst 0, 1) := by decide +kernel
theorem zd_248_133 : decode (zm_cc 248) 133 = .ok (.istore 6, 2) := by decide +kernel
theorem zd_248_135 : decode (zm_cc 248) 135 = .ok (.aload_n 0, 1) := by decide +kernel
theorem zd_248_136 : decode (zm_cc 248) 136 = .ok (.getfield 43, 3) := by decide +kernel
theorem zd_248_139 : decode (zm_cc 248) 139 = .ok (.iload 8, 2) := by decide +kernel
theorem zd_248_141 : decode (zm_cc 248) 141 = .ok (.iaload, 1) := by decide +kernel
theorem zd_248_142 : decode (zm_cc 248) 142 = .ok (.bipush 11, 2) := by decide +kernel
theorem zd_248_144 : decode (zm_cc 248) 144 = .ok (.if_icmp .ne 21, 3) := by decide +kernel
theorem zd_248_147 : decode (zm_cc 248) 147 = .ok (.iload 9, 2) := by decide +kernel
theorem zd_248_149 : decode (zm_cc 248) 149 = .ok (.iload_n 2, 1) := by decide +kernel
theorem zd_248_150 : decode (zm_cc 248) 150 = .ok (.if_icmp .ne 15, 3) := by decide +kernel
theorem zd_248_153 : decode (zm_cc 248) 153 = .ok (.iload 7, 2) := by decide +kernel
theorem zd_248_155 : decode (zm_cc 248) 155 = .ok (.iconst 1, 1) := by decide +kernel
theorem zd_248_156 : decode (zm_cc 248) 156 = .ok (.iload 8, 2) := by decide +kernel
theorem zd_248_158 : decode (zm_cc 248) 158 = .ok (.bipush 24, 2) := by decide +kernel
theorem zd_248_160 : decode (zm_cc 248) 160 = .ok (.irem, 1) := by decide +kernel
theorem zd_248_161 : decode (zm_cc 248) 161 = .ok (.ishl, 1) := by decide +kernel
theorem zd_248_162 : decode (zm_cc 248) 162 = .ok (.ior, 1) := by decide +kernel
theorem zd_248_163 : decode (zm_cc 248) 163 = .ok (.istore 7, 2) := by decide +kernel
theorem zd_248_165 : decode (zm_cc 248) 165 = .ok (.iinc 8 1, 3) := by decide +kernel
theorem zd_248_168 : decode (zm_cc 248) 168 = .ok (.goto (-153), 3) := by decide +kernel
theorem zd_248_171 : decode (zm_cc 248) 171 = .ok (.iload 4, 2) := by decide +kernel
theorem zd_248_173 : decode (zm_cc 248) 173 = .ok (.ifCond .eq 13, 3) := by decide +kernel
theorem zd_248_176 : decode (zm_cc 248) 176 = .ok (.iload 5, 2) := by decide +kernel
theorem zd_248_178 : decode (zm_cc 248) 178 = .ok (.ifCond .eq 8, 3) := by decide +kernel
theorem zd_248_181 : decode (zm_cc 248) 181 = .ok (.iload 6, 2) := by decide +kernel
theorem zd_248_183 : decode (zm_cc 248) 183 = .ok (.ifCond .eq 18, 3) := by decide +kernel
theorem zd_248_186 : decode (zm_cc 248) 186 = .ok (.aload_n 0, 1) := by decide +kernel
theorem zd_248_187 : decode (zm_cc 248) 187 = .ok (.iload_n 2, 1) := by decide +kernel
theorem zd_248_188 : decode (zm_cc 248) 188 = .ok (.iconst 1, 1) := by decide +kernel
theorem zd_248_189 : decode (zm_cc 248) 189 = .ok (.iload 7, 2) := by decide +kernel
theorem zd_248_191 : decode (zm_cc 248) 191 = .ok (.invokevirtual 449, 3) := by decide +kernel
theorem zd_248_194 : decode (zm_cc 248) 194 = .ok (.iload_n 3, 1) := by decide +kernel
theorem zd_248_195 : decode (zm_cc 248) 195 = .ok (.ishr, 1) := by decide +kernel
theorem zd_248_196 : decode (zm_cc 248) 196 = .ok (.iconst 1, 1) := by decide +kernel
theorem zd_248_197 : decode (zm_cc 248) 197 = .ok (.iand, 1) := by decide +kernel
theorem zd_248_198 : decode (zm_cc 248) 198 = .ok (.ifCond .ne 7, 3) := by decide +kernel
theorem zd_248_201 : decode (zm_cc 248) 201 = .ok (.iconst 1, 1) := by decide +kernel
theorem zd_248_202 : decode (zm_cc 248) 202 = .ok (.goto 4, 3) := by decide +kernel
theorem zd_248_205 : decode (zm_cc 248) 205 = .ok (.iconst 0, 1) := by decide +kernel
theorem zd_248_206 : decode (zm_cc 248) 206 = .ok (.ireturn, 1) := by decide +kernel
theorem zd_249_0 : decode (zm_cc 249) 0 = .ok (.bipush 24, 2) := by decide +kernel
theorem zd_249_2 : decode (zm_cc 249) 2 = .ok (.iload_n 1, 1) := by decide +kernel
theorem zd_249_3 : decode (zm_cc 249) 3 = .ok (.imul, 1) := by decide +kernel
theorem zd_249_4 : decode (zm_cc 249) 4 = .ok (.iload_n 2, 1) := by decide +kernel
theorem zd_249_5 : decode (zm_cc 249) 5 = .ok (.iadd, 1) := by decide +kernel
theorem zd_249_6 : decode (zm_cc 249) 6 = .ok (.istore_n 3, 1) := by decide +kernel
theorem zd_249_7 : decode (zm_cc 249) 7 = .ok (.aload_n 0, 1) := by decide +kernel
theorem zd_249_8 : decode (zm_cc 249) 8 = .ok (.getfield 43, 3) := by decide +kernel
theorem zd_249_11 : decode (zm_cc 249) 11 = .ok (.iload_n 3, 1) := by decide +kernel
theorem zd_249_12 : decode (zm_cc 249) 12 = .ok (.iaload, 1) := by decide +kernel
theorem zd_249_13 : decode (zm_cc 249) 13 = .ok (.bipush 13, 2) := by decide +kernel
theorem zd_249_15 : decode (zm_cc 249) 15 = .ok (.if_icmp .ne 7, 3) := by decide +kernel
theorem zd_249_18 : decode (zm_cc 249) 18 = .ok (.iconst 0, 1) := by decide +kernel
theorem zd_249_19 : decode (zm_cc 249) 19 = .ok (.goto 11, 3) := by decide +kernel
theorem zd_249_22 : decode (zm_cc 249) 22 = .ok (.iconst 1, 1) := by decide +kernel
theorem zd_249_23 : decode (zm_cc 249) 23 = .ok (.aload_n 0, 1) := by decide +kernel
theorem zd_249_24 : decode (zm_cc 249) 24 = .ok (.getfield 49, 3) := by decide +kernel
theorem zd_249_27 : decode (zm_cc 249) 27 = .ok (.iload_n 3, 1) := by decide +kernel
theorem zd_249_28 : decode (zm_cc 249) 28 = .ok (.iaload, 1) := by decide +kernel
theorem zd_249_29 : decode (zm_cc 249) 29 = .ok (.ishl, 1) := by decide +kernel
theorem zd_249_30 : decode (zm_cc 249) 30 = .ok (.istore 4, 2) := by decide +kernel
theorem zd_249_32 : decode (zm_cc 249) 32 = .ok (.aload_n 0, 1) := by decide +kernel
theorem zd_249_33 : decode (zm_cc 249) 33 = .ok (.getfield 43, 3) := by decide +kernel
theorem zd_249_36 : decode (zm_cc 249) 36 = .ok (.iload_n 3, 1) := by decide +kernel
theorem zd_249_37 : decode (zm_cc 249) 37 = .ok (.iaload, 1) := by decide +kernel
theorem zd_249_38 : decode (zm_cc 249) 38 = .ok (.iconst 5, 1) := by decide +kernel
theorem zd_249_39 : decode (zm_cc 249) 39 = .ok (.if_icmp .eq 14, 3) := by decide +kernel
theorem zd_249_42 : decode (zm_cc 249) 42 = .ok (.aload_n 0, 1) := by decide +kernel
theorem zd_249_43 : decode (zm_cc 249) 43 = .ok (.getfield 43, 3) := by decide +kernel
theorem zd_249_46 : decode (zm_cc 249) 46 = .ok (.iload_n 3, 1) := by decide +kernel
theorem zd_249_47 : decode (zm_cc 249) 47 = .ok (.iaload, 1) := by decide +kernel
theorem zd_249_48 : decode (zm_cc 249) 48 = .ok (.bipush 6, 2) := by decide +kernel
theorem zd_249_50 : decode (zm_cc 249) 50 = .ok (.if_icmp .ne 17, 3) := by decide +kernel
theorem zd_249_53 : decode (zm_cc 249) 53 = .ok (.iload 4, 2) := by decide +kernel
theorem zd_249_55 : decode (zm_cc 249) 55 = .ok (.iconst 1, 1) := by decide +kernel
theorem zd_249_56 : decode (zm_cc 249) 56 = .ok (.aload_n 0, 1) := by decide +kernel
theorem zd_249_57 : decode (zm_cc 249) 57 = .ok (.getfield 52, 3) := by decide +kernel
theorem zd_249_60 : decode (zm_cc 249) 60 = .ok (.iload_n 3, 1) := by decide +kernel
theorem zd_249_61 : decode (zm_cc 249) 61 = .ok (.iaload, 1) := by decide +kernel
theorem zd_249_62 : decode (zm_cc 249) 62 = .ok (.ishl, 1) := by decide +kernel
theorem zd_249_63 : decode (zm_cc 249) 63 = .ok (.ior, 1) := by decide +kernel
theorem zd_249_64 : decode (zm_cc 249) 64 = .ok (.goto 5, 3) := by decide +kernel
theorem zd_249_67 : decode (zm_cc 249) 67 = .ok (.iload 4, 2) := by decide +kernel
theorem zd_249_69 : decode (zm_cc 249) 69 = .ok (.istore 4, 2) := by decide +kernel
theorem zd_249_71 : decode (zm_cc 249) 71 = .ok (.iload 4, 2) := by decide +kernel
theorem zd_249_73 : decode (zm_cc 249) 73 = .ok (.iconst 1, 1) := by decide +kernel
theorem zd_249_74 : decode (zm_cc 249) 74 = .ok (.aload_n 0, 1) := by decide +kernel
theorem zd_249_75 : decode (zm_cc 249) 75 = .ok (.getfield 37, 3) := by decide +kernel
theorem zd_249_78 : decode (zm_cc 249) 78 = .ok (.iload_n 1, 1) := by decide +kernel
theorem zd_249_79 : decode (zm_cc 249) 79 = .ok (.iaload, 1) := by decide +kernel
theorem zd_249_80 : decode (zm_cc 249) 80 = .ok (.ishl, 1) := by decide +kernel
theorem zd_249_81 : decode (zm_cc 249) 81 = .ok (.iconst 1, 1) := by decide +kernel
theorem zd_249_82 : decode (zm_cc 249) 82 = .ok (.isub, 1) := by decide +kernel
theorem zd_249_83 : decode (zm_cc 249) 83 = .ok (.iand, 1) := by decide +kernel
theorem zd_249_84 : decode (zm_cc 249) 84 = .ok (.ireturn, 1) := by decide +kernel
theorem zd_250_0 : decode (zm_cc 250) 0 = .ok (.iload_n 2, 1) := by decide +kernel
theorem zd_250_1 : decode (zm_cc 250) 1 = .ok (.istore 4, 2) := by decide +kernel
theorem zd_250_3 : decode (zm_cc 250) 3 = .ok (.iconst 1, 1) := by decide +kernel
theorem zd_250_4 : decode (zm_cc 250) 4 = .ok (.istore 5, 2) := by decide +kernel
theorem zd_250_6 : decode (zm_cc 250) 6 = .ok (.iload 5, 2) := by decide +kernel
theorem zd_250_8 : decode (zm_cc 250) 8 = .ok (.ifCond .eq 76, 3) := by decide +kernel
theorem zd_250_11 : decode (zm_cc 250) 11 = .ok (.iload 4, 2) := by decide +kernel
theorem zd_250_13 : decode (zm_cc 250) 13 = .ok (.istore 6, 2) := by decide +kernel
theorem zd_250_15 : decode (zm_cc 250) 15 = .ok (.iconst 0, 1) := by decide +kernel
theorem zd_250_16 : decode (zm_cc 250) 16 = .ok (.istore 7, 2) := by decide +kernel
theorem zd_250_18 : decode (zm_cc 250) 18 = .ok (.iload 7, 2) := by decide +kernel
theorem zd_250_20 : decode (zm_cc 250) 20 = .ok (.aload_n 0, 1) := by decide +kernel
theorem zd_250_21 : decode (zm_cc 250) 21 = .ok (.getfield 37, 3) := by decide +kernel
theorem zd_250_24 : decode (zm_cc 250) 24 = .ok (.iload_n 1, 1) := by decide +kernel
theorem zd_250_25 : decode (zm_cc 250) 25 = .ok (.iaload, 1) := by decide +kernel
theorem zd_250_26 : decode (zm_cc 250) 26 = .ok (.if_icmp .ge 41, 3) := by decide +kernel
theorem zd_250_29 : decode (zm_cc 250) 29 = .ok (.iload 4, 2) := by decide +kernel
theorem zd_250_31 : decode (zm_cc 250) 31 = .ok (.iload 7, 2) := by decide +kernel
theorem zd_250_33 : decode (zm_cc 250) 33 = .ok (.ishr, 1) := by decide +kernel
theorem zd_250_34 : decode (zm_cc 250) 34 = .ok (.iconst 1, 1) := by decide +kernel
theorem zd_250_35 : decode (zm_cc 250) 35 = .ok (.iand, 1) := by decide +kernel
theorem zd_250_36 : decode (zm_cc 250) 36 = .ok (.iconst 1, 1) := by decide +kernel
theorem zd_250_37 : decode (zm_cc 250) 37 = .ok (.if_icmp .ne 24, 3) := by decide +kernel
theorem zd_250_40 : decode (zm_cc 250) 40 = .ok (.iload_n 3, 1) := by decide +kernel
theorem zd_250_41 : decode (zm_cc 250) 41 = .ok (.iload 7, 2) := by decide +kernel
theorem zd_250_43 : decode (zm_cc 250) 43 = .ok (.ishr, 1) := by decide +kernel
theorem zd_250_44 : decode (zm_cc 250) 44 = .ok (.iconst 1, 1) := by decide +kernel
theorem zd_250_45 : decode (zm_cc 250) 45 = .ok (.iand, 1) := by decide +kernel
theorem zd_250_46 : decode (zm_cc 250) 46 = .ok (.ifCond .ne 15, 3) := by decide +kernel
theorem zd_250_49 : decode (zm_cc 250) 49 = .ok (.iload 4, 2) := by decide +kernel
theorem zd_250_51 : decode (zm_cc 250) 51 = .ok (.aload_n 0, 1) := by decide +kernel
theorem zd_250_52 : decode (zm_cc 250) 52 = .ok (.iload_n 1, 1) := by decide +kernel
theorem zd_250_53 : decode (zm_cc 250) 53 = .ok (.iload 7, 2) := by decide +kernel
theorem zd_250_55 : decode (zm_cc 250) 55 = .ok (.invokevirtual 446, 3) := by decide +kernel
theorem zd_250_58 : decode (zm_cc 250) 58 = .ok (.ior, 1) := by decide +kernel
theorem zd_250_59 : decode (zm_cc 250) 59 = .ok (.istore 4, 2) := by decide +kernel
theorem zd_250_61 : decode (zm_cc 250) 61 = .ok (.iinc 7 1, 3) := by decide +kernel
theorem zd_250_64 : decode (zm_cc 250) 64 = .ok (.goto (-46), 3) := by decide +kernel
theorem zd_250_67 : decode (zm_cc 250) 67 = .ok (.iload 4, 2) := by decide +kernel
theorem zd_250_69 : decode (zm_cc 250) 69 = .ok (.iload 6, 2) := by decide +kernel
theorem zd_250_71 : decode (zm_cc 250) 71 = .ok (.if_icmp .eq 7, 3) := by decide +kernel
theorem zd_250_74 : decode (zm_cc 250) 74 = .ok (.iconst 1, 1) := by decide +kernel
theorem zd_250_75 : decode (zm_cc 250) 75 = .ok (.goto 4, 3) := by decide +kernel
theorem zd_250_78 : decode (zm_cc 250) 78 = .ok (.iconst 0, 1) := by decide +kernel
theorem zd_250_79 : decode (zm_cc 250) 79 = .ok (.istore 5, 2) := by decide +kernel
theorem zd_250_81 : decode (zm_cc 250) 81 = .ok (.goto (-75), 3) := by decide +kernel
theorem zd_250_84 : decode (zm_cc 250) 84 = .ok (.iload 4, 2) := by decide +kernel
theorem zd_250_86 : decode (zm_cc 250) 86 = .ok (.ireturn, 1) := by decide +kernel
theorem zd_251_0 : decode (zm_cc 251) 0 = .ok (.aload_n 0, 1) := by decide +kernel
theorem zd_251_1 : decode (zm_cc 251) 1 = .ok (.getfield 110, 3) := by decide +kernel
theorem zd_251_4 : decode (zm_cc 251) 4 = .ok (.ifCond .ne 6, 3) := by decide +kernel
theorem zd_251_7 : decode (zm_cc 251) 7 = .ok (.bipush (-101), 2) := by decide +kernel
theorem zd_251_9 : decode (zm_cc 251) 9 = .ok (.ireturn, 1) := by decide +kernel
theorem zd_251_10 : decode (zm_cc 251) 10 = .ok (.aload_n 0, 1) := by decide +kernel
theorem zd_251_11 : decode (zm_cc 251) 11 = .ok (.getfield 73, 3) := by decide +kernel
theorem zd_251_14 : decode (zm_cc 251) 14 = .ok (.invokevirtual 264, 3) := by decide +kernel
theorem zd_251_17 : decode (zm_cc 251) 17 = .ok (.aload_n 0, 1) := by decide +kernel
theorem zd_251_18 : decode (zm_cc 251) 18 = .ok (.getfield 16, 3) := by decide +kernel
theorem zd_251_21 : decode (zm_cc 251) 21 = .ok (.aload_n 0, 1) := by decide +kernel
theorem zd_251_22 : decode (zm_cc 251) 22 = .ok (.getfield 73, 3) := by decide +kernel
theorem zd_251_25 : decode (zm_cc 251) 25 = .ok (.getfield 267, 3) := by decide +kernel
theorem zd_251_28 : decode (zm_cc 251) 28 = .ok (.iload_n 1, 1) := by decide +kernel
theorem zd_251_29 : decode (zm_cc 251) 29 = .ok (.invokevirtual 212, 3) := by decide +kernel
theorem zd_251_32 : decode (zm_cc 251) 32 = .ok (.iload_n 2, 1) := by decide +kernel
theorem zd_251_33 : decode (zm_cc 251) 33 = .ok (.invokevirtual 216, 3) := by decide +kernel
theorem zd_251_36 : decode (zm_cc 251) 36 = .ok (.ireturn, 1) := by decide +kernel
theorem zd_252_0 : decode (zm_cc 252) 0 = .ok (.aload_n 0, 1) := by decide +kernel
theorem zd_252_1 : decode (zm_cc 252) 1 = .ok (.iconst 0, 1) := by decide +kernel
theorem zd_252_2 : decode (zm_cc 252) 2 = .ok (.putfield 1, 3) := by decide +kernel
theorem zd_252_5 : decode (zm_cc 252) 5 = .ok (.aload_n 0, 1) := by decide +kernel
theorem zd_252_6 : decode (zm_cc 252) 6 = .ok (.getfield 335, 3) := by decide +kernel
theorem zd_252_9 : decode (zm_cc 252) 9 = .ok (.ifCond .ne 6, 3) := by decide +kernel
theorem zd_252_12 : decode (zm_cc 252) 12 = .ok (.bipush (-101), 2) := by decide +kernel
theorem zd_252_14 : decode (zm_cc 252) 14 = .ok (.ireturn, 1) := by decide +kernel
theorem zd_252_15 : decode (zm_cc 252) 15 = .ok (.aload_n 0, 1) := by decide +kernel
theorem zd_252_16 : decode (zm_cc 252) 16 = .ok (.iload_n 1, 1) := by decide +kernel
theorem zd_252_17 : decode (zm_cc 252) 17 = .ok (.iconst 0, 1) := by decide +kernel
theorem zd_252_18 : decode (zm_cc 252) 18 = .ok (.invokevirtual 463, 3) := by decide +kernel
theorem zd_252_21 : decode (zm_cc 252) 21 = .ok (.istore_n 3, 1) := by decide +kernel
theorem zd_252_22 : decode (zm_cc 252) 22 = .ok (.iload_n 3, 1) := by decide +kernel
theorem zd_252_23 : decode (zm_cc 252) 23 = .ok (.iconst (-1), 1) := by decide +kernel
theorem zd_252_24 : decode (zm_cc 252) 24 = .ok (.if_icmp .ne 8, 3) := by decide +kernel
theorem zd_252_27 : decode (zm_cc 252) 27 = .ok (.bipush (-102), 2) := by decide +kernel
theorem zd_252_29 : decode (zm_cc 252) 29 = .ok (.goto 9, 3) := by decide +kernel
theorem zd_252_32 : decode (zm_cc 252) 32 = .ok (.aload_n 0, 1) := by decide +kernel
theorem zd_252_33 : decode (zm_cc 252) 33 = .ok (.iload_n 3, 1) := by decide +kernel
theorem zd_252_34 : decode (zm_cc 252) 34 = .ok (.iload_n 2, 1) := by decide +kernel
theorem zd_252_35 : decode (zm_cc 252) 35 = .ok (.invokevirtual 437, 3) := by decide +kernel
theorem zd_252_38 : decode (zm_cc 252) 38 = .ok (.ireturn, 1) := by decide +kernel
theorem zd_253_0 : decode (zm_cc 253) 0 = .ok (.aload_n 0, 1) := by decide +kernel
theorem zd_253_1 : decode (zm_cc 253) 1 = .ok (.getfield 110, 3) := by decide +kernel
theorem zd_253_4 : decode (zm_cc 253) 4 = .ok (.ifCond .ne 6, 3) := by decide +kernel
theorem zd_253_7 : decode (zm_cc 253) 7 = .ok (.bipush (-101), 2) := by decide +kernel
theorem zd_253_9 : decode (zm_cc 253) 9 = .ok (.ireturn, 1) := by decide +kernel
theorem zd_253_10 : decode (zm_cc 253) 10 = .ok (.iload_n 1, 1) := by decide +kernel
theorem zd_253_11 : decode (zm_cc 253) 11 = .ok (.iload_n 3, 1) := by decide +kernel
theorem zd_253_12 : decode (zm_cc 253) 12 = .ok (.if_icmp .eq 32, 3) := by decide +kernel
theorem zd_253_15 : decode (zm_cc 253) 15 = .ok (.aload_n 0, 1) := by decide +kernel
theorem zd_253_16 : decode (zm_cc 253) 16 = .ok (.getfield 16, 3) := by decide +kernel
theorem zd_253_19 : decode (zm_cc 253) 19 = .ok (.iload_n 1, 1) := by decide +kernel
theorem zd_253_20 : decode (zm_cc 253) 20 = .ok (.iload_n 2, 1) := by decide +kernel
theorem zd_253_21 : decode (zm_cc 253) 21 = .ok (.invokevirtual 147, 3) := by decide +kernel
theorem zd_253_24 : decode (zm_cc 253) 24 = .ok (.bipush 96, 2) := by decide +kernel
theorem zd_253_26 : decode (zm_cc 253) 26 = .ok (.if_icmp .eq 18, 3) := by decide +kernel
theorem zd_253_29 : decode (zm_cc 253) 29 = .ok (.aload_n 0, 1) := by decide +kernel
theorem zd_253_30 : decode (zm_cc 253) 30 = .ok (.getfield 16, 3) := by decide +kernel
theorem zd_253_33 : decode (zm_cc 253) 33 = .ok (.iload_n 3, 1) := by decide +kernel
theorem zd_253_34 : decode (zm_cc 253) 34 = .ok (.iload 4, 2) := by decide +kernel
theorem zd_253_36 : decode (zm_cc 253) 36 = .ok (.invokevirtual 147, 3) := by decide +kernel
theorem zd_253_39 : decode (zm_cc 253) 39 = .ok (.bipush 96, 2) := by decide +kernel
theorem zd_253_41 : decode (zm_cc 253) 41 = .ok (.if_icmp .ne 6, 3) := by decide +kernel
theorem zd_253_44 : decode (zm_cc 253) 44 = .ok (.bipush (-102), 2) := by decide +kernel
theorem zd_253_46 : decode (zm_cc 253) 46 = .ok (.ireturn, 1) := by decide +kernel
theorem zd_253_47 : decode (zm_cc 253) 47 = .ok (.aload_n 0, 1) := by decide +kernel
theorem zd_253_48 : decode (zm_cc 253) 48 = .ok (.getfield 73, 3) := by decide +kernel
theorem zd_253_51 : decode (zm_cc 253) 51 = .ok (.invokevirtual 264, 3) := by decide +kernel
theorem zd_253_54 : decode (zm_cc 253) 54 = .ok (.aload_n 0, 1) := by decide +kernel
theorem zd_253_55 : decode (zm_cc 253) 55 = .ok (.getfield 73, 3) := by decide +kernel
theorem zd_253_58 : decode (zm_cc 253) 58 = .ok (.iload_n 1, 1) := by decide +kernel
theorem zd_253_59 : decode (zm_cc 253) 59 = .ok (.iload_n 2, 1) := by decide +kernel
theorem zd_253_60 : decode (zm_cc 253) 60 = .ok (.iload_n 3, 1) := by decide +kernel
theorem zd_253_61 : decode (zm_cc 253) 61 = .ok (.iload 4, 2) := by decide +kernel
theorem zd_253_63 : decode (zm_cc 253) 63 = .ok (.invokevirtual 270, 3) := by decide +kernel
theorem zd_253_66 : decode (zm_cc 253) 66 = .ok (.ifCond .eq 7, 3) := by decide +kernel
theorem zd_253_69 : decode (zm_cc 253) 69 = .ok (.iconst 1, 1) := by decide +kernel
theorem zd_253_70 : decode (zm_cc 253) 70 = .ok (.goto 4, 3) := by decide +kernel
theorem zd_253_73 : decode (zm_cc 253) 73 = .ok (.iconst 0, 1) := by decide +kernel
theorem zd_253_74 : decode (zm_cc 253) 74 = .ok (.ireturn, 1) := by decide +kernel
theorem zd_254_0 : decode (zm_cc 254) 0 = .ok (.aload_n 0, 1) := by decide +kernel
theorem zd_254_1 : decode (zm_cc 254) 1 = .ok (.iconst 0, 1) := by decide +kernel
theorem zd_254_2 : decode (zm_cc 254) 2 = .ok (.putfield 1, 3) := by decide +kernel
theorem zd_254_5 : decode (zm_cc 254) 5 = .ok (.aload_n 0, 1) := by decide +kernel
theorem zd_254_6 : decode (zm_cc 254) 6 = .ok (.getfield 335, 3) := by decide +kernel
theorem zd_254_9 : decode (zm_cc 254) 9 = .ok (.ifCond .ne 6, 3) := by decide +kernel
theorem zd_254_12 : decode (zm_cc 254) 12 = .ok (.bipush (-101), 2) := by decide +kernel
theorem zd_254_14 : decode (zm_cc 254) 14 = .ok (.ireturn, 1) := by decide +kernel
theorem zd_254_15 : decode (zm_cc 254) 15 = .ok (.aload_n 0, 1) := by decide +kernel
theorem zd_254_16 : decode (zm_cc 254) 16 = .ok (.iload_n 1, 1) := by decide +kernel
theorem zd_254_17 : decode (zm_cc 254) 17 = .ok (.iload_n 2, 1) := by decide +kernel
theorem zd_254_18 : decode (zm_cc 254) 18 = .ok (.invokevirtual 344, 3) := by decide +kernel
theorem zd_254_21 : decode (zm_cc 254) 21 = .ok (.ifCond .eq 18, 3) := by decide +kernel
theorem zd_254_24 : decode (zm_cc 254) 24 = .ok (.aload_n 0, 1) := by decide +kernel
theorem zd_254_25 : decode (zm_cc 254) 25 = .ok (.iload_n 3, 1) := by decide +kernel
theorem zd_254_26 : decode (zm_cc 254) 26 = .ok (.iload 4, 2) := by decide +kernel
theorem zd_254_28 : decode (zm_cc 254) 28 = .ok (.invokevirtual 344, 3) := by decide +kernel
theorem zd_254_31 : decode (zm_cc 254) 31 = .ok (.ifCond .eq 8, 3) := by decide +kernel
theorem zd_254_34 : decode (zm_cc 254) 34 = .ok (.iload_n 1, 1) := by decide +kernel
theorem zd_254_35 : decode (zm_cc 254) 35 = .ok (.iload_n 3, 1) := by decide +kernel
theorem zd_254_36 : decode (zm_cc 254) 36 = .ok (.if_icmp .ne 6, 3) := by decide +kernel
theorem zd_254_39 : decode (zm_cc 254) 39 = .ok (.bipush (-102), 2) := by decide +kernel
theorem zd_254_41 : decode (zm_cc 254) 41 = .ok (.ireturn, 1) := by decide +kernel
theorem zd_254_42 : decode (zm_cc 254) 42 = .ok (.aload_n 0, 1) := by decide +kernel
theorem zd_254_43 : decode (zm_cc 254) 43 = .ok (.iload_n 1, 1) := by decide +kernel
theorem zd_254_44 : decode (zm_cc 254) 44 = .ok (.iload_n 2, 1) := by decide +kernel
theorem zd_254_45 : decode (zm_cc 254) 45 = .ok (.iload_n 3, 1) := by decide +kernel
theorem zd_254_46 : decode (zm_cc 254) 46 = .ok (.iload 4, 2) := by decide +kernel
theorem zd_254_48 : decode (zm_cc 254) 48 = .ok (.invokevirtual 456, 3) := by decide +kernel
theorem zd_254_51 : decode (zm_cc 254) 51 = .ok (.ifCond .eq 7, 3) := by decide +kernel
theorem zd_254_54 : decode (zm_cc 254) 54 = .ok (.iconst 1, 1) := by decide +kernel
theorem zd_254_55 : decode (zm_cc 254) 55 = .ok (.goto 4, 3) := by decide +kernel
theorem zd_254_58 : decode (zm_cc 254) 58 = .ok (.iconst 0, 1) := by decide +kernel
theorem zd_254_59 : decode (zm_cc 254) 59 = .ok (.ireturn, 1) := by decide +kernel
theorem zd_255_0 : decode (zm_cc 255) 0 = .ok (.aload_n 0, 1) := by decide +kernel
theorem zd_255_1 : decode (zm_cc 255) 1 = .ok (.getfield 110, 3) := by decide +kernel
theorem zd_255_4 : decode (zm_cc 255) 4 = .ok (.ifCond .ne 6, 3) := by decide +kernel
theorem zd_255_7 : decode (zm_cc 255) 7 = .ok (.bipush (-101), 2) := by decide +kernel
theorem zd_255_9 : decode (zm_cc 255) 9 = .ok (.ireturn, 1) := by decide +kernel
theorem zd_255_10 : decode (zm_cc 255) 10 = .ok (.iload_n 1, 1) := by decide +kernel
theorem zd_255_11 : decode (zm_cc 255) 11 = .ok (.ifCond .lt 14, 3) := by decide +kernel
theorem zd_255_14 : decode (zm_cc 255) 14 = .ok (.iload_n 1, 1) := by decide +kernel
theorem zd_255_15 : decode (zm_cc 255) 15 = .ok (.aload_n 0, 1) := by decide +kernel
theorem zd_255_16 : decode (zm_cc 255) 16 = .ok (.getfield 16, 3) := by decide +kernel
theorem zd_255_19 : decode (zm_cc 255) 19 = .ok (.getfield 135, 3) := by decide +kernel
theorem zd_255_22 : decode (zm_cc 255) 22 = .ok (.if_icmp .lt 6, 3) := by decide +kernel
theorem zd_255_25 : decode (zm_cc 255) 25 = .ok (.bipush (-102), 2) := by decide +kernel
theorem zd_255_27 : decode (zm_cc 255) 27 = .ok (.ireturn, 1) := by decide +kernel
theorem zd_255_28 : decode (zm_cc 255) 28 = .ok (.aload_n 0, 1) := by decide +kernel
theorem zd_255_29 : decode (zm_cc 255) 29 = .ok (.getfield 73, 3) := by decide +kernel
theorem zd_255_32 : decode (zm_cc 255) 32 = .ok (.iload_n 1, 1) := by decide +kernel
theorem zd_255_33 : decode (zm_cc 255) 33 = .ok (.invokevirtual 274, 3) := by decide +kernel
theorem zd_255_36 : decode (zm_cc 255) 36 = .ok (.ireturn, 1) := by decide +kernel
theorem zd_256_0 : decode (zm_cc 256) 0 = .ok (.iconst 1, 1) := by decide +kernel
theorem zd_256_1 : decode (zm_cc 256) 1 = .ok (.aload_n 0, 1) := by decide +kernel
theorem zd_256_2 : decode (zm_cc 256) 2 = .ok (.getfield 27, 3) := by decide +kernel
theorem zd_256_5 : decode (zm_cc 256) 5 = .ok (.getfield 107, 3) := by decide +kernel
theorem zd_256_8 : decode (zm_cc 256) 8 = .ok (.ishl, 1) := by decide +kernel
theorem zd_256_9 : decode (zm_cc 256) 9 = .ok (.iconst 1, 1) := by decide +kernel
theorem zd_256_10 : decode (zm_cc 256) 10 = .ok (.isub, 1) := by decide +kernel
theorem zd_256_11 : decode (zm_cc 256) 11 = .ok (.istore_n 2, 1) := by decide +kernel
theorem zd_256_12 : decode (zm_cc 256) 12 = .ok (.iconst 0, 1) := by decide +kernel
theorem zd_256_13 : decode (zm_cc 256) 13 = .ok (.istore_n 3, 1) := by decide +kernel
theorem zd_256_14 : decode (zm_cc 256) 14 = .ok (.iload_n 3, 1) := by decide +kernel
theorem zd_256_15 : decode (zm_cc 256) 15 = .ok (.bipush 96, 2) := by decide +kernel
theorem zd_256_17 : decode (zm_cc 256) 17 = .ok (.if_icmp .ge 92, 3) := by decide +kernel
theorem zd_256_20 : decode (zm_cc 256) 20 = .ok (.aload_n 0, 1) := by decide +kernel
theorem zd_256_21 : decode (zm_cc 256) 21 = .ok (.getfield 27, 3) := by decide +kernel
theorem zd_256_24 : decode (zm_cc 256) 24 = .ok (.iload_n 3, 1) := by decide +kernel
theorem zd_256_25 : decode (zm_cc 256) 25 = .ok (.bipush 24, 2) := by decide +kernel
theorem zd_256_27 : decode (zm_cc 256) 27 = .ok (.idiv, 1) := by decide +kernel
theorem zd_256_28 : decode (zm_cc 256) 28 = .ok (.iload_n 3, 1) := by decide +kernel
theorem zd_256_29 : decode (zm_cc 256) 29 = .ok (.bipush 24, 2) := by decide +kernel
theorem zd_256_31 : decode (zm_cc 256) 31 = .ok (.irem, 1) := by decide +kernel
theorem zd_256_32 : decode (zm_cc 256) 32 = .ok (.invokevirtual 50, 3) := by decide +kernel
theorem zd_256_35 : decode (zm_cc 256) 35 = .ok (.istore 4, 2) := by decide +kernel
theorem zd_256_37 : decode (zm_cc 256) 37 = .ok (.aload_n 0, 1) := by decide +kernel
theorem zd_256_38 : decode (zm_cc 256) 38 = .ok (.getfield 27, 3) := by decide +kernel
theorem zd_256_41 : decode (zm_cc 256) 41 = .ok (.getfield 68, 3) := by decide +kernel
theorem zd_256_44 : decode (zm_cc 256) 44 = .ok (.iload 4, 2) := by decide +kernel
theorem zd_256_46 : decode (zm_cc 256) 46 = .ok (.iaload, 1) := by decide +kernel
theorem zd_256_47 : decode (zm_cc 256) 47 = .ok (.ifCond .eq 17, 3) := by decide +kernel
theorem zd_256_50 : decode (zm_cc 256) 50 = .ok (.aload_n 0, 1) := by decide +kernel
theorem zd_256_51 : decode (zm_cc 256) 51 = .ok (.getfield 27, 3) := by decide +kernel
theorem zd_256_54 : decode (zm_cc 256) 54 = .ok (.getfield 68, 3) := by decide +kernel
theorem zd_256_57 : decode (zm_cc 256) 57 = .ok (.iload 4, 2) := by decide +kernel
theorem zd_256_59 : decode (zm_cc 256) 59 = .ok (.iaload, 1) := by decide +kernel
theorem zd_256_60 : decode (zm_cc 256) 60 = .ok (.iconst 1, 1) := by decide +kernel
theorem zd_256_61 : decode (zm_cc 256) 61 = .ok (.if_icmp .ne 7, 3) := by decide +kernel
theorem zd_256_64 : decode (zm_cc 256) 64 = .ok (.iconst 1, 1) := by decide +kernel
theorem zd_256_65 : decode (zm_cc 256) 65 = .ok (.goto 4, 3) := by decide +kernel
theorem zd_256_68 : decode (zm_cc 256) 68 = .ok (.iconst 0, 1) := by decide +kernel
theorem zd_256_69 : decode (zm_cc 256) 69 = .ok (.istore 5, 2) := by decide +kernel
theorem zd_256_71 : decode (zm_cc 256) 71 = .ok (.iload 5, 2) := by decide +kernel
theorem zd_256_73 : decode (zm_cc 256) 73 = .ok (.ifCond .eq 30, 3) := by decide +kernel
theorem zd_256_76 : decode (zm_cc 256) 76 = .ok (.aload_n 0, 1) := by decide +kernel
theorem zd_256_77 : decode (zm_cc 256) 77 = .ok (.getfield 27, 3) := by decide +kernel
theorem zd_256_80 : decode (zm_cc 256) 80 = .ok (.getfield 71, 3) := by decide +kernel
theorem zd_256_83 : decode (zm_cc 256) 83 = .ok (.iload 4, 2) := by decide +kernel
theorem zd_256_85 : decode (zm_cc 256) 85 = .ok (.iaload, 1) := by decide +kernel
theorem zd_256_86 : decode (zm_cc 256) 86 = .ok (.iload_n 1, 1) := by decide +kernel
theorem zd_256_87 : decode (zm_cc 256) 87 = .ok (.if_icmp .ne 16, 3) := by decide +kernel
theorem zd_256_90 : decode (zm_cc 256) 90 = .ok (.iload_n 2, 1) := by decide +kernel
theorem zd_256_91 : decode (zm_cc 256) 91 = .ok (.aload_n 0, 1) := by decide +kernel
theorem zd_256_92 : decode (zm_cc 256) 92 = .ok (.getfield 27, 3) := by decide +kernel
theorem zd_256_95 : decode (zm_cc 256) 95 = .ok (.getfield 101, 3) := by decide +kernel
theorem zd_256_98 : decode (zm_cc 256) 98 = .ok (.iload 4, 2) := by decide +kernel
theorem zd_256_100 : decode (zm_cc 256) 100 = .ok (.iaload, 1) := by decide +kernel
theorem zd_256_101 : decode (zm_cc 256) 101 = .ok (.iand, 1) := by decide +kernel
theorem zd_256_102 : decode (zm_cc 256) 102 = .ok (.istore_n 2, 1) := by decide +kernel
theorem zd_256_103 : decode (zm_cc 256) 103 = .ok (.iinc 3 1, 3) := by decide +kernel
theorem zd_256_106 : decode (zm_cc 256) 106 = .ok (.goto (-92), 3) := by decide +kernel
theorem zd_256_109 : decode (zm_cc 256) 109 = .ok (.iload_n 2, 1) := by decide +kernel
theorem zd_256_110 : decode (zm_cc 256) 110 = .ok (.ireturn, 1) := by decide +kernel
theorem zd_257_0 : decode (zm_cc 257) 0 = .ok (.aload_n 0, 1) := by decide +kernel
theorem zd_257_1 : decode (zm_cc 257) 1 = .ok (.iconst 0, 1) := by decide +kernel
theorem zd_257_2 : decode (zm_cc 257) 2 = .ok (.putfield 1, 3) := by decide +kernel
theorem zd_257_5 : decode (zm_cc 257) 5 = .ok (.aload_n 0, 1) := by decide +kernel
theorem zd_257_6 : decode (zm_cc 257) 6 = .ok (.getfield 335, 3) := by decide +kernel
theorem zd_257_9 : decode (zm_cc 257) 9 = .ok (.ifCond .ne 6, 3) := by decide +kernel
theorem zd_257_12 : decode (zm_cc 257) 12 = .ok (.bipush (-101), 2) := by decide +kernel
theorem zd_257_14 : decode (zm_cc 257) 14 = .ok (.ireturn, 1) := by decide +kernel
theorem zd_257_15 : decode (zm_cc 257) 15 = .ok (.iload_n 1, 1) := by decide +kernel
theorem zd_257_16 : decode (zm_cc 257) 16 = .ok (.iconst 0, 1) := by decide +kernel
theorem zd_257_17 : decode (zm_cc 257) 17 = .ok (.aload_n 0, 1) := by decide +kernel
theorem zd_257_18 : decode (zm_cc 257) 18 = .ok (.getfield 215, 3) := by decide +kernel
theorem zd_257_21 : decode (zm_cc 257) 21 = .ok (.iconst 1, 1) := by decide +kernel
theorem zd_257_22 : decode (zm_cc 257) 22 = .ok (.isub, 1) := by decide +kernel
theorem zd_257_23 : decode (zm_cc 257) 23 = .ok (.invokestatic 128, 3) := by decide +kernel
theorem zd_257_26 : decode (zm_cc 257) 26 = .ok (.ifCond .ne 6, 3) := by decide +kernel
theorem zd_257_29 : decode (zm_cc 257) 29 = .ok (.bipush (-102), 2) := by decide +kernel
theorem zd_257_31 : decode (zm_cc 257) 31 = .ok (.ireturn, 1) := by decide +kernel
theorem zd_257_32 : decode (zm_cc 257) 32 = .ok (.iconst 1, 1) := by decide +kernel
theorem zd_257_33 : decode (zm_cc 257) 33 = .ok (.aload_n 0, 1) := by decide +kernel
theorem zd_257_34 : decode (zm_cc 257) 34 = .ok (.getfield 222, 3) := by decide +kernel
theorem zd_257_37 : decode (zm_cc 257) 37 = .ok (.ishl, 1) := by decide +kernel
theorem zd_257_38 : decode (zm_cc 257) 38 = .ok (.iconst 1, 1) := by decide +kernel
theorem zd_257_39 : decode (zm_cc 257) 39 = .ok (.isub, 1) := by decide +kernel
theorem zd_257_40 : decode (zm_cc 257) 40 = .ok (.istore_n 2, 1) := by decide +kernel
theorem zd_257_41 : decode (zm_cc 257) 41 = .ok (.iconst 0, 1) := by decide +kernel
theorem zd_257_42 : decode (zm_cc 257) 42 = .ok (.istore_n 3, 1) := by decide +kernel
theorem zd_257_43 : decode (zm_cc 257) 43 = .ok (.iload_n 3, 1) := by decide +kernel
theorem zd_257_44 : decode (zm_cc 257) 44 = .ok (.bipush 24, 2) := by decide +kernel
theorem zd_257_46 : decode (zm_cc 257) 46 = .ok (.aload_n 0, 1) := by decide +kernel
theorem zd_257_47 : decode (zm_cc 257) 47 = .ok (.getfield 225, 3) := by decide +kernel
theorem zd_257_50 : decode (zm_cc 257) 50 = .ok (.imul, 1) := by decide +kernel
theorem zd_257_51 : decode (zm_cc 257) 51 = .ok (.if_icmp .ge 52, 3) := by decide +kernel
theorem zd_257_54 : decode (zm_cc 257) 54 = .ok (.iload_n 3, 1) := by decide +kernel
theorem zd_257_55 : decode (zm_cc 257) 55 = .ok (.bipush 24, 2) := by decide +kernel
theorem zd_257_57 : decode (zm_cc 257) 57 = .ok (.irem, 1) := by decide +kernel
theorem zd_257_58 : decode (zm_cc 257) 58 = .ok (.aload_n 0, 1) := by decide +kernel
theorem zd_257_59 : decode (zm_cc 257) 59 = .ok (.getfield 37, 3) := by decide +kernel
theorem zd_257_62 : decode (zm_cc 257) 62 = .ok (.iload_n 3, 1) := by decide +kernel
theorem zd_257_63 : decode (zm_cc 257) 63 = .ok (.bipush 24, 2) := by decide +kernel
theorem zd_257_65 : decode (zm_cc 257) 65 = .ok (.idiv, 1) := by decide +kernel
theorem zd_257_66 : decode (zm_cc 257) 66 = .ok (.iaload, 1) := by decide +kernel
theorem zd_257_67 : decode (zm_cc 257) 67 = .ok (.if_icmp .ge 30, 3) := by decide +kernel
theorem zd_257_70 : decode (zm_cc 257) 70 = .ok (.aload_n 0, 1) := by decide +kernel
theorem zd_257_71 : decode (zm_cc 257) 71 = .ok (.iload_n 3, 1) := by decide +kernel
theorem zd_257_72 : decode (zm_cc 257) 72 = .ok (.invokevirtual 383, 3) := by decide +kernel
theorem zd_257_75 : decode (zm_cc 257) 75 = .ok (.ifCond .eq 22, 3) := by decide +kernel
theorem zd_257_78 : decode (zm_cc 257) 78 = .ok (.aload_n 0, 1) := by decide +kernel
theorem zd_257_79 : decode (zm_cc 257) 79 = .ok (.getfield 46, 3) := by decide +kernel
theorem zd_257_82 : decode (zm_cc 257) 82 = .ok (.iload_n 3, 1) := by decide +kernel
theorem zd_257_83 : decode (zm_cc 257) 83 = .ok (.iaload, 1) := by decide +kernel
theorem zd_257_84 : decode (zm_cc 257) 84 = .ok (.iload_n 1, 1) := by decide +kernel
theorem zd_257_85 : decode (zm_cc 257) 85 = .ok (.if_icmp .ne 12, 3) := by decide +kernel
theorem zd_257_88 : decode (zm_cc 257) 88 = .ok (.iload_n 2, 1) := by decide +kernel
theorem zd_257_89 : decode (zm_cc 257) 89 = .ok (.aload_n 0, 1) := by decide +kernel
theorem zd_257_90 : decode (zm_cc 257) 90 = .ok (.getfield 55, 3) := by decide +kernel
theorem zd_257_93 : decode (zm_cc 257) 93 = .ok (.iload_n 3, 1) := by decide +kernel
theorem zd_257_94 : decode (zm_cc 257) 94 = .ok (.iaload, 1) := by decide +kernel
theorem zd_257_95 : decode (zm_cc 257) 95 = .ok (.iand, 1) := by decide +kernel
theorem zd_257_96 : decode (zm_cc 257) 96 = .ok (.istore_n 2, 1) := by decide +kernel
theorem zd_257_97 : decode (zm_cc 257) 97 = .ok (.iinc 3 1, 3) := by decide +kernel
theorem zd_257_100 : decode (zm_cc 257) 100 = .ok (.goto (-57), 3) := by decide +kernel
theorem zd_257_103 : decode (zm_cc 257) 103 = .ok (.iload_n 2, 1) := by decide +kernel
theorem zd_257_104 : decode (zm_cc 257) 104 = .ok (.ireturn, 1) := by decide +kernel
theorem zd_258_0 : decode (zm_cc 258) 0 = .ok (.aload_n 0, 1) := by decide +kernel
theorem zd_258_1 : decode (zm_cc 258) 1 = .ok (.getfield 110, 3) := by decide +kernel
theorem zd_258_4 : decode (zm_cc 258) 4 = .ok (.ifCond .ne 6, 3) := by decide +kernel
theorem zd_258_7 : decode (zm_cc 258) 7 = .ok (.bipush (-101), 2) := by decide +kernel
theorem zd_258_9 : decode (zm_cc 258) 9 = .ok (.ireturn, 1) := by decide +kernel
theorem zd_258_10 : decode (zm_cc 258) 10 = .ok (.aload_n 0, 1) := by decide +kernel
theorem zd_258_11 : decode (zm_cc 258) 11 = .ok (.getfield 73, 3) := by decide +kernel
theorem zd_258_14 : decode (zm_cc 258) 14 = .ok (.invokevirtual 264, 3) := by decide +kernel
theorem zd_258_17 : decode (zm_cc 258) 17 = .ok (.aload_n 0, 1) := by decide +kernel
theorem zd_258_18 : decode (zm_cc 258) 18 = .ok (.getfield 73, 3) := by decide +kernel
theorem zd_258_21 : decode (zm_cc 258) 21 = .ok (.getfield 277, 3) := by decide +kernel
theorem zd_258_24 : decode (zm_cc 258) 24 = .ok (.ireturn, 1) := by decide +kernel
theorem zd_259_0 : decode (zm_cc 259) 0 = .ok (.aload_n 0, 1) := by decide +kernel
theorem zd_259_1 : decode (zm_cc 259) 1 = .ok (.iconst 0, 1) := by decide +kernel
theorem zd_259_2 : decode (zm_cc 259) 2 = .ok (.putfield 1, 3) := by decide +kernel
theorem zd_259_5 : decode (zm_cc 259) 5 = .ok (.aload_n 0, 1) := by decide +kernel
theorem zd_259_6 : decode (zm_cc 259) 6 = .ok (.getfield 335, 3) := by decide +kernel
theorem zd_259_9 : decode (zm_cc 259) 9 = .ok (.ifCond .ne 6, 3) := by decide +kernel
theorem zd_259_12 : decode (zm_cc 259) 12 = .ok (.bipush (-101), 2) := by decide +kernel
theorem zd_259_14 : decode (zm_cc 259) 14 = .ok (.ireturn, 1) := by decide +kernel
theorem zd_259_15 : decode (zm_cc 259) 15 = .ok (.bipush 24, 2) := by decide +kernel
theorem zd_259_17 : decode (zm_cc 259) 17 = .ok (.aload_n 0, 1) := by decide +kernel
theorem zd_259_18 : decode (zm_cc 259) 18 = .ok (.getfield 225, 3) := by decide +kernel
theorem zd_259_21 : decode (zm_cc 259) 21 = .ok (.imul, 1) := by decide +kernel
theorem zd_259_22 : decode (zm_cc 259) 22 = .ok (.istore_n 1, 1) := by decide +kernel
theorem zd_259_23 : decode (zm_cc 259) 23 = .ok (.iconst 0, 1) := by decide +kernel
theorem zd_259_24 : decode (zm_cc 259) 24 = .ok (.istore_n 2, 1) := by decide +kernel
theorem zd_259_25 : decode (zm_cc 259) 25 = .ok (.iconst 0, 1) := by decide +kernel
theorem zd_259_26 : decode (zm_cc 259) 26 = .ok (.istore_n 3, 1) := by decide +kernel
theorem zd_259_27 : decode (zm_cc 259) 27 = .ok (.iload_n 3, 1) := by decide +kernel
theorem zd_259_28 : decode (zm_cc 259) 28 = .ok (.iload_n 1, 1) := by decide +kernel
theorem zd_259_29 : decode (zm_cc 259) 29 = .ok (.if_icmp .ge 263, 3) := by decide +kernel
theorem zd_259_32 : decode (zm_cc 259) 32 = .ok (.bipush 24, 2) := by decide +kernel
theorem zd_259_34 : decode (zm_cc 259) 34 = .ok (.iload_n 3, 1) := by decide +kernel
theorem zd_259_35 : decode (zm_cc 259) 35 = .ok (.bipush 24, 2) := by decide +kernel
theorem zd_259_37 : decode (zm_cc 259) 37 = .ok (.idiv, 1) := by decide +kernel
theorem zd_259_38 : decode (zm_cc 259) 38 = .ok (.iconst 1, 1) := by decide +kernel
theorem zd_259_39 : decode (zm_cc 259) 39 = .ok (.iadd, 1) := by decide +kernel
theorem zd_259_40 : decode (zm_cc 259) 40 = .ok (.imul, 1) := by decide +kernel
theorem zd_259_41 : decode (zm_cc 259) 41 = .ok (.istore 4, 2) := by decide +kernel
theorem zd_259_43 : decode (zm_cc 259) 43 = .ok (.iload 4, 2) := by decide +kernel
theorem zd_259_45 : decode (zm_cc 259) 45 = .ok (.iload_n 1, 1) := by decide +kernel
theorem zd_259_46 : decode (zm_cc 259) 46 = .ok (.if_icmp .ge 240, 3) := by decide +kernel
theorem zd_259_49 : decode (zm_cc 259) 49 = .ok (.aload_n 0, 1) := by decide +kernel
theorem zd_259_50 : decode (zm_cc 259) 50 = .ok (.iload_n 3, 1) := by decide +kernel
theorem zd_259_51 : decode (zm_cc 259) 51 = .ok (.invokevirtual 467, 3) := by decide +kernel
theorem zd_259_54 : decode (zm_cc 259) 54 = .ok (.ifCond .eq 232, 3) := by decide +kernel
theorem zd_259_57 : decode (zm_cc 259) 57 = .ok (.aload_n 0, 1) := by decide +kernel
theorem zd_259_58 : decode (zm_cc 259) 58 = .ok (.iload 4, 2) := by decide +kernel
theorem zd_259_60 : decode (zm_cc 259) 60 = .ok (.invokevirtual 467, 3) := by decide +kernel
theorem zd_259_63 : decode (zm_cc 259) 63 = .ok (.ifCond .eq 217, 3) := by decide +kernel
theorem zd_259_66 : decode (zm_cc 259) 66 = .ok (.aload_n 0, 1) := by decide +kernel
theorem zd_259_67 : decode (zm_cc 259) 67 = .ok (.iload_n 3, 1) := by decide +kernel
theorem zd_259_68 : decode (zm_cc 259) 68 = .ok (.iload 4, 2) := by decide +kernel
theorem zd_259_70 : decode (zm_cc 259) 70 = .ok (.invokevirtual 470, 3) := by decide +kernel
theorem zd_259_73 : decode (zm_cc 259) 73 = .ok (.ifCond .eq 207, 3) := by decide +kernel
theorem zd_259_76 : decode (zm_cc 259) 76 = .ok (.aload_n 0, 1) := by decide +kernel
theorem zd_259_77 : decode (zm_cc 259) 77 = .ok (.iload_n 3, 1) := by decide +kernel
theorem zd_259_78 : decode (zm_cc 259) 78 = .ok (.iload 4, 2) := by decide +kernel
theorem zd_259_80 : decode (zm_cc 259) 80 = .ok (.invokevirtual 473, 3) := by decide +kernel
theorem zd_259_83 : decode (zm_cc 259) 83 = .ok (.ifCond .ne 6, 3) := by decide +kernel
theorem zd_259_86 : decode (zm_cc 259) 86 = .ok (.goto 194, 3) := by decide +kernel
theorem zd_259_89 : decode (zm_cc 259) 89 = .ok (.iload_n 2, 1) := by decide +kernel
theorem zd_259_90 : decode (zm_cc 259) 90 = .ok (.aload_n 0, 1) := by decide +kernel
theorem zd_259_91 : decode (zm_cc 259) 91 = .ok (.iload 4, 2) := by decide +kernel
theorem zd_259_93 : decode (zm_cc 259) 93 = .ok (.iload_n 3, 1) := by decide +kernel
theorem zd_259_94 : decode (zm_cc 259) 94 = .ok (.invokevirtual 470, 3) := by decide +kernel
theorem zd_259_97 : decode (zm_cc 259) 97 = .ok (.ifCond .eq 7, 3) := by decide +kernel
theorem zd_259_100 : decode (zm_cc 259) 100 = .ok (.iconst 1, 1) := by decide +kernel
theorem zd_259_101 : decode (zm_cc 259) 101 = .ok (.goto 4, 3) := by decide +kernel
theorem zd_259_104 : decode (zm_cc 259) 104 = .ok (.iconst 0, 1) := by decide +kernel
theorem zd_259_105 : decode (zm_cc 259) 105 = .ok (.iadd, 1) := by decide +kernel
theorem zd_259_106 : decode (zm_cc 259) 106 = .ok (.istore_n 2, 1) := by decide +kernel
theorem zd_259_107 : decode (zm_cc 259) 107 = .ok (.bipush 24, 2) := by decide +kernel
theorem zd_259_109 : decode (zm_cc 259) 109 = .ok (.iload_n 3, 1) := by decide +kernel
theorem zd_259_110 : decode (zm_cc 259) 110 = .ok (.bipush 24, 2) := by decide +kernel
theorem zd_259_112 : decode (zm_cc 259) 112 = .ok (.idiv, 1) := by decide +kernel
theorem zd_259_113 : decode (zm_cc 259) 113 = .ok (.iconst 1, 1) := by decide +kernel
theorem zd_259_114 : decode (zm_cc 259) 114 = .ok (.iadd, 1) := by decide +kernel
theorem zd_259_115 : decode (zm_cc 259) 115 = .ok (.imul, 1) := by decide +kernel
theorem zd_259_116 : decode (zm_cc 259) 116 = .ok (.istore 5, 2) := by decide +kernel
theorem zd_259_118 : decode (zm_cc 259) 118 = .ok (.iload 5, 2) := by decide +kernel
theorem zd_259_120 : decode (zm_cc 259) 120 = .ok (.iload_n 1, 1) := by decide +kernel
theorem zd_259_121 : decode (zm_cc 259) 121 = .ok (.if_icmp .ge 159, 3) := by decide +kernel
theorem zd_259_124 : decode (zm_cc 259) 124 = .ok (.aload_n 0, 1) := by decide +kernel
theorem zd_259_125 : decode (zm_cc 259) 125 = .ok (.iload 5, 2) := by decide +kernel
theorem zd_259_127 : decode (zm_cc 259) 127 = .ok (.invokevirtual 467, 3) := by decide +kernel
theorem zd_259_130 : decode (zm_cc 259) 130 = .ok (.ifCond .eq 144, 3) := by decide +kernel
theorem zd_259_133 : decode (zm_cc 259) 133 = .ok (.aload_n 0, 1) := by decide +kernel
theorem zd_259_134 : decode (zm_cc 259) 134 = .ok (.iload 4, 2) := by decide +kernel
theorem zd_259_136 : decode (zm_cc 259) 136 = .ok (.iload 5, 2) := by decide +kernel
theorem zd_259_138 : decode (zm_cc 259) 138 = .ok (.invokevirtual 470, 3) := by decide +kernel
theorem zd_259_141 : decode (zm_cc 259) 141 = .ok (.ifCond .eq 133, 3) := by decide +kernel
theorem zd_259_144 : decode (zm_cc 259) 144 = .ok (.aload_n 0, 1) := by decide +kernel
theorem zd_259_145 : decode (zm_cc 259) 145 = .ok (.iload_n 3, 1) := by decide +kernel
theorem zd_259_146 : decode (zm_cc 259) 146 = .ok (.iload 5, 2) := by decide +kernel
theorem zd_259_148 : decode (zm_cc 259) 148 = .ok (.invokevirtual 473, 3) := by decide +kernel
theorem zd_259_151 : decode (zm_cc 259) 151 = .ok (.ifCond .eq 123, 3) := by decide +kernel
theorem zd_259_154 : decode (zm_cc 259) 154 = .ok (.aload_n 0, 1) := by decide +kernel
theorem zd_259_155 : decode (zm_cc 259) 155 = .ok (.iload 4, 2) := by decide +kernel
theorem zd_259_157 : decode (zm_cc 259) 157 = .ok (.iload 5, 2) := by decide +kernel
theorem zd_259_159 : decode (zm_cc 259) 159 = .ok (.invokevirtual 473, 3) := by decide +kernel
theorem zd_259_162 : decode (zm_cc 259) 162 = .ok (.ifCond .ne 6, 3) := by decide +kernel
theorem zd_259_165 : decode (zm_cc 259) 165 = .ok (.goto 109, 3) := by decide +kernel
theorem zd_259_168 : decode (zm_cc 259) 168 = .ok (.iload_n 2, 1) := by decide +kernel
theorem zd_259_169 : decode (zm_cc 259) 169 = .ok (.aload_n 0, 1) := by decide +kernel
theorem zd_259_170 : decode (zm_cc 259) 170 = .ok (.iload 5, 2) := by decide +kernel
theorem zd_259_172 : decode (zm_cc 259) 172 = .ok (.iload_n 3, 1) := by decide +kernel
theorem zd_259_173 : decode (zm_cc 259) 173 = .ok (.invokevirtual 470, 3) := by decide +kernel
theorem zd_259_176 : decode (zm_cc 259) 176 = .ok (.ifCond .eq 7, 3) := by decide +kernel
theorem zd_259_179 : decode (zm_cc 259) 179 = .ok (.iconst 1, 1) := by decide +kernel
theorem zd_259_180 : decode (zm_cc 259) 180 = .ok (.goto 4, 3) := by decide +kernel
theorem zd_259_183 : decode (zm_cc 259) 183 = .ok (.iconst 0, 1) := by decide +kernel
theorem zd_259_184 : decode (zm_cc 259) 184 = .ok (.iadd, 1) := by decide +kernel
theorem zd_259_185 : decode (zm_cc 259) 185 = .ok (.istore_n 2, 1) := by decide +kernel
theorem zd_259_186 : decode (zm_cc 259) 186 = .ok (.bipush 24, 2) := by decide +kernel
theorem zd_259_188 : decode (zm_cc 259) 188 = .ok (.iload_n 3, 1) := by decide +kernel
theorem zd_259_189 : decode (zm_cc 259) 189 = .ok (.bipush 24, 2) := by decide +kernel
theorem zd_259_191 : decode (zm_cc 259) 191 = .ok (.idiv, 1) := by decide +kernel
theorem zd_259_192 : decode (zm_cc 259) 192 = .ok (.iconst 1, 1) := by decide +kernel
theorem zd_259_193 : decode (zm_cc 259) 193 = .ok (.iadd, 1) := by decide +kernel
theorem zd_259_194 : decode (zm_cc 259) 194 = .ok (.imul, 1) := by decide +kernel
theorem zd_259_195 : decode (zm_cc 259) 195 = .ok (.istore 6, 2) := by decide +kernel
theorem zd_259_197 : decode (zm_cc 259) 197 = .ok (.iload 6, 2) := by decide +kernel
theorem zd_259_199 : decode (zm_cc 259) 199 = .ok (.iload_n 1, 1) := by decide +kernel
theorem zd_259_200 : decode (zm_cc 259) 200 = .ok (.if_icmp .ge 74, 3) := by decide +kernel
theorem zd_259_203 : decode (zm_cc 259) 203 = .ok (.aload_n 0, 1) := by decide +kernel
theorem zd_259_204 : decode (zm_cc 259) 204 = .ok (.iload 6, 2) := by decide +kernel
theorem zd_259_206 : decode (zm_cc 259) 206 = .ok (.invokevirtual 467, 3) := by decide +kernel
theorem zd_259_209 : decode (zm_cc 259) 209 = .ok (.ifCond .eq 59, 3) := by decide +kernel
theorem zd_259_212 : decode (zm_cc 259) 212 = .ok (.aload_n 0, 1) := by decide +kernel
theorem zd_259_213 : decode (zm_cc 259) 213 = .ok (.iload 5, 2) := by decide +kernel
theorem zd_259_215 : decode (zm_cc 259) 215 = .ok (.iload 6, 2) := by decide +kernel
theorem zd_259_217 : decode (zm_cc 259) 217 = .ok (.invokevirtual 470, 3) := by decide +kernel
theorem zd_259_220 : decode (zm_cc 259) 220 = .ok (.ifCond .eq 48, 3) := by decide +kernel
theorem zd_259_223 : decode (zm_cc 259) 223 = .ok (.aload_n 0, 1) := by decide +kernel
theorem zd_259_224 : decode (zm_cc 259) 224 = .ok (.iload 6, 2) := by decide +kernel
theorem zd_259_226 : decode (zm_cc 259) 226 = .ok (.iload_n 3, 1) := by decide +kernel
theorem zd_259_227 : decode (zm_cc 259) 227 = .ok (.invokevirtual 470, 3) := by decide +kernel
theorem zd_259_230 : decode (zm_cc 259) 230 = .ok (.ifCond .eq 38, 3) := by decide +kernel
theorem zd_259_233 : decode (zm_cc 259) 233 = .ok (.aload_n 0, 1) := by decide +kernel
theorem zd_259_234 : decode (zm_cc 259) 234 = .ok (.iload_n 3, 1) := by decide +kernel
theorem zd_259_235 : decode (zm_cc 259) 235 = .ok (.iload 6, 2) := by decide +kernel
theorem zd_259_237 : decode (zm_cc 259) 237 = .ok (.invokevirtual 473, 3) := by decide +kernel
theorem zd_259_240 : decode (zm_cc 259) 240 = .ok (.ifCond .eq 28, 3) := by decide +kernel
theorem zd_259_243 : decode (zm_cc 259) 243 = .ok (.aload_n 0, 1) := by decide +kernel
theorem zd_259_244 : decode (zm_cc 259) 244 = .ok (.iload 4, 2) := by decide +kernel
theorem zd_259_246 : decode (zm_cc 259) 246 = .ok (.iload 6, 2) := by decide +kernel
theorem zd_259_248 : decode (zm_cc 259) 248 = .ok (.invokevirtual 473, 3) := by decide +kernel
theorem zd_259_251 : decode (zm_cc 259) 251 = .ok (.ifCond .eq 17, 3) := by decide +kernel
theorem zd_259_254 : decode (zm_cc 259) 254 = .ok (.aload_n 0, 1) := by decide +kernel
theorem zd_259_255 : decode (zm_cc 259) 255 = .ok (.iload 5, 2) := by decide +kernel
theorem zd_259_257 : decode (zm_cc 259) 257 = .ok (.iload 6, 2) := by decide +kernel
theorem zd_259_259 : decode (zm_cc 259) 259 = .ok (.invokevirtual 473, 3) := by decide +kernel
theorem zd_259_262 : decode (zm_cc 259) 262 = .ok (.ifCond .eq 6, 3) := by decide +kernel
theorem zd_259_265 : decode (zm_cc 259) 265 = .ok (.iinc 2 1, 3) := by decide +kernel
theorem zd_259_268 : decode (zm_cc 259) 268 = .ok (.iinc 6 1, 3) := by decide +kernel
theorem zd_259_271 : decode (zm_cc 259) 271 = .ok (.goto (-74), 3) := by decide +kernel
theorem zd_259_274 : decode (zm_cc 259) 274 = .ok (.iinc 5 1, 3) := by decide +kernel
theorem zd_259_277 : decode (zm_cc 259) 277 = .ok (.goto (-159), 3) := by decide +kernel
theorem zd_259_280 : decode (zm_cc 259) 280 = .ok (.iinc 4 1, 3) := by decide +kernel
theorem zd_259_283 : decode (zm_cc 259) 283 = .ok (.goto (-240), 3) := by decide +kernel
theorem zd_259_286 : decode (zm_cc 259) 286 = .ok (.iinc 3 1, 3) := by decide +kernel
theorem zd_259_289 : decode (zm_cc 259) 289 = .ok (.goto (-262), 3) := by decide +kernel
theorem zd_259_292 : decode (zm_cc 259) 292 = .ok (.iload_n 2, 1) := by decide +kernel
theorem zd_259_293 : decode (zm_cc 259) 293 = .ok (.ireturn, 1) := by decide +kernel
theorem zd_260_0 : decode (zm_cc 260) 0 = .ok (.iload_n 1, 1) := by decide +kernel
theorem zd_260_1 : decode (zm_cc 260) 1 = .ok (.bipush 24, 2) := by decide +kernel
theorem zd_260_3 : decode (zm_cc 260) 3 = .ok (.irem, 1) := by decide +kernel
theorem zd_260_4 : decode (zm_cc 260) 4 = .ok (.aload_n 0, 1) := by decide +kernel
theorem zd_260_5 : decode (zm_cc 260) 5 = .ok (.getfield 37, 3) := by decide +kernel
theorem zd_260_8 : decode (zm_cc 260) 8 = .ok (.iload_n 1, 1) := by decide +kernel
theorem zd_260_9 : decode (zm_cc 260) 9 = .ok (.bipush 24, 2) := by decide +kernel
theorem zd_260_11 : decode (zm_cc 260) 11 = .ok (.idiv, 1) := by decide +kernel
theorem zd_260_12 : decode (zm_cc 260) 12 = .ok (.iaload, 1) := by decide +kernel
theorem zd_260_13 : decode (zm_cc 260) 13 = .ok (.if_icmp .ge 17, 3) := by decide +kernel
theorem zd_260_16 : decode (zm_cc 260) 16 = .ok (.aload_n 0, 1) := by decide +kernel
theorem zd_260_17 : decode (zm_cc 260) 17 = .ok (.getfield 43, 3) := by decide +kernel
theorem zd_260_20 : decode (zm_cc 260) 20 = .ok (.iload_n 1, 1) := by decide +kernel
theorem zd_260_21 : decode (zm_cc 260) 21 = .ok (.iaload, 1) := by decide +kernel
theorem zd_260_22 : decode (zm_cc 260) 22 = .ok (.iconst 3, 1) := by decide +kernel
theorem zd_260_23 : decode (zm_cc 260) 23 = .ok (.if_icmp .ne 7, 3) := by decide +kernel
theorem zd_260_26 : decode (zm_cc 260) 26 = .ok (.iconst 1, 1) := by decide +kernel
theorem zd_260_27 : decode (zm_cc 260) 27 = .ok (.goto 4, 3) := by decide +kernel
theorem zd_260_30 : decode (zm_cc 260) 30 = .ok (.iconst 0, 1) := by decide +kernel
theorem zd_260_31 : decode (zm_cc 260) 31 = .ok (.ireturn, 1) := by decide +kernel
theorem zd_261_0 : decode (zm_cc 261) 0 = .ok (.aload_n 0, 1) := by decide +kernel
theorem zd_261_1 : decode (zm_cc 261) 1 = .ok (.getfield 55, 3) := by decide +kernel
theorem zd_261_4 : decode (zm_cc 261) 4 = .ok (.iload_n 2, 1) := by decide +kernel
theorem zd_261_5 : decode (zm_cc 261) 5 = .ok (.iaload, 1) := by decide +kernel
theorem zd_261_6 : decode (zm_cc 261) 6 = .ok (.aload_n 0, 1) := by decide +kernel
theorem zd_261_7 : decode (zm_cc 261) 7 = .ok (.getfield 46, 3) := by decide +kernel
theorem zd_261_10 : decode (zm_cc 261) 10 = .ok (.iload_n 1, 1) := by decide +kernel
theorem zd_261_11 : decode (zm_cc 261) 11 = .ok (.iaload, 1) := by decide +kernel
theorem zd_261_12 : decode (zm_cc 261) 12 = .ok (.ishr, 1) := by decide +kernel
theorem zd_261_13 : decode (zm_cc 261) 13 = .ok (.iconst 1, 1) := by decide +kernel
theorem zd_261_14 : decode (zm_cc 261) 14 = .ok (.iand, 1) := by decide +kernel
theorem zd_261_15 : decode (zm_cc 261) 15 = .ok (.iconst 1, 1) := by decide +kernel
theorem zd_261_16 : decode (zm_cc 261) 16 = .ok (.if_icmp .ne 7, 3) := by decide +kernel
theorem zd_261_19 : decode (zm_cc 261) 19 = .ok (.iconst 1, 1) := by decide +kernel
theorem zd_261_20 : decode (zm_cc 261) 20 = .ok (.goto 4, 3) := by decide +kernel
theorem zd_261_23 : decode (zm_cc 261) 23 = .ok (.iconst 0, 1) := by decide +kernel
theorem zd_261_24 : decode (zm_cc 261) 24 = .ok (.ireturn, 1) := by decide +kernel
theorem zd_262_0 : decode (zm_cc 262) 0 = .ok (.iload_n 1, 1) := by decide +kernel
theorem zd_262_1 : decode (zm_cc 262) 1 = .ok (.bipush 24, 2) := by decide +kernel
theorem zd_262_3 : decode (zm_cc 262) 3 = .ok (.idiv, 1) := by decide +kernel
theorem zd_262_4 : decode (zm_cc 262) 4 = .ok (.iload_n 2, 1) := by decide +kernel
theorem zd_262_5 : decode (zm_cc 262) 5 = .ok (.bipush 24, 2) := by decide +kernel
theorem zd_262_7 : decode (zm_cc 262) 7 = .ok (.idiv, 1) := by decide +kernel
theorem zd_262_8 : decode (zm_cc 262) 8 = .ok (.if_icmp .eq 61, 3) := by decide +kernel
theorem zd_262_11 : decode (zm_cc 262) 11 = .ok (.aload_n 0, 1) := by decide +kernel
theorem zd_262_12 : decode (zm_cc 262) 12 = .ok (.getfield 46, 3) := by decide +kernel
theorem zd_262_15 : decode (zm_cc 262) 15 = .ok (.iload_n 1, 1) := by decide +kernel
theorem zd_262_16 : decode (zm_cc 262) 16 = .ok (.iaload, 1) := by decide +kernel
theorem zd_262_17 : decode (zm_cc 262) 17 = .ok (.aload_n 0, 1) := by decide +kernel
theorem zd_262_18 : decode (zm_cc 262) 18 = .ok (.getfield 46, 3) := by decide +kernel
theorem zd_262_21 : decode (zm_cc 262) 21 = .ok (.iload_n 2, 1) := by decide +kernel
theorem zd_262_22 : decode (zm_cc 262) 22 = .ok (.iaload, 1) := by decide +kernel
theorem zd_262_23 : decode (zm_cc 262) 23 = .ok (.if_icmp .eq 46, 3) := by decide +kernel
theorem zd_262_26 : decode (zm_cc 262) 26 = .ok (.aload_n 0, 1) := by decide +kernel
theorem zd_262_27 : decode (zm_cc 262) 27 = .ok (.getfield 55, 3) := by decide +kernel
theorem zd_262_30 : decode (zm_cc 262) 30 = .ok (.iload_n 1, 1) := by decide +kernel
theorem zd_262_31 : decode (zm_cc 262) 31 = .ok (.iaload, 1) := by decide +kernel
theorem zd_262_32 : decode (zm_cc 262) 32 = .ok (.aload_n 0, 1) := by decide +kernel
theorem zd_262_33 : decode (zm_cc 262) 33 = .ok (.getfield 55, 3) := by decide +kernel
theorem zd_262_36 : decode (zm_cc 262) 36 = .ok (.iload_n 2, 1) := by decide +kernel
theorem zd_262_37 : decode (zm_cc 262) 37 = .ok (.iaload, 1) := by decide +kernel
theorem zd_262_38 : decode (zm_cc 262) 38 = .ok (.iand, 1) := by decide +kernel
theorem zd_262_39 : decode (zm_cc 262) 39 = .ok (.ifCond .ne 30, 3) := by decide +kernel
theorem zd_262_42 : decode (zm_cc 262) 42 = .ok (.aload_n 0, 1) := by decide +kernel
theorem zd_262_43 : decode (zm_cc 262) 43 = .ok (.iload_n 1, 1) := by decide +kernel
theorem zd_262_44 : decode (zm_cc 262) 44 = .ok (.bipush 24, 2) := by decide +kernel
theorem zd_262_46 : decode (zm_cc 262) 46 = .ok (.idiv, 1) := by decide +kernel
theorem zd_262_47 : decode (zm_cc 262) 47 = .ok (.iload_n 1, 1) := by decide +kernel
theorem zd_262_48 : decode (zm_cc 262) 48 = .ok (.bipush 24, 2) := by decide +kernel
theorem zd_262_50 : decode (zm_cc 262) 50 = .ok (.irem, 1) := by decide +kernel
theorem zd_262_51 : decode (zm_cc 262) 51 = .ok (.iload_n 2, 1) := by decide +kernel
theorem zd_262_52 : decode (zm_cc 262) 52 = .ok (.bipush 24, 2) := by decide +kernel
theorem zd_262_54 : decode (zm_cc 262) 54 = .ok (.idiv, 1) := by decide +kernel
theorem zd_262_55 : decode (zm_cc 262) 55 = .ok (.iload_n 2, 1) := by decide +kernel
theorem zd_262_56 : decode (zm_cc 262) 56 = .ok (.bipush 24, 2) := by decide +kernel
theorem zd_262_58 : decode (zm_cc 262) 58 = .ok (.irem, 1) := by decide +kernel
theorem zd_262_59 : decode (zm_cc 262) 59 = .ok (.invokevirtual 456, 3) := by decide +kernel
theorem zd_262_62 : decode (zm_cc 262) 62 = .ok (.ifCond .eq 7, 3) := by decide +kernel
theorem zd_262_65 : decode (zm_cc 262) 65 = .ok (.iconst 1, 1) := by decide +kernel
theorem zd_262_66 : decode (zm_cc 262) 66 = .ok (.goto 4, 3) := by decide +kernel
theorem zd_262_69 : decode (zm_cc 262) 69 = .ok (.iconst 0, 1) := by decide +kernel
theorem zd_262_70 : decode (zm_cc 262) 70 = .ok (.ireturn, 1) := by decide +kernel
