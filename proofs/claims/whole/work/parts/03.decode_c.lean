theorem dX9_twins_9 : decode cX9_twins 9 = .ok (.aload_n 0, 1) := by decide +kernel
theorem dX9_twins_10 : decode cX9_twins 10 = .ok (.getfield 7, 3) := by decide +kernel
theorem dX9_twins_13 : decode cX9_twins 13 = .ok (.iconst 1, 1) := by decide +kernel
theorem dX9_twins_14 : decode cX9_twins 14 = .ok (.iaload, 1) := by decide +kernel
theorem dX9_twins_15 : decode cX9_twins 15 = .ok (.if_icmp .ge 39, 3) := by decide +kernel
theorem dX9_twins_18 : decode cX9_twins 18 = .ok (.iconst 0, 1) := by decide +kernel
theorem dX9_twins_19 : decode cX9_twins 19 = .ok (.istore_n 3, 1) := by decide +kernel
theorem dX9_twins_20 : decode cX9_twins 20 = .ok (.iload_n 3, 1) := by decide +kernel
theorem dX9_twins_21 : decode cX9_twins 21 = .ok (.iload_n 2, 1) := by decide +kernel
theorem dX9_twins_22 : decode cX9_twins 22 = .ok (.if_icmp .ge 26, 3) := by decide +kernel
theorem dX9_twins_25 : decode cX9_twins 25 = .ok (.iload_n 1, 1) := by decide +kernel
theorem dX9_twins_26 : decode cX9_twins 26 = .ok (.aload_n 0, 1) := by decide +kernel
theorem dX9_twins_27 : decode cX9_twins 27 = .ok (.iload_n 2, 1) := by decide +kernel
theorem dX9_twins_28 : decode cX9_twins 28 = .ok (.iload_n 3, 1) := by decide +kernel
theorem dX9_twins_29 : decode cX9_twins 29 = .ok (.invokevirtual 197, 3) := by decide +kernel
theorem dX9_twins_32 : decode cX9_twins 32 = .ok (.ifCond .eq 7, 3) := by decide +kernel
theorem dX9_twins_35 : decode cX9_twins 35 = .ok (.iconst 1, 1) := by decide +kernel
theorem dX9_twins_36 : decode cX9_twins 36 = .ok (.goto 4, 3) := by decide +kernel
theorem dX9_twins_39 : decode cX9_twins 39 = .ok (.iconst 0, 1) := by decide +kernel
theorem dX9_twins_40 : decode cX9_twins 40 = .ok (.iadd, 1) := by decide +kernel
theorem dX9_twins_41 : decode cX9_twins 41 = .ok (.istore_n 1, 1) := by decide +kernel
theorem dX9_twins_42 : decode cX9_twins 42 = .ok (.iinc 3 1, 3) := by decide +kernel
theorem dX9_twins_45 : decode cX9_twins 45 = .ok (.goto (-25), 3) := by decide +kernel
theorem dX9_twins_48 : decode cX9_twins 48 = .ok (.iinc 2 1, 3) := by decide +kernel
theorem dX9_twins_51 : decode cX9_twins 51 = .ok (.goto (-43), 3) := by decide +kernel
theorem dX9_twins_54 : decode cX9_twins 54 = .ok (.iload_n 1, 1) := by decide +kernel
theorem dX9_twins_55 : decode cX9_twins 55 = .ok (.ireturn, 1) := by decide +kernel
theorem dX9_addPaper_0 : decode cX9_addPaper 0 = .ok (.aload_n 0, 1) := by decide +kernel
theorem dX9_addPaper_1 : decode cX9_addPaper 1 = .ok (.getfield 7, 3) := by decide +kernel
theorem dX9_addPaper_4 : decode cX9_addPaper 4 = .ok (.bipush 68, 2) := by decide +kernel
theorem dX9_addPaper_6 : decode cX9_addPaper 6 = .ok (.iconst 2, 1) := by decide +kernel
theorem dX9_addPaper_7 : decode cX9_addPaper 7 = .ok (.aload_n 0, 1) := by decide +kernel
theorem dX9_addPaper_8 : decode cX9_addPaper 8 = .ok (.getfield 7, 3) := by decide +kernel
theorem dX9_addPaper_11 : decode cX9_addPaper 11 = .ok (.iconst 2, 1) := by decide +kernel
theorem dX9_addPaper_12 : decode cX9_addPaper 12 = .ok (.iaload, 1) := by decide +kernel
theorem dX9_addPaper_13 : decode cX9_addPaper 13 = .ok (.imul, 1) := by decide +kernel
theorem dX9_addPaper_14 : decode cX9_addPaper 14 = .ok (.iadd, 1) := by decide +kernel
theorem dX9_addPaper_15 : decode cX9_addPaper 15 = .ok (.iload_n 1, 1) := by decide +kernel
theorem dX9_addPaper_16 : decode cX9_addPaper 16 = .ok (.iastore, 1) := by decide +kernel
theorem dX9_addPaper_17 : decode cX9_addPaper 17 = .ok (.aload_n 0, 1) := by decide +kernel
theorem dX9_addPaper_18 : decode cX9_addPaper 18 = .ok (.getfield 7, 3) := by decide +kernel
theorem dX9_addPaper_21 : decode cX9_addPaper 21 = .ok (.bipush 68, 2) := by decide +kernel
theorem dX9_addPaper_23 : decode cX9_addPaper 23 = .ok (.iconst 2, 1) := by decide +kernel
theorem dX9_addPaper_24 : decode cX9_addPaper 24 = .ok (.aload_n 0, 1) := by decide +kernel
theorem dX9_addPaper_25 : decode cX9_addPaper 25 = .ok (.getfield 7, 3) := by decide +kernel
theorem dX9_addPaper_28 : decode cX9_addPaper 28 = .ok (.iconst 2, 1) := by decide +kernel
theorem dX9_addPaper_29 : decode cX9_addPaper 29 = .ok (.iaload, 1) := by decide +kernel
theorem dX9_addPaper_30 : decode cX9_addPaper 30 = .ok (.imul, 1) := by decide +kernel
theorem dX9_addPaper_31 : decode cX9_addPaper 31 = .ok (.iadd, 1) := by decide +kernel
theorem dX9_addPaper_32 : decode cX9_addPaper 32 = .ok (.iconst 1, 1) := by decide +kernel
theorem dX9_addPaper_33 : decode cX9_addPaper 33 = .ok (.iadd, 1) := by decide +kernel
theorem dX9_addPaper_34 : decode cX9_addPaper 34 = .ok (.iload_n 2, 1) := by decide +kernel
theorem dX9_addPaper_35 : decode cX9_addPaper 35 = .ok (.iastore, 1) := by decide +kernel
theorem dX9_addPaper_36 : decode cX9_addPaper 36 = .ok (.aload_n 0, 1) := by decide +kernel
theorem dX9_addPaper_37 : decode cX9_addPaper 37 = .ok (.getfield 7, 3) := by decide +kernel
theorem dX9_addPaper_40 : decode cX9_addPaper 40 = .ok (.iconst 2, 1) := by decide +kernel
theorem dX9_addPaper_41 : decode cX9_addPaper 41 = .ok (.dup2, 1) := by decide +kernel
theorem dX9_addPaper_42 : decode cX9_addPaper 42 = .ok (.iaload, 1) := by decide +kernel
theorem dX9_addPaper_43 : decode cX9_addPaper 43 = .ok (.iconst 1, 1) := by decide +kernel
theorem dX9_addPaper_44 : decode cX9_addPaper 44 = .ok (.iadd, 1) := by decide +kernel
theorem dX9_addPaper_45 : decode cX9_addPaper 45 = .ok (.iastore, 1) := by decide +kernel
theorem dX9_addPaper_46 : decode cX9_addPaper 46 = .ok (.return_, 1) := by decide +kernel
theorem dX9_paper_0 : decode cX9_paper 0 = .ok (.iload_n 1, 1) := by decide +kernel
theorem dX9_paper_1 : decode cX9_paper 1 = .ok (.iload_n 2, 1) := by decide +kernel
theorem dX9_paper_2 : decode cX9_paper 2 = .ok (.invokestatic 100, 3) := by decide +kernel
theorem dX9_paper_5 : decode cX9_paper 5 = .ok (.ifCond .ne 9, 3) := by decide +kernel
theorem dX9_paper_8 : decode cX9_paper 8 = .ok (.aload_n 0, 1) := by decide +kernel
theorem dX9_paper_9 : decode cX9_paper 9 = .ok (.iconst 1, 1) := by decide +kernel
theorem dX9_paper_10 : decode cX9_paper 10 = .ok (.invokevirtual 83, 3) := by decide +kernel
theorem dX9_paper_13 : decode cX9_paper 13 = .ok (.ireturn, 1) := by decide +kernel
theorem dX9_paper_14 : decode cX9_paper 14 = .ok (.aload_n 0, 1) := by decide +kernel
theorem dX9_paper_15 : decode cX9_paper 15 = .ok (.getfield 7, 3) := by decide +kernel
theorem dX9_paper_18 : decode cX9_paper 18 = .ok (.iconst 2, 1) := by decide +kernel
theorem dX9_paper_19 : decode cX9_paper 19 = .ok (.iaload, 1) := by decide +kernel
theorem dX9_paper_20 : decode cX9_paper 20 = .ok (.bipush 8, 2) := by decide +kernel
theorem dX9_paper_22 : decode cX9_paper 22 = .ok (.if_icmp .ne 9, 3) := by decide +kernel
theorem dX9_paper_25 : decode cX9_paper 25 = .ok (.aload_n 0, 1) := by decide +kernel
theorem dX9_paper_26 : decode cX9_paper 26 = .ok (.iconst 4, 1) := by decide +kernel
theorem dX9_paper_27 : decode cX9_paper 27 = .ok (.invokevirtual 83, 3) := by decide +kernel
theorem dX9_paper_30 : decode cX9_paper 30 = .ok (.ireturn, 1) := by decide +kernel
theorem dX9_paper_31 : decode cX9_paper 31 = .ok (.aload_n 0, 1) := by decide +kernel
theorem dX9_paper_32 : decode cX9_paper 32 = .ok (.iload_n 1, 1) := by decide +kernel
theorem dX9_paper_33 : decode cX9_paper 33 = .ok (.iload_n 2, 1) := by decide +kernel
theorem dX9_paper_34 : decode cX9_paper 34 = .ok (.invokevirtual 200, 3) := by decide +kernel
theorem dX9_paper_37 : decode cX9_paper 37 = .ok (.aload_n 0, 1) := by decide +kernel
theorem dX9_paper_38 : decode cX9_paper 38 = .ok (.getfield 7, 3) := by decide +kernel
theorem dX9_paper_41 : decode cX9_paper 41 = .ok (.iconst 2, 1) := by decide +kernel
theorem dX9_paper_42 : decode cX9_paper 42 = .ok (.iaload, 1) := by decide +kernel
theorem dX9_paper_43 : decode cX9_paper 43 = .ok (.iconst 1, 1) := by decide +kernel
theorem dX9_paper_44 : decode cX9_paper 44 = .ok (.isub, 1) := by decide +kernel
theorem dX9_paper_45 : decode cX9_paper 45 = .ok (.ireturn, 1) := by decide +kernel
theorem dX9_findMay_0 : decode cX9_findMay 0 = .ok (.aload_n 0, 1) := by decide +kernel
theorem dX9_findMay_1 : decode cX9_findMay 1 = .ok (.invokevirtual 91, 3) := by decide +kernel
theorem dX9_findMay_4 : decode cX9_findMay 4 = .ok (.iconst 0, 1) := by decide +kernel
theorem dX9_findMay_5 : decode cX9_findMay 5 = .ok (.istore_n 1, 1) := by decide +kernel
theorem dX9_findMay_6 : decode cX9_findMay 6 = .ok (.iload_n 1, 1) := by decide +kernel
theorem dX9_findMay_7 : decode cX9_findMay 7 = .ok (.aload_n 0, 1) := by decide +kernel
theorem dX9_findMay_8 : decode cX9_findMay 8 = .ok (.getfield 7, 3) := by decide +kernel
theorem dX9_findMay_11 : decode cX9_findMay 11 = .ok (.iconst 2, 1) := by decide +kernel
theorem dX9_findMay_12 : decode cX9_findMay 12 = .ok (.iaload, 1) := by decide +kernel
theorem dX9_findMay_13 : decode cX9_findMay 13 = .ok (.if_icmp .ge 134, 3) := by decide +kernel
theorem dX9_findMay_16 : decode cX9_findMay 16 = .ok (.aload_n 0, 1) := by decide +kernel
theorem dX9_findMay_17 : decode cX9_findMay 17 = .ok (.getfield 34, 3) := by decide +kernel
theorem dX9_findMay_20 : decode cX9_findMay 20 = .ok (.iload_n 1, 1) := by decide +kernel
theorem dX9_findMay_21 : decode cX9_findMay 21 = .ok (.iconst 0, 1) := by decide +kernel
theorem dX9_findMay_22 : decode cX9_findMay 22 = .ok (.iastore, 1) := by decide +kernel
theorem dX9_findMay_23 : decode cX9_findMay 23 = .ok (.iconst 0, 1) := by decide +kernel
theorem dX9_findMay_24 : decode cX9_findMay 24 = .ok (.istore_n 2, 1) := by decide +kernel
theorem dX9_findMay_25 : decode cX9_findMay 25 = .ok (.iload_n 2, 1) := by decide +kernel
theorem dX9_findMay_26 : decode cX9_findMay 26 = .ok (.sipush 200, 3) := by decide +kernel
theorem dX9_findMay_29 : decode cX9_findMay 29 = .ok (.if_icmp .ge 112, 3) := by decide +kernel
theorem dX9_findMay_32 : decode cX9_findMay 32 = .ok (.iconst 0, 1) := by decide +kernel
theorem dX9_findMay_33 : decode cX9_findMay 33 = .ok (.istore_n 3, 1) := by decide +kernel
theorem dX9_findMay_34 : decode cX9_findMay 34 = .ok (.iconst 0, 1) := by decide +kernel
theorem dX9_findMay_35 : decode cX9_findMay 35 = .ok (.istore 4, 2) := by decide +kernel
theorem dX9_findMay_37 : decode cX9_findMay 37 = .ok (.iload 4, 2) := by decide +kernel
theorem dX9_findMay_39 : decode cX9_findMay 39 = .ok (.iconst 4, 1) := by decide +kernel
theorem dX9_findMay_40 : decode cX9_findMay 40 = .ok (.if_icmp .ge 46, 3) := by decide +kernel
theorem dX9_findMay_43 : decode cX9_findMay 43 = .ok (.iload_n 3, 1) := by decide +kernel
theorem dX9_findMay_44 : decode cX9_findMay 44 = .ok (.ifCond .ne 30, 3) := by decide +kernel
theorem dX9_findMay_47 : decode cX9_findMay 47 = .ok (.aload_n 0, 1) := by decide +kernel
theorem dX9_findMay_48 : decode cX9_findMay 48 = .ok (.getfield 19, 3) := by decide +kernel
theorem dX9_findMay_51 : decode cX9_findMay 51 = .ok (.sipush 200, 3) := by decide +kernel
theorem dX9_findMay_54 : decode cX9_findMay 54 = .ok (.iload 4, 2) := by decide +kernel
theorem dX9_findMay_56 : decode cX9_findMay 56 = .ok (.imul, 1) := by decide +kernel
theorem dX9_findMay_57 : decode cX9_findMay 57 = .ok (.iload_n 2, 1) := by decide +kernel
theorem dX9_findMay_58 : decode cX9_findMay 58 = .ok (.iadd, 1) := by decide +kernel
theorem dX9_findMay_59 : decode cX9_findMay 59 = .ok (.iaload, 1) := by decide +kernel
theorem dX9_findMay_60 : decode cX9_findMay 60 = .ok (.aload_n 0, 1) := by decide +kernel
theorem dX9_findMay_61 : decode cX9_findMay 61 = .ok (.getfield 7, 3) := by decide +kernel
theorem dX9_findMay_64 : decode cX9_findMay 64 = .ok (.bipush 68, 2) := by decide +kernel
theorem dX9_findMay_66 : decode cX9_findMay 66 = .ok (.iconst 2, 1) := by decide +kernel
theorem dX9_findMay_67 : decode cX9_findMay 67 = .ok (.iload_n 1, 1) := by decide +kernel
theorem dX9_findMay_68 : decode cX9_findMay 68 = .ok (.imul, 1) := by decide +kernel
theorem dX9_findMay_69 : decode cX9_findMay 69 = .ok (.iadd, 1) := by decide +kernel
theorem dX9_findMay_70 : decode cX9_findMay 70 = .ok (.iaload, 1) := by decide +kernel
theorem dX9_findMay_71 : decode cX9_findMay 71 = .ok (.if_icmp .ne 7, 3) := by decide +kernel
theorem dX9_findMay_74 : decode cX9_findMay 74 = .ok (.iconst 1, 1) := by decide +kernel
theorem dX9_findMay_75 : decode cX9_findMay 75 = .ok (.goto 4, 3) := by decide +kernel
theorem dX9_findMay_78 : decode cX9_findMay 78 = .ok (.iconst 0, 1) := by decide +kernel
theorem dX9_findMay_79 : decode cX9_findMay 79 = .ok (.istore_n 3, 1) := by decide +kernel
theorem dX9_findMay_80 : decode cX9_findMay 80 = .ok (.iinc 4 1, 3) := by decide +kernel
theorem dX9_findMay_83 : decode cX9_findMay 83 = .ok (.goto (-46), 3) := by decide +kernel
theorem dX9_findMay_86 : decode cX9_findMay 86 = .ok (.iload_n 3, 1) := by decide +kernel
theorem dX9_findMay_87 : decode cX9_findMay 87 = .ok (.ifCond .eq 48, 3) := by decide +kernel
theorem dX9_findMay_90 : decode cX9_findMay 90 = .ok (.aload_n 0, 1) := by decide +kernel
theorem dX9_findMay_91 : decode cX9_findMay 91 = .ok (.getfield 31, 3) := by decide +kernel
theorem dX9_findMay_94 : decode cX9_findMay 94 = .ok (.bipush 8, 2) := by decide +kernel
theorem dX9_findMay_96 : decode cX9_findMay 96 = .ok (.iload_n 1, 1) := by decide +kernel
theorem dX9_findMay_97 : decode cX9_findMay 97 = .ok (.imul, 1) := by decide +kernel
theorem dX9_findMay_98 : decode cX9_findMay 98 = .ok (.aload_n 0, 1) := by decide +kernel
theorem dX9_findMay_99 : decode cX9_findMay 99 = .ok (.getfield 34, 3) := by decide +kernel
theorem dX9_findMay_102 : decode cX9_findMay 102 = .ok (.iload_n 1, 1) := by decide +kernel
theorem dX9_findMay_103 : decode cX9_findMay 103 = .ok (.iaload, 1) := by decide +kernel
theorem dX9_findMay_104 : decode cX9_findMay 104 = .ok (.iadd, 1) := by decide +kernel
theorem dX9_findMay_105 : decode cX9_findMay 105 = .ok (.sipush 365, 3) := by decide +kernel
theorem dX9_findMay_108 : decode cX9_findMay 108 = .ok (.iload_n 2, 1) := by decide +kernel
theorem dX9_findMay_109 : decode cX9_findMay 109 = .ok (.imul, 1) := by decide +kernel
theorem dX9_findMay_110 : decode cX9_findMay 110 = .ok (.aload_n 0, 1) := by decide +kernel
theorem dX9_findMay_111 : decode cX9_findMay 111 = .ok (.getfield 7, 3) := by decide +kernel
theorem dX9_findMay_114 : decode cX9_findMay 114 = .ok (.bipush 68, 2) := by decide +kernel
theorem dX9_findMay_116 : decode cX9_findMay 116 = .ok (.iconst 2, 1) := by decide +kernel
theorem dX9_findMay_117 : decode cX9_findMay 117 = .ok (.iload_n 1, 1) := by decide +kernel
theorem dX9_findMay_118 : decode cX9_findMay 118 = .ok (.imul, 1) := by decide +kernel
theorem dX9_findMay_119 : decode cX9_findMay 119 = .ok (.iadd, 1) := by decide +kernel
theorem dX9_findMay_120 : decode cX9_findMay 120 = .ok (.iconst 1, 1) := by decide +kernel
theorem dX9_findMay_121 : decode cX9_findMay 121 = .ok (.iadd, 1) := by decide +kernel
theorem dX9_findMay_122 : decode cX9_findMay 122 = .ok (.iaload, 1) := by decide +kernel
theorem dX9_findMay_123 : decode cX9_findMay 123 = .ok (.iadd, 1) := by decide +kernel
theorem dX9_findMay_124 : decode cX9_findMay 124 = .ok (.iastore, 1) := by decide +kernel
theorem dX9_findMay_125 : decode cX9_findMay 125 = .ok (.aload_n 0, 1) := by decide +kernel
theorem dX9_findMay_126 : decode cX9_findMay 126 = .ok (.getfield 34, 3) := by decide +kernel
theorem dX9_findMay_129 : decode cX9_findMay 129 = .ok (.iload_n 1, 1) := by decide +kernel
theorem dX9_findMay_130 : decode cX9_findMay 130 = .ok (.dup2, 1) := by decide +kernel
theorem dX9_findMay_131 : decode cX9_findMay 131 = .ok (.iaload, 1) := by decide +kernel
theorem dX9_findMay_132 : decode cX9_findMay 132 = .ok (.iconst 1, 1) := by decide +kernel
theorem dX9_findMay_133 : decode cX9_findMay 133 = .ok (.iadd, 1) := by decide +kernel
theorem dX9_findMay_134 : decode cX9_findMay 134 = .ok (.iastore, 1) := by decide +kernel
theorem dX9_findMay_135 : decode cX9_findMay 135 = .ok (.iinc 2 1, 3) := by decide +kernel
theorem dX9_findMay_138 : decode cX9_findMay 138 = .ok (.goto (-113), 3) := by decide +kernel
theorem dX9_findMay_141 : decode cX9_findMay 141 = .ok (.iinc 1 1, 3) := by decide +kernel
theorem dX9_findMay_144 : decode cX9_findMay 144 = .ok (.goto (-138), 3) := by decide +kernel
theorem dX9_findMay_147 : decode cX9_findMay 147 = .ok (.return_, 1) := by decide +kernel
theorem dX9_paperIs_0 : decode cX9_paperIs 0 = .ok (.aload_n 0, 1) := by decide +kernel
theorem dX9_paperIs_1 : decode cX9_paperIs 1 = .ok (.iload_n 1, 1) := by decide +kernel
theorem dX9_paperIs_2 : decode cX9_paperIs 2 = .ok (.invokevirtual 203, 3) := by decide +kernel
theorem dX9_paperIs_5 : decode cX9_paperIs 5 = .ok (.ifCond .eq 12, 3) := by decide +kernel
theorem dX9_paperIs_8 : decode cX9_paperIs 8 = .ok (.iload_n 2, 1) := by decide +kernel
theorem dX9_paperIs_9 : decode cX9_paperIs 9 = .ok (.iconst 0, 1) := by decide +kernel
theorem dX9_paperIs_10 : decode cX9_paperIs 10 = .ok (.iconst 2, 1) := by decide +kernel
theorem dX9_paperIs_11 : decode cX9_paperIs 11 = .ok (.invokestatic 63, 3) := by decide +kernel
theorem dX9_paperIs_14 : decode cX9_paperIs 14 = .ok (.ifCond .ne 9, 3) := by decide +kernel
theorem dX9_paperIs_17 : decode cX9_paperIs 17 = .ok (.aload_n 0, 1) := by decide +kernel
theorem dX9_paperIs_18 : decode cX9_paperIs 18 = .ok (.iconst 1, 1) := by decide +kernel
theorem dX9_paperIs_19 : decode cX9_paperIs 19 = .ok (.invokevirtual 83, 3) := by decide +kernel
theorem dX9_paperIs_22 : decode cX9_paperIs 22 = .ok (.ireturn, 1) := by decide +kernel
theorem dX9_paperIs_23 : decode cX9_paperIs 23 = .ok (.aload_n 0, 1) := by decide +kernel
theorem dX9_paperIs_24 : decode cX9_paperIs 24 = .ok (.invokevirtual 206, 3) := by decide +kernel
theorem dX9_paperIs_27 : decode cX9_paperIs 27 = .ok (.iload_n 2, 1) := by decide +kernel
theorem dX9_paperIs_28 : decode cX9_paperIs 28 = .ok (.iconst 2, 1) := by decide +kernel
theorem dX9_paperIs_29 : decode cX9_paperIs 29 = .ok (.if_icmp .ne 12, 3) := by decide +kernel
theorem dX9_paperIs_32 : decode cX9_paperIs 32 = .ok (.aload_n 0, 1) := by decide +kernel
theorem dX9_paperIs_33 : decode cX9_paperIs 33 = .ok (.getfield 34, 3) := by decide +kernel
theorem dX9_paperIs_36 : decode cX9_paperIs 36 = .ok (.iload_n 1, 1) := by decide +kernel
theorem dX9_paperIs_37 : decode cX9_paperIs 37 = .ok (.iaload, 1) := by decide +kernel
theorem dX9_paperIs_38 : decode cX9_paperIs 38 = .ok (.goto 16, 3) := by decide +kernel
theorem dX9_paperIs_41 : decode cX9_paperIs 41 = .ok (.aload_n 0, 1) := by decide +kernel
theorem dX9_paperIs_42 : decode cX9_paperIs 42 = .ok (.getfield 7, 3) := by decide +kernel
theorem dX9_paperIs_45 : decode cX9_paperIs 45 = .ok (.bipush 68, 2) := by decide +kernel
theorem dX9_paperIs_47 : decode cX9_paperIs 47 = .ok (.iconst 2, 1) := by decide +kernel
theorem dX9_paperIs_48 : decode cX9_paperIs 48 = .ok (.iload_n 1, 1) := by decide +kernel
theorem dX9_paperIs_49 : decode cX9_paperIs 49 = .ok (.imul, 1) := by decide +kernel
theorem dX9_paperIs_50 : decode cX9_paperIs 50 = .ok (.iadd, 1) := by decide +kernel
theorem dX9_paperIs_51 : decode cX9_paperIs 51 = .ok (.iload_n 2, 1) := by decide +kernel
theorem dX9_paperIs_52 : decode cX9_paperIs 52 = .ok (.iadd, 1) := by decide +kernel
theorem dX9_paperIs_53 : decode cX9_paperIs 53 = .ok (.iaload, 1) := by decide +kernel
theorem dX9_paperIs_54 : decode cX9_paperIs 54 = .ok (.ireturn, 1) := by decide +kernel
theorem dX9_burn_0 : decode cX9_burn 0 = .ok (.aload_n 0, 1) := by decide +kernel
theorem dX9_burn_1 : decode cX9_burn 1 = .ok (.getfield 7, 3) := by decide +kernel
theorem dX9_burn_4 : decode cX9_burn 4 = .ok (.iconst 2, 1) := by decide +kernel
theorem dX9_burn_5 : decode cX9_burn 5 = .ok (.iaload, 1) := by decide +kernel
theorem dX9_burn_6 : decode cX9_burn 6 = .ok (.ifCond .ne 9, 3) := by decide +kernel
theorem dX9_burn_9 : decode cX9_burn 9 = .ok (.aload_n 0, 1) := by decide +kernel
theorem dX9_burn_10 : decode cX9_burn 10 = .ok (.iconst 3, 1) := by decide +kernel
theorem dX9_burn_11 : decode cX9_burn 11 = .ok (.invokevirtual 83, 3) := by decide +kernel
theorem dX9_burn_14 : decode cX9_burn 14 = .ok (.ireturn, 1) := by decide +kernel
theorem dX9_burn_15 : decode cX9_burn 15 = .ok (.aload_n 0, 1) := by decide +kernel
theorem dX9_burn_16 : decode cX9_burn 16 = .ok (.getfield 7, 3) := by decide +kernel
theorem dX9_burn_19 : decode cX9_burn 19 = .ok (.iconst 2, 1) := by decide +kernel
theorem dX9_burn_20 : decode cX9_burn 20 = .ok (.dup2, 1) := by decide +kernel
theorem dX9_burn_21 : decode cX9_burn 21 = .ok (.iaload, 1) := by decide +kernel
theorem dX9_burn_22 : decode cX9_burn 22 = .ok (.iconst 1, 1) := by decide +kernel
theorem dX9_burn_23 : decode cX9_burn 23 = .ok (.isub, 1) := by decide +kernel
theorem dX9_burn_24 : decode cX9_burn 24 = .ok (.iastore, 1) := by decide +kernel
theorem dX9_burn_25 : decode cX9_burn 25 = .ok (.aload_n 0, 1) := by decide +kernel
theorem dX9_burn_26 : decode cX9_burn 26 = .ok (.getfield 7, 3) := by decide +kernel
theorem dX9_burn_29 : decode cX9_burn 29 = .ok (.iconst 2, 1) := by decide +kernel
theorem dX9_burn_30 : decode cX9_burn 30 = .ok (.iaload, 1) := by decide +kernel
theorem dX9_burn_31 : decode cX9_burn 31 = .ok (.ireturn, 1) := by decide +kernel
theorem dX9_may_0 : decode cX9_may 0 = .ok (.aload_n 0, 1) := by decide +kernel
theorem dX9_may_1 : decode cX9_may 1 = .ok (.iload_n 1, 1) := by decide +kernel
theorem dX9_may_2 : decode cX9_may 2 = .ok (.invokevirtual 203, 3) := by decide +kernel
theorem dX9_may_5 : decode cX9_may 5 = .ok (.ifCond .eq 7, 3) := by decide +kernel
theorem dX9_may_8 : decode cX9_may 8 = .ok (.iload_n 2, 1) := by decide +kernel
theorem dX9_may_9 : decode cX9_may 9 = .ok (.ifCond .ge 9, 3) := by decide +kernel
theorem dX9_may_12 : decode cX9_may 12 = .ok (.aload_n 0, 1) := by decide +kernel
theorem dX9_may_13 : decode cX9_may 13 = .ok (.iconst 1, 1) := by decide +kernel
theorem dX9_may_14 : decode cX9_may 14 = .ok (.invokevirtual 83, 3) := by decide +kernel
theorem dX9_may_17 : decode cX9_may 17 = .ok (.ireturn, 1) := by decide +kernel
theorem dX9_may_18 : decode cX9_may 18 = .ok (.aload_n 0, 1) := by decide +kernel
theorem dX9_may_19 : decode cX9_may 19 = .ok (.invokevirtual 206, 3) := by decide +kernel
theorem dX9_may_22 : decode cX9_may 22 = .ok (.iload_n 2, 1) := by decide +kernel
theorem dX9_may_23 : decode cX9_may 23 = .ok (.aload_n 0, 1) := by decide +kernel
theorem dX9_may_24 : decode cX9_may 24 = .ok (.getfield 34, 3) := by decide +kernel
theorem dX9_may_27 : decode cX9_may 27 = .ok (.iload_n 1, 1) := by decide +kernel
theorem dX9_may_28 : decode cX9_may 28 = .ok (.iaload, 1) := by decide +kernel
theorem dX9_may_29 : decode cX9_may 29 = .ok (.if_icmp .ge 17, 3) := by decide +kernel
theorem dX9_may_32 : decode cX9_may 32 = .ok (.aload_n 0, 1) := by decide +kernel
theorem dX9_may_33 : decode cX9_may 33 = .ok (.getfield 31, 3) := by decide +kernel
theorem dX9_may_36 : decode cX9_may 36 = .ok (.bipush 8, 2) := by decide +kernel
theorem dX9_may_38 : decode cX9_may 38 = .ok (.iload_n 1, 1) := by decide +kernel
theorem dX9_may_39 : decode cX9_may 39 = .ok (.imul, 1) := by decide +kernel
theorem dX9_may_40 : decode cX9_may 40 = .ok (.iload_n 2, 1) := by decide +kernel
theorem dX9_may_41 : decode cX9_may 41 = .ok (.iadd, 1) := by decide +kernel
theorem dX9_may_42 : decode cX9_may 42 = .ok (.iaload, 1) := by decide +kernel
theorem dX9_may_43 : decode cX9_may 43 = .ok (.goto 8, 3) := by decide +kernel
theorem dX9_may_46 : decode cX9_may 46 = .ok (.aload_n 0, 1) := by decide +kernel
theorem dX9_may_47 : decode cX9_may 47 = .ok (.iconst 2, 1) := by decide +kernel
theorem dX9_may_48 : decode cX9_may 48 = .ok (.invokevirtual 83, 3) := by decide +kernel
theorem dX9_may_51 : decode cX9_may 51 = .ok (.ireturn, 1) := by decide +kernel
theorem dX9_findRows_0 : decode cX9_findRows 0 = .ok (.aload_n 0, 1) := by decide +kernel
theorem dX9_findRows_1 : decode cX9_findRows 1 = .ok (.invokevirtual 206, 3) := by decide +kernel
theorem dX9_findRows_4 : decode cX9_findRows 4 = .ok (.iconst 0, 1) := by decide +kernel
theorem dX9_findRows_5 : decode cX9_findRows 5 = .ok (.istore_n 1, 1) := by decide +kernel
theorem dX9_findRows_6 : decode cX9_findRows 6 = .ok (.iload_n 1, 1) := by decide +kernel
theorem dX9_findRows_7 : decode cX9_findRows 7 = .ok (.aload_n 0, 1) := by decide +kernel
theorem dX9_findRows_8 : decode cX9_findRows 8 = .ok (.getfield 7, 3) := by decide +kernel
theorem dX9_findRows_11 : decode cX9_findRows 11 = .ok (.iconst 2, 1) := by decide +kernel
theorem dX9_findRows_12 : decode cX9_findRows 12 = .ok (.iaload, 1) := by decide +kernel
theorem dX9_findRows_13 : decode cX9_findRows 13 = .ok (.if_icmp .ge 131, 3) := by decide +kernel
theorem dX9_findRows_16 : decode cX9_findRows 16 = .ok (.iconst 0, 1) := by decide +kernel
theorem dX9_findRows_17 : decode cX9_findRows 17 = .ok (.istore_n 2, 1) := by decide +kernel
theorem dX9_findRows_18 : decode cX9_findRows 18 = .ok (.iload_n 2, 1) := by decide +kernel
theorem dX9_findRows_19 : decode cX9_findRows 19 = .ok (.aload_n 0, 1) := by decide +kernel
theorem dX9_findRows_20 : decode cX9_findRows 20 = .ok (.getfield 34, 3) := by decide +kernel
theorem dX9_findRows_23 : decode cX9_findRows 23 = .ok (.iload_n 1, 1) := by decide +kernel
theorem dX9_findRows_24 : decode cX9_findRows 24 = .ok (.iaload, 1) := by decide +kernel
theorem dX9_findRows_25 : decode cX9_findRows 25 = .ok (.if_icmp .ge 113, 3) := by decide +kernel
theorem dX9_findRows_28 : decode cX9_findRows 28 = .ok (.aload_n 0, 1) := by decide +kernel
theorem dX9_findRows_29 : decode cX9_findRows 29 = .ok (.getfield 37, 3) := by decide +kernel
theorem dX9_findRows_32 : decode cX9_findRows 32 = .ok (.bipush 8, 2) := by decide +kernel
theorem dX9_findRows_34 : decode cX9_findRows 34 = .ok (.iload_n 1, 1) := by decide +kernel
theorem dX9_findRows_35 : decode cX9_findRows 35 = .ok (.imul, 1) := by decide +kernel
theorem dX9_findRows_36 : decode cX9_findRows 36 = .ok (.iload_n 2, 1) := by decide +kernel
theorem dX9_findRows_37 : decode cX9_findRows 37 = .ok (.iadd, 1) := by decide +kernel
theorem dX9_findRows_38 : decode cX9_findRows 38 = .ok (.iload_n 1, 1) := by decide +kernel
theorem dX9_findRows_39 : decode cX9_findRows 39 = .ok (.ifCond .ne 7, 3) := by decide +kernel
theorem dX9_findRows_42 : decode cX9_findRows 42 = .ok (.lconst 1, 1) := by decide +kernel
theorem dX9_findRows_43 : decode cX9_findRows 43 = .ok (.goto 4, 3) := by decide +kernel
theorem dX9_findRows_46 : decode cX9_findRows 46 = .ok (.lconst 0, 1) := by decide +kernel
theorem dX9_findRows_47 : decode cX9_findRows 47 = .ok (.lastore, 1) := by decide +kernel
theorem dX9_findRows_48 : decode cX9_findRows 48 = .ok (.iconst 0, 1) := by decide +kernel
theorem dX9_findRows_49 : decode cX9_findRows 49 = .ok (.istore_n 3, 1) := by decide +kernel
theorem dX9_findRows_50 : decode cX9_findRows 50 = .ok (.iload_n 1, 1) := by decide +kernel
theorem dX9_findRows_51 : decode cX9_findRows 51 = .ok (.ifCond .le 81, 3) := by decide +kernel
theorem dX9_findRows_54 : decode cX9_findRows 54 = .ok (.iload_n 3, 1) := by decide +kernel
theorem dX9_findRows_55 : decode cX9_findRows 55 = .ok (.aload_n 0, 1) := by decide +kernel
theorem dX9_findRows_56 : decode cX9_findRows 56 = .ok (.getfield 34, 3) := by decide +kernel
theorem dX9_findRows_59 : decode cX9_findRows 59 = .ok (.iload_n 1, 1) := by decide +kernel
theorem dX9_findRows_60 : decode cX9_findRows 60 = .ok (.iconst 1, 1) := by decide +kernel
theorem dX9_findRows_61 : decode cX9_findRows 61 = .ok (.isub, 1) := by decide +kernel
theorem dX9_findRows_62 : decode cX9_findRows 62 = .ok (.iaload, 1) := by decide +kernel
theorem dX9_findRows_63 : decode cX9_findRows 63 = .ok (.if_icmp .ge 69, 3) := by decide +kernel
theorem dX9_findRows_66 : decode cX9_findRows 66 = .ok (.aload_n 0, 1) := by decide +kernel
theorem dX9_findRows_67 : decode cX9_findRows 67 = .ok (.getfield 37, 3) := by decide +kernel
theorem dX9_findRows_70 : decode cX9_findRows 70 = .ok (.bipush 8, 2) := by decide +kernel
theorem dX9_findRows_72 : decode cX9_findRows 72 = .ok (.iload_n 1, 1) := by decide +kernel
theorem dX9_findRows_73 : decode cX9_findRows 73 = .ok (.imul, 1) := by decide +kernel
theorem dX9_findRows_74 : decode cX9_findRows 74 = .ok (.iload_n 2, 1) := by decide +kernel
theorem dX9_findRows_75 : decode cX9_findRows 75 = .ok (.iadd, 1) := by decide +kernel
theorem dX9_findRows_76 : decode cX9_findRows 76 = .ok (.dup2, 1) := by decide +kernel
theorem dX9_findRows_77 : decode cX9_findRows 77 = .ok (.laload, 1) := by decide +kernel
theorem dX9_findRows_78 : decode cX9_findRows 78 = .ok (.aload_n 0, 1) := by decide +kernel
theorem dX9_findRows_79 : decode cX9_findRows 79 = .ok (.getfield 31, 3) := by decide +kernel
theorem dX9_findRows_82 : decode cX9_findRows 82 = .ok (.bipush 8, 2) := by decide +kernel
theorem dX9_findRows_84 : decode cX9_findRows 84 = .ok (.iload_n 1, 1) := by decide +kernel
theorem dX9_findRows_85 : decode cX9_findRows 85 = .ok (.imul, 1) := by decide +kernel
theorem dX9_findRows_86 : decode cX9_findRows 86 = .ok (.bipush 8, 2) := by decide +kernel
theorem dX9_findRows_88 : decode cX9_findRows 88 = .ok (.isub, 1) := by decide +kernel
theorem dX9_findRows_89 : decode cX9_findRows 89 = .ok (.iload_n 3, 1) := by decide +kernel
theorem dX9_findRows_90 : decode cX9_findRows 90 = .ok (.iadd, 1) := by decide +kernel
theorem dX9_findRows_91 : decode cX9_findRows 91 = .ok (.iaload, 1) := by decide +kernel
theorem dX9_findRows_92 : decode cX9_findRows 92 = .ok (.aload_n 0, 1) := by decide +kernel
theorem dX9_findRows_93 : decode cX9_findRows 93 = .ok (.getfield 31, 3) := by decide +kernel
theorem dX9_findRows_96 : decode cX9_findRows 96 = .ok (.bipush 8, 2) := by decide +kernel
theorem dX9_findRows_98 : decode cX9_findRows 98 = .ok (.iload_n 1, 1) := by decide +kernel
theorem dX9_findRows_99 : decode cX9_findRows 99 = .ok (.imul, 1) := by decide +kernel
theorem dX9_findRows_100 : decode cX9_findRows 100 = .ok (.iload_n 2, 1) := by decide +kernel
theorem dX9_findRows_101 : decode cX9_findRows 101 = .ok (.iadd, 1) := by decide +kernel
theorem dX9_findRows_102 : decode cX9_findRows 102 = .ok (.iaload, 1) := by decide +kernel
theorem dX9_findRows_103 : decode cX9_findRows 103 = .ok (.if_icmp .ge 20, 3) := by decide +kernel
theorem dX9_findRows_106 : decode cX9_findRows 106 = .ok (.aload_n 0, 1) := by decide +kernel
theorem dX9_findRows_107 : decode cX9_findRows 107 = .ok (.getfield 37, 3) := by decide +kernel
theorem dX9_findRows_110 : decode cX9_findRows 110 = .ok (.bipush 8, 2) := by decide +kernel
theorem dX9_findRows_112 : decode cX9_findRows 112 = .ok (.iload_n 1, 1) := by decide +kernel
theorem dX9_findRows_113 : decode cX9_findRows 113 = .ok (.imul, 1) := by decide +kernel
theorem dX9_findRows_114 : decode cX9_findRows 114 = .ok (.bipush 8, 2) := by decide +kernel
theorem dX9_findRows_116 : decode cX9_findRows 116 = .ok (.isub, 1) := by decide +kernel
theorem dX9_findRows_117 : decode cX9_findRows 117 = .ok (.iload_n 3, 1) := by decide +kernel
theorem dX9_findRows_118 : decode cX9_findRows 118 = .ok (.iadd, 1) := by decide +kernel
theorem dX9_findRows_119 : decode cX9_findRows 119 = .ok (.laload, 1) := by decide +kernel
theorem dX9_findRows_120 : decode cX9_findRows 120 = .ok (.goto 4, 3) := by decide +kernel
theorem dX9_findRows_123 : decode cX9_findRows 123 = .ok (.lconst 0, 1) := by decide +kernel
theorem dX9_findRows_124 : decode cX9_findRows 124 = .ok (.ladd, 1) := by decide +kernel
theorem dX9_findRows_125 : decode cX9_findRows 125 = .ok (.lastore, 1) := by decide +kernel
theorem dX9_findRows_126 : decode cX9_findRows 126 = .ok (.iinc 3 1, 3) := by decide +kernel
theorem dX9_findRows_129 : decode cX9_findRows 129 = .ok (.goto (-79), 3) := by decide +kernel
theorem dX9_findRows_132 : decode cX9_findRows 132 = .ok (.iinc 2 1, 3) := by decide +kernel
theorem dX9_findRows_135 : decode cX9_findRows 135 = .ok (.goto (-117), 3) := by decide +kernel
theorem dX9_findRows_138 : decode cX9_findRows 138 = .ok (.iinc 1 1, 3) := by decide +kernel
theorem dX9_findRows_141 : decode cX9_findRows 141 = .ok (.goto (-135), 3) := by decide +kernel
theorem dX9_findRows_144 : decode cX9_findRows 144 = .ok (.aload_n 0, 1) := by decide +kernel
theorem dX9_findRows_145 : decode cX9_findRows 145 = .ok (.getfield 7, 3) := by decide +kernel
theorem dX9_findRows_148 : decode cX9_findRows 148 = .ok (.iconst 2, 1) := by decide +kernel
theorem dX9_findRows_149 : decode cX9_findRows 149 = .ok (.iaload, 1) := by decide +kernel
theorem dX9_findRows_150 : decode cX9_findRows 150 = .ok (.iconst 1, 1) := by decide +kernel
theorem dX9_findRows_151 : decode cX9_findRows 151 = .ok (.isub, 1) := by decide +kernel
theorem dX9_findRows_152 : decode cX9_findRows 152 = .ok (.istore_n 1, 1) := by decide +kernel
theorem dX9_findRows_153 : decode cX9_findRows 153 = .ok (.iload_n 1, 1) := by decide +kernel
theorem dX9_findRows_154 : decode cX9_findRows 154 = .ok (.istore_n 2, 1) := by decide +kernel
theorem dX9_findRows_155 : decode cX9_findRows 155 = .ok (.iload_n 2, 1) := by decide +kernel
theorem dX9_findRows_156 : decode cX9_findRows 156 = .ok (.ifCond .lt 137, 3) := by decide +kernel
theorem dX9_findRows_159 : decode cX9_findRows 159 = .ok (.iconst 0, 1) := by decide +kernel
theorem dX9_findRows_160 : decode cX9_findRows 160 = .ok (.istore_n 3, 1) := by decide +kernel
theorem dX9_findRows_161 : decode cX9_findRows 161 = .ok (.iload_n 3, 1) := by decide +kernel
theorem dX9_findRows_162 : decode cX9_findRows 162 = .ok (.aload_n 0, 1) := by decide +kernel
theorem dX9_findRows_163 : decode cX9_findRows 163 = .ok (.getfield 34, 3) := by decide +kernel
theorem dX9_findRows_166 : decode cX9_findRows 166 = .ok (.iload_n 2, 1) := by decide +kernel
theorem dX9_findRows_167 : decode cX9_findRows 167 = .ok (.iaload, 1) := by decide +kernel
theorem dX9_findRows_168 : decode cX9_findRows 168 = .ok (.if_icmp .ge 119, 3) := by decide +kernel
theorem dX9_findRows_171 : decode cX9_findRows 171 = .ok (.aload_n 0, 1) := by decide +kernel
theorem dX9_findRows_172 : decode cX9_findRows 172 = .ok (.getfield 41, 3) := by decide +kernel
theorem dX9_findRows_175 : decode cX9_findRows 175 = .ok (.bipush 8, 2) := by decide +kernel
theorem dX9_findRows_177 : decode cX9_findRows 177 = .ok (.iload_n 2, 1) := by decide +kernel
theorem dX9_findRows_178 : decode cX9_findRows 178 = .ok (.imul, 1) := by decide +kernel
theorem dX9_findRows_179 : decode cX9_findRows 179 = .ok (.iload_n 3, 1) := by decide +kernel
theorem dX9_findRows_180 : decode cX9_findRows 180 = .ok (.iadd, 1) := by decide +kernel
theorem dX9_findRows_181 : decode cX9_findRows 181 = .ok (.iload_n 2, 1) := by decide +kernel
theorem dX9_findRows_182 : decode cX9_findRows 182 = .ok (.iload_n 1, 1) := by decide +kernel
theorem dX9_findRows_183 : decode cX9_findRows 183 = .ok (.if_icmp .ne 7, 3) := by decide +kernel
theorem dX9_findRows_186 : decode cX9_findRows 186 = .ok (.lconst 1, 1) := by decide +kernel
theorem dX9_findRows_187 : decode cX9_findRows 187 = .ok (.goto 4, 3) := by decide +kernel
theorem dX9_findRows_190 : decode cX9_findRows 190 = .ok (.lconst 0, 1) := by decide +kernel
theorem dX9_findRows_191 : decode cX9_findRows 191 = .ok (.lastore, 1) := by decide +kernel
theorem dX9_findRows_192 : decode cX9_findRows 192 = .ok (.iconst 0, 1) := by decide +kernel
theorem dX9_findRows_193 : decode cX9_findRows 193 = .ok (.istore 4, 2) := by decide +kernel
theorem dX9_findRows_195 : decode cX9_findRows 195 = .ok (.iload_n 2, 1) := by decide +kernel
theorem dX9_findRows_196 : decode cX9_findRows 196 = .ok (.iload_n 1, 1) := by decide +kernel
theorem dX9_findRows_197 : decode cX9_findRows 197 = .ok (.if_icmp .ge 84, 3) := by decide +kernel
theorem dX9_findRows_200 : decode cX9_findRows 200 = .ok (.iload 4, 2) := by decide +kernel
theorem dX9_findRows_202 : decode cX9_findRows 202 = .ok (.aload_n 0, 1) := by decide +kernel
theorem dX9_findRows_203 : decode cX9_findRows 203 = .ok (.getfield 34, 3) := by decide +kernel
theorem dX9_findRows_206 : decode cX9_findRows 206 = .ok (.iload_n 2, 1) := by decide +kernel
theorem dX9_findRows_207 : decode cX9_findRows 207 = .ok (.iconst 1, 1) := by decide +kernel
theorem dX9_findRows_208 : decode cX9_findRows 208 = .ok (.iadd, 1) := by decide +kernel
theorem dX9_findRows_209 : decode cX9_findRows 209 = .ok (.iaload, 1) := by decide +kernel
theorem dX9_findRows_210 : decode cX9_findRows 210 = .ok (.if_icmp .ge 71, 3) := by decide +kernel
theorem dX9_findRows_213 : decode cX9_findRows 213 = .ok (.aload_n 0, 1) := by decide +kernel
theorem dX9_findRows_214 : decode cX9_findRows 214 = .ok (.getfield 41, 3) := by decide +kernel
theorem dX9_findRows_217 : decode cX9_findRows 217 = .ok (.bipush 8, 2) := by decide +kernel
theorem dX9_findRows_219 : decode cX9_findRows 219 = .ok (.iload_n 2, 1) := by decide +kernel
theorem dX9_findRows_220 : decode cX9_findRows 220 = .ok (.imul, 1) := by decide +kernel
theorem dX9_findRows_221 : decode cX9_findRows 221 = .ok (.iload_n 3, 1) := by decide +kernel
theorem dX9_findRows_222 : decode cX9_findRows 222 = .ok (.iadd, 1) := by decide +kernel
theorem dX9_findRows_223 : decode cX9_findRows 223 = .ok (.dup2, 1) := by decide +kernel
theorem dX9_findRows_224 : decode cX9_findRows 224 = .ok (.laload, 1) := by decide +kernel
theorem dX9_findRows_225 : decode cX9_findRows 225 = .ok (.aload_n 0, 1) := by decide +kernel
theorem dX9_findRows_226 : decode cX9_findRows 226 = .ok (.getfield 31, 3) := by decide +kernel
theorem dX9_findRows_229 : decode cX9_findRows 229 = .ok (.bipush 8, 2) := by decide +kernel
theorem dX9_findRows_231 : decode cX9_findRows 231 = .ok (.iload_n 2, 1) := by decide +kernel
theorem dX9_findRows_232 : decode cX9_findRows 232 = .ok (.imul, 1) := by decide +kernel
theorem dX9_findRows_233 : decode cX9_findRows 233 = .ok (.bipush 8, 2) := by decide +kernel
theorem dX9_findRows_235 : decode cX9_findRows 235 = .ok (.iadd, 1) := by decide +kernel
theorem dX9_findRows_236 : decode cX9_findRows 236 = .ok (.iload 4, 2) := by decide +kernel
theorem dX9_findRows_238 : decode cX9_findRows 238 = .ok (.iadd, 1) := by decide +kernel
theorem dX9_findRows_239 : decode cX9_findRows 239 = .ok (.iaload, 1) := by decide +kernel
theorem dX9_findRows_240 : decode cX9_findRows 240 = .ok (.aload_n 0, 1) := by decide +kernel
theorem dX9_findRows_241 : decode cX9_findRows 241 = .ok (.getfield 31, 3) := by decide +kernel
theorem dX9_findRows_244 : decode cX9_findRows 244 = .ok (.bipush 8, 2) := by decide +kernel
theorem dX9_findRows_246 : decode cX9_findRows 246 = .ok (.iload_n 2, 1) := by decide +kernel
theorem dX9_findRows_247 : decode cX9_findRows 247 = .ok (.imul, 1) := by decide +kernel
theorem dX9_findRows_248 : decode cX9_findRows 248 = .ok (.iload_n 3, 1) := by decide +kernel
theorem dX9_findRows_249 : decode cX9_findRows 249 = .ok (.iadd, 1) := by decide +kernel
theorem dX9_findRows_250 : decode cX9_findRows 250 = .ok (.iaload, 1) := by decide +kernel
theorem dX9_findRows_251 : decode cX9_findRows 251 = .ok (.if_icmp .le 21, 3) := by decide +kernel
theorem dX9_findRows_254 : decode cX9_findRows 254 = .ok (.aload_n 0, 1) := by decide +kernel
theorem dX9_findRows_255 : decode cX9_findRows 255 = .ok (.getfield 41, 3) := by decide +kernel
theorem dX9_findRows_258 : decode cX9_findRows 258 = .ok (.bipush 8, 2) := by decide +kernel
theorem dX9_findRows_260 : decode cX9_findRows 260 = .ok (.iload_n 2, 1) := by decide +kernel
theorem dX9_findRows_261 : decode cX9_findRows 261 = .ok (.imul, 1) := by decide +kernel
theorem dX9_findRows_262 : decode cX9_findRows 262 = .ok (.bipush 8, 2) := by decide +kernel
theorem dX9_findRows_264 : decode cX9_findRows 264 = .ok (.iadd, 1) := by decide +kernel
theorem dX9_findRows_265 : decode cX9_findRows 265 = .ok (.iload 4, 2) := by decide +kernel
theorem dX9_findRows_267 : decode cX9_findRows 267 = .ok (.iadd, 1) := by decide +kernel
theorem dX9_findRows_268 : decode cX9_findRows 268 = .ok (.laload, 1) := by decide +kernel
theorem dX9_findRows_269 : decode cX9_findRows 269 = .ok (.goto 4, 3) := by decide +kernel
theorem dX9_findRows_272 : decode cX9_findRows 272 = .ok (.lconst 0, 1) := by decide +kernel
theorem dX9_findRows_273 : decode cX9_findRows 273 = .ok (.ladd, 1) := by decide +kernel
theorem dX9_findRows_274 : decode cX9_findRows 274 = .ok (.lastore, 1) := by decide +kernel
theorem dX9_findRows_275 : decode cX9_findRows 275 = .ok (.iinc 4 1, 3) := by decide +kernel
theorem dX9_findRows_278 : decode cX9_findRows 278 = .ok (.goto (-83), 3) := by decide +kernel
theorem dX9_findRows_281 : decode cX9_findRows 281 = .ok (.iinc 3 1, 3) := by decide +kernel
theorem dX9_findRows_284 : decode cX9_findRows 284 = .ok (.goto (-123), 3) := by decide +kernel
theorem dX9_findRows_287 : decode cX9_findRows 287 = .ok (.iinc 2 (-1), 3) := by decide +kernel
theorem dX9_findRows_290 : decode cX9_findRows 290 = .ok (.goto (-135), 3) := by decide +kernel
theorem dX9_findRows_293 : decode cX9_findRows 293 = .ok (.return_, 1) := by decide +kernel
theorem dX9_rows_0 : decode cX9_rows 0 = .ok (.aload_n 0, 1) := by decide +kernel
theorem dX9_rows_1 : decode cX9_rows 1 = .ok (.getfield 7, 3) := by decide +kernel
theorem dX9_rows_4 : decode cX9_rows 4 = .ok (.iconst 2, 1) := by decide +kernel
theorem dX9_rows_5 : decode cX9_rows 5 = .ok (.iaload, 1) := by decide +kernel
theorem dX9_rows_6 : decode cX9_rows 6 = .ok (.ifCond .ne 5, 3) := by decide +kernel
theorem dX9_rows_9 : decode cX9_rows 9 = .ok (.lconst 1, 1) := by decide +kernel
theorem dX9_rows_10 : decode cX9_rows 10 = .ok (.lreturn, 1) := by decide +kernel
theorem dX9_rows_11 : decode cX9_rows 11 = .ok (.aload_n 0, 1) := by decide +kernel
theorem dX9_rows_12 : decode cX9_rows 12 = .ok (.invokevirtual 209, 3) := by decide +kernel
theorem dX9_rows_15 : decode cX9_rows 15 = .ok (.lconst 0, 1) := by decide +kernel
theorem dX9_rows_16 : decode cX9_rows 16 = .ok (.lstore_n 1, 1) := by decide +kernel
theorem dX9_rows_17 : decode cX9_rows 17 = .ok (.iconst 0, 1) := by decide +kernel
theorem dX9_rows_18 : decode cX9_rows 18 = .ok (.istore_n 3, 1) := by decide +kernel
theorem dX9_rows_19 : decode cX9_rows 19 = .ok (.iload_n 3, 1) := by decide +kernel
theorem dX9_rows_20 : decode cX9_rows 20 = .ok (.aload_n 0, 1) := by decide +kernel
theorem dX9_rows_21 : decode cX9_rows 21 = .ok (.getfield 34, 3) := by decide +kernel
theorem dX9_rows_24 : decode cX9_rows 24 = .ok (.iconst 0, 1) := by decide +kernel
theorem dX9_rows_25 : decode cX9_rows 25 = .ok (.iaload, 1) := by decide +kernel
theorem dX9_rows_26 : decode cX9_rows 26 = .ok (.if_icmp .ge 18, 3) := by decide +kernel
theorem dX9_rows_29 : decode cX9_rows 29 = .ok (.lload_n 1, 1) := by decide +kernel
theorem dX9_rows_30 : decode cX9_rows 30 = .ok (.aload_n 0, 1) := by decide +kernel
theorem dX9_rows_31 : decode cX9_rows 31 = .ok (.getfield 41, 3) := by decide +kernel
theorem dX9_rows_34 : decode cX9_rows 34 = .ok (.iload_n 3, 1) := by decide +kernel
theorem dX9_rows_35 : decode cX9_rows 35 = .ok (.laload, 1) := by decide +kernel
theorem dX9_rows_36 : decode cX9_rows 36 = .ok (.ladd, 1) := by decide +kernel
theorem dX9_rows_37 : decode cX9_rows 37 = .ok (.lstore_n 1, 1) := by decide +kernel
theorem dX9_rows_38 : decode cX9_rows 38 = .ok (.iinc 3 1, 3) := by decide +kernel
theorem dX9_rows_41 : decode cX9_rows 41 = .ok (.goto (-22), 3) := by decide +kernel
theorem dX9_rows_44 : decode cX9_rows 44 = .ok (.lload_n 1, 1) := by decide +kernel
theorem dX9_rows_45 : decode cX9_rows 45 = .ok (.lreturn, 1) := by decide +kernel
theorem dX9_span_0 : decode cX9_span 0 = .ok (.aload_n 0, 1) := by decide +kernel
theorem dX9_span_1 : decode cX9_span 1 = .ok (.iload_n 1, 1) := by decide +kernel
theorem dX9_span_2 : decode cX9_span 2 = .ok (.invokevirtual 203, 3) := by decide +kernel
theorem dX9_span_5 : decode cX9_span 5 = .ok (.ifCond .eq 12, 3) := by decide +kernel
theorem dX9_span_8 : decode cX9_span 8 = .ok (.iload_n 2, 1) := by decide +kernel
theorem dX9_span_9 : decode cX9_span 9 = .ok (.iconst 0, 1) := by decide +kernel
theorem dX9_span_10 : decode cX9_span 10 = .ok (.iconst 1, 1) := by decide +kernel
theorem dX9_span_11 : decode cX9_span 11 = .ok (.invokestatic 63, 3) := by decide +kernel
theorem dX9_span_14 : decode cX9_span 14 = .ok (.ifCond .ne 9, 3) := by decide +kernel
theorem dX9_span_17 : decode cX9_span 17 = .ok (.aload_n 0, 1) := by decide +kernel
theorem dX9_span_18 : decode cX9_span 18 = .ok (.iconst 1, 1) := by decide +kernel
theorem dX9_span_19 : decode cX9_span 19 = .ok (.invokevirtual 83, 3) := by decide +kernel
theorem dX9_span_22 : decode cX9_span 22 = .ok (.ireturn, 1) := by decide +kernel
theorem dX9_span_23 : decode cX9_span 23 = .ok (.aload_n 0, 1) := by decide +kernel
theorem dX9_span_24 : decode cX9_span 24 = .ok (.invokevirtual 209, 3) := by decide +kernel
theorem dX9_span_27 : decode cX9_span 27 = .ok (.iconst (-1), 1) := by decide +kernel
theorem dX9_span_28 : decode cX9_span 28 = .ok (.istore_n 3, 1) := by decide +kernel
theorem dX9_span_29 : decode cX9_span 29 = .ok (.iconst 0, 1) := by decide +kernel
theorem dX9_span_30 : decode cX9_span 30 = .ok (.istore 4, 2) := by decide +kernel
theorem dX9_span_32 : decode cX9_span 32 = .ok (.iload 4, 2) := by decide +kernel
theorem dX9_span_34 : decode cX9_span 34 = .ok (.aload_n 0, 1) := by decide +kernel
theorem dX9_span_35 : decode cX9_span 35 = .ok (.getfield 34, 3) := by decide +kernel
theorem dX9_span_38 : decode cX9_span 38 = .ok (.iload_n 1, 1) := by decide +kernel
theorem dX9_span_39 : decode cX9_span 39 = .ok (.iaload, 1) := by decide +kernel
theorem dX9_span_40 : decode cX9_span 40 = .ok (.if_icmp .ge 82, 3) := by decide +kernel
theorem dX9_span_43 : decode cX9_span 43 = .ok (.aload_n 0, 1) := by decide +kernel
theorem dX9_span_44 : decode cX9_span 44 = .ok (.getfield 37, 3) := by decide +kernel
theorem dX9_span_47 : decode cX9_span 47 = .ok (.bipush 8, 2) := by decide +kernel
theorem dX9_span_49 : decode cX9_span 49 = .ok (.iload_n 1, 1) := by decide +kernel
theorem dX9_span_50 : decode cX9_span 50 = .ok (.imul, 1) := by decide +kernel
theorem dX9_span_51 : decode cX9_span 51 = .ok (.iload 4, 2) := by decide +kernel
theorem dX9_span_53 : decode cX9_span 53 = .ok (.iadd, 1) := by decide +kernel
theorem dX9_span_54 : decode cX9_span 54 = .ok (.laload, 1) := by decide +kernel
theorem dX9_span_55 : decode cX9_span 55 = .ok (.lconst 0, 1) := by decide +kernel
theorem dX9_span_56 : decode cX9_span 56 = .ok (.lcmp, 1) := by decide +kernel
theorem dX9_span_57 : decode cX9_span 57 = .ok (.ifCond .le 24, 3) := by decide +kernel
theorem dX9_span_60 : decode cX9_span 60 = .ok (.aload_n 0, 1) := by decide +kernel
theorem dX9_span_61 : decode cX9_span 61 = .ok (.getfield 41, 3) := by decide +kernel
theorem dX9_span_64 : decode cX9_span 64 = .ok (.bipush 8, 2) := by decide +kernel
theorem dX9_span_66 : decode cX9_span 66 = .ok (.iload_n 1, 1) := by decide +kernel
theorem dX9_span_67 : decode cX9_span 67 = .ok (.imul, 1) := by decide +kernel
theorem dX9_span_68 : decode cX9_span 68 = .ok (.iload 4, 2) := by decide +kernel
theorem dX9_span_70 : decode cX9_span 70 = .ok (.iadd, 1) := by decide +kernel
theorem dX9_span_71 : decode cX9_span 71 = .ok (.laload, 1) := by decide +kernel
theorem dX9_span_72 : decode cX9_span 72 = .ok (.lconst 0, 1) := by decide +kernel
theorem dX9_span_73 : decode cX9_span 73 = .ok (.lcmp, 1) := by decide +kernel
theorem dX9_span_74 : decode cX9_span 74 = .ok (.ifCond .le 7, 3) := by decide +kernel
theorem dX9_span_77 : decode cX9_span 77 = .ok (.iconst 1, 1) := by decide +kernel
theorem dX9_span_78 : decode cX9_span 78 = .ok (.goto 4, 3) := by decide +kernel
theorem dX9_span_81 : decode cX9_span 81 = .ok (.iconst 0, 1) := by decide +kernel
theorem dX9_span_82 : decode cX9_span 82 = .ok (.istore 5, 2) := by decide +kernel
theorem dX9_span_84 : decode cX9_span 84 = .ok (.iload 5, 2) := by decide +kernel
theorem dX9_span_86 : decode cX9_span 86 = .ok (.ifCond .eq 28, 3) := by decide +kernel
theorem dX9_span_89 : decode cX9_span 89 = .ok (.iload_n 3, 1) := by decide +kernel
theorem dX9_span_90 : decode cX9_span 90 = .ok (.iconst (-1), 1) := by decide +kernel
theorem dX9_span_91 : decode cX9_span 91 = .ok (.if_icmp .eq 8, 3) := by decide +kernel
theorem dX9_span_94 : decode cX9_span 94 = .ok (.iload_n 2, 1) := by decide +kernel
theorem dX9_span_95 : decode cX9_span 95 = .ok (.iconst 1, 1) := by decide +kernel
theorem dX9_span_96 : decode cX9_span 96 = .ok (.if_icmp .ne 18, 3) := by decide +kernel
theorem dX9_span_99 : decode cX9_span 99 = .ok (.aload_n 0, 1) := by decide +kernel
theorem dX9_span_100 : decode cX9_span 100 = .ok (.getfield 31, 3) := by decide +kernel
theorem dX9_span_103 : decode cX9_span 103 = .ok (.bipush 8, 2) := by decide +kernel
theorem dX9_span_105 : decode cX9_span 105 = .ok (.iload_n 1, 1) := by decide +kernel
theorem dX9_span_106 : decode cX9_span 106 = .ok (.imul, 1) := by decide +kernel
theorem dX9_span_107 : decode cX9_span 107 = .ok (.iload 4, 2) := by decide +kernel
theorem dX9_span_109 : decode cX9_span 109 = .ok (.iadd, 1) := by decide +kernel
theorem dX9_span_110 : decode cX9_span 110 = .ok (.iaload, 1) := by decide +kernel
theorem dX9_span_111 : decode cX9_span 111 = .ok (.goto 4, 3) := by decide +kernel
theorem dX9_span_114 : decode cX9_span 114 = .ok (.iload_n 3, 1) := by decide +kernel
theorem dX9_span_115 : decode cX9_span 115 = .ok (.istore_n 3, 1) := by decide +kernel
theorem dX9_span_116 : decode cX9_span 116 = .ok (.iinc 4 1, 3) := by decide +kernel
theorem dX9_span_119 : decode cX9_span 119 = .ok (.goto (-87), 3) := by decide +kernel
theorem dX9_span_122 : decode cX9_span 122 = .ok (.iload_n 3, 1) := by decide +kernel
theorem dX9_span_123 : decode cX9_span 123 = .ok (.iconst (-1), 1) := by decide +kernel
theorem dX9_span_124 : decode cX9_span 124 = .ok (.if_icmp .ne 11, 3) := by decide +kernel
theorem dX9_span_127 : decode cX9_span 127 = .ok (.aload_n 0, 1) := by decide +kernel
theorem dX9_span_128 : decode cX9_span 128 = .ok (.iconst 2, 1) := by decide +kernel
theorem dX9_span_129 : decode cX9_span 129 = .ok (.invokevirtual 83, 3) := by decide +kernel
theorem dX9_span_132 : decode cX9_span 132 = .ok (.goto 4, 3) := by decide +kernel
theorem dX9_span_135 : decode cX9_span 135 = .ok (.iload_n 3, 1) := by decide +kernel
theorem dX9_span_136 : decode cX9_span 136 = .ok (.ireturn, 1) := by decide +kernel
theorem dX9_draw_0 : decode cX9_draw 0 = .ok (.aload_n 0, 1) := by decide +kernel
theorem dX9_draw_1 : decode cX9_draw 1 = .ok (.getfield 7, 3) := by decide +kernel
theorem dX9_draw_4 : decode cX9_draw 4 = .ok (.bipush 8, 2) := by decide +kernel
theorem dX9_draw_6 : decode cX9_draw 6 = .ok (.aload_n 0, 1) := by decide +kernel
theorem dX9_draw_7 : decode cX9_draw 7 = .ok (.getfield 7, 3) := by decide +kernel
theorem dX9_draw_10 : decode cX9_draw 10 = .ok (.bipush 8, 2) := by decide +kernel
theorem dX9_draw_12 : decode cX9_draw 12 = .ok (.iaload, 1) := by decide +kernel
theorem dX9_draw_13 : decode cX9_draw 13 = .ok (.ldc 212, 2) := by decide +kernel
theorem dX9_draw_15 : decode cX9_draw 15 = .ok (.imul, 1) := by decide +kernel
theorem dX9_draw_16 : decode cX9_draw 16 = .ok (.sipush 12345, 3) := by decide +kernel
theorem dX9_draw_19 : decode cX9_draw 19 = .ok (.iadd, 1) := by decide +kernel
theorem dX9_draw_20 : decode cX9_draw 20 = .ok (.iastore, 1) := by decide +kernel
theorem dX9_draw_21 : decode cX9_draw 21 = .ok (.aload_n 0, 1) := by decide +kernel
theorem dX9_draw_22 : decode cX9_draw 22 = .ok (.getfield 7, 3) := by decide +kernel
theorem dX9_draw_25 : decode cX9_draw 25 = .ok (.bipush 8, 2) := by decide +kernel
theorem dX9_draw_27 : decode cX9_draw 27 = .ok (.iaload, 1) := by decide +kernel
theorem dX9_draw_28 : decode cX9_draw 28 = .ok (.bipush 8, 2) := by decide +kernel
theorem dX9_draw_30 : decode cX9_draw 30 = .ok (.iushr, 1) := by decide +kernel
theorem dX9_draw_31 : decode cX9_draw 31 = .ok (.ireturn, 1) := by decide +kernel
theorem dX9_clerk_0 : decode cX9_clerk 0 = .ok (.iconst 0, 1) := by decide +kernel
theorem dX9_clerk_1 : decode cX9_clerk 1 = .ok (.istore_n 1, 1) := by decide +kernel
theorem dX9_clerk_2 : decode cX9_clerk 2 = .ok (.iconst 0, 1) := by decide +kernel
theorem dX9_clerk_3 : decode cX9_clerk 3 = .ok (.istore_n 2, 1) := by decide +kernel
theorem dX9_clerk_4 : decode cX9_clerk 4 = .ok (.iload_n 2, 1) := by decide +kernel
theorem dX9_clerk_5 : decode cX9_clerk 5 = .ok (.aload_n 0, 1) := by decide +kernel
theorem dX9_clerk_6 : decode cX9_clerk 6 = .ok (.getfield 7, 3) := by decide +kernel
theorem dX9_clerk_9 : decode cX9_clerk 9 = .ok (.iconst 2, 1) := by decide +kernel
theorem dX9_clerk_10 : decode cX9_clerk 10 = .ok (.iaload, 1) := by decide +kernel
theorem dX9_clerk_11 : decode cX9_clerk 11 = .ok (.if_icmp .ge 93, 3) := by decide +kernel
theorem dX9_clerk_14 : decode cX9_clerk 14 = .ok (.aload_n 0, 1) := by decide +kernel
theorem dX9_clerk_15 : decode cX9_clerk 15 = .ok (.invokevirtual 213, 3) := by decide +kernel
theorem dX9_clerk_18 : decode cX9_clerk 18 = .ok (.bipush 8, 2) := by decide +kernel
theorem dX9_clerk_20 : decode cX9_clerk 20 = .ok (.irem, 1) := by decide +kernel
theorem dX9_clerk_21 : decode cX9_clerk 21 = .ok (.istore_n 3, 1) := by decide +kernel
theorem dX9_clerk_22 : decode cX9_clerk 22 = .ok (.aload_n 0, 1) := by decide +kernel
theorem dX9_clerk_23 : decode cX9_clerk 23 = .ok (.getfield 7, 3) := by decide +kernel
theorem dX9_clerk_26 : decode cX9_clerk 26 = .ok (.bipush 68, 2) := by decide +kernel
theorem dX9_clerk_28 : decode cX9_clerk 28 = .ok (.iconst 2, 1) := by decide +kernel
theorem dX9_clerk_29 : decode cX9_clerk 29 = .ok (.iload_n 2, 1) := by decide +kernel
theorem dX9_clerk_30 : decode cX9_clerk 30 = .ok (.imul, 1) := by decide +kernel
theorem dX9_clerk_31 : decode cX9_clerk 31 = .ok (.iadd, 1) := by decide +kernel
theorem dX9_clerk_32 : decode cX9_clerk 32 = .ok (.iaload, 1) := by decide +kernel
theorem dX9_clerk_33 : decode cX9_clerk 33 = .ok (.istore 4, 2) := by decide +kernel
theorem dX9_clerk_35 : decode cX9_clerk 35 = .ok (.aload_n 0, 1) := by decide +kernel
theorem dX9_clerk_36 : decode cX9_clerk 36 = .ok (.getfield 7, 3) := by decide +kernel
theorem dX9_clerk_39 : decode cX9_clerk 39 = .ok (.bipush 68, 2) := by decide +kernel
theorem dX9_clerk_41 : decode cX9_clerk 41 = .ok (.iconst 2, 1) := by decide +kernel
theorem dX9_clerk_42 : decode cX9_clerk 42 = .ok (.iload_n 2, 1) := by decide +kernel
theorem dX9_clerk_43 : decode cX9_clerk 43 = .ok (.imul, 1) := by decide +kernel
theorem dX9_clerk_44 : decode cX9_clerk 44 = .ok (.iadd, 1) := by decide +kernel
theorem dX9_clerk_45 : decode cX9_clerk 45 = .ok (.iload 4, 2) := by decide +kernel
theorem dX9_clerk_47 : decode cX9_clerk 47 = .ok (.iload_n 3, 1) := by decide +kernel
theorem dX9_clerk_48 : decode cX9_clerk 48 = .ok (.ifCond .ne 7, 3) := by decide +kernel
theorem dX9_clerk_51 : decode cX9_clerk 51 = .ok (.iconst 1, 1) := by decide +kernel
theorem dX9_clerk_52 : decode cX9_clerk 52 = .ok (.goto 13, 3) := by decide +kernel
theorem dX9_clerk_55 : decode cX9_clerk 55 = .ok (.iload_n 3, 1) := by decide +kernel
theorem dX9_clerk_56 : decode cX9_clerk 56 = .ok (.iconst 1, 1) := by decide +kernel
theorem dX9_clerk_57 : decode cX9_clerk 57 = .ok (.if_icmp .ne 7, 3) := by decide +kernel
theorem dX9_clerk_60 : decode cX9_clerk 60 = .ok (.iconst (-1), 1) := by decide +kernel
theorem dX9_clerk_61 : decode cX9_clerk 61 = .ok (.goto 4, 3) := by decide +kernel
theorem dX9_clerk_64 : decode cX9_clerk 64 = .ok (.iconst 0, 1) := by decide +kernel
theorem dX9_clerk_65 : decode cX9_clerk 65 = .ok (.iadd, 1) := by decide +kernel
theorem dX9_clerk_66 : decode cX9_clerk 66 = .ok (.iconst 0, 1) := by decide +kernel
theorem dX9_clerk_67 : decode cX9_clerk 67 = .ok (.sipush 206, 3) := by decide +kernel
theorem dX9_clerk_70 : decode cX9_clerk 70 = .ok (.invokestatic 164, 3) := by decide +kernel
theorem dX9_clerk_73 : decode cX9_clerk 73 = .ok (.iastore, 1) := by decide +kernel
theorem dX9_clerk_74 : decode cX9_clerk 74 = .ok (.iload_n 1, 1) := by decide +kernel
theorem dX9_clerk_75 : decode cX9_clerk 75 = .ok (.aload_n 0, 1) := by decide +kernel
theorem dX9_clerk_76 : decode cX9_clerk 76 = .ok (.getfield 7, 3) := by decide +kernel
theorem dX9_clerk_79 : decode cX9_clerk 79 = .ok (.bipush 68, 2) := by decide +kernel
theorem dX9_clerk_81 : decode cX9_clerk 81 = .ok (.iconst 2, 1) := by decide +kernel
theorem dX9_clerk_82 : decode cX9_clerk 82 = .ok (.iload_n 2, 1) := by decide +kernel
theorem dX9_clerk_83 : decode cX9_clerk 83 = .ok (.imul, 1) := by decide +kernel
theorem dX9_clerk_84 : decode cX9_clerk 84 = .ok (.iadd, 1) := by decide +kernel
theorem dX9_clerk_85 : decode cX9_clerk 85 = .ok (.iaload, 1) := by decide +kernel
theorem dX9_clerk_86 : decode cX9_clerk 86 = .ok (.iload 4, 2) := by decide +kernel
theorem dX9_clerk_88 : decode cX9_clerk 88 = .ok (.if_icmp .ne 7, 3) := by decide +kernel
theorem dX9_clerk_91 : decode cX9_clerk 91 = .ok (.iconst 0, 1) := by decide +kernel
theorem dX9_clerk_92 : decode cX9_clerk 92 = .ok (.goto 4, 3) := by decide +kernel
theorem dX9_clerk_95 : decode cX9_clerk 95 = .ok (.iconst 1, 1) := by decide +kernel
theorem dX9_clerk_96 : decode cX9_clerk 96 = .ok (.iadd, 1) := by decide +kernel
theorem dX9_clerk_97 : decode cX9_clerk 97 = .ok (.istore_n 1, 1) := by decide +kernel
theorem dX9_clerk_98 : decode cX9_clerk 98 = .ok (.iinc 2 1, 3) := by decide +kernel
theorem dX9_clerk_101 : decode cX9_clerk 101 = .ok (.goto (-97), 3) := by decide +kernel
theorem dX9_clerk_104 : decode cX9_clerk 104 = .ok (.iload_n 1, 1) := by decide +kernel
theorem dX9_clerk_105 : decode cX9_clerk 105 = .ok (.ireturn, 1) := by decide +kernel
theorem dX9_seed_0 : decode cX9_seed 0 = .ok (.aload_n 0, 1) := by decide +kernel
theorem dX9_seed_1 : decode cX9_seed 1 = .ok (.getfield 7, 3) := by decide +kernel
theorem dX9_seed_4 : decode cX9_seed 4 = .ok (.bipush 8, 2) := by decide +kernel
theorem dX9_seed_6 : decode cX9_seed 6 = .ok (.iaload, 1) := by decide +kernel
theorem dX9_seed_7 : decode cX9_seed 7 = .ok (.istore_n 2, 1) := by decide +kernel
theorem dX9_seed_8 : decode cX9_seed 8 = .ok (.aload_n 0, 1) := by decide +kernel
theorem dX9_seed_9 : decode cX9_seed 9 = .ok (.getfield 7, 3) := by decide +kernel
theorem dX9_seed_12 : decode cX9_seed 12 = .ok (.bipush 8, 2) := by decide +kernel
theorem dX9_seed_14 : decode cX9_seed 14 = .ok (.iload_n 1, 1) := by decide +kernel
theorem dX9_seed_15 : decode cX9_seed 15 = .ok (.iastore, 1) := by decide +kernel
theorem dX9_seed_16 : decode cX9_seed 16 = .ok (.iload_n 2, 1) := by decide +kernel
theorem dX9_seed_17 : decode cX9_seed 17 = .ok (.ireturn, 1) := by decide +kernel
theorem dX9_comet_0 : decode cX9_comet 0 = .ok (.iload_n 1, 1) := by decide +kernel
theorem dX9_comet_1 : decode cX9_comet 1 = .ok (.invokestatic 94, 3) := by decide +kernel
theorem dX9_comet_4 : decode cX9_comet 4 = .ok (.ifCond .eq 13, 3) := by decide +kernel
theorem dX9_comet_7 : decode cX9_comet 7 = .ok (.iload_n 2, 1) := by decide +kernel
theorem dX9_comet_8 : decode cX9_comet 8 = .ok (.iconst 1, 1) := by decide +kernel
theorem dX9_comet_9 : decode cX9_comet 9 = .ok (.bipush 99, 2) := by decide +kernel
theorem dX9_comet_11 : decode cX9_comet 11 = .ok (.invokestatic 63, 3) := by decide +kernel
theorem dX9_comet_14 : decode cX9_comet 14 = .ok (.ifCond .ne 9, 3) := by decide +kernel
theorem dX9_comet_17 : decode cX9_comet 17 = .ok (.aload_n 0, 1) := by decide +kernel
theorem dX9_comet_18 : decode cX9_comet 18 = .ok (.iconst 1, 1) := by decide +kernel
theorem dX9_comet_19 : decode cX9_comet 19 = .ok (.invokevirtual 83, 3) := by decide +kernel
theorem dX9_comet_22 : decode cX9_comet 22 = .ok (.ireturn, 1) := by decide +kernel
theorem dX9_comet_23 : decode cX9_comet 23 = .ok (.aload_n 0, 1) := by decide +kernel
theorem dX9_comet_24 : decode cX9_comet 24 = .ok (.getfield 7, 3) := by decide +kernel
theorem dX9_comet_27 : decode cX9_comet 27 = .ok (.iconst 4, 1) := by decide +kernel
theorem dX9_comet_28 : decode cX9_comet 28 = .ok (.iload_n 1, 1) := by decide +kernel
theorem dX9_comet_29 : decode cX9_comet 29 = .ok (.iastore, 1) := by decide +kernel
theorem dX9_comet_30 : decode cX9_comet 30 = .ok (.aload_n 0, 1) := by decide +kernel
theorem dX9_comet_31 : decode cX9_comet 31 = .ok (.getfield 7, 3) := by decide +kernel
theorem dX9_comet_34 : decode cX9_comet 34 = .ok (.iconst 5, 1) := by decide +kernel
theorem dX9_comet_35 : decode cX9_comet 35 = .ok (.iload_n 2, 1) := by decide +kernel
theorem dX9_comet_36 : decode cX9_comet 36 = .ok (.iastore, 1) := by decide +kernel
theorem dX9_comet_37 : decode cX9_comet 37 = .ok (.ldc 67, 2) := by decide +kernel
theorem dX9_comet_39 : decode cX9_comet 39 = .ok (.iload_n 1, 1) := by decide +kernel
theorem dX9_comet_40 : decode cX9_comet 40 = .ok (.isub, 1) := by decide +kernel
theorem dX9_comet_41 : decode cX9_comet 41 = .ok (.sipush 365, 3) := by decide +kernel
theorem dX9_comet_44 : decode cX9_comet 44 = .ok (.iload_n 2, 1) := by decide +kernel
theorem dX9_comet_45 : decode cX9_comet 45 = .ok (.imul, 1) := by decide +kernel
theorem dX9_comet_46 : decode cX9_comet 46 = .ok (.idiv, 1) := by decide +kernel
theorem dX9_comet_47 : decode cX9_comet 47 = .ok (.iconst 1, 1) := by decide +kernel
theorem dX9_comet_48 : decode cX9_comet 48 = .ok (.iadd, 1) := by decide +kernel
theorem dX9_comet_49 : decode cX9_comet 49 = .ok (.ireturn, 1) := by decide +kernel
theorem dX9_claim_0 : decode cX9_claim 0 = .ok (.iload_n 1, 1) := by decide +kernel
theorem dX9_claim_1 : decode cX9_claim 1 = .ok (.iconst 0, 1) := by decide +kernel
theorem dX9_claim_2 : decode cX9_claim 2 = .ok (.sipush 206, 3) := by decide +kernel
theorem dX9_claim_5 : decode cX9_claim 5 = .ok (.invokestatic 63, 3) := by decide +kernel
theorem dX9_claim_8 : decode cX9_claim 8 = .ok (.ifCond .ne 9, 3) := by decide +kernel
theorem dX9_claim_11 : decode cX9_claim 11 = .ok (.aload_n 0, 1) := by decide +kernel
theorem dX9_claim_12 : decode cX9_claim 12 = .ok (.iconst 1, 1) := by decide +kernel
theorem dX9_claim_13 : decode cX9_claim 13 = .ok (.invokevirtual 83, 3) := by decide +kernel
theorem dX9_claim_16 : decode cX9_claim 16 = .ok (.ireturn, 1) := by decide +kernel
theorem dX9_claim_17 : decode cX9_claim 17 = .ok (.aload_n 0, 1) := by decide +kernel
theorem dX9_claim_18 : decode cX9_claim 18 = .ok (.getfield 7, 3) := by decide +kernel
theorem dX9_claim_21 : decode cX9_claim 21 = .ok (.iconst 4, 1) := by decide +kernel
theorem dX9_claim_22 : decode cX9_claim 22 = .ok (.iaload, 1) := by decide +kernel
theorem dX9_claim_23 : decode cX9_claim 23 = .ok (.iconst (-1), 1) := by decide +kernel
theorem dX9_claim_24 : decode cX9_claim 24 = .ok (.if_icmp .ne 9, 3) := by decide +kernel
theorem dX9_claim_27 : decode cX9_claim 27 = .ok (.aload_n 0, 1) := by decide +kernel
theorem dX9_claim_28 : decode cX9_claim 28 = .ok (.iconst 3, 1) := by decide +kernel
theorem dX9_claim_29 : decode cX9_claim 29 = .ok (.invokevirtual 83, 3) := by decide +kernel
theorem dX9_claim_32 : decode cX9_claim 32 = .ok (.ireturn, 1) := by decide +kernel
theorem dX9_claim_33 : decode cX9_claim 33 = .ok (.aload_n 0, 1) := by decide +kernel
theorem dX9_claim_34 : decode cX9_claim 34 = .ok (.invokevirtual 91, 3) := by decide +kernel
theorem dX9_claim_37 : decode cX9_claim 37 = .ok (.iconst 0, 1) := by decide +kernel
theorem dX9_claim_38 : decode cX9_claim 38 = .ok (.istore_n 2, 1) := by decide +kernel
theorem dX9_claim_39 : decode cX9_claim 39 = .ok (.aload_n 0, 1) := by decide +kernel
theorem dX9_claim_40 : decode cX9_claim 40 = .ok (.getfield 7, 3) := by decide +kernel
theorem dX9_claim_43 : decode cX9_claim 43 = .ok (.iconst 4, 1) := by decide +kernel
theorem dX9_claim_44 : decode cX9_claim 44 = .ok (.iaload, 1) := by decide +kernel
theorem dX9_claim_45 : decode cX9_claim 45 = .ok (.sipush 365, 3) := by decide +kernel
theorem dX9_claim_48 : decode cX9_claim 48 = .ok (.idiv, 1) := by decide +kernel
theorem dX9_claim_49 : decode cX9_claim 49 = .ok (.istore_n 3, 1) := by decide +kernel
theorem dX9_claim_50 : decode cX9_claim 50 = .ok (.iload_n 3, 1) := by decide +kernel
theorem dX9_claim_51 : decode cX9_claim 51 = .ok (.sipush 200, 3) := by decide +kernel
theorem dX9_claim_54 : decode cX9_claim 54 = .ok (.if_icmp .ge 58, 3) := by decide +kernel
theorem dX9_claim_57 : decode cX9_claim 57 = .ok (.iconst 0, 1) := by decide +kernel
theorem dX9_claim_58 : decode cX9_claim 58 = .ok (.istore 4, 2) := by decide +kernel
theorem dX9_claim_60 : decode cX9_claim 60 = .ok (.iload 4, 2) := by decide +kernel
theorem dX9_claim_62 : decode cX9_claim 62 = .ok (.iconst 4, 1) := by decide +kernel
theorem dX9_claim_63 : decode cX9_claim 63 = .ok (.if_icmp .ge 37, 3) := by decide +kernel
theorem dX9_claim_66 : decode cX9_claim 66 = .ok (.iload_n 2, 1) := by decide +kernel
theorem dX9_claim_67 : decode cX9_claim 67 = .ok (.aload_n 0, 1) := by decide +kernel
theorem dX9_claim_68 : decode cX9_claim 68 = .ok (.getfield 19, 3) := by decide +kernel
theorem dX9_claim_71 : decode cX9_claim 71 = .ok (.sipush 200, 3) := by decide +kernel
theorem dX9_claim_74 : decode cX9_claim 74 = .ok (.iload 4, 2) := by decide +kernel
theorem dX9_claim_76 : decode cX9_claim 76 = .ok (.imul, 1) := by decide +kernel
theorem dX9_claim_77 : decode cX9_claim 77 = .ok (.iload_n 3, 1) := by decide +kernel
theorem dX9_claim_78 : decode cX9_claim 78 = .ok (.iadd, 1) := by decide +kernel
theorem dX9_claim_79 : decode cX9_claim 79 = .ok (.iaload, 1) := by decide +kernel
theorem dX9_claim_80 : decode cX9_claim 80 = .ok (.iload_n 1, 1) := by decide +kernel
theorem dX9_claim_81 : decode cX9_claim 81 = .ok (.if_icmp .ne 10, 3) := by decide +kernel
theorem dX9_claim_84 : decode cX9_claim 84 = .ok (.iconst 1, 1) := by decide +kernel
theorem dX9_claim_85 : decode cX9_claim 85 = .ok (.iload 4, 2) := by decide +kernel
theorem dX9_claim_87 : decode cX9_claim 87 = .ok (.ishl, 1) := by decide +kernel
theorem dX9_claim_88 : decode cX9_claim 88 = .ok (.goto 4, 3) := by decide +kernel
theorem dX9_claim_91 : decode cX9_claim 91 = .ok (.iconst 0, 1) := by decide +kernel
theorem dX9_claim_92 : decode cX9_claim 92 = .ok (.ior, 1) := by decide +kernel
theorem dX9_claim_93 : decode cX9_claim 93 = .ok (.istore_n 2, 1) := by decide +kernel
theorem dX9_claim_94 : decode cX9_claim 94 = .ok (.iinc 4 1, 3) := by decide +kernel
theorem dX9_claim_97 : decode cX9_claim 97 = .ok (.goto (-37), 3) := by decide +kernel
theorem dX9_claim_100 : decode cX9_claim 100 = .ok (.iload_n 3, 1) := by decide +kernel
theorem dX9_claim_101 : decode cX9_claim 101 = .ok (.aload_n 0, 1) := by decide +kernel
theorem dX9_claim_102 : decode cX9_claim 102 = .ok (.getfield 7, 3) := by decide +kernel
theorem dX9_claim_105 : decode cX9_claim 105 = .ok (.iconst 5, 1) := by decide +kernel
theorem dX9_claim_106 : decode cX9_claim 106 = .ok (.iaload, 1) := by decide +kernel
theorem dX9_claim_107 : decode cX9_claim 107 = .ok (.iadd, 1) := by decide +kernel
theorem dX9_claim_108 : decode cX9_claim 108 = .ok (.istore_n 3, 1) := by decide +kernel
theorem dX9_claim_109 : decode cX9_claim 109 = .ok (.goto (-59), 3) := by decide +kernel
theorem dX9_claim_112 : decode cX9_claim 112 = .ok (.iload_n 2, 1) := by decide +kernel
theorem dX9_claim_113 : decode cX9_claim 113 = .ok (.ireturn, 1) := by decide +kernel
theorem dX9_breaksBy_0 : decode cX9_breaksBy 0 = .ok (.aload_n 0, 1) := by decide +kernel
theorem dX9_breaksBy_1 : decode cX9_breaksBy 1 = .ok (.invokevirtual 91, 3) := by decide +kernel
theorem dX9_breaksBy_4 : decode cX9_breaksBy 4 = .ok (.iconst 0, 1) := by decide +kernel
theorem dX9_breaksBy_5 : decode cX9_breaksBy 5 = .ok (.istore 4, 2) := by decide +kernel
theorem dX9_breaksBy_7 : decode cX9_breaksBy 7 = .ok (.iload 4, 2) := by decide +kernel
theorem dX9_breaksBy_9 : decode cX9_breaksBy 9 = .ok (.aload_n 0, 1) := by decide +kernel
theorem dX9_breaksBy_10 : decode cX9_breaksBy 10 = .ok (.getfield 7, 3) := by decide +kernel
theorem dX9_breaksBy_13 : decode cX9_breaksBy 13 = .ok (.iconst 1, 1) := by decide +kernel
theorem dX9_breaksBy_14 : decode cX9_breaksBy 14 = .ok (.iaload, 1) := by decide +kernel
theorem dX9_breaksBy_15 : decode cX9_breaksBy 15 = .ok (.if_icmp .ge 22, 3) := by decide +kernel
theorem dX9_breaksBy_18 : decode cX9_breaksBy 18 = .ok (.aload_n 0, 1) := by decide +kernel
theorem dX9_breaksBy_19 : decode cX9_breaksBy 19 = .ok (.getfield 44, 3) := by decide +kernel
theorem dX9_breaksBy_22 : decode cX9_breaksBy 22 = .ok (.iload 4, 2) := by decide +kernel
theorem dX9_breaksBy_24 : decode cX9_breaksBy 24 = .ok (.aload_n 0, 1) := by decide +kernel
theorem dX9_breaksBy_25 : decode cX9_breaksBy 25 = .ok (.iload 4, 2) := by decide +kernel
theorem dX9_breaksBy_27 : decode cX9_breaksBy 27 = .ok (.invokevirtual 182, 3) := by decide +kernel
theorem dX9_breaksBy_30 : decode cX9_breaksBy 30 = .ok (.iastore, 1) := by decide +kernel
theorem dX9_breaksBy_31 : decode cX9_breaksBy 31 = .ok (.iinc 4 1, 3) := by decide +kernel
theorem dX9_breaksBy_34 : decode cX9_breaksBy 34 = .ok (.goto (-27), 3) := by decide +kernel
theorem dX9_breaksBy_37 : decode cX9_breaksBy 37 = .ok (.aload_n 0, 1) := by decide +kernel
theorem dX9_breaksBy_38 : decode cX9_breaksBy 38 = .ok (.iload_n 1, 1) := by decide +kernel
theorem dX9_breaksBy_39 : decode cX9_breaksBy 39 = .ok (.iload_n 2, 1) := by decide +kernel
theorem dX9_breaksBy_40 : decode cX9_breaksBy 40 = .ok (.iload_n 3, 1) := by decide +kernel
theorem dX9_breaksBy_41 : decode cX9_breaksBy 41 = .ok (.invokevirtual 87, 3) := by decide +kernel
theorem dX9_breaksBy_44 : decode cX9_breaksBy 44 = .ok (.aload_n 0, 1) := by decide +kernel
theorem dX9_breaksBy_45 : decode cX9_breaksBy 45 = .ok (.invokevirtual 91, 3) := by decide +kernel
theorem dX9_breaksBy_48 : decode cX9_breaksBy 48 = .ok (.iconst 0, 1) := by decide +kernel
theorem dX9_breaksBy_49 : decode cX9_breaksBy 49 = .ok (.istore 4, 2) := by decide +kernel
theorem dX9_breaksBy_51 : decode cX9_breaksBy 51 = .ok (.iconst 0, 1) := by decide +kernel
theorem dX9_breaksBy_52 : decode cX9_breaksBy 52 = .ok (.istore 5, 2) := by decide +kernel
theorem dX9_breaksBy_54 : decode cX9_breaksBy 54 = .ok (.iload 5, 2) := by decide +kernel
theorem dX9_breaksBy_56 : decode cX9_breaksBy 56 = .ok (.aload_n 0, 1) := by decide +kernel
theorem dX9_breaksBy_57 : decode cX9_breaksBy 57 = .ok (.getfield 7, 3) := by decide +kernel
theorem dX9_breaksBy_60 : decode cX9_breaksBy 60 = .ok (.iconst 1, 1) := by decide +kernel
theorem dX9_breaksBy_61 : decode cX9_breaksBy 61 = .ok (.iaload, 1) := by decide +kernel
theorem dX9_breaksBy_62 : decode cX9_breaksBy 62 = .ok (.if_icmp .ge 35, 3) := by decide +kernel
theorem dX9_breaksBy_65 : decode cX9_breaksBy 65 = .ok (.iload 4, 2) := by decide +kernel
theorem dX9_breaksBy_67 : decode cX9_breaksBy 67 = .ok (.aload_n 0, 1) := by decide +kernel
theorem dX9_breaksBy_68 : decode cX9_breaksBy 68 = .ok (.iload 5, 2) := by decide +kernel
theorem dX9_breaksBy_70 : decode cX9_breaksBy 70 = .ok (.invokevirtual 182, 3) := by decide +kernel
theorem dX9_breaksBy_73 : decode cX9_breaksBy 73 = .ok (.aload_n 0, 1) := by decide +kernel
theorem dX9_breaksBy_74 : decode cX9_breaksBy 74 = .ok (.getfield 44, 3) := by decide +kernel
theorem dX9_breaksBy_77 : decode cX9_breaksBy 77 = .ok (.iload 5, 2) := by decide +kernel
theorem dX9_breaksBy_79 : decode cX9_breaksBy 79 = .ok (.iaload, 1) := by decide +kernel
theorem dX9_breaksBy_80 : decode cX9_breaksBy 80 = .ok (.if_icmp .ne 7, 3) := by decide +kernel
theorem dX9_breaksBy_83 : decode cX9_breaksBy 83 = .ok (.iconst 0, 1) := by decide +kernel
theorem dX9_breaksBy_84 : decode cX9_breaksBy 84 = .ok (.goto 4, 3) := by decide +kernel
theorem dX9_breaksBy_87 : decode cX9_breaksBy 87 = .ok (.iconst 1, 1) := by decide +kernel
theorem dX9_breaksBy_88 : decode cX9_breaksBy 88 = .ok (.iadd, 1) := by decide +kernel
theorem dX9_breaksBy_89 : decode cX9_breaksBy 89 = .ok (.istore 4, 2) := by decide +kernel
theorem dX9_breaksBy_91 : decode cX9_breaksBy 91 = .ok (.iinc 5 1, 3) := by decide +kernel
theorem dX9_breaksBy_94 : decode cX9_breaksBy 94 = .ok (.goto (-40), 3) := by decide +kernel
theorem dX9_breaksBy_97 : decode cX9_breaksBy 97 = .ok (.aload_n 0, 1) := by decide +kernel
theorem dX9_breaksBy_98 : decode cX9_breaksBy 98 = .ok (.getfield 7, 3) := by decide +kernel
theorem dX9_breaksBy_101 : decode cX9_breaksBy 101 = .ok (.iconst 0, 1) := by decide +kernel
theorem dX9_breaksBy_102 : decode cX9_breaksBy 102 = .ok (.dup2, 1) := by decide +kernel
theorem dX9_breaksBy_103 : decode cX9_breaksBy 103 = .ok (.iaload, 1) := by decide +kernel
theorem dX9_breaksBy_104 : decode cX9_breaksBy 104 = .ok (.iconst 1, 1) := by decide +kernel
theorem dX9_breaksBy_105 : decode cX9_breaksBy 105 = .ok (.isub, 1) := by decide +kernel
theorem dX9_breaksBy_106 : decode cX9_breaksBy 106 = .ok (.iastore, 1) := by decide +kernel
theorem dX9_breaksBy_107 : decode cX9_breaksBy 107 = .ok (.iload 4, 2) := by decide +kernel
theorem dX9_breaksBy_109 : decode cX9_breaksBy 109 = .ok (.ireturn, 1) := by decide +kernel
theorem dX9_breaks_0 : decode cX9_breaks 0 = .ok (.aload_n 0, 1) := by decide +kernel
theorem dX9_breaks_1 : decode cX9_breaks 1 = .ok (.iload_n 1, 1) := by decide +kernel
theorem dX9_breaks_2 : decode cX9_breaks 2 = .ok (.iload_n 2, 1) := by decide +kernel
theorem dX9_breaks_3 : decode cX9_breaks 3 = .ok (.iload_n 3, 1) := by decide +kernel
theorem dX9_breaks_4 : decode cX9_breaks 4 = .ok (.invokevirtual 79, 3) := by decide +kernel
theorem dX9_breaks_7 : decode cX9_breaks 7 = .ok (.istore 4, 2) := by decide +kernel
theorem dX9_breaks_9 : decode cX9_breaks 9 = .ok (.iload 4, 2) := by decide +kernel
theorem dX9_breaks_11 : decode cX9_breaks 11 = .ok (.ifCond .le 12, 3) := by decide +kernel
theorem dX9_breaks_14 : decode cX9_breaks 14 = .ok (.aload_n 0, 1) := by decide +kernel
theorem dX9_breaks_15 : decode cX9_breaks 15 = .ok (.iload 4, 2) := by decide +kernel
theorem dX9_breaks_17 : decode cX9_breaks 17 = .ok (.invokevirtual 83, 3) := by decide +kernel
theorem dX9_breaks_20 : decode cX9_breaks 20 = .ok (.goto 10, 3) := by decide +kernel
theorem dX9_breaks_23 : decode cX9_breaks 23 = .ok (.aload_n 0, 1) := by decide +kernel
theorem dX9_breaks_24 : decode cX9_breaks 24 = .ok (.iload_n 1, 1) := by decide +kernel
theorem dX9_breaks_25 : decode cX9_breaks 25 = .ok (.iload_n 2, 1) := by decide +kernel
theorem dX9_breaks_26 : decode cX9_breaks 26 = .ok (.iload_n 3, 1) := by decide +kernel
theorem dX9_breaks_27 : decode cX9_breaks 27 = .ok (.invokevirtual 216, 3) := by decide +kernel
theorem dX9_breaks_30 : decode cX9_breaks 30 = .ok (.ireturn, 1) := by decide +kernel
theorem dX9_least_0 : decode cX9_least 0 = .ok (.iload_n 1, 1) := by decide +kernel
theorem dX9_least_1 : decode cX9_least 1 = .ok (.invokestatic 75, 3) := by decide +kernel
theorem dX9_least_4 : decode cX9_least 4 = .ok (.ifCond .eq 15, 3) := by decide +kernel
theorem dX9_least_7 : decode cX9_least 7 = .ok (.iload_n 2, 1) := by decide +kernel
theorem dX9_least_8 : decode cX9_least 8 = .ok (.invokestatic 75, 3) := by decide +kernel
theorem dX9_least_11 : decode cX9_least 11 = .ok (.ifCond .eq 8, 3) := by decide +kernel
theorem dX9_least_14 : decode cX9_least 14 = .ok (.iload_n 1, 1) := by decide +kernel
theorem dX9_least_15 : decode cX9_least 15 = .ok (.iload_n 2, 1) := by decide +kernel
theorem dX9_least_16 : decode cX9_least 16 = .ok (.if_icmp .ne 9, 3) := by decide +kernel
theorem dX9_least_19 : decode cX9_least 19 = .ok (.aload_n 0, 1) := by decide +kernel
theorem dX9_least_20 : decode cX9_least 20 = .ok (.iconst 1, 1) := by decide +kernel
theorem dX9_least_21 : decode cX9_least 21 = .ok (.invokevirtual 83, 3) := by decide +kernel
theorem dX9_least_24 : decode cX9_least 24 = .ok (.ireturn, 1) := by decide +kernel
theorem dX9_least_25 : decode cX9_least 25 = .ok (.aload_n 0, 1) := by decide +kernel
theorem dX9_least_26 : decode cX9_least 26 = .ok (.getfield 7, 3) := by decide +kernel
theorem dX9_least_29 : decode cX9_least 29 = .ok (.iconst 0, 1) := by decide +kernel
theorem dX9_least_30 : decode cX9_least 30 = .ok (.iaload, 1) := by decide +kernel
theorem dX9_least_31 : decode cX9_least 31 = .ok (.bipush 6, 2) := by decide +kernel
theorem dX9_least_33 : decode cX9_least 33 = .ok (.if_icmp .ne 9, 3) := by decide +kernel
theorem dX9_least_36 : decode cX9_least 36 = .ok (.aload_n 0, 1) := by decide +kernel
theorem dX9_least_37 : decode cX9_least 37 = .ok (.iconst 4, 1) := by decide +kernel
theorem dX9_least_38 : decode cX9_least 38 = .ok (.invokevirtual 83, 3) := by decide +kernel
theorem dX9_least_41 : decode cX9_least 41 = .ok (.ireturn, 1) := by decide +kernel
theorem dX9_least_42 : decode cX9_least 42 = .ok (.iconst (-1), 1) := by decide +kernel
theorem dX9_least_43 : decode cX9_least 43 = .ok (.istore_n 3, 1) := by decide +kernel
theorem dX9_least_44 : decode cX9_least 44 = .ok (.iconst 0, 1) := by decide +kernel
theorem dX9_least_45 : decode cX9_least 45 = .ok (.istore 4, 2) := by decide +kernel
theorem dX9_least_47 : decode cX9_least 47 = .ok (.iconst 1, 1) := by decide +kernel
theorem dX9_least_48 : decode cX9_least 48 = .ok (.istore 5, 2) := by decide +kernel
theorem dX9_least_50 : decode cX9_least 50 = .ok (.iload 5, 2) := by decide +kernel
theorem dX9_least_52 : decode cX9_least 52 = .ok (.bipush 60, 2) := by decide +kernel
theorem dX9_least_54 : decode cX9_least 54 = .ok (.if_icmp .gt 49, 3) := by decide +kernel
theorem dX9_least_57 : decode cX9_least 57 = .ok (.aload_n 0, 1) := by decide +kernel
theorem dX9_least_58 : decode cX9_least 58 = .ok (.iload 5, 2) := by decide +kernel
theorem dX9_least_60 : decode cX9_least 60 = .ok (.iload_n 1, 1) := by decide +kernel
theorem dX9_least_61 : decode cX9_least 61 = .ok (.iload_n 2, 1) := by decide +kernel
theorem dX9_least_62 : decode cX9_least 62 = .ok (.invokevirtual 79, 3) := by decide +kernel
theorem dX9_least_65 : decode cX9_least 65 = .ok (.ifCond .ne 32, 3) := by decide +kernel
theorem dX9_least_68 : decode cX9_least 68 = .ok (.aload_n 0, 1) := by decide +kernel
theorem dX9_least_69 : decode cX9_least 69 = .ok (.iload 5, 2) := by decide +kernel
theorem dX9_least_71 : decode cX9_least 71 = .ok (.iload_n 1, 1) := by decide +kernel
theorem dX9_least_72 : decode cX9_least 72 = .ok (.iload_n 2, 1) := by decide +kernel
theorem dX9_least_73 : decode cX9_least 73 = .ok (.invokevirtual 216, 3) := by decide +kernel
theorem dX9_least_76 : decode cX9_least 76 = .ok (.istore 6, 2) := by decide +kernel
theorem dX9_least_78 : decode cX9_least 78 = .ok (.iload_n 3, 1) := by decide +kernel
theorem dX9_least_79 : decode cX9_least 79 = .ok (.iconst (-1), 1) := by decide +kernel
theorem dX9_least_80 : decode cX9_least 80 = .ok (.if_icmp .eq 10, 3) := by decide +kernel
theorem dX9_least_83 : decode cX9_least 83 = .ok (.iload 6, 2) := by decide +kernel
theorem dX9_least_85 : decode cX9_least 85 = .ok (.iload 4, 2) := by decide +kernel
theorem dX9_least_87 : decode cX9_least 87 = .ok (.if_icmp .ge 10, 3) := by decide +kernel
theorem dX9_least_90 : decode cX9_least 90 = .ok (.iload 5, 2) := by decide +kernel
theorem dX9_least_92 : decode cX9_least 92 = .ok (.istore_n 3, 1) := by decide +kernel
theorem dX9_least_93 : decode cX9_least 93 = .ok (.iload 6, 2) := by decide +kernel
theorem dX9_least_95 : decode cX9_least 95 = .ok (.istore 4, 2) := by decide +kernel
theorem dX9_least_97 : decode cX9_least 97 = .ok (.iinc 5 1, 3) := by decide +kernel
theorem dX9_least_100 : decode cX9_least 100 = .ok (.goto (-50), 3) := by decide +kernel
theorem dX9_least_103 : decode cX9_least 103 = .ok (.iload_n 3, 1) := by decide +kernel
theorem dX9_least_104 : decode cX9_least 104 = .ok (.iconst (-1), 1) := by decide +kernel
theorem dX9_least_105 : decode cX9_least 105 = .ok (.if_icmp .ne 11, 3) := by decide +kernel
theorem dX9_least_108 : decode cX9_least 108 = .ok (.aload_n 0, 1) := by decide +kernel
theorem dX9_least_109 : decode cX9_least 109 = .ok (.iconst 2, 1) := by decide +kernel
theorem dX9_least_110 : decode cX9_least 110 = .ok (.invokevirtual 83, 3) := by decide +kernel
theorem dX9_least_113 : decode cX9_least 113 = .ok (.goto 4, 3) := by decide +kernel
theorem dX9_least_116 : decode cX9_least 116 = .ok (.iload_n 3, 1) := by decide +kernel
theorem dX9_least_117 : decode cX9_least 117 = .ok (.ireturn, 1) := by decide +kernel
theorem dX9_begins_0 : decode cX9_begins 0 = .ok (.aload_n 0, 1) := by decide +kernel
theorem dX9_begins_1 : decode cX9_begins 1 = .ok (.getfield 219, 3) := by decide +kernel
theorem dX9_begins_4 : decode cX9_begins 4 = .ok (.bipush 30, 2) := by decide +kernel
theorem dX9_begins_6 : decode cX9_begins 6 = .ok (.if_icmp .ge 23, 3) := by decide +kernel
theorem dX9_begins_9 : decode cX9_begins 9 = .ok (.aload_n 0, 1) := by decide +kernel
theorem dX9_begins_10 : decode cX9_begins 10 = .ok (.getfield 47, 3) := by decide +kernel
theorem dX9_begins_13 : decode cX9_begins 13 = .ok (.aload_n 0, 1) := by decide +kernel
theorem dX9_begins_14 : decode cX9_begins 14 = .ok (.getfield 219, 3) := by decide +kernel
theorem dX9_begins_17 : decode cX9_begins 17 = .ok (.iload_n 1, 1) := by decide +kernel
theorem dX9_begins_18 : decode cX9_begins 18 = .ok (.iastore, 1) := by decide +kernel
theorem dX9_begins_19 : decode cX9_begins 19 = .ok (.aload_n 0, 1) := by decide +kernel
theorem dX9_begins_20 : decode cX9_begins 20 = .ok (.dup, 1) := by decide +kernel
theorem dX9_begins_21 : decode cX9_begins 21 = .ok (.getfield 219, 3) := by decide +kernel
theorem dX9_begins_24 : decode cX9_begins 24 = .ok (.iconst 1, 1) := by decide +kernel
theorem dX9_begins_25 : decode cX9_begins 25 = .ok (.iadd, 1) := by decide +kernel
theorem dX9_begins_26 : decode cX9_begins 26 = .ok (.putfield 219, 3) := by decide +kernel
theorem dX9_begins_29 : decode cX9_begins 29 = .ok (.return_, 1) := by decide +kernel
theorem dX9_above_0 : decode cX9_above 0 = .ok (.iload_n 0, 1) := by decide +kernel
theorem dX9_above_1 : decode cX9_above 1 = .ok (.iconst 4, 1) := by decide +kernel
theorem dX9_above_2 : decode cX9_above 2 = .ok (.if_icmp .eq 8, 3) := by decide +kernel
theorem dX9_above_5 : decode cX9_above 5 = .ok (.iload_n 0, 1) := by decide +kernel
theorem dX9_above_6 : decode cX9_above 6 = .ok (.iconst 5, 1) := by decide +kernel
theorem dX9_above_7 : decode cX9_above 7 = .ok (.if_icmp .ne 7, 3) := by decide +kernel
theorem dX9_above_10 : decode cX9_above 10 = .ok (.iconst 1, 1) := by decide +kernel
theorem dX9_above_11 : decode cX9_above 11 = .ok (.goto 4, 3) := by decide +kernel
theorem dX9_above_14 : decode cX9_above 14 = .ok (.iconst 0, 1) := by decide +kernel
theorem dX9_above_15 : decode cX9_above 15 = .ok (.ireturn, 1) := by decide +kernel
theorem dX9_kindNow_0 : decode cX9_kindNow 0 = .ok (.aload_n 0, 1) := by decide +kernel
theorem dX9_kindNow_1 : decode cX9_kindNow 1 = .ok (.aload_n 0, 1) := by decide +kernel
theorem dX9_kindNow_2 : decode cX9_kindNow 2 = .ok (.getfield 222, 3) := by decide +kernel
theorem dX9_kindNow_5 : decode cX9_kindNow 5 = .ok (.iconst 0, 1) := by decide +kernel
theorem dX9_kindNow_6 : decode cX9_kindNow 6 = .ok (.invokevirtual 158, 3) := by decide +kernel
theorem dX9_kindNow_9 : decode cX9_kindNow 9 = .ok (.ireturn, 1) := by decide +kernel
theorem dX9_mNow_0 : decode cX9_mNow 0 = .ok (.aload_n 0, 1) := by decide +kernel
theorem dX9_mNow_1 : decode cX9_mNow 1 = .ok (.aload_n 0, 1) := by decide +kernel
theorem dX9_mNow_2 : decode cX9_mNow 2 = .ok (.getfield 222, 3) := by decide +kernel
theorem dX9_mNow_5 : decode cX9_mNow 5 = .ok (.iconst 1, 1) := by decide +kernel
theorem dX9_mNow_6 : decode cX9_mNow 6 = .ok (.invokevirtual 158, 3) := by decide +kernel
theorem dX9_mNow_9 : decode cX9_mNow 9 = .ok (.ireturn, 1) := by decide +kernel
theorem dX9_datesBy_0 : decode cX9_datesBy 0 = .ok (.iload_n 1, 1) := by decide +kernel
theorem dX9_datesBy_1 : decode cX9_datesBy 1 = .ok (.tableswitch 101 0 6 #[43, 56, 101, 101, 75, 101, 93], 43) := by decide +kernel
theorem dX9_datesBy_44 : decode cX9_datesBy 44 = .ok (.aload_n 0, 1) := by decide +kernel
theorem dX9_datesBy_45 : decode cX9_datesBy 45 = .ok (.bipush 10, 2) := by decide +kernel
theorem dX9_datesBy_47 : decode cX9_datesBy 47 = .ok (.invokevirtual 225, 3) := by decide +kernel
theorem dX9_datesBy_50 : decode cX9_datesBy 50 = .ok (.iload_n 2, 1) := by decide +kernel
theorem dX9_datesBy_51 : decode cX9_datesBy 51 = .ok (.aload_n 0, 1) := by decide +kernel
theorem dX9_datesBy_52 : decode cX9_datesBy 52 = .ok (.getfield 222, 3) := by decide +kernel
theorem dX9_datesBy_55 : decode cX9_datesBy 55 = .ok (.iadd, 1) := by decide +kernel
theorem dX9_datesBy_56 : decode cX9_datesBy 56 = .ok (.ireturn, 1) := by decide +kernel
theorem dX9_datesBy_57 : decode cX9_datesBy 57 = .ok (.aload_n 0, 1) := by decide +kernel
theorem dX9_datesBy_58 : decode cX9_datesBy 58 = .ok (.bipush 20, 2) := by decide +kernel
theorem dX9_datesBy_60 : decode cX9_datesBy 60 = .ok (.invokevirtual 225, 3) := by decide +kernel
theorem dX9_datesBy_63 : decode cX9_datesBy 63 = .ok (.aload_n 0, 1) := by decide +kernel
theorem dX9_datesBy_64 : decode cX9_datesBy 64 = .ok (.iconst 1, 1) := by decide +kernel
theorem dX9_datesBy_65 : decode cX9_datesBy 65 = .ok (.invokestatic 229, 3) := by decide +kernel
theorem dX9_datesBy_68 : decode cX9_datesBy 68 = .ok (.iload_n 2, 1) := by decide +kernel
theorem dX9_datesBy_69 : decode cX9_datesBy 69 = .ok (.invokevirtual 232, 3) := by decide +kernel
theorem dX9_datesBy_72 : decode cX9_datesBy 72 = .ok (.bipush 7, 2) := by decide +kernel
theorem dX9_datesBy_74 : decode cX9_datesBy 74 = .ok (.isub, 1) := by decide +kernel
theorem dX9_datesBy_75 : decode cX9_datesBy 75 = .ok (.ireturn, 1) := by decide +kernel
theorem dX9_datesBy_76 : decode cX9_datesBy 76 = .ok (.aload_n 0, 1) := by decide +kernel
theorem dX9_datesBy_77 : decode cX9_datesBy 77 = .ok (.bipush 50, 2) := by decide +kernel
theorem dX9_datesBy_79 : decode cX9_datesBy 79 = .ok (.invokevirtual 225, 3) := by decide +kernel
theorem dX9_datesBy_82 : decode cX9_datesBy 82 = .ok (.aload_n 0, 1) := by decide +kernel
theorem dX9_datesBy_83 : decode cX9_datesBy 83 = .ok (.iconst 4, 1) := by decide +kernel
theorem dX9_datesBy_84 : decode cX9_datesBy 84 = .ok (.invokestatic 229, 3) := by decide +kernel
theorem dX9_datesBy_87 : decode cX9_datesBy 87 = .ok (.iload_n 2, 1) := by decide +kernel
theorem dX9_datesBy_88 : decode cX9_datesBy 88 = .ok (.invokevirtual 232, 3) := by decide +kernel
theorem dX9_datesBy_91 : decode cX9_datesBy 91 = .ok (.iconst 3, 1) := by decide +kernel
theorem dX9_datesBy_92 : decode cX9_datesBy 92 = .ok (.imul, 1) := by decide +kernel
theorem dX9_datesBy_93 : decode cX9_datesBy 93 = .ok (.ireturn, 1) := by decide +kernel
theorem dX9_datesBy_94 : decode cX9_datesBy 94 = .ok (.aload_n 0, 1) := by decide +kernel
theorem dX9_datesBy_95 : decode cX9_datesBy 95 = .ok (.bipush 70, 2) := by decide +kernel
theorem dX9_datesBy_97 : decode cX9_datesBy 97 = .ok (.invokevirtual 225, 3) := by decide +kernel
theorem dX9_datesBy_100 : decode cX9_datesBy 100 = .ok (.iconst 4, 1) := by decide +kernel
theorem dX9_datesBy_101 : decode cX9_datesBy 101 = .ok (.ireturn, 1) := by decide +kernel
theorem dX9_datesBy_102 : decode cX9_datesBy 102 = .ok (.aload_n 0, 1) := by decide +kernel
theorem dX9_datesBy_103 : decode cX9_datesBy 103 = .ok (.iload_n 1, 1) := by decide +kernel
theorem dX9_datesBy_104 : decode cX9_datesBy 104 = .ok (.invokestatic 229, 3) := by decide +kernel
theorem dX9_datesBy_107 : decode cX9_datesBy 107 = .ok (.iload_n 2, 1) := by decide +kernel
theorem dX9_datesBy_108 : decode cX9_datesBy 108 = .ok (.invokevirtual 232, 3) := by decide +kernel
theorem dX9_datesBy_111 : decode cX9_datesBy 111 = .ok (.ireturn, 1) := by decide +kernel
theorem dX9_agesBy_0 : decode cX9_agesBy 0 = .ok (.iload_n 1, 1) := by decide +kernel
theorem dX9_agesBy_1 : decode cX9_agesBy 1 = .ok (.tableswitch 119 0 6 #[43, 119, 61, 119, 119, 79, 97], 43) := by decide +kernel
theorem dX9_agesBy_44 : decode cX9_agesBy 44 = .ok (.aload_n 0, 1) := by decide +kernel
theorem dX9_agesBy_45 : decode cX9_agesBy 45 = .ok (.bipush 11, 2) := by decide +kernel
theorem dX9_agesBy_47 : decode cX9_agesBy 47 = .ok (.invokevirtual 225, 3) := by decide +kernel
theorem dX9_agesBy_50 : decode cX9_agesBy 50 = .ok (.aload_n 0, 1) := by decide +kernel
theorem dX9_agesBy_51 : decode cX9_agesBy 51 = .ok (.aload_n 0, 1) := by decide +kernel
theorem dX9_agesBy_52 : decode cX9_agesBy 52 = .ok (.invokevirtual 235, 3) := by decide +kernel
theorem dX9_agesBy_55 : decode cX9_agesBy 55 = .ok (.iload_n 2, 1) := by decide +kernel
theorem dX9_agesBy_56 : decode cX9_agesBy 56 = .ok (.invokevirtual 232, 3) := by decide +kernel
theorem dX9_agesBy_59 : decode cX9_agesBy 59 = .ok (.iconst 2, 1) := by decide +kernel
theorem dX9_agesBy_60 : decode cX9_agesBy 60 = .ok (.imul, 1) := by decide +kernel
theorem dX9_agesBy_61 : decode cX9_agesBy 61 = .ok (.ireturn, 1) := by decide +kernel
theorem dX9_agesBy_62 : decode cX9_agesBy 62 = .ok (.aload_n 0, 1) := by decide +kernel
theorem dX9_agesBy_63 : decode cX9_agesBy 63 = .ok (.bipush 30, 2) := by decide +kernel
theorem dX9_agesBy_65 : decode cX9_agesBy 65 = .ok (.invokevirtual 225, 3) := by decide +kernel
theorem dX9_agesBy_68 : decode cX9_agesBy 68 = .ok (.iconst 0, 1) := by decide +kernel
theorem dX9_agesBy_69 : decode cX9_agesBy 69 = .ok (.aload_n 0, 1) := by decide +kernel
theorem dX9_agesBy_70 : decode cX9_agesBy 70 = .ok (.iconst 2, 1) := by decide +kernel
theorem dX9_agesBy_71 : decode cX9_agesBy 71 = .ok (.invokestatic 229, 3) := by decide +kernel
theorem dX9_agesBy_74 : decode cX9_agesBy 74 = .ok (.iload_n 2, 1) := by decide +kernel
theorem dX9_agesBy_75 : decode cX9_agesBy 75 = .ok (.invokevirtual 238, 3) := by decide +kernel
theorem dX9_agesBy_78 : decode cX9_agesBy 78 = .ok (.isub, 1) := by decide +kernel
theorem dX9_agesBy_79 : decode cX9_agesBy 79 = .ok (.ireturn, 1) := by decide +kernel
theorem dX9_agesBy_80 : decode cX9_agesBy 80 = .ok (.aload_n 0, 1) := by decide +kernel
theorem dX9_agesBy_81 : decode cX9_agesBy 81 = .ok (.bipush 60, 2) := by decide +kernel
theorem dX9_agesBy_83 : decode cX9_agesBy 83 = .ok (.invokevirtual 225, 3) := by decide +kernel
theorem dX9_agesBy_86 : decode cX9_agesBy 86 = .ok (.aload_n 0, 1) := by decide +kernel
theorem dX9_agesBy_87 : decode cX9_agesBy 87 = .ok (.iconst 5, 1) := by decide +kernel
theorem dX9_agesBy_88 : decode cX9_agesBy 88 = .ok (.invokestatic 229, 3) := by decide +kernel
theorem dX9_agesBy_91 : decode cX9_agesBy 91 = .ok (.iload_n 2, 1) := by decide +kernel
theorem dX9_agesBy_92 : decode cX9_agesBy 92 = .ok (.iconst 1, 1) := by decide +kernel
theorem dX9_agesBy_93 : decode cX9_agesBy 93 = .ok (.iadd, 1) := by decide +kernel
theorem dX9_agesBy_94 : decode cX9_agesBy 94 = .ok (.invokevirtual 238, 3) := by decide +kernel
theorem dX9_agesBy_97 : decode cX9_agesBy 97 = .ok (.ireturn, 1) := by decide +kernel
theorem dX9_agesBy_98 : decode cX9_agesBy 98 = .ok (.aload_n 0, 1) := by decide +kernel
theorem dX9_agesBy_99 : decode cX9_agesBy 99 = .ok (.bipush 71, 2) := by decide +kernel
theorem dX9_agesBy_101 : decode cX9_agesBy 101 = .ok (.invokevirtual 225, 3) := by decide +kernel
theorem dX9_agesBy_104 : decode cX9_agesBy 104 = .ok (.aload_n 0, 1) := by decide +kernel
theorem dX9_agesBy_105 : decode cX9_agesBy 105 = .ok (.bipush 6, 2) := by decide +kernel
theorem dX9_agesBy_107 : decode cX9_agesBy 107 = .ok (.invokestatic 229, 3) := by decide +kernel
theorem dX9_agesBy_110 : decode cX9_agesBy 110 = .ok (.iload_n 2, 1) := by decide +kernel
theorem dX9_agesBy_111 : decode cX9_agesBy 111 = .ok (.invokevirtual 238, 3) := by decide +kernel
theorem dX9_agesBy_114 : decode cX9_agesBy 114 = .ok (.aload_n 0, 1) := by decide +kernel
theorem dX9_agesBy_115 : decode cX9_agesBy 115 = .ok (.invokevirtual 241, 3) := by decide +kernel
theorem dX9_agesBy_118 : decode cX9_agesBy 118 = .ok (.iadd, 1) := by decide +kernel
theorem dX9_agesBy_119 : decode cX9_agesBy 119 = .ok (.ireturn, 1) := by decide +kernel
theorem dX9_agesBy_120 : decode cX9_agesBy 120 = .ok (.aload_n 0, 1) := by decide +kernel
theorem dX9_agesBy_121 : decode cX9_agesBy 121 = .ok (.iload_n 1, 1) := by decide +kernel
theorem dX9_agesBy_122 : decode cX9_agesBy 122 = .ok (.invokestatic 229, 3) := by decide +kernel
theorem dX9_agesBy_125 : decode cX9_agesBy 125 = .ok (.iload_n 2, 1) := by decide +kernel
theorem dX9_agesBy_126 : decode cX9_agesBy 126 = .ok (.invokevirtual 238, 3) := by decide +kernel
theorem dX9_agesBy_129 : decode cX9_agesBy 129 = .ok (.ireturn, 1) := by decide +kernel
theorem dX9_duesBy_0 : decode cX9_duesBy 0 = .ok (.iload_n 1, 1) := by decide +kernel
theorem dX9_duesBy_1 : decode cX9_duesBy 1 = .ok (.tableswitch 95 0 4 #[35, 95, 95, 56, 74], 35) := by decide +kernel
theorem dX9_duesBy_36 : decode cX9_duesBy 36 = .ok (.aload_n 0, 1) := by decide +kernel
theorem dX9_duesBy_37 : decode cX9_duesBy 37 = .ok (.bipush 12, 2) := by decide +kernel
theorem dX9_duesBy_39 : decode cX9_duesBy 39 = .ok (.invokevirtual 225, 3) := by decide +kernel
theorem dX9_duesBy_42 : decode cX9_duesBy 42 = .ok (.aload_n 0, 1) := by decide +kernel
theorem dX9_duesBy_43 : decode cX9_duesBy 43 = .ok (.aload_n 0, 1) := by decide +kernel
theorem dX9_duesBy_44 : decode cX9_duesBy 44 = .ok (.invokevirtual 235, 3) := by decide +kernel
theorem dX9_duesBy_47 : decode cX9_duesBy 47 = .ok (.iload_n 2, 1) := by decide +kernel
theorem dX9_duesBy_48 : decode cX9_duesBy 48 = .ok (.invokevirtual 238, 3) := by decide +kernel
theorem dX9_duesBy_51 : decode cX9_duesBy 51 = .ok (.aload_n 0, 1) := by decide +kernel
theorem dX9_duesBy_52 : decode cX9_duesBy 52 = .ok (.invokevirtual 241, 3) := by decide +kernel
theorem dX9_duesBy_55 : decode cX9_duesBy 55 = .ok (.isub, 1) := by decide +kernel
theorem dX9_duesBy_56 : decode cX9_duesBy 56 = .ok (.ireturn, 1) := by decide +kernel
theorem dX9_duesBy_57 : decode cX9_duesBy 57 = .ok (.aload_n 0, 1) := by decide +kernel
theorem dX9_duesBy_58 : decode cX9_duesBy 58 = .ok (.bipush 40, 2) := by decide +kernel
theorem dX9_duesBy_60 : decode cX9_duesBy 60 = .ok (.invokevirtual 225, 3) := by decide +kernel
theorem dX9_duesBy_63 : decode cX9_duesBy 63 = .ok (.aload_n 0, 1) := by decide +kernel
theorem dX9_duesBy_64 : decode cX9_duesBy 64 = .ok (.iconst 3, 1) := by decide +kernel
theorem dX9_duesBy_65 : decode cX9_duesBy 65 = .ok (.invokestatic 229, 3) := by decide +kernel
theorem dX9_duesBy_68 : decode cX9_duesBy 68 = .ok (.iload_n 2, 1) := by decide +kernel
theorem dX9_duesBy_69 : decode cX9_duesBy 69 = .ok (.iconst 2, 1) := by decide +kernel
theorem dX9_duesBy_70 : decode cX9_duesBy 70 = .ok (.idiv, 1) := by decide +kernel
theorem dX9_duesBy_71 : decode cX9_duesBy 71 = .ok (.invokevirtual 244, 3) := by decide +kernel
theorem dX9_duesBy_74 : decode cX9_duesBy 74 = .ok (.ireturn, 1) := by decide +kernel
theorem dX9_duesBy_75 : decode cX9_duesBy 75 = .ok (.aload_n 0, 1) := by decide +kernel
theorem dX9_duesBy_76 : decode cX9_duesBy 76 = .ok (.bipush 51, 2) := by decide +kernel
theorem dX9_duesBy_78 : decode cX9_duesBy 78 = .ok (.invokevirtual 225, 3) := by decide +kernel
theorem dX9_duesBy_81 : decode cX9_duesBy 81 = .ok (.aload_n 0, 1) := by decide +kernel
theorem dX9_duesBy_82 : decode cX9_duesBy 82 = .ok (.iconst 4, 1) := by decide +kernel
theorem dX9_duesBy_83 : decode cX9_duesBy 83 = .ok (.invokestatic 229, 3) := by decide +kernel
theorem dX9_duesBy_86 : decode cX9_duesBy 86 = .ok (.iload_n 2, 1) := by decide +kernel
theorem dX9_duesBy_87 : decode cX9_duesBy 87 = .ok (.invokevirtual 244, 3) := by decide +kernel
theorem dX9_duesBy_90 : decode cX9_duesBy 90 = .ok (.aload_n 0, 1) := by decide +kernel
theorem dX9_duesBy_91 : decode cX9_duesBy 91 = .ok (.getfield 222, 3) := by decide +kernel
theorem dX9_duesBy_94 : decode cX9_duesBy 94 = .ok (.ixor, 1) := by decide +kernel
theorem dX9_duesBy_95 : decode cX9_duesBy 95 = .ok (.ireturn, 1) := by decide +kernel
theorem dX9_duesBy_96 : decode cX9_duesBy 96 = .ok (.aload_n 0, 1) := by decide +kernel
theorem dX9_duesBy_97 : decode cX9_duesBy 97 = .ok (.iload_n 1, 1) := by decide +kernel
theorem dX9_duesBy_98 : decode cX9_duesBy 98 = .ok (.invokestatic 229, 3) := by decide +kernel
theorem dX9_duesBy_101 : decode cX9_duesBy 101 = .ok (.iload_n 2, 1) := by decide +kernel
theorem dX9_duesBy_102 : decode cX9_duesBy 102 = .ok (.invokevirtual 244, 3) := by decide +kernel
theorem dX9_duesBy_105 : decode cX9_duesBy 105 = .ok (.ireturn, 1) := by decide +kernel
theorem dX9_partsBy_0 : decode cX9_partsBy 0 = .ok (.iload_n 1, 1) := by decide +kernel
theorem dX9_partsBy_1 : decode cX9_partsBy 1 = .ok (.lookupswitch 119 #[(0, 27), (1, 78)], 27) := by decide +kernel
theorem dX9_partsBy_28 : decode cX9_partsBy 28 = .ok (.aload_n 0, 1) := by decide +kernel
theorem dX9_partsBy_29 : decode cX9_partsBy 29 = .ok (.bipush 13, 2) := by decide +kernel
theorem dX9_partsBy_31 : decode cX9_partsBy 31 = .ok (.invokevirtual 225, 3) := by decide +kernel
theorem dX9_partsBy_34 : decode cX9_partsBy 34 = .ok (.aload_n 0, 1) := by decide +kernel
theorem dX9_partsBy_35 : decode cX9_partsBy 35 = .ok (.invokevirtual 241, 3) := by decide +kernel
theorem dX9_partsBy_38 : decode cX9_partsBy 38 = .ok (.aload_n 0, 1) := by decide +kernel
theorem dX9_partsBy_39 : decode cX9_partsBy 39 = .ok (.getfield 222, 3) := by decide +kernel
theorem dX9_partsBy_42 : decode cX9_partsBy 42 = .ok (.isub, 1) := by decide +kernel
theorem dX9_partsBy_43 : decode cX9_partsBy 43 = .ok (.istore_n 3, 1) := by decide +kernel
theorem dX9_partsBy_44 : decode cX9_partsBy 44 = .ok (.aload_n 0, 1) := by decide +kernel
theorem dX9_partsBy_45 : decode cX9_partsBy 45 = .ok (.iload_n 3, 1) := by decide +kernel
theorem dX9_partsBy_46 : decode cX9_partsBy 46 = .ok (.ifCond .ne 7, 3) := by decide +kernel
theorem dX9_partsBy_49 : decode cX9_partsBy 49 = .ok (.iconst 1, 1) := by decide +kernel
theorem dX9_partsBy_50 : decode cX9_partsBy 50 = .ok (.goto 4, 3) := by decide +kernel
theorem dX9_partsBy_53 : decode cX9_partsBy 53 = .ok (.iconst 0, 1) := by decide +kernel
theorem dX9_partsBy_54 : decode cX9_partsBy 54 = .ok (.putfield 247, 3) := by decide +kernel
theorem dX9_partsBy_57 : decode cX9_partsBy 57 = .ok (.iload_n 3, 1) := by decide +kernel
theorem dX9_partsBy_58 : decode cX9_partsBy 58 = .ok (.ifCond .ne 7, 3) := by decide +kernel
theorem dX9_partsBy_61 : decode cX9_partsBy 61 = .ok (.iconst 0, 1) := by decide +kernel
theorem dX9_partsBy_62 : decode cX9_partsBy 62 = .ok (.goto 16, 3) := by decide +kernel
theorem dX9_partsBy_65 : decode cX9_partsBy 65 = .ok (.iload_n 3, 1) := by decide +kernel
theorem dX9_partsBy_66 : decode cX9_partsBy 66 = .ok (.iconst (-1), 1) := by decide +kernel
theorem dX9_partsBy_67 : decode cX9_partsBy 67 = .ok (.if_icmp .ne 8, 3) := by decide +kernel
theorem dX9_partsBy_70 : decode cX9_partsBy 70 = .ok (.iload_n 2, 1) := by decide +kernel
theorem dX9_partsBy_71 : decode cX9_partsBy 71 = .ok (.ineg, 1) := by decide +kernel
theorem dX9_partsBy_72 : decode cX9_partsBy 72 = .ok (.goto 6, 3) := by decide +kernel
theorem dX9_partsBy_75 : decode cX9_partsBy 75 = .ok (.iload_n 2, 1) := by decide +kernel
theorem dX9_partsBy_76 : decode cX9_partsBy 76 = .ok (.iload_n 3, 1) := by decide +kernel
theorem dX9_partsBy_77 : decode cX9_partsBy 77 = .ok (.idiv, 1) := by decide +kernel
theorem dX9_partsBy_78 : decode cX9_partsBy 78 = .ok (.ireturn, 1) := by decide +kernel
theorem dX9_partsBy_79 : decode cX9_partsBy 79 = .ok (.aload_n 0, 1) := by decide +kernel
theorem dX9_partsBy_80 : decode cX9_partsBy 80 = .ok (.bipush 21, 2) := by decide +kernel
theorem dX9_partsBy_82 : decode cX9_partsBy 82 = .ok (.invokevirtual 225, 3) := by decide +kernel
theorem dX9_partsBy_85 : decode cX9_partsBy 85 = .ok (.aload_n 0, 1) := by decide +kernel
theorem dX9_partsBy_86 : decode cX9_partsBy 86 = .ok (.iconst 1, 1) := by decide +kernel
theorem dX9_partsBy_87 : decode cX9_partsBy 87 = .ok (.invokestatic 229, 3) := by decide +kernel
theorem dX9_partsBy_90 : decode cX9_partsBy 90 = .ok (.iload_n 2, 1) := by decide +kernel
theorem dX9_partsBy_91 : decode cX9_partsBy 91 = .ok (.invokevirtual 251, 3) := by decide +kernel
theorem dX9_partsBy_94 : decode cX9_partsBy 94 = .ok (.istore 4, 2) := by decide +kernel
theorem dX9_partsBy_96 : decode cX9_partsBy 96 = .ok (.aload_n 0, 1) := by decide +kernel
theorem dX9_partsBy_97 : decode cX9_partsBy 97 = .ok (.getfield 247, 3) := by decide +kernel
theorem dX9_partsBy_100 : decode cX9_partsBy 100 = .ok (.ifCond .eq 7, 3) := by decide +kernel
theorem dX9_partsBy_103 : decode cX9_partsBy 103 = .ok (.iconst 0, 1) := by decide +kernel
theorem dX9_partsBy_104 : decode cX9_partsBy 104 = .ok (.goto 15, 3) := by decide +kernel
theorem dX9_partsBy_107 : decode cX9_partsBy 107 = .ok (.iload 4, 2) := by decide +kernel
theorem dX9_partsBy_109 : decode cX9_partsBy 109 = .ok (.aload_n 0, 1) := by decide +kernel
theorem dX9_partsBy_110 : decode cX9_partsBy 110 = .ok (.aload_n 0, 1) := by decide +kernel
theorem dX9_partsBy_111 : decode cX9_partsBy 111 = .ok (.invokevirtual 235, 3) := by decide +kernel
theorem dX9_partsBy_114 : decode cX9_partsBy 114 = .ok (.iconst 1, 1) := by decide +kernel
theorem dX9_partsBy_115 : decode cX9_partsBy 115 = .ok (.invokevirtual 238, 3) := by decide +kernel
theorem dX9_partsBy_118 : decode cX9_partsBy 118 = .ok (.iadd, 1) := by decide +kernel
theorem dX9_partsBy_119 : decode cX9_partsBy 119 = .ok (.ireturn, 1) := by decide +kernel
theorem dX9_partsBy_120 : decode cX9_partsBy 120 = .ok (.aload_n 0, 1) := by decide +kernel
theorem dX9_partsBy_121 : decode cX9_partsBy 121 = .ok (.iload_n 1, 1) := by decide +kernel
theorem dX9_partsBy_122 : decode cX9_partsBy 122 = .ok (.invokestatic 229, 3) := by decide +kernel
theorem dX9_partsBy_125 : decode cX9_partsBy 125 = .ok (.iload_n 2, 1) := by decide +kernel
theorem dX9_partsBy_126 : decode cX9_partsBy 126 = .ok (.invokevirtual 251, 3) := by decide +kernel
theorem dX9_partsBy_129 : decode cX9_partsBy 129 = .ok (.ireturn, 1) := by decide +kernel
theorem dX9_voice_0 : decode cX9_voice 0 = .ok (.aload_n 0, 1) := by decide +kernel
theorem dX9_voice_1 : decode cX9_voice 1 = .ok (.iload_n 1, 1) := by decide +kernel
theorem dX9_voice_2 : decode cX9_voice 2 = .ok (.invokevirtual 185, 3) := by decide +kernel
theorem dX9_voice_5 : decode cX9_voice 5 = .ok (.ifCond .eq 12, 3) := by decide +kernel
theorem dX9_voice_8 : decode cX9_voice 8 = .ok (.iload_n 2, 1) := by decide +kernel
theorem dX9_voice_9 : decode cX9_voice 9 = .ok (.iconst 0, 1) := by decide +kernel
theorem dX9_voice_10 : decode cX9_voice 10 = .ok (.iconst 3, 1) := by decide +kernel
theorem dX9_voice_11 : decode cX9_voice 11 = .ok (.invokestatic 63, 3) := by decide +kernel
theorem dX9_voice_14 : decode cX9_voice 14 = .ok (.ifCond .ne 9, 3) := by decide +kernel
theorem dX9_voice_17 : decode cX9_voice 17 = .ok (.aload_n 0, 1) := by decide +kernel
theorem dX9_voice_18 : decode cX9_voice 18 = .ok (.iconst 1, 1) := by decide +kernel
theorem dX9_voice_19 : decode cX9_voice 19 = .ok (.invokevirtual 83, 3) := by decide +kernel
theorem dX9_voice_22 : decode cX9_voice 22 = .ok (.ireturn, 1) := by decide +kernel
theorem dX9_voice_23 : decode cX9_voice 23 = .ok (.aload_n 0, 1) := by decide +kernel
theorem dX9_voice_24 : decode cX9_voice 24 = .ok (.iconst 0, 1) := by decide +kernel
theorem dX9_voice_25 : decode cX9_voice 25 = .ok (.putfield 219, 3) := by decide +kernel
theorem dX9_voice_28 : decode cX9_voice 28 = .ok (.aload_n 0, 1) := by decide +kernel
theorem dX9_voice_29 : decode cX9_voice 29 = .ok (.iload_n 1, 1) := by decide +kernel
theorem dX9_voice_30 : decode cX9_voice 30 = .ok (.putfield 222, 3) := by decide +kernel
theorem dX9_voice_33 : decode cX9_voice 33 = .ok (.aload_n 0, 1) := by decide +kernel
theorem dX9_voice_34 : decode cX9_voice 34 = .ok (.iconst 0, 1) := by decide +kernel
theorem dX9_voice_35 : decode cX9_voice 35 = .ok (.putfield 247, 3) := by decide +kernel
theorem dX9_voice_38 : decode cX9_voice 38 = .ok (.aload_n 0, 1) := by decide +kernel
theorem dX9_voice_39 : decode cX9_voice 39 = .ok (.invokevirtual 235, 3) := by decide +kernel
theorem dX9_voice_42 : decode cX9_voice 42 = .ok (.istore 4, 2) := by decide +kernel
theorem dX9_voice_44 : decode cX9_voice 44 = .ok (.iload_n 2, 1) := by decide +kernel
theorem dX9_voice_45 : decode cX9_voice 45 = .ok (.ifCond .ne 13, 3) := by decide +kernel
theorem dX9_voice_48 : decode cX9_voice 48 = .ok (.aload_n 0, 1) := by decide +kernel
theorem dX9_voice_49 : decode cX9_voice 49 = .ok (.iload 4, 2) := by decide +kernel
theorem dX9_voice_51 : decode cX9_voice 51 = .ok (.iload_n 3, 1) := by decide +kernel
theorem dX9_voice_52 : decode cX9_voice 52 = .ok (.invokevirtual 232, 3) := by decide +kernel
theorem dX9_voice_55 : decode cX9_voice 55 = .ok (.goto 40, 3) := by decide +kernel
theorem dX9_voice_58 : decode cX9_voice 58 = .ok (.iload_n 2, 1) := by decide +kernel
theorem dX9_voice_59 : decode cX9_voice 59 = .ok (.iconst 1, 1) := by decide +kernel
theorem dX9_voice_60 : decode cX9_voice 60 = .ok (.if_icmp .ne 13, 3) := by decide +kernel
theorem dX9_voice_63 : decode cX9_voice 63 = .ok (.aload_n 0, 1) := by decide +kernel
theorem dX9_voice_64 : decode cX9_voice 64 = .ok (.iload 4, 2) := by decide +kernel
theorem dX9_voice_66 : decode cX9_voice 66 = .ok (.iload_n 3, 1) := by decide +kernel
theorem dX9_voice_67 : decode cX9_voice 67 = .ok (.invokevirtual 238, 3) := by decide +kernel
theorem dX9_voice_70 : decode cX9_voice 70 = .ok (.goto 25, 3) := by decide +kernel
theorem dX9_voice_73 : decode cX9_voice 73 = .ok (.iload_n 2, 1) := by decide +kernel
theorem dX9_voice_74 : decode cX9_voice 74 = .ok (.iconst 2, 1) := by decide +kernel
theorem dX9_voice_75 : decode cX9_voice 75 = .ok (.if_icmp .ne 13, 3) := by decide +kernel
theorem dX9_voice_78 : decode cX9_voice 78 = .ok (.aload_n 0, 1) := by decide +kernel
theorem dX9_voice_79 : decode cX9_voice 79 = .ok (.iload 4, 2) := by decide +kernel
theorem dX9_voice_81 : decode cX9_voice 81 = .ok (.iload_n 3, 1) := by decide +kernel
theorem dX9_voice_82 : decode cX9_voice 82 = .ok (.invokevirtual 244, 3) := by decide +kernel
theorem dX9_voice_85 : decode cX9_voice 85 = .ok (.goto 10, 3) := by decide +kernel
theorem dX9_voice_88 : decode cX9_voice 88 = .ok (.aload_n 0, 1) := by decide +kernel
theorem dX9_voice_89 : decode cX9_voice 89 = .ok (.iload 4, 2) := by decide +kernel
theorem dX9_voice_91 : decode cX9_voice 91 = .ok (.iload_n 3, 1) := by decide +kernel
theorem dX9_voice_92 : decode cX9_voice 92 = .ok (.invokevirtual 251, 3) := by decide +kernel
theorem dX9_voice_95 : decode cX9_voice 95 = .ok (.istore 5, 2) := by decide +kernel
theorem dX9_voice_97 : decode cX9_voice 97 = .ok (.aload_n 0, 1) := by decide +kernel
theorem dX9_voice_98 : decode cX9_voice 98 = .ok (.getfield 247, 3) := by decide +kernel
theorem dX9_voice_101 : decode cX9_voice 101 = .ok (.ifCond .eq 12, 3) := by decide +kernel
theorem dX9_voice_104 : decode cX9_voice 104 = .ok (.aload_n 0, 1) := by decide +kernel
theorem dX9_voice_105 : decode cX9_voice 105 = .ok (.bipush 6, 2) := by decide +kernel
theorem dX9_voice_107 : decode cX9_voice 107 = .ok (.invokevirtual 83, 3) := by decide +kernel
theorem dX9_voice_110 : decode cX9_voice 110 = .ok (.goto 5, 3) := by decide +kernel
theorem dX9_voice_113 : decode cX9_voice 113 = .ok (.iload 5, 2) := by decide +kernel
theorem dX9_voice_115 : decode cX9_voice 115 = .ok (.ireturn, 1) := by decide +kernel
theorem dX9_body_0 : decode cX9_body 0 = .ok (.iload_n 1, 1) := by decide +kernel
theorem dX9_body_1 : decode cX9_body 1 = .ok (.iconst 0, 1) := by decide +kernel
theorem dX9_body_2 : decode cX9_body 2 = .ok (.aload_n 0, 1) := by decide +kernel
theorem dX9_body_3 : decode cX9_body 3 = .ok (.getfield 219, 3) := by decide +kernel
theorem dX9_body_6 : decode cX9_body 6 = .ok (.iconst 1, 1) := by decide +kernel
theorem dX9_body_7 : decode cX9_body 7 = .ok (.isub, 1) := by decide +kernel
theorem dX9_body_8 : decode cX9_body 8 = .ok (.invokestatic 63, 3) := by decide +kernel
theorem dX9_body_11 : decode cX9_body 11 = .ok (.ifCond .eq 12, 3) := by decide +kernel
theorem dX9_body_14 : decode cX9_body 14 = .ok (.aload_n 0, 1) := by decide +kernel
theorem dX9_body_15 : decode cX9_body 15 = .ok (.getfield 47, 3) := by decide +kernel
theorem dX9_body_18 : decode cX9_body 18 = .ok (.iload_n 1, 1) := by decide +kernel
theorem dX9_body_19 : decode cX9_body 19 = .ok (.iaload, 1) := by decide +kernel
theorem dX9_body_20 : decode cX9_body 20 = .ok (.goto 8, 3) := by decide +kernel
theorem dX9_body_23 : decode cX9_body 23 = .ok (.aload_n 0, 1) := by decide +kernel
theorem dX9_body_24 : decode cX9_body 24 = .ok (.iconst 2, 1) := by decide +kernel
theorem dX9_body_25 : decode cX9_body 25 = .ok (.invokevirtual 83, 3) := by decide +kernel
theorem dX9_body_28 : decode cX9_body 28 = .ok (.ireturn, 1) := by decide +kernel
theorem dX9_isSheet_0 : decode cX9_isSheet 0 = .ok (.iload_n 0, 1) := by decide +kernel
theorem dX9_isSheet_1 : decode cX9_isSheet 1 = .ok (.iconst 0, 1) := by decide +kernel
theorem dX9_isSheet_2 : decode cX9_isSheet 2 = .ok (.iconst 3, 1) := by decide +kernel
theorem dX9_isSheet_3 : decode cX9_isSheet 3 = .ok (.invokestatic 63, 3) := by decide +kernel
theorem dX9_isSheet_6 : decode cX9_isSheet 6 = .ok (.ireturn, 1) := by decide +kernel
theorem dX9_sheet_0 : decode cX9_sheet 0 = .ok (.iload_n 1, 1) := by decide +kernel
theorem dX9_sheet_1 : decode cX9_sheet 1 = .ok (.invokestatic 254, 3) := by decide +kernel
theorem dX9_sheet_4 : decode cX9_sheet 4 = .ok (.ifCond .eq 25, 3) := by decide +kernel
theorem dX9_sheet_7 : decode cX9_sheet 7 = .ok (.iload_n 2, 1) := by decide +kernel
theorem dX9_sheet_8 : decode cX9_sheet 8 = .ok (.ifCond .eq 27, 3) := by decide +kernel
theorem dX9_sheet_11 : decode cX9_sheet 11 = .ok (.iload_n 2, 1) := by decide +kernel
theorem dX9_sheet_12 : decode cX9_sheet 12 = .ok (.bipush 8, 2) := by decide +kernel
theorem dX9_sheet_14 : decode cX9_sheet 14 = .ok (.if_icmp .eq 21, 3) := by decide +kernel
theorem dX9_sheet_17 : decode cX9_sheet 17 = .ok (.iload_n 2, 1) := by decide +kernel
theorem dX9_sheet_18 : decode cX9_sheet 18 = .ok (.bipush 16, 2) := by decide +kernel
theorem dX9_sheet_20 : decode cX9_sheet 20 = .ok (.if_icmp .eq 15, 3) := by decide +kernel
theorem dX9_sheet_23 : decode cX9_sheet 23 = .ok (.iload_n 2, 1) := by decide +kernel
theorem dX9_sheet_24 : decode cX9_sheet 24 = .ok (.bipush 32, 2) := by decide +kernel
theorem dX9_sheet_26 : decode cX9_sheet 26 = .ok (.if_icmp .eq 9, 3) := by decide +kernel
theorem dX9_sheet_29 : decode cX9_sheet 29 = .ok (.aload_n 0, 1) := by decide +kernel
theorem dX9_sheet_30 : decode cX9_sheet 30 = .ok (.iconst 1, 1) := by decide +kernel
theorem dX9_sheet_31 : decode cX9_sheet 31 = .ok (.invokevirtual 83, 3) := by decide +kernel
theorem dX9_sheet_34 : decode cX9_sheet 34 = .ok (.ireturn, 1) := by decide +kernel
theorem dX9_sheet_35 : decode cX9_sheet 35 = .ok (.iload_n 2, 1) := by decide +kernel
theorem dX9_sheet_36 : decode cX9_sheet 36 = .ok (.ifCond .eq 13, 3) := by decide +kernel
theorem dX9_sheet_39 : decode cX9_sheet 39 = .ok (.iload_n 3, 1) := by decide +kernel
theorem dX9_sheet_40 : decode cX9_sheet 40 = .ok (.ifCond .ge 9, 3) := by decide +kernel
theorem dX9_sheet_43 : decode cX9_sheet 43 = .ok (.aload_n 0, 1) := by decide +kernel
theorem dX9_sheet_44 : decode cX9_sheet 44 = .ok (.iconst 3, 1) := by decide +kernel
theorem dX9_sheet_45 : decode cX9_sheet 45 = .ok (.invokevirtual 83, 3) := by decide +kernel
theorem dX9_sheet_48 : decode cX9_sheet 48 = .ok (.ireturn, 1) := by decide +kernel
theorem dX9_sheet_49 : decode cX9_sheet 49 = .ok (.iload_n 2, 1) := by decide +kernel
theorem dX9_sheet_50 : decode cX9_sheet 50 = .ok (.ifCond .eq 15, 3) := by decide +kernel
theorem dX9_sheet_53 : decode cX9_sheet 53 = .ok (.iload_n 3, 1) := by decide +kernel
theorem dX9_sheet_54 : decode cX9_sheet 54 = .ok (.bipush 24, 2) := by decide +kernel
theorem dX9_sheet_56 : decode cX9_sheet 56 = .ok (.if_icmp .le 9, 3) := by decide +kernel
theorem dX9_sheet_59 : decode cX9_sheet 59 = .ok (.aload_n 0, 1) := by decide +kernel
theorem dX9_sheet_60 : decode cX9_sheet 60 = .ok (.iconst 1, 1) := by decide +kernel
theorem dX9_sheet_61 : decode cX9_sheet 61 = .ok (.invokevirtual 83, 3) := by decide +kernel
theorem dX9_sheet_64 : decode cX9_sheet 64 = .ok (.ireturn, 1) := by decide +kernel
theorem dX9_sheet_65 : decode cX9_sheet 65 = .ok (.aload_n 0, 1) := by decide +kernel
theorem dX9_sheet_66 : decode cX9_sheet 66 = .ok (.getfield 50, 3) := by decide +kernel
theorem dX9_sheet_69 : decode cX9_sheet 69 = .ok (.iload_n 1, 1) := by decide +kernel
theorem dX9_sheet_70 : decode cX9_sheet 70 = .ok (.iload_n 2, 1) := by decide +kernel
theorem dX9_sheet_71 : decode cX9_sheet 71 = .ok (.iastore, 1) := by decide +kernel
theorem dX9_sheet_72 : decode cX9_sheet 72 = .ok (.aload_n 0, 1) := by decide +kernel
theorem dX9_sheet_73 : decode cX9_sheet 73 = .ok (.getfield 53, 3) := by decide +kernel
theorem dX9_sheet_76 : decode cX9_sheet 76 = .ok (.iload_n 1, 1) := by decide +kernel
theorem dX9_sheet_77 : decode cX9_sheet 77 = .ok (.iload_n 2, 1) := by decide +kernel
theorem dX9_sheet_78 : decode cX9_sheet 78 = .ok (.ifCond .ne 7, 3) := by decide +kernel
theorem dX9_sheet_81 : decode cX9_sheet 81 = .ok (.iconst 0, 1) := by decide +kernel
theorem dX9_sheet_82 : decode cX9_sheet 82 = .ok (.goto 4, 3) := by decide +kernel
theorem dX9_sheet_85 : decode cX9_sheet 85 = .ok (.iload_n 3, 1) := by decide +kernel
theorem dX9_sheet_86 : decode cX9_sheet 86 = .ok (.iastore, 1) := by decide +kernel
theorem dX9_sheet_87 : decode cX9_sheet 87 = .ok (.iconst 0, 1) := by decide +kernel
theorem dX9_sheet_88 : decode cX9_sheet 88 = .ok (.istore 4, 2) := by decide +kernel
theorem dX9_sheet_90 : decode cX9_sheet 90 = .ok (.iload 4, 2) := by decide +kernel
theorem dX9_sheet_92 : decode cX9_sheet 92 = .ok (.bipush 24, 2) := by decide +kernel
theorem dX9_sheet_94 : decode cX9_sheet 94 = .ok (.if_icmp .ge 22, 3) := by decide +kernel
theorem dX9_sheet_97 : decode cX9_sheet 97 = .ok (.aload_n 0, 1) := by decide +kernel
theorem dX9_sheet_98 : decode cX9_sheet 98 = .ok (.getfield 56, 3) := by decide +kernel
theorem dX9_sheet_101 : decode cX9_sheet 101 = .ok (.bipush 24, 2) := by decide +kernel
theorem dX9_sheet_103 : decode cX9_sheet 103 = .ok (.iload_n 1, 1) := by decide +kernel
theorem dX9_sheet_104 : decode cX9_sheet 104 = .ok (.imul, 1) := by decide +kernel
theorem dX9_sheet_105 : decode cX9_sheet 105 = .ok (.iload 4, 2) := by decide +kernel
theorem dX9_sheet_107 : decode cX9_sheet 107 = .ok (.iadd, 1) := by decide +kernel
theorem dX9_sheet_108 : decode cX9_sheet 108 = .ok (.iconst 0, 1) := by decide +kernel
theorem dX9_sheet_109 : decode cX9_sheet 109 = .ok (.iastore, 1) := by decide +kernel
theorem dX9_sheet_110 : decode cX9_sheet 110 = .ok (.iinc 4 1, 3) := by decide +kernel
theorem dX9_sheet_113 : decode cX9_sheet 113 = .ok (.goto (-23), 3) := by decide +kernel
theorem dX9_sheet_116 : decode cX9_sheet 116 = .ok (.iconst 1, 1) := by decide +kernel
theorem dX9_sheet_117 : decode cX9_sheet 117 = .ok (.ireturn, 1) := by decide +kernel
theorem dX9_put_0 : decode cX9_put 0 = .ok (.iload_n 1, 1) := by decide +kernel
theorem dX9_put_1 : decode cX9_put 1 = .ok (.invokestatic 254, 3) := by decide +kernel
theorem dX9_put_4 : decode cX9_put 4 = .ok (.ifCond .ne 9, 3) := by decide +kernel
theorem dX9_put_7 : decode cX9_put 7 = .ok (.aload_n 0, 1) := by decide +kernel
theorem dX9_put_8 : decode cX9_put 8 = .ok (.iconst 1, 1) := by decide +kernel
theorem dX9_put_9 : decode cX9_put 9 = .ok (.invokevirtual 83, 3) := by decide +kernel
theorem dX9_put_12 : decode cX9_put 12 = .ok (.ireturn, 1) := by decide +kernel
theorem dX9_put_13 : decode cX9_put 13 = .ok (.aload_n 0, 1) := by decide +kernel
theorem dX9_put_14 : decode cX9_put 14 = .ok (.getfield 50, 3) := by decide +kernel
theorem dX9_put_17 : decode cX9_put 17 = .ok (.iload_n 1, 1) := by decide +kernel
theorem dX9_put_18 : decode cX9_put 18 = .ok (.iaload, 1) := by decide +kernel
theorem dX9_put_19 : decode cX9_put 19 = .ok (.ifCond .ne 9, 3) := by decide +kernel
theorem dX9_put_22 : decode cX9_put 22 = .ok (.aload_n 0, 1) := by decide +kernel
theorem dX9_put_23 : decode cX9_put 23 = .ok (.iconst 2, 1) := by decide +kernel
theorem dX9_put_24 : decode cX9_put 24 = .ok (.invokevirtual 83, 3) := by decide +kernel
theorem dX9_put_27 : decode cX9_put 27 = .ok (.ireturn, 1) := by decide +kernel
theorem dX9_put_28 : decode cX9_put 28 = .ok (.iload_n 2, 1) := by decide +kernel
theorem dX9_put_29 : decode cX9_put 29 = .ok (.iconst 0, 1) := by decide +kernel
theorem dX9_put_30 : decode cX9_put 30 = .ok (.aload_n 0, 1) := by decide +kernel
theorem dX9_put_31 : decode cX9_put 31 = .ok (.getfield 53, 3) := by decide +kernel
theorem dX9_put_34 : decode cX9_put 34 = .ok (.iload_n 1, 1) := by decide +kernel
theorem dX9_put_35 : decode cX9_put 35 = .ok (.iaload, 1) := by decide +kernel
theorem dX9_put_36 : decode cX9_put 36 = .ok (.iconst 1, 1) := by decide +kernel
theorem dX9_put_37 : decode cX9_put 37 = .ok (.isub, 1) := by decide +kernel
theorem dX9_put_38 : decode cX9_put 38 = .ok (.invokestatic 63, 3) := by decide +kernel
theorem dX9_put_41 : decode cX9_put 41 = .ok (.ifCond .ne 9, 3) := by decide +kernel
theorem dX9_put_44 : decode cX9_put 44 = .ok (.aload_n 0, 1) := by decide +kernel
theorem dX9_put_45 : decode cX9_put 45 = .ok (.iconst 1, 1) := by decide +kernel
theorem dX9_put_46 : decode cX9_put 46 = .ok (.invokevirtual 83, 3) := by decide +kernel
theorem dX9_put_49 : decode cX9_put 49 = .ok (.ireturn, 1) := by decide +kernel
theorem dX9_put_50 : decode cX9_put 50 = .ok (.bipush 32, 2) := by decide +kernel
theorem dX9_put_52 : decode cX9_put 52 = .ok (.aload_n 0, 1) := by decide +kernel
theorem dX9_put_53 : decode cX9_put 53 = .ok (.getfield 50, 3) := by decide +kernel
theorem dX9_put_56 : decode cX9_put 56 = .ok (.iload_n 1, 1) := by decide +kernel
theorem dX9_put_57 : decode cX9_put 57 = .ok (.iaload, 1) := by decide +kernel
theorem dX9_put_58 : decode cX9_put 58 = .ok (.isub, 1) := by decide +kernel
theorem dX9_put_59 : decode cX9_put 59 = .ok (.istore 4, 2) := by decide +kernel
theorem dX9_put_61 : decode cX9_put 61 = .ok (.aload_n 0, 1) := by decide +kernel
theorem dX9_put_62 : decode cX9_put 62 = .ok (.getfield 56, 3) := by decide +kernel
theorem dX9_put_65 : decode cX9_put 65 = .ok (.bipush 24, 2) := by decide +kernel
theorem dX9_put_67 : decode cX9_put 67 = .ok (.iload_n 1, 1) := by decide +kernel
theorem dX9_put_68 : decode cX9_put 68 = .ok (.imul, 1) := by decide +kernel
theorem dX9_put_69 : decode cX9_put 69 = .ok (.iload_n 2, 1) := by decide +kernel
theorem dX9_put_70 : decode cX9_put 70 = .ok (.iadd, 1) := by decide +kernel
theorem dX9_put_71 : decode cX9_put 71 = .ok (.iload_n 3, 1) := by decide +kernel
theorem dX9_put_72 : decode cX9_put 72 = .ok (.iload 4, 2) := by decide +kernel
theorem dX9_put_74 : decode cX9_put 74 = .ok (.ishl, 1) := by decide +kernel
theorem dX9_put_75 : decode cX9_put 75 = .ok (.iload 4, 2) := by decide +kernel
theorem dX9_put_77 : decode cX9_put 77 = .ok (.ishr, 1) := by decide +kernel
theorem dX9_put_78 : decode cX9_put 78 = .ok (.iastore, 1) := by decide +kernel
theorem dX9_put_79 : decode cX9_put 79 = .ok (.iconst 1, 1) := by decide +kernel
theorem dX9_put_80 : decode cX9_put 80 = .ok (.ireturn, 1) := by decide +kernel
theorem dX9_move_0 : decode cX9_move 0 = .ok (.iload_n 1, 1) := by decide +kernel
theorem dX9_move_1 : decode cX9_move 1 = .ok (.invokestatic 254, 3) := by decide +kernel
theorem dX9_move_4 : decode cX9_move 4 = .ok (.ifCond .eq 10, 3) := by decide +kernel
theorem dX9_move_7 : decode cX9_move 7 = .ok (.iload_n 3, 1) := by decide +kernel
theorem dX9_move_8 : decode cX9_move 8 = .ok (.invokestatic 254, 3) := by decide +kernel
theorem dX9_move_11 : decode cX9_move 11 = .ok (.ifCond .ne 9, 3) := by decide +kernel
theorem dX9_move_14 : decode cX9_move 14 = .ok (.aload_n 0, 1) := by decide +kernel
theorem dX9_move_15 : decode cX9_move 15 = .ok (.iconst 1, 1) := by decide +kernel
theorem dX9_move_16 : decode cX9_move 16 = .ok (.invokevirtual 83, 3) := by decide +kernel
theorem dX9_move_19 : decode cX9_move 19 = .ok (.ireturn, 1) := by decide +kernel
theorem dX9_move_20 : decode cX9_move 20 = .ok (.aload_n 0, 1) := by decide +kernel
theorem dX9_move_21 : decode cX9_move 21 = .ok (.getfield 50, 3) := by decide +kernel
theorem dX9_move_24 : decode cX9_move 24 = .ok (.iload_n 1, 1) := by decide +kernel
theorem dX9_move_25 : decode cX9_move 25 = .ok (.iaload, 1) := by decide +kernel
theorem dX9_move_26 : decode cX9_move 26 = .ok (.ifCond .eq 12, 3) := by decide +kernel
theorem dX9_move_29 : decode cX9_move 29 = .ok (.aload_n 0, 1) := by decide +kernel
theorem dX9_move_30 : decode cX9_move 30 = .ok (.getfield 50, 3) := by decide +kernel
theorem dX9_move_33 : decode cX9_move 33 = .ok (.iload_n 3, 1) := by decide +kernel
theorem dX9_move_34 : decode cX9_move 34 = .ok (.iaload, 1) := by decide +kernel
theorem dX9_move_35 : decode cX9_move 35 = .ok (.ifCond .ne 9, 3) := by decide +kernel
theorem dX9_move_38 : decode cX9_move 38 = .ok (.aload_n 0, 1) := by decide +kernel
theorem dX9_move_39 : decode cX9_move 39 = .ok (.iconst 2, 1) := by decide +kernel
theorem dX9_move_40 : decode cX9_move 40 = .ok (.invokevirtual 83, 3) := by decide +kernel
theorem dX9_move_43 : decode cX9_move 43 = .ok (.ireturn, 1) := by decide +kernel
theorem dX9_move_44 : decode cX9_move 44 = .ok (.aload_n 0, 1) := by decide +kernel
theorem dX9_move_45 : decode cX9_move 45 = .ok (.getfield 50, 3) := by decide +kernel
theorem dX9_move_48 : decode cX9_move 48 = .ok (.iload_n 1, 1) := by decide +kernel
theorem dX9_move_49 : decode cX9_move 49 = .ok (.iaload, 1) := by decide +kernel
theorem dX9_move_50 : decode cX9_move 50 = .ok (.aload_n 0, 1) := by decide +kernel
theorem dX9_move_51 : decode cX9_move 51 = .ok (.getfield 50, 3) := by decide +kernel
theorem dX9_move_54 : decode cX9_move 54 = .ok (.iload_n 3, 1) := by decide +kernel
theorem dX9_move_55 : decode cX9_move 55 = .ok (.iaload, 1) := by decide +kernel
theorem dX9_move_56 : decode cX9_move 56 = .ok (.if_icmp .eq 9, 3) := by decide +kernel
theorem dX9_move_59 : decode cX9_move 59 = .ok (.aload_n 0, 1) := by decide +kernel
theorem dX9_move_60 : decode cX9_move 60 = .ok (.iconst 5, 1) := by decide +kernel
theorem dX9_move_61 : decode cX9_move 61 = .ok (.invokevirtual 83, 3) := by decide +kernel
theorem dX9_move_64 : decode cX9_move 64 = .ok (.ireturn, 1) := by decide +kernel
theorem dX9_move_65 : decode cX9_move 65 = .ok (.iload 5, 2) := by decide +kernel
theorem dX9_move_67 : decode cX9_move 67 = .ok (.ifCond .lt 39, 3) := by decide +kernel
theorem dX9_move_70 : decode cX9_move 70 = .ok (.iload_n 2, 1) := by decide +kernel
theorem dX9_move_71 : decode cX9_move 71 = .ok (.ifCond .lt 35, 3) := by decide +kernel
theorem dX9_move_74 : decode cX9_move 74 = .ok (.iload 4, 2) := by decide +kernel
theorem dX9_move_76 : decode cX9_move 76 = .ok (.ifCond .lt 30, 3) := by decide +kernel
theorem dX9_move_79 : decode cX9_move 79 = .ok (.iload_n 2, 1) := by decide +kernel
theorem dX9_move_80 : decode cX9_move 80 = .ok (.aload_n 0, 1) := by decide +kernel
theorem dX9_move_81 : decode cX9_move 81 = .ok (.getfield 53, 3) := by decide +kernel
theorem dX9_move_84 : decode cX9_move 84 = .ok (.iload_n 1, 1) := by decide +kernel
theorem dX9_move_85 : decode cX9_move 85 = .ok (.iaload, 1) := by decide +kernel
theorem dX9_move_86 : decode cX9_move 86 = .ok (.iload 5, 2) := by decide +kernel
theorem dX9_move_88 : decode cX9_move 88 = .ok (.isub, 1) := by decide +kernel
theorem dX9_move_89 : decode cX9_move 89 = .ok (.if_icmp .gt 17, 3) := by decide +kernel
theorem dX9_move_92 : decode cX9_move 92 = .ok (.iload 4, 2) := by decide +kernel
theorem dX9_move_94 : decode cX9_move 94 = .ok (.aload_n 0, 1) := by decide +kernel
theorem dX9_move_95 : decode cX9_move 95 = .ok (.getfield 53, 3) := by decide +kernel
theorem dX9_move_98 : decode cX9_move 98 = .ok (.iload_n 3, 1) := by decide +kernel
theorem dX9_move_99 : decode cX9_move 99 = .ok (.iaload, 1) := by decide +kernel
theorem dX9_move_100 : decode cX9_move 100 = .ok (.iload 5, 2) := by decide +kernel
theorem dX9_move_102 : decode cX9_move 102 = .ok (.isub, 1) := by decide +kernel
theorem dX9_move_103 : decode cX9_move 103 = .ok (.if_icmp .le 9, 3) := by decide +kernel
theorem dX9_move_106 : decode cX9_move 106 = .ok (.aload_n 0, 1) := by decide +kernel
theorem dX9_move_107 : decode cX9_move 107 = .ok (.iconst 1, 1) := by decide +kernel
theorem dX9_move_108 : decode cX9_move 108 = .ok (.invokevirtual 83, 3) := by decide +kernel
theorem dX9_move_111 : decode cX9_move 111 = .ok (.ireturn, 1) := by decide +kernel
theorem dX9_move_112 : decode cX9_move 112 = .ok (.iconst 0, 1) := by decide +kernel
theorem dX9_move_113 : decode cX9_move 113 = .ok (.istore 6, 2) := by decide +kernel
theorem dX9_move_115 : decode cX9_move 115 = .ok (.iload 6, 2) := by decide +kernel
theorem dX9_move_117 : decode cX9_move 117 = .ok (.iload 5, 2) := by decide +kernel
theorem dX9_move_119 : decode cX9_move 119 = .ok (.if_icmp .ge 30, 3) := by decide +kernel
theorem dX9_move_122 : decode cX9_move 122 = .ok (.aload_n 0, 1) := by decide +kernel
theorem dX9_move_123 : decode cX9_move 123 = .ok (.getfield 59, 3) := by decide +kernel
theorem dX9_move_126 : decode cX9_move 126 = .ok (.iload 6, 2) := by decide +kernel
theorem dX9_move_128 : decode cX9_move 128 = .ok (.aload_n 0, 1) := by decide +kernel
theorem dX9_move_129 : decode cX9_move 129 = .ok (.getfield 56, 3) := by decide +kernel
theorem dX9_move_132 : decode cX9_move 132 = .ok (.bipush 24, 2) := by decide +kernel
theorem dX9_move_134 : decode cX9_move 134 = .ok (.iload_n 1, 1) := by decide +kernel
theorem dX9_move_135 : decode cX9_move 135 = .ok (.imul, 1) := by decide +kernel
theorem dX9_move_136 : decode cX9_move 136 = .ok (.iload_n 2, 1) := by decide +kernel
theorem dX9_move_137 : decode cX9_move 137 = .ok (.iadd, 1) := by decide +kernel
theorem dX9_move_138 : decode cX9_move 138 = .ok (.iload 6, 2) := by decide +kernel
theorem dX9_move_140 : decode cX9_move 140 = .ok (.iadd, 1) := by decide +kernel
theorem dX9_move_141 : decode cX9_move 141 = .ok (.iaload, 1) := by decide +kernel
theorem dX9_move_142 : decode cX9_move 142 = .ok (.iastore, 1) := by decide +kernel
theorem dX9_move_143 : decode cX9_move 143 = .ok (.iinc 6 1, 3) := by decide +kernel
theorem dX9_move_146 : decode cX9_move 146 = .ok (.goto (-31), 3) := by decide +kernel
theorem dX9_move_149 : decode cX9_move 149 = .ok (.iconst 0, 1) := by decide +kernel
theorem dX9_move_150 : decode cX9_move 150 = .ok (.istore 6, 2) := by decide +kernel
theorem dX9_move_152 : decode cX9_move 152 = .ok (.iload 6, 2) := by decide +kernel
theorem dX9_move_154 : decode cX9_move 154 = .ok (.iload 5, 2) := by decide +kernel
theorem dX9_move_156 : decode cX9_move 156 = .ok (.if_icmp .ge 31, 3) := by decide +kernel
theorem dX9_move_159 : decode cX9_move 159 = .ok (.aload_n 0, 1) := by decide +kernel
theorem dX9_move_160 : decode cX9_move 160 = .ok (.getfield 56, 3) := by decide +kernel
theorem dX9_move_163 : decode cX9_move 163 = .ok (.bipush 24, 2) := by decide +kernel
theorem dX9_move_165 : decode cX9_move 165 = .ok (.iload_n 3, 1) := by decide +kernel
theorem dX9_move_166 : decode cX9_move 166 = .ok (.imul, 1) := by decide +kernel
theorem dX9_move_167 : decode cX9_move 167 = .ok (.iload 4, 2) := by decide +kernel
theorem dX9_move_169 : decode cX9_move 169 = .ok (.iadd, 1) := by decide +kernel
theorem dX9_move_170 : decode cX9_move 170 = .ok (.iload 6, 2) := by decide +kernel
theorem dX9_move_172 : decode cX9_move 172 = .ok (.iadd, 1) := by decide +kernel
theorem dX9_move_173 : decode cX9_move 173 = .ok (.aload_n 0, 1) := by decide +kernel
theorem dX9_move_174 : decode cX9_move 174 = .ok (.getfield 59, 3) := by decide +kernel
theorem dX9_move_177 : decode cX9_move 177 = .ok (.iload 6, 2) := by decide +kernel
theorem dX9_move_179 : decode cX9_move 179 = .ok (.iaload, 1) := by decide +kernel
theorem dX9_move_180 : decode cX9_move 180 = .ok (.iastore, 1) := by decide +kernel
theorem dX9_move_181 : decode cX9_move 181 = .ok (.iinc 6 1, 3) := by decide +kernel
theorem dX9_move_184 : decode cX9_move 184 = .ok (.goto (-32), 3) := by decide +kernel
theorem dX9_move_187 : decode cX9_move 187 = .ok (.iload 5, 2) := by decide +kernel
theorem dX9_move_189 : decode cX9_move 189 = .ok (.ireturn, 1) := by decide +kernel
theorem dX9_lacks_0 : decode cX9_lacks 0 = .ok (.iload_n 1, 1) := by decide +kernel
theorem dX9_lacks_1 : decode cX9_lacks 1 = .ok (.invokestatic 254, 3) := by decide +kernel
theorem dX9_lacks_4 : decode cX9_lacks 4 = .ok (.ifCond .ne 7, 3) := by decide +kernel
theorem dX9_lacks_7 : decode cX9_lacks 7 = .ok (.iconst 1, 1) := by decide +kernel
theorem dX9_lacks_8 : decode cX9_lacks 8 = .ok (.goto 17, 3) := by decide +kernel
theorem dX9_lacks_11 : decode cX9_lacks 11 = .ok (.aload_n 0, 1) := by decide +kernel
theorem dX9_lacks_12 : decode cX9_lacks 12 = .ok (.getfield 50, 3) := by decide +kernel
theorem dX9_lacks_15 : decode cX9_lacks 15 = .ok (.iload_n 1, 1) := by decide +kernel
theorem dX9_lacks_16 : decode cX9_lacks 16 = .ok (.iaload, 1) := by decide +kernel
theorem dX9_lacks_17 : decode cX9_lacks 17 = .ok (.ifCond .ne 7, 3) := by decide +kernel
theorem dX9_lacks_20 : decode cX9_lacks 20 = .ok (.iconst 2, 1) := by decide +kernel
theorem dX9_lacks_21 : decode cX9_lacks 21 = .ok (.goto 4, 3) := by decide +kernel
theorem dX9_lacks_24 : decode cX9_lacks 24 = .ok (.iconst 0, 1) := by decide +kernel
theorem dX9_lacks_25 : decode cX9_lacks 25 = .ok (.ireturn, 1) := by decide +kernel
theorem dX9_papers_0 : decode cX9_papers 0 = .ok (.aload_n 0, 1) := by decide +kernel
theorem dX9_papers_1 : decode cX9_papers 1 = .ok (.iload_n 1, 1) := by decide +kernel
theorem dX9_papers_2 : decode cX9_papers 2 = .ok (.invokevirtual 257, 3) := by decide +kernel
theorem dX9_papers_5 : decode cX9_papers 5 = .ok (.istore_n 2, 1) := by decide +kernel
theorem dX9_papers_6 : decode cX9_papers 6 = .ok (.iload_n 2, 1) := by decide +kernel
theorem dX9_papers_7 : decode cX9_papers 7 = .ok (.ifCond .le 9, 3) := by decide +kernel
theorem dX9_papers_10 : decode cX9_papers 10 = .ok (.aload_n 0, 1) := by decide +kernel
theorem dX9_papers_11 : decode cX9_papers 11 = .ok (.iload_n 2, 1) := by decide +kernel
theorem dX9_papers_12 : decode cX9_papers 12 = .ok (.invokevirtual 83, 3) := by decide +kernel
theorem dX9_papers_15 : decode cX9_papers 15 = .ok (.ireturn, 1) := by decide +kernel
theorem dX9_papers_16 : decode cX9_papers 16 = .ok (.iconst 0, 1) := by decide +kernel
theorem dX9_papers_17 : decode cX9_papers 17 = .ok (.istore_n 3, 1) := by decide +kernel
theorem dX9_papers_18 : decode cX9_papers 18 = .ok (.bipush 24, 2) := by decide +kernel
theorem dX9_papers_20 : decode cX9_papers 20 = .ok (.iload_n 1, 1) := by decide +kernel
theorem dX9_papers_21 : decode cX9_papers 21 = .ok (.imul, 1) := by decide +kernel
theorem dX9_papers_22 : decode cX9_papers 22 = .ok (.istore 4, 2) := by decide +kernel
theorem dX9_papers_24 : decode cX9_papers 24 = .ok (.iconst 2, 1) := by decide +kernel
theorem dX9_papers_25 : decode cX9_papers 25 = .ok (.iload_n 3, 1) := by decide +kernel
theorem dX9_papers_26 : decode cX9_papers 26 = .ok (.imul, 1) := by decide +kernel
theorem dX9_papers_27 : decode cX9_papers 27 = .ok (.iconst 1, 1) := by decide +kernel
theorem dX9_papers_28 : decode cX9_papers 28 = .ok (.iadd, 1) := by decide +kernel
theorem dX9_papers_29 : decode cX9_papers 29 = .ok (.aload_n 0, 1) := by decide +kernel
theorem dX9_papers_30 : decode cX9_papers 30 = .ok (.getfield 53, 3) := by decide +kernel
theorem dX9_papers_33 : decode cX9_papers 33 = .ok (.iload_n 1, 1) := by decide +kernel
theorem dX9_papers_34 : decode cX9_papers 34 = .ok (.iaload, 1) := by decide +kernel
theorem dX9_papers_35 : decode cX9_papers 35 = .ok (.if_icmp .ge 78, 3) := by decide +kernel
theorem dX9_papers_38 : decode cX9_papers 38 = .ok (.aload_n 0, 1) := by decide +kernel
theorem dX9_papers_39 : decode cX9_papers 39 = .ok (.getfield 7, 3) := by decide +kernel
theorem dX9_papers_42 : decode cX9_papers 42 = .ok (.iconst 2, 1) := by decide +kernel
theorem dX9_papers_43 : decode cX9_papers 43 = .ok (.iaload, 1) := by decide +kernel
theorem dX9_papers_44 : decode cX9_papers 44 = .ok (.bipush 8, 2) := by decide +kernel
theorem dX9_papers_46 : decode cX9_papers 46 = .ok (.if_icmp .ge 67, 3) := by decide +kernel
theorem dX9_papers_49 : decode cX9_papers 49 = .ok (.aload_n 0, 1) := by decide +kernel
theorem dX9_papers_50 : decode cX9_papers 50 = .ok (.getfield 56, 3) := by decide +kernel
theorem dX9_papers_53 : decode cX9_papers 53 = .ok (.iload 4, 2) := by decide +kernel
theorem dX9_papers_55 : decode cX9_papers 55 = .ok (.iconst 2, 1) := by decide +kernel
theorem dX9_papers_56 : decode cX9_papers 56 = .ok (.iload_n 3, 1) := by decide +kernel
theorem dX9_papers_57 : decode cX9_papers 57 = .ok (.imul, 1) := by decide +kernel
theorem dX9_papers_58 : decode cX9_papers 58 = .ok (.iadd, 1) := by decide +kernel
theorem dX9_papers_59 : decode cX9_papers 59 = .ok (.iaload, 1) := by decide +kernel
theorem dX9_papers_60 : decode cX9_papers 60 = .ok (.aload_n 0, 1) := by decide +kernel
theorem dX9_papers_61 : decode cX9_papers 61 = .ok (.getfield 56, 3) := by decide +kernel
theorem dX9_papers_64 : decode cX9_papers 64 = .ok (.iload 4, 2) := by decide +kernel
theorem dX9_papers_66 : decode cX9_papers 66 = .ok (.iconst 2, 1) := by decide +kernel
theorem dX9_papers_67 : decode cX9_papers 67 = .ok (.iload_n 3, 1) := by decide +kernel
theorem dX9_papers_68 : decode cX9_papers 68 = .ok (.imul, 1) := by decide +kernel
theorem dX9_papers_69 : decode cX9_papers 69 = .ok (.iadd, 1) := by decide +kernel
theorem dX9_papers_70 : decode cX9_papers 70 = .ok (.iconst 1, 1) := by decide +kernel
theorem dX9_papers_71 : decode cX9_papers 71 = .ok (.iadd, 1) := by decide +kernel
theorem dX9_papers_72 : decode cX9_papers 72 = .ok (.iaload, 1) := by decide +kernel
theorem dX9_papers_73 : decode cX9_papers 73 = .ok (.invokestatic 100, 3) := by decide +kernel
theorem dX9_papers_76 : decode cX9_papers 76 = .ok (.ifCond .eq 37, 3) := by decide +kernel
theorem dX9_papers_79 : decode cX9_papers 79 = .ok (.aload_n 0, 1) := by decide +kernel
theorem dX9_papers_80 : decode cX9_papers 80 = .ok (.aload_n 0, 1) := by decide +kernel
theorem dX9_papers_81 : decode cX9_papers 81 = .ok (.getfield 56, 3) := by decide +kernel
theorem dX9_papers_84 : decode cX9_papers 84 = .ok (.iload 4, 2) := by decide +kernel
theorem dX9_papers_86 : decode cX9_papers 86 = .ok (.iconst 2, 1) := by decide +kernel
theorem dX9_papers_87 : decode cX9_papers 87 = .ok (.iload_n 3, 1) := by decide +kernel
theorem dX9_papers_88 : decode cX9_papers 88 = .ok (.imul, 1) := by decide +kernel
theorem dX9_papers_89 : decode cX9_papers 89 = .ok (.iadd, 1) := by decide +kernel
theorem dX9_papers_90 : decode cX9_papers 90 = .ok (.iaload, 1) := by decide +kernel
theorem dX9_papers_91 : decode cX9_papers 91 = .ok (.aload_n 0, 1) := by decide +kernel
theorem dX9_papers_92 : decode cX9_papers 92 = .ok (.getfield 56, 3) := by decide +kernel
theorem dX9_papers_95 : decode cX9_papers 95 = .ok (.iload 4, 2) := by decide +kernel
theorem dX9_papers_97 : decode cX9_papers 97 = .ok (.iconst 2, 1) := by decide +kernel
theorem dX9_papers_98 : decode cX9_papers 98 = .ok (.iload_n 3, 1) := by decide +kernel
theorem dX9_papers_99 : decode cX9_papers 99 = .ok (.imul, 1) := by decide +kernel
theorem dX9_papers_100 : decode cX9_papers 100 = .ok (.iadd, 1) := by decide +kernel
theorem dX9_papers_101 : decode cX9_papers 101 = .ok (.iconst 1, 1) := by decide +kernel
theorem dX9_papers_102 : decode cX9_papers 102 = .ok (.iadd, 1) := by decide +kernel
theorem dX9_papers_103 : decode cX9_papers 103 = .ok (.iaload, 1) := by decide +kernel
theorem dX9_papers_104 : decode cX9_papers 104 = .ok (.invokevirtual 200, 3) := by decide +kernel
theorem dX9_papers_107 : decode cX9_papers 107 = .ok (.iinc 3 1, 3) := by decide +kernel
theorem dX9_papers_110 : decode cX9_papers 110 = .ok (.goto (-86), 3) := by decide +kernel
theorem dX9_papers_113 : decode cX9_papers 113 = .ok (.iload_n 3, 1) := by decide +kernel
theorem dX9_papers_114 : decode cX9_papers 114 = .ok (.ireturn, 1) := by decide +kernel
theorem dX9_judge_0 : decode cX9_judge 0 = .ok (.iload_n 2, 1) := by decide +kernel
theorem dX9_judge_1 : decode cX9_judge 1 = .ok (.invokestatic 75, 3) := by decide +kernel
theorem dX9_judge_4 : decode cX9_judge 4 = .ok (.ifCond .eq 22, 3) := by decide +kernel
theorem dX9_judge_7 : decode cX9_judge 7 = .ok (.iload_n 3, 1) := by decide +kernel
theorem dX9_judge_8 : decode cX9_judge 8 = .ok (.iconst 0, 1) := by decide +kernel
theorem dX9_judge_9 : decode cX9_judge 9 = .ok (.sipush 199, 3) := by decide +kernel
theorem dX9_judge_12 : decode cX9_judge 12 = .ok (.invokestatic 63, 3) := by decide +kernel
theorem dX9_judge_15 : decode cX9_judge 15 = .ok (.ifCond .eq 11, 3) := by decide +kernel
theorem dX9_judge_18 : decode cX9_judge 18 = .ok (.aload_n 0, 1) := by decide +kernel
theorem dX9_judge_19 : decode cX9_judge 19 = .ok (.iload_n 1, 1) := by decide +kernel
theorem dX9_judge_20 : decode cX9_judge 20 = .ok (.invokevirtual 257, 3) := by decide +kernel
theorem dX9_judge_23 : decode cX9_judge 23 = .ok (.goto 4, 3) := by decide +kernel
theorem dX9_judge_26 : decode cX9_judge 26 = .ok (.iconst 1, 1) := by decide +kernel
theorem dX9_judge_27 : decode cX9_judge 27 = .ok (.istore 4, 2) := by decide +kernel
theorem dX9_judge_29 : decode cX9_judge 29 = .ok (.iload 4, 2) := by decide +kernel
theorem dX9_judge_31 : decode cX9_judge 31 = .ok (.ifCond .le 10, 3) := by decide +kernel
theorem dX9_judge_34 : decode cX9_judge 34 = .ok (.aload_n 0, 1) := by decide +kernel
theorem dX9_judge_35 : decode cX9_judge 35 = .ok (.iload 4, 2) := by decide +kernel
theorem dX9_judge_37 : decode cX9_judge 37 = .ok (.invokevirtual 83, 3) := by decide +kernel
theorem dX9_judge_40 : decode cX9_judge 40 = .ok (.ireturn, 1) := by decide +kernel
theorem dX9_judge_41 : decode cX9_judge 41 = .ok (.aload_n 0, 1) := by decide +kernel
theorem dX9_judge_42 : decode cX9_judge 42 = .ok (.invokevirtual 91, 3) := by decide +kernel
theorem dX9_judge_45 : decode cX9_judge 45 = .ok (.iconst 0, 1) := by decide +kernel
theorem dX9_judge_46 : decode cX9_judge 46 = .ok (.istore 5, 2) := by decide +kernel
theorem dX9_judge_48 : decode cX9_judge 48 = .ok (.iload 5, 2) := by decide +kernel
theorem dX9_judge_50 : decode cX9_judge 50 = .ok (.aload_n 0, 1) := by decide +kernel
theorem dX9_judge_51 : decode cX9_judge 51 = .ok (.getfield 53, 3) := by decide +kernel
theorem dX9_judge_54 : decode cX9_judge 54 = .ok (.iload_n 1, 1) := by decide +kernel
theorem dX9_judge_55 : decode cX9_judge 55 = .ok (.iaload, 1) := by decide +kernel
theorem dX9_judge_56 : decode cX9_judge 56 = .ok (.if_icmp .ge 49, 3) := by decide +kernel
theorem dX9_judge_59 : decode cX9_judge 59 = .ok (.iload_n 3, 1) := by decide +kernel
theorem dX9_judge_60 : decode cX9_judge 60 = .ok (.iload 5, 2) := by decide +kernel
theorem dX9_judge_62 : decode cX9_judge 62 = .ok (.iadd, 1) := by decide +kernel
theorem dX9_judge_63 : decode cX9_judge 63 = .ok (.sipush 200, 3) := by decide +kernel
theorem dX9_judge_66 : decode cX9_judge 66 = .ok (.if_icmp .ge 39, 3) := by decide +kernel
theorem dX9_judge_69 : decode cX9_judge 69 = .ok (.aload_n 0, 1) := by decide +kernel
theorem dX9_judge_70 : decode cX9_judge 70 = .ok (.getfield 56, 3) := by decide +kernel
theorem dX9_judge_73 : decode cX9_judge 73 = .ok (.bipush 24, 2) := by decide +kernel
theorem dX9_judge_75 : decode cX9_judge 75 = .ok (.iload_n 1, 1) := by decide +kernel
theorem dX9_judge_76 : decode cX9_judge 76 = .ok (.imul, 1) := by decide +kernel
theorem dX9_judge_77 : decode cX9_judge 77 = .ok (.iload 5, 2) := by decide +kernel
theorem dX9_judge_79 : decode cX9_judge 79 = .ok (.iadd, 1) := by decide +kernel
theorem dX9_judge_80 : decode cX9_judge 80 = .ok (.iaload, 1) := by decide +kernel
theorem dX9_judge_81 : decode cX9_judge 81 = .ok (.aload_n 0, 1) := by decide +kernel
theorem dX9_judge_82 : decode cX9_judge 82 = .ok (.getfield 19, 3) := by decide +kernel
theorem dX9_judge_85 : decode cX9_judge 85 = .ok (.sipush 200, 3) := by decide +kernel
theorem dX9_judge_88 : decode cX9_judge 88 = .ok (.iload_n 2, 1) := by decide +kernel
theorem dX9_judge_89 : decode cX9_judge 89 = .ok (.imul, 1) := by decide +kernel
theorem dX9_judge_90 : decode cX9_judge 90 = .ok (.iload_n 3, 1) := by decide +kernel
theorem dX9_judge_91 : decode cX9_judge 91 = .ok (.iadd, 1) := by decide +kernel
theorem dX9_judge_92 : decode cX9_judge 92 = .ok (.iload 5, 2) := by decide +kernel
theorem dX9_judge_94 : decode cX9_judge 94 = .ok (.iadd, 1) := by decide +kernel
theorem dX9_judge_95 : decode cX9_judge 95 = .ok (.iaload, 1) := by decide +kernel
theorem dX9_judge_96 : decode cX9_judge 96 = .ok (.if_icmp .ne 9, 3) := by decide +kernel
theorem dX9_judge_99 : decode cX9_judge 99 = .ok (.iinc 5 1, 3) := by decide +kernel
theorem dX9_judge_102 : decode cX9_judge 102 = .ok (.goto (-54), 3) := by decide +kernel
theorem dX9_judge_105 : decode cX9_judge 105 = .ok (.iload 5, 2) := by decide +kernel
theorem dX9_judge_107 : decode cX9_judge 107 = .ok (.ireturn, 1) := by decide +kernel
theorem dX9_image_0 : decode cX9_image 0 = .ok (.aload_n 0, 1) := by decide +kernel
theorem dX9_image_1 : decode cX9_image 1 = .ok (.getfield 7, 3) := by decide +kernel
theorem dX9_image_4 : decode cX9_image 4 = .ok (.aload_n 0, 1) := by decide +kernel
theorem dX9_image_5 : decode cX9_image 5 = .ok (.getfield 13, 3) := by decide +kernel
theorem dX9_image_8 : decode cX9_image 8 = .ok (.invokestatic 260, 3) := by decide +kernel
theorem dX9_image_11 : decode cX9_image 11 = .ok (.aload_n 0, 1) := by decide +kernel
theorem dX9_image_12 : decode cX9_image 12 = .ok (.dup, 1) := by decide +kernel
theorem dX9_image_13 : decode cX9_image 13 = .ok (.getfield 264, 3) := by decide +kernel
theorem dX9_image_16 : decode cX9_image 16 = .ok (.iconst 1, 1) := by decide +kernel
theorem dX9_image_17 : decode cX9_image 17 = .ok (.iadd, 1) := by decide +kernel
theorem dX9_image_18 : decode cX9_image 18 = .ok (.putfield 264, 3) := by decide +kernel
theorem dX9_image_21 : decode cX9_image 21 = .ok (.aload_n 0, 1) := by decide +kernel
theorem dX9_image_22 : decode cX9_image 22 = .ok (.getfield 264, 3) := by decide +kernel
theorem dX9_image_25 : decode cX9_image 25 = .ok (.ireturn, 1) := by decide +kernel
theorem dX9_restore_0 : decode cX9_restore 0 = .ok (.aload_n 0, 1) := by decide +kernel
theorem dX9_restore_1 : decode cX9_restore 1 = .ok (.getfield 264, 3) := by decide +kernel
theorem dX9_restore_4 : decode cX9_restore 4 = .ok (.ifCond .ne 9, 3) := by decide +kernel
theorem dX9_restore_7 : decode cX9_restore 7 = .ok (.aload_n 0, 1) := by decide +kernel
theorem dX9_restore_8 : decode cX9_restore 8 = .ok (.iconst 2, 1) := by decide +kernel
theorem dX9_restore_9 : decode cX9_restore 9 = .ok (.invokevirtual 83, 3) := by decide +kernel
theorem dX9_restore_12 : decode cX9_restore 12 = .ok (.ireturn, 1) := by decide +kernel
theorem dX9_restore_13 : decode cX9_restore 13 = .ok (.aload_n 0, 1) := by decide +kernel
theorem dX9_restore_14 : decode cX9_restore 14 = .ok (.getfield 13, 3) := by decide +kernel
theorem dX9_restore_17 : decode cX9_restore 17 = .ok (.aload_n 0, 1) := by decide +kernel
theorem dX9_restore_18 : decode cX9_restore 18 = .ok (.getfield 7, 3) := by decide +kernel
theorem dX9_restore_21 : decode cX9_restore 21 = .ok (.invokestatic 260, 3) := by decide +kernel
theorem dX9_restore_24 : decode cX9_restore 24 = .ok (.aload_n 0, 1) := by decide +kernel
theorem dX9_restore_25 : decode cX9_restore 25 = .ok (.getfield 7, 3) := by decide +kernel
theorem dX9_restore_28 : decode cX9_restore 28 = .ok (.iconst 3, 1) := by decide +kernel
theorem dX9_restore_29 : decode cX9_restore 29 = .ok (.iaload, 1) := by decide +kernel
theorem dX9_restore_30 : decode cX9_restore 30 = .ok (.ireturn, 1) := by decide +kernel
theorem dX9_tell_0 : decode cX9_tell 0 = .ok (.aload_n 0, 1) := by decide +kernel
theorem dX9_tell_1 : decode cX9_tell 1 = .ok (.getfield 7, 3) := by decide +kernel
theorem dX9_tell_4 : decode cX9_tell 4 = .ok (.bipush 7, 2) := by decide +kernel
theorem dX9_tell_6 : decode cX9_tell 6 = .ok (.iaload, 1) := by decide +kernel
theorem dX9_tell_7 : decode cX9_tell 7 = .ok (.bipush 24, 2) := by decide +kernel
theorem dX9_tell_9 : decode cX9_tell 9 = .ok (.if_icmp .ne 9, 3) := by decide +kernel
theorem dX9_tell_12 : decode cX9_tell 12 = .ok (.aload_n 0, 1) := by decide +kernel
theorem dX9_tell_13 : decode cX9_tell 13 = .ok (.iconst 4, 1) := by decide +kernel
theorem dX9_tell_14 : decode cX9_tell 14 = .ok (.invokevirtual 83, 3) := by decide +kernel
theorem dX9_tell_17 : decode cX9_tell 17 = .ok (.ireturn, 1) := by decide +kernel
theorem dX9_tell_18 : decode cX9_tell 18 = .ok (.aload_n 0, 1) := by decide +kernel
theorem dX9_tell_19 : decode cX9_tell 19 = .ok (.getfield 7, 3) := by decide +kernel
theorem dX9_tell_22 : decode cX9_tell 22 = .ok (.sipush 394, 3) := by decide +kernel
theorem dX9_tell_25 : decode cX9_tell 25 = .ok (.aload_n 0, 1) := by decide +kernel
theorem dX9_tell_26 : decode cX9_tell 26 = .ok (.getfield 7, 3) := by decide +kernel
theorem dX9_tell_29 : decode cX9_tell 29 = .ok (.bipush 7, 2) := by decide +kernel
theorem dX9_tell_31 : decode cX9_tell 31 = .ok (.iaload, 1) := by decide +kernel
theorem dX9_tell_32 : decode cX9_tell 32 = .ok (.iadd, 1) := by decide +kernel
theorem dX9_tell_33 : decode cX9_tell 33 = .ok (.iload_n 1, 1) := by decide +kernel
theorem dX9_tell_34 : decode cX9_tell 34 = .ok (.iastore, 1) := by decide +kernel
theorem dX9_tell_35 : decode cX9_tell 35 = .ok (.aload_n 0, 1) := by decide +kernel
theorem dX9_tell_36 : decode cX9_tell 36 = .ok (.getfield 7, 3) := by decide +kernel
theorem dX9_tell_39 : decode cX9_tell 39 = .ok (.bipush 7, 2) := by decide +kernel
theorem dX9_tell_41 : decode cX9_tell 41 = .ok (.dup2, 1) := by decide +kernel
theorem dX9_tell_42 : decode cX9_tell 42 = .ok (.iaload, 1) := by decide +kernel
theorem dX9_tell_43 : decode cX9_tell 43 = .ok (.iconst 1, 1) := by decide +kernel
theorem dX9_tell_44 : decode cX9_tell 44 = .ok (.iadd, 1) := by decide +kernel
theorem dX9_tell_45 : decode cX9_tell 45 = .ok (.iastore, 1) := by decide +kernel
theorem dX9_tell_46 : decode cX9_tell 46 = .ok (.aload_n 0, 1) := by decide +kernel
theorem dX9_tell_47 : decode cX9_tell 47 = .ok (.getfield 7, 3) := by decide +kernel
theorem dX9_tell_50 : decode cX9_tell 50 = .ok (.bipush 7, 2) := by decide +kernel
theorem dX9_tell_52 : decode cX9_tell 52 = .ok (.iaload, 1) := by decide +kernel
theorem dX9_tell_53 : decode cX9_tell 53 = .ok (.ireturn, 1) := by decide +kernel
theorem dX9_mayBe_0 : decode cX9_mayBe 0 = .ok (.iconst 0, 1) := by decide +kernel
theorem dX9_mayBe_1 : decode cX9_mayBe 1 = .ok (.istore_n 3, 1) := by decide +kernel
theorem dX9_mayBe_2 : decode cX9_mayBe 2 = .ok (.iconst 0, 1) := by decide +kernel
theorem dX9_mayBe_3 : decode cX9_mayBe 3 = .ok (.istore 4, 2) := by decide +kernel
theorem dX9_mayBe_5 : decode cX9_mayBe 5 = .ok (.iload 4, 2) := by decide +kernel
theorem dX9_mayBe_7 : decode cX9_mayBe 7 = .ok (.aload_n 0, 1) := by decide +kernel
theorem dX9_mayBe_8 : decode cX9_mayBe 8 = .ok (.getfield 34, 3) := by decide +kernel
theorem dX9_mayBe_11 : decode cX9_mayBe 11 = .ok (.iload_n 1, 1) := by decide +kernel
theorem dX9_mayBe_12 : decode cX9_mayBe 12 = .ok (.iaload, 1) := by decide +kernel
theorem dX9_mayBe_13 : decode cX9_mayBe 13 = .ok (.if_icmp .ge 35, 3) := by decide +kernel
theorem dX9_mayBe_16 : decode cX9_mayBe 16 = .ok (.iload_n 3, 1) := by decide +kernel
theorem dX9_mayBe_17 : decode cX9_mayBe 17 = .ok (.ifCond .ne 19, 3) := by decide +kernel
theorem dX9_mayBe_20 : decode cX9_mayBe 20 = .ok (.aload_n 0, 1) := by decide +kernel
theorem dX9_mayBe_21 : decode cX9_mayBe 21 = .ok (.getfield 31, 3) := by decide +kernel
theorem dX9_mayBe_24 : decode cX9_mayBe 24 = .ok (.bipush 8, 2) := by decide +kernel
theorem dX9_mayBe_26 : decode cX9_mayBe 26 = .ok (.iload_n 1, 1) := by decide +kernel
theorem dX9_mayBe_27 : decode cX9_mayBe 27 = .ok (.imul, 1) := by decide +kernel
theorem dX9_mayBe_28 : decode cX9_mayBe 28 = .ok (.iload 4, 2) := by decide +kernel
theorem dX9_mayBe_30 : decode cX9_mayBe 30 = .ok (.iadd, 1) := by decide +kernel
theorem dX9_mayBe_31 : decode cX9_mayBe 31 = .ok (.iaload, 1) := by decide +kernel
theorem dX9_mayBe_32 : decode cX9_mayBe 32 = .ok (.iload_n 2, 1) := by decide +kernel
theorem dX9_mayBe_33 : decode cX9_mayBe 33 = .ok (.if_icmp .ne 7, 3) := by decide +kernel
theorem dX9_mayBe_36 : decode cX9_mayBe 36 = .ok (.iconst 1, 1) := by decide +kernel
theorem dX9_mayBe_37 : decode cX9_mayBe 37 = .ok (.goto 4, 3) := by decide +kernel
theorem dX9_mayBe_40 : decode cX9_mayBe 40 = .ok (.iconst 0, 1) := by decide +kernel
theorem dX9_mayBe_41 : decode cX9_mayBe 41 = .ok (.istore_n 3, 1) := by decide +kernel
theorem dX9_mayBe_42 : decode cX9_mayBe 42 = .ok (.iinc 4 1, 3) := by decide +kernel
theorem dX9_mayBe_45 : decode cX9_mayBe 45 = .ok (.goto (-40), 3) := by decide +kernel
theorem dX9_mayBe_48 : decode cX9_mayBe 48 = .ok (.iload_n 3, 1) := by decide +kernel
theorem dX9_mayBe_49 : decode cX9_mayBe 49 = .ok (.ireturn, 1) := by decide +kernel
theorem dX9_check_0 : decode cX9_check 0 = .ok (.aload_n 0, 1) := by decide +kernel
theorem dX9_check_1 : decode cX9_check 1 = .ok (.getfield 7, 3) := by decide +kernel
theorem dX9_check_4 : decode cX9_check 4 = .ok (.bipush 7, 2) := by decide +kernel
theorem dX9_check_6 : decode cX9_check 6 = .ok (.iaload, 1) := by decide +kernel
theorem dX9_check_7 : decode cX9_check 7 = .ok (.istore_n 1, 1) := by decide +kernel
theorem dX9_check_8 : decode cX9_check 8 = .ok (.aload_n 0, 1) := by decide +kernel
theorem dX9_check_9 : decode cX9_check 9 = .ok (.getfield 7, 3) := by decide +kernel
theorem dX9_check_12 : decode cX9_check 12 = .ok (.bipush 7, 2) := by decide +kernel
theorem dX9_check_14 : decode cX9_check 14 = .ok (.iconst 0, 1) := by decide +kernel
theorem dX9_check_15 : decode cX9_check 15 = .ok (.iastore, 1) := by decide +kernel
theorem dX9_check_16 : decode cX9_check 16 = .ok (.aload_n 0, 1) := by decide +kernel
theorem dX9_check_17 : decode cX9_check 17 = .ok (.invokevirtual 206, 3) := by decide +kernel
theorem dX9_check_20 : decode cX9_check 20 = .ok (.iconst 0, 1) := by decide +kernel
theorem dX9_check_21 : decode cX9_check 21 = .ok (.istore_n 2, 1) := by decide +kernel
theorem dX9_check_22 : decode cX9_check 22 = .ok (.iload_n 2, 1) := by decide +kernel
theorem dX9_check_23 : decode cX9_check 23 = .ok (.iload_n 1, 1) := by decide +kernel
theorem dX9_check_24 : decode cX9_check 24 = .ok (.if_icmp .ge 64, 3) := by decide +kernel
theorem dX9_check_27 : decode cX9_check 27 = .ok (.aload_n 0, 1) := by decide +kernel
theorem dX9_check_28 : decode cX9_check 28 = .ok (.iload_n 2, 1) := by decide +kernel
theorem dX9_check_29 : decode cX9_check 29 = .ok (.invokevirtual 203, 3) := by decide +kernel
theorem dX9_check_32 : decode cX9_check 32 = .ok (.ifCond .eq 56, 3) := by decide +kernel
theorem dX9_check_35 : decode cX9_check 35 = .ok (.aload_n 0, 1) := by decide +kernel
theorem dX9_check_36 : decode cX9_check 36 = .ok (.iload_n 2, 1) := by decide +kernel
theorem dX9_check_37 : decode cX9_check 37 = .ok (.aload_n 0, 1) := by decide +kernel
theorem dX9_check_38 : decode cX9_check 38 = .ok (.getfield 7, 3) := by decide +kernel
theorem dX9_check_41 : decode cX9_check 41 = .ok (.sipush 394, 3) := by decide +kernel
theorem dX9_check_44 : decode cX9_check 44 = .ok (.iload_n 2, 1) := by decide +kernel
theorem dX9_check_45 : decode cX9_check 45 = .ok (.iadd, 1) := by decide +kernel
theorem dX9_check_46 : decode cX9_check 46 = .ok (.iaload, 1) := by decide +kernel
theorem dX9_check_47 : decode cX9_check 47 = .ok (.invokevirtual 267, 3) := by decide +kernel
theorem dX9_check_50 : decode cX9_check 50 = .ok (.ifCond .eq 38, 3) := by decide +kernel
theorem dX9_check_53 : decode cX9_check 53 = .ok (.iload_n 2, 1) := by decide +kernel
theorem dX9_check_54 : decode cX9_check 54 = .ok (.ifCond .eq 28, 3) := by decide +kernel
theorem dX9_check_57 : decode cX9_check 57 = .ok (.aload_n 0, 1) := by decide +kernel
theorem dX9_check_58 : decode cX9_check 58 = .ok (.getfield 7, 3) := by decide +kernel
theorem dX9_check_61 : decode cX9_check 61 = .ok (.sipush 394, 3) := by decide +kernel
theorem dX9_check_64 : decode cX9_check 64 = .ok (.iload_n 2, 1) := by decide +kernel
theorem dX9_check_65 : decode cX9_check 65 = .ok (.iadd, 1) := by decide +kernel
theorem dX9_check_66 : decode cX9_check 66 = .ok (.iaload, 1) := by decide +kernel
theorem dX9_check_67 : decode cX9_check 67 = .ok (.aload_n 0, 1) := by decide +kernel
theorem dX9_check_68 : decode cX9_check 68 = .ok (.getfield 7, 3) := by decide +kernel
theorem dX9_check_71 : decode cX9_check 71 = .ok (.sipush 394, 3) := by decide +kernel
theorem dX9_check_74 : decode cX9_check 74 = .ok (.iload_n 2, 1) := by decide +kernel
theorem dX9_check_75 : decode cX9_check 75 = .ok (.iadd, 1) := by decide +kernel
theorem dX9_check_76 : decode cX9_check 76 = .ok (.iconst 1, 1) := by decide +kernel
theorem dX9_check_77 : decode cX9_check 77 = .ok (.isub, 1) := by decide +kernel
theorem dX9_check_78 : decode cX9_check 78 = .ok (.iaload, 1) := by decide +kernel
theorem dX9_check_79 : decode cX9_check 79 = .ok (.if_icmp .le 9, 3) := by decide +kernel
theorem dX9_check_82 : decode cX9_check 82 = .ok (.iinc 2 1, 3) := by decide +kernel
theorem dX9_check_85 : decode cX9_check 85 = .ok (.goto (-63), 3) := by decide +kernel
theorem dX9_check_88 : decode cX9_check 88 = .ok (.iload_n 2, 1) := by decide +kernel
theorem dX9_check_89 : decode cX9_check 89 = .ok (.iload_n 1, 1) := by decide +kernel
theorem dX9_check_90 : decode cX9_check 90 = .ok (.if_icmp .ne 17, 3) := by decide +kernel
theorem dX9_check_93 : decode cX9_check 93 = .ok (.iload_n 2, 1) := by decide +kernel
theorem dX9_check_94 : decode cX9_check 94 = .ok (.aload_n 0, 1) := by decide +kernel
theorem dX9_check_95 : decode cX9_check 95 = .ok (.getfield 7, 3) := by decide +kernel
theorem dX9_check_98 : decode cX9_check 98 = .ok (.iconst 2, 1) := by decide +kernel
theorem dX9_check_99 : decode cX9_check 99 = .ok (.iaload, 1) := by decide +kernel
theorem dX9_check_100 : decode cX9_check 100 = .ok (.if_icmp .ne 7, 3) := by decide +kernel
theorem dX9_check_103 : decode cX9_check 103 = .ok (.iconst 0, 1) := by decide +kernel
theorem dX9_check_104 : decode cX9_check 104 = .ok (.goto 6, 3) := by decide +kernel
theorem dX9_check_107 : decode cX9_check 107 = .ok (.iconst 1, 1) := by decide +kernel
theorem dX9_check_108 : decode cX9_check 108 = .ok (.iload_n 2, 1) := by decide +kernel
theorem dX9_check_109 : decode cX9_check 109 = .ok (.iadd, 1) := by decide +kernel
theorem dX9_check_110 : decode cX9_check 110 = .ok (.ireturn, 1) := by decide +kernel
theorem dX9_allWorth_0 : decode cX9_allWorth 0 = .ok (.aload_n 0, 1) := by decide +kernel
theorem dX9_allWorth_1 : decode cX9_allWorth 1 = .ok (.invokevirtual 91, 3) := by decide +kernel
theorem dX9_allWorth_4 : decode cX9_allWorth 4 = .ok (.iconst 0, 1) := by decide +kernel
theorem dX9_allWorth_5 : decode cX9_allWorth 5 = .ok (.istore_n 1, 1) := by decide +kernel
theorem dX9_allWorth_6 : decode cX9_allWorth 6 = .ok (.iconst 0, 1) := by decide +kernel
theorem dX9_allWorth_7 : decode cX9_allWorth 7 = .ok (.istore_n 2, 1) := by decide +kernel
theorem dX9_allWorth_8 : decode cX9_allWorth 8 = .ok (.iload_n 2, 1) := by decide +kernel
theorem dX9_allWorth_9 : decode cX9_allWorth 9 = .ok (.aload_n 0, 1) := by decide +kernel
theorem dX9_allWorth_10 : decode cX9_allWorth 10 = .ok (.getfield 7, 3) := by decide +kernel
theorem dX9_allWorth_13 : decode cX9_allWorth 13 = .ok (.iconst 1, 1) := by decide +kernel
theorem dX9_allWorth_14 : decode cX9_allWorth 14 = .ok (.iaload, 1) := by decide +kernel
theorem dX9_allWorth_15 : decode cX9_allWorth 15 = .ok (.if_icmp .ge 17, 3) := by decide +kernel
theorem dX9_allWorth_18 : decode cX9_allWorth 18 = .ok (.iload_n 1, 1) := by decide +kernel
theorem dX9_allWorth_19 : decode cX9_allWorth 19 = .ok (.aload_n 0, 1) := by decide +kernel
theorem dX9_allWorth_20 : decode cX9_allWorth 20 = .ok (.iload_n 2, 1) := by decide +kernel
theorem dX9_allWorth_21 : decode cX9_allWorth 21 = .ok (.invokevirtual 188, 3) := by decide +kernel
theorem dX9_allWorth_24 : decode cX9_allWorth 24 = .ok (.iadd, 1) := by decide +kernel
theorem dX9_allWorth_25 : decode cX9_allWorth 25 = .ok (.istore_n 1, 1) := by decide +kernel
theorem dX9_allWorth_26 : decode cX9_allWorth 26 = .ok (.iinc 2 1, 3) := by decide +kernel
theorem dX9_allWorth_29 : decode cX9_allWorth 29 = .ok (.goto (-21), 3) := by decide +kernel
theorem dX9_allWorth_32 : decode cX9_allWorth 32 = .ok (.iload_n 1, 1) := by decide +kernel
theorem dX9_allWorth_33 : decode cX9_allWorth 33 = .ok (.ireturn, 1) := by decide +kernel
theorem dX9_count_0 : decode cX9_count 0 = .ok (.iload_n 1, 1) := by decide +kernel
theorem dX9_count_1 : decode cX9_count 1 = .ok (.tableswitch 113 0 8 #[51, 58, 65, 72, 79, 87, 95, 100, 108], 51) := by decide +kernel
theorem dX9_count_52 : decode cX9_count 52 = .ok (.aload_n 0, 1) := by decide +kernel
theorem dX9_count_53 : decode cX9_count 53 = .ok (.getfield 7, 3) := by decide +kernel
theorem dX9_count_56 : decode cX9_count 56 = .ok (.iconst 0, 1) := by decide +kernel
theorem dX9_count_57 : decode cX9_count 57 = .ok (.iaload, 1) := by decide +kernel
theorem dX9_count_58 : decode cX9_count 58 = .ok (.ireturn, 1) := by decide +kernel
theorem dX9_count_59 : decode cX9_count 59 = .ok (.aload_n 0, 1) := by decide +kernel
theorem dX9_count_60 : decode cX9_count 60 = .ok (.getfield 7, 3) := by decide +kernel
theorem dX9_count_63 : decode cX9_count 63 = .ok (.iconst 1, 1) := by decide +kernel
theorem dX9_count_64 : decode cX9_count 64 = .ok (.iaload, 1) := by decide +kernel
theorem dX9_count_65 : decode cX9_count 65 = .ok (.ireturn, 1) := by decide +kernel
theorem dX9_count_66 : decode cX9_count 66 = .ok (.aload_n 0, 1) := by decide +kernel
theorem dX9_count_67 : decode cX9_count 67 = .ok (.getfield 7, 3) := by decide +kernel
theorem dX9_count_70 : decode cX9_count 70 = .ok (.iconst 2, 1) := by decide +kernel
theorem dX9_count_71 : decode cX9_count 71 = .ok (.iaload, 1) := by decide +kernel
theorem dX9_count_72 : decode cX9_count 72 = .ok (.ireturn, 1) := by decide +kernel
theorem dX9_count_73 : decode cX9_count 73 = .ok (.aload_n 0, 1) := by decide +kernel
theorem dX9_count_74 : decode cX9_count 74 = .ok (.getfield 7, 3) := by decide +kernel
theorem dX9_count_77 : decode cX9_count 77 = .ok (.iconst 3, 1) := by decide +kernel
theorem dX9_count_78 : decode cX9_count 78 = .ok (.iaload, 1) := by decide +kernel
theorem dX9_count_79 : decode cX9_count 79 = .ok (.ireturn, 1) := by decide +kernel
theorem dX9_count_80 : decode cX9_count 80 = .ok (.aload_n 0, 1) := by decide +kernel
theorem dX9_count_81 : decode cX9_count 81 = .ok (.getfield 7, 3) := by decide +kernel
theorem dX9_count_84 : decode cX9_count 84 = .ok (.bipush 6, 2) := by decide +kernel
theorem dX9_count_86 : decode cX9_count 86 = .ok (.iaload, 1) := by decide +kernel
theorem dX9_count_87 : decode cX9_count 87 = .ok (.ireturn, 1) := by decide +kernel
theorem dX9_count_88 : decode cX9_count 88 = .ok (.aload_n 0, 1) := by decide +kernel
theorem dX9_count_89 : decode cX9_count 89 = .ok (.getfield 7, 3) := by decide +kernel
theorem dX9_count_92 : decode cX9_count 92 = .ok (.bipush 7, 2) := by decide +kernel
theorem dX9_count_94 : decode cX9_count 94 = .ok (.iaload, 1) := by decide +kernel
theorem dX9_count_95 : decode cX9_count 95 = .ok (.ireturn, 1) := by decide +kernel
theorem dX9_count_96 : decode cX9_count 96 = .ok (.aload_n 0, 1) := by decide +kernel
theorem dX9_count_97 : decode cX9_count 97 = .ok (.getfield 219, 3) := by decide +kernel
theorem dX9_count_100 : decode cX9_count 100 = .ok (.ireturn, 1) := by decide +kernel
theorem dX9_count_101 : decode cX9_count 101 = .ok (.aload_n 0, 1) := by decide +kernel
theorem dX9_count_102 : decode cX9_count 102 = .ok (.getfield 7, 3) := by decide +kernel
theorem dX9_count_105 : decode cX9_count 105 = .ok (.bipush 8, 2) := by decide +kernel
theorem dX9_count_107 : decode cX9_count 107 = .ok (.iaload, 1) := by decide +kernel
theorem dX9_count_108 : decode cX9_count 108 = .ok (.ireturn, 1) := by decide +kernel
theorem dX9_count_109 : decode cX9_count 109 = .ok (.aload_n 0, 1) := by decide +kernel
theorem dX9_count_110 : decode cX9_count 110 = .ok (.invokevirtual 270, 3) := by decide +kernel
theorem dX9_count_113 : decode cX9_count 113 = .ok (.ireturn, 1) := by decide +kernel
theorem dX9_count_114 : decode cX9_count 114 = .ok (.aload_n 0, 1) := by decide +kernel
theorem dX9_count_115 : decode cX9_count 115 = .ok (.iconst 1, 1) := by decide +kernel
theorem dX9_count_116 : decode cX9_count 116 = .ok (.invokevirtual 83, 3) := by decide +kernel
theorem dX9_count_119 : decode cX9_count 119 = .ok (.ireturn, 1) := by decide +kernel
theorem dX9_told_0 : decode cX9_told 0 = .ok (.iload_n 1, 1) := by decide +kernel
theorem dX9_told_1 : decode cX9_told 1 = .ok (.iconst 1, 1) := by decide +kernel
theorem dX9_told_2 : decode cX9_told 2 = .ok (.bipush 6, 2) := by decide +kernel
theorem dX9_told_4 : decode cX9_told 4 = .ok (.invokestatic 63, 3) := by decide +kernel
theorem dX9_told_7 : decode cX9_told 7 = .ok (.ifCond .eq 12, 3) := by decide +kernel
theorem dX9_told_10 : decode cX9_told 10 = .ok (.aload_n 0, 1) := by decide +kernel
theorem dX9_told_11 : decode cX9_told 11 = .ok (.getfield 16, 3) := by decide +kernel
theorem dX9_told_14 : decode cX9_told 14 = .ok (.iload_n 1, 1) := by decide +kernel
theorem dX9_told_15 : decode cX9_told 15 = .ok (.iaload, 1) := by decide +kernel
theorem dX9_told_16 : decode cX9_told 16 = .ok (.goto 8, 3) := by decide +kernel
theorem dX9_told_19 : decode cX9_told 19 = .ok (.aload_n 0, 1) := by decide +kernel
theorem dX9_told_20 : decode cX9_told 20 = .ok (.iconst 1, 1) := by decide +kernel
theorem dX9_told_21 : decode cX9_told 21 = .ok (.invokevirtual 83, 3) := by decide +kernel
theorem dX9_told_24 : decode cX9_told 24 = .ok (.ireturn, 1) := by decide +kernel
theorem dJ11_isValidCodePoint_9a6ad_0 : decode cJ11_isValidCodePoint_9a6ad 0 = .ok (.iload_n 0, 1) := by decide +kernel
theorem dJ11_isValidCodePoint_9a6ad_1 : decode cJ11_isValidCodePoint_9a6ad 1 = .ok (.bipush 16, 2) := by decide +kernel
theorem dJ11_isValidCodePoint_9a6ad_3 : decode cJ11_isValidCodePoint_9a6ad 3 = .ok (.iushr, 1) := by decide +kernel
theorem dJ11_isValidCodePoint_9a6ad_4 : decode cJ11_isValidCodePoint_9a6ad 4 = .ok (.istore_n 1, 1) := by decide +kernel
theorem dJ11_isValidCodePoint_9a6ad_5 : decode cJ11_isValidCodePoint_9a6ad 5 = .ok (.iload_n 1, 1) := by decide +kernel
theorem dJ11_isValidCodePoint_9a6ad_6 : decode cJ11_isValidCodePoint_9a6ad 6 = .ok (.bipush 17, 2) := by decide +kernel
theorem dJ11_isValidCodePoint_9a6ad_8 : decode cJ11_isValidCodePoint_9a6ad 8 = .ok (.if_icmp .ge 7, 3) := by decide +kernel
theorem dJ11_isValidCodePoint_9a6ad_11 : decode cJ11_isValidCodePoint_9a6ad 11 = .ok (.iconst 1, 1) := by decide +kernel
theorem dJ11_isValidCodePoint_9a6ad_12 : decode cJ11_isValidCodePoint_9a6ad 12 = .ok (.goto 4, 3) := by decide +kernel
theorem dJ11_isValidCodePoint_9a6ad_15 : decode cJ11_isValidCodePoint_9a6ad 15 = .ok (.iconst 0, 1) := by decide +kernel
theorem dJ11_isValidCodePoint_9a6ad_16 : decode cJ11_isValidCodePoint_9a6ad 16 = .ok (.ireturn, 1) := by decide +kernel
theorem dJ11_highSurrogate_5068e_0 : decode cJ11_highSurrogate_5068e 0 = .ok (.iload_n 0, 1) := by decide +kernel
theorem dJ11_highSurrogate_5068e_1 : decode cJ11_highSurrogate_5068e 1 = .ok (.bipush 10, 2) := by decide +kernel
theorem dJ11_highSurrogate_5068e_3 : decode cJ11_highSurrogate_5068e 3 = .ok (.iushr, 1) := by decide +kernel
theorem dJ11_highSurrogate_5068e_4 : decode cJ11_highSurrogate_5068e 4 = .ok (.ldc 110, 2) := by decide +kernel
theorem dJ11_highSurrogate_5068e_6 : decode cJ11_highSurrogate_5068e 6 = .ok (.iadd, 1) := by decide +kernel
theorem dJ11_highSurrogate_5068e_7 : decode cJ11_highSurrogate_5068e 7 = .ok (.i2c, 1) := by decide +kernel
theorem dJ11_highSurrogate_5068e_8 : decode cJ11_highSurrogate_5068e 8 = .ok (.ireturn, 1) := by decide +kernel
theorem dJ11_lowSurrogate_5068e_0 : decode cJ11_lowSurrogate_5068e 0 = .ok (.iload_n 0, 1) := by decide +kernel
theorem dJ11_lowSurrogate_5068e_1 : decode cJ11_lowSurrogate_5068e 1 = .ok (.sipush 1023, 3) := by decide +kernel
theorem dJ11_lowSurrogate_5068e_4 : decode cJ11_lowSurrogate_5068e 4 = .ok (.iand, 1) := by decide +kernel
theorem dJ11_lowSurrogate_5068e_5 : decode cJ11_lowSurrogate_5068e 5 = .ok (.ldc 76, 2) := by decide +kernel
theorem dJ11_lowSurrogate_5068e_7 : decode cJ11_lowSurrogate_5068e 7 = .ok (.iadd, 1) := by decide +kernel
theorem dJ11_lowSurrogate_5068e_8 : decode cJ11_lowSurrogate_5068e 8 = .ok (.i2c, 1) := by decide +kernel
theorem dJ11_lowSurrogate_5068e_9 : decode cJ11_lowSurrogate_5068e 9 = .ok (.ireturn, 1) := by decide +kernel
theorem dJ9_max_7cf53_0 : decode cJ9_max_7cf53 0 = .ok (.iload_n 0, 1) := by decide +kernel
theorem dJ9_max_7cf53_1 : decode cJ9_max_7cf53 1 = .ok (.iload_n 1, 1) := by decide +kernel
theorem dJ9_max_7cf53_2 : decode cJ9_max_7cf53 2 = .ok (.if_icmp .lt 7, 3) := by decide +kernel
theorem dJ9_max_7cf53_5 : decode cJ9_max_7cf53 5 = .ok (.iload_n 0, 1) := by decide +kernel
theorem dJ9_max_7cf53_6 : decode cJ9_max_7cf53 6 = .ok (.goto 4, 3) := by decide +kernel
theorem dJ9_max_7cf53_9 : decode cJ9_max_7cf53 9 = .ok (.iload_n 1, 1) := by decide +kernel
theorem dJ9_max_7cf53_10 : decode cJ9_max_7cf53 10 = .ok (.ireturn, 1) := by decide +kernel
theorem dJ9_min_7cf53_0 : decode cJ9_min_7cf53 0 = .ok (.iload_n 0, 1) := by decide +kernel
theorem dJ9_min_7cf53_1 : decode cJ9_min_7cf53 1 = .ok (.iload_n 1, 1) := by decide +kernel
theorem dJ9_min_7cf53_2 : decode cJ9_min_7cf53 2 = .ok (.if_icmp .gt 7, 3) := by decide +kernel
theorem dJ9_min_7cf53_5 : decode cJ9_min_7cf53 5 = .ok (.iload_n 0, 1) := by decide +kernel
theorem dJ9_min_7cf53_6 : decode cJ9_min_7cf53 6 = .ok (.goto 4, 3) := by decide +kernel
theorem dJ9_min_7cf53_9 : decode cJ9_min_7cf53 9 = .ok (.iload_n 1, 1) := by decide +kernel
theorem dJ9_min_7cf53_10 : decode cJ9_min_7cf53 10 = .ok (.ireturn, 1) := by decide +kernel
theorem dJ0_length_8abf5_0 : decode cJ0_length_8abf5 0 = .ok (.aload_n 0, 1) := by decide +kernel
theorem dJ0_length_8abf5_1 : decode cJ0_length_8abf5 1 = .ok (.getfield 9, 3) := by decide +kernel
theorem dJ0_length_8abf5_4 : decode cJ0_length_8abf5 4 = .ok (.arraylength, 1) := by decide +kernel
theorem dJ0_length_8abf5_5 : decode cJ0_length_8abf5 5 = .ok (.aload_n 0, 1) := by decide +kernel
theorem dJ0_length_8abf5_6 : decode cJ0_length_8abf5 6 = .ok (.invokevirtual 335, 3) := by decide +kernel
theorem dJ0_length_8abf5_9 : decode cJ0_length_8abf5 9 = .ok (.ishr, 1) := by decide +kernel
theorem dJ0_length_8abf5_10 : decode cJ0_length_8abf5 10 = .ok (.ireturn, 1) := by decide +kernel
theorem dJ0_indexOf_0f7a4_0 : decode cJ0_indexOf_0f7a4 0 = .ok (.aload_n 0, 1) := by decide +kernel
theorem dJ0_indexOf_0f7a4_1 : decode cJ0_indexOf_0f7a4 1 = .ok (.iload_n 1, 1) := by decide +kernel
theorem dJ0_indexOf_0f7a4_2 : decode cJ0_indexOf_0f7a4 2 = .ok (.iconst 0, 1) := by decide +kernel
theorem dJ0_indexOf_0f7a4_3 : decode cJ0_indexOf_0f7a4 3 = .ok (.invokevirtual 633, 3) := by decide +kernel
theorem dJ0_indexOf_0f7a4_6 : decode cJ0_indexOf_0f7a4 6 = .ok (.ireturn, 1) := by decide +kernel
theorem dJ0_indexOf_7cf53_0 : decode cJ0_indexOf_7cf53 0 = .ok (.aload_n 0, 1) := by decide +kernel
theorem dJ0_indexOf_7cf53_1 : decode cJ0_indexOf_7cf53 1 = .ok (.invokevirtual 492, 3) := by decide +kernel
theorem dJ0_indexOf_7cf53_4 : decode cJ0_indexOf_7cf53 4 = .ok (.ifCond .eq 19, 3) := by decide +kernel
theorem dJ0_indexOf_7cf53_7 : decode cJ0_indexOf_7cf53 7 = .ok (.aload_n 0, 1) := by decide +kernel
theorem dJ0_indexOf_7cf53_8 : decode cJ0_indexOf_7cf53 8 = .ok (.getfield 9, 3) := by decide +kernel
theorem dJ0_indexOf_7cf53_11 : decode cJ0_indexOf_7cf53 11 = .ok (.iload_n 1, 1) := by decide +kernel
theorem dJ0_indexOf_7cf53_12 : decode cJ0_indexOf_7cf53 12 = .ok (.iload_n 2, 1) := by decide +kernel
theorem dJ0_indexOf_7cf53_13 : decode cJ0_indexOf_7cf53 13 = .ok (.aload_n 0, 1) := by decide +kernel
theorem dJ0_indexOf_7cf53_14 : decode cJ0_indexOf_7cf53 14 = .ok (.invokevirtual 505, 3) := by decide +kernel
theorem dJ0_indexOf_7cf53_17 : decode cJ0_indexOf_7cf53 17 = .ok (.invokestatic 637, 3) := by decide +kernel
theorem dJ0_indexOf_7cf53_20 : decode cJ0_indexOf_7cf53 20 = .ok (.goto 16, 3) := by decide +kernel
theorem dJ0_indexOf_7cf53_23 : decode cJ0_indexOf_7cf53 23 = .ok (.aload_n 0, 1) := by decide +kernel
theorem dJ0_indexOf_7cf53_24 : decode cJ0_indexOf_7cf53 24 = .ok (.getfield 9, 3) := by decide +kernel
theorem dJ0_indexOf_7cf53_27 : decode cJ0_indexOf_7cf53 27 = .ok (.iload_n 1, 1) := by decide +kernel
theorem dJ0_indexOf_7cf53_28 : decode cJ0_indexOf_7cf53 28 = .ok (.iload_n 2, 1) := by decide +kernel
theorem dJ0_indexOf_7cf53_29 : decode cJ0_indexOf_7cf53 29 = .ok (.aload_n 0, 1) := by decide +kernel
theorem dJ0_indexOf_7cf53_30 : decode cJ0_indexOf_7cf53 30 = .ok (.invokevirtual 505, 3) := by decide +kernel
theorem dJ0_indexOf_7cf53_33 : decode cJ0_indexOf_7cf53 33 = .ok (.invokestatic 640, 3) := by decide +kernel
theorem dJ0_indexOf_7cf53_36 : decode cJ0_indexOf_7cf53 36 = .ok (.ireturn, 1) := by decide +kernel
theorem dJ0_coder_7d493_0 : decode cJ0_coder_7d493 0 = .ok (.getstatic 38, 3) := by decide +kernel
theorem dJ0_coder_7d493_3 : decode cJ0_coder_7d493 3 = .ok (.ifCond .eq 10, 3) := by decide +kernel
theorem dJ0_coder_7d493_6 : decode cJ0_coder_7d493 6 = .ok (.aload_n 0, 1) := by decide +kernel
theorem dJ0_coder_7d493_7 : decode cJ0_coder_7d493 7 = .ok (.getfield 15, 3) := by decide +kernel
theorem dJ0_coder_7d493_10 : decode cJ0_coder_7d493 10 = .ok (.goto 4, 3) := by decide +kernel
theorem dJ0_coder_7d493_13 : decode cJ0_coder_7d493 13 = .ok (.iconst 1, 1) := by decide +kernel
theorem dJ0_coder_7d493_14 : decode cJ0_coder_7d493 14 = .ok (.ireturn, 1) := by decide +kernel
theorem dJ0_isLatin1_aae02_0 : decode cJ0_isLatin1_aae02 0 = .ok (.getstatic 38, 3) := by decide +kernel
theorem dJ0_isLatin1_aae02_3 : decode cJ0_isLatin1_aae02 3 = .ok (.ifCond .eq 14, 3) := by decide +kernel
theorem dJ0_isLatin1_aae02_6 : decode cJ0_isLatin1_aae02 6 = .ok (.aload_n 0, 1) := by decide +kernel
theorem dJ0_isLatin1_aae02_7 : decode cJ0_isLatin1_aae02 7 = .ok (.getfield 15, 3) := by decide +kernel
theorem dJ0_isLatin1_aae02_10 : decode cJ0_isLatin1_aae02 10 = .ok (.ifCond .ne 7, 3) := by decide +kernel
theorem dJ0_isLatin1_aae02_13 : decode cJ0_isLatin1_aae02 13 = .ok (.iconst 1, 1) := by decide +kernel
theorem dJ0_isLatin1_aae02_14 : decode cJ0_isLatin1_aae02 14 = .ok (.goto 4, 3) := by decide +kernel
theorem dJ0_isLatin1_aae02_17 : decode cJ0_isLatin1_aae02 17 = .ok (.iconst 0, 1) := by decide +kernel
theorem dJ0_isLatin1_aae02_18 : decode cJ0_isLatin1_aae02 18 = .ok (.ireturn, 1) := by decide +kernel
theorem dJ0_checkBoundsBeginEnd_23922_0 : decode cJ0_checkBoundsBeginEnd_23922 0 = .ok (.iload_n 0, 1) := by decide +kernel
theorem dJ0_checkBoundsBeginEnd_23922_1 : decode cJ0_checkBoundsBeginEnd_23922 1 = .ok (.iload_n 1, 1) := by decide +kernel
theorem dJ0_checkBoundsBeginEnd_23922_2 : decode cJ0_checkBoundsBeginEnd_23922 2 = .ok (.iload_n 2, 1) := by decide +kernel
theorem dJ0_checkBoundsBeginEnd_23922_3 : decode cJ0_checkBoundsBeginEnd_23922 3 = .ok (.getstatic 1053, 3) := by decide +kernel
theorem dJ0_checkBoundsBeginEnd_23922_6 : decode cJ0_checkBoundsBeginEnd_23922 6 = .ok (.invokestatic 1062, 3) := by decide +kernel
theorem dJ0_checkBoundsBeginEnd_23922_9 : decode cJ0_checkBoundsBeginEnd_23922 9 = .ok (.pop, 1) := by decide +kernel
theorem dJ0_checkBoundsBeginEnd_23922_10 : decode cJ0_checkBoundsBeginEnd_23922 10 = .ok (.return_, 1) := by decide +kernel
theorem dJ1_canEncode_9a6ad_0 : decode cJ1_canEncode_9a6ad 0 = .ok (.iload_n 0, 1) := by decide +kernel
theorem dJ1_canEncode_9a6ad_1 : decode cJ1_canEncode_9a6ad 1 = .ok (.ifCond .lt 14, 3) := by decide +kernel
theorem dJ1_canEncode_9a6ad_4 : decode cJ1_canEncode_9a6ad 4 = .ok (.iload_n 0, 1) := by decide +kernel
theorem dJ1_canEncode_9a6ad_5 : decode cJ1_canEncode_9a6ad 5 = .ok (.sipush 255, 3) := by decide +kernel
theorem dJ1_canEncode_9a6ad_8 : decode cJ1_canEncode_9a6ad 8 = .ok (.if_icmp .gt 7, 3) := by decide +kernel
theorem dJ1_canEncode_9a6ad_11 : decode cJ1_canEncode_9a6ad 11 = .ok (.iconst 1, 1) := by decide +kernel
theorem dJ1_canEncode_9a6ad_12 : decode cJ1_canEncode_9a6ad 12 = .ok (.goto 4, 3) := by decide +kernel
theorem dJ1_canEncode_9a6ad_15 : decode cJ1_canEncode_9a6ad 15 = .ok (.iconst 0, 1) := by decide +kernel
theorem dJ1_canEncode_9a6ad_16 : decode cJ1_canEncode_9a6ad 16 = .ok (.ireturn, 1) := by decide +kernel
theorem dJ1_indexOf_4cfef_0 : decode cJ1_indexOf_4cfef 0 = .ok (.iload_n 1, 1) := by decide +kernel
theorem dJ1_indexOf_4cfef_1 : decode cJ1_indexOf_4cfef 1 = .ok (.invokestatic 88, 3) := by decide +kernel
theorem dJ1_indexOf_4cfef_4 : decode cJ1_indexOf_4cfef 4 = .ok (.ifCond .ne 5, 3) := by decide +kernel
theorem dJ1_indexOf_4cfef_7 : decode cJ1_indexOf_4cfef 7 = .ok (.iconst (-1), 1) := by decide +kernel
theorem dJ1_indexOf_4cfef_8 : decode cJ1_indexOf_4cfef 8 = .ok (.ireturn, 1) := by decide +kernel
theorem dJ1_indexOf_4cfef_9 : decode cJ1_indexOf_4cfef 9 = .ok (.iload_n 2, 1) := by decide +kernel
theorem dJ1_indexOf_4cfef_10 : decode cJ1_indexOf_4cfef 10 = .ok (.iconst 0, 1) := by decide +kernel
theorem dJ1_indexOf_4cfef_11 : decode cJ1_indexOf_4cfef 11 = .ok (.invokestatic 92, 3) := by decide +kernel
theorem dJ1_indexOf_4cfef_14 : decode cJ1_indexOf_4cfef 14 = .ok (.istore_n 2, 1) := by decide +kernel
theorem dJ1_indexOf_4cfef_15 : decode cJ1_indexOf_4cfef 15 = .ok (.iload_n 3, 1) := by decide +kernel
theorem dJ1_indexOf_4cfef_16 : decode cJ1_indexOf_4cfef 16 = .ok (.aload_n 0, 1) := by decide +kernel
theorem dJ1_indexOf_4cfef_17 : decode cJ1_indexOf_4cfef 17 = .ok (.arraylength, 1) := by decide +kernel
theorem dJ1_indexOf_4cfef_18 : decode cJ1_indexOf_4cfef 18 = .ok (.invokestatic 38, 3) := by decide +kernel
theorem dJ1_indexOf_4cfef_21 : decode cJ1_indexOf_4cfef 21 = .ok (.istore_n 3, 1) := by decide +kernel
theorem dJ1_indexOf_4cfef_22 : decode cJ1_indexOf_4cfef 22 = .ok (.iload_n 2, 1) := by decide +kernel
theorem dJ1_indexOf_4cfef_23 : decode cJ1_indexOf_4cfef 23 = .ok (.iload_n 3, 1) := by decide +kernel
theorem dJ1_indexOf_4cfef_24 : decode cJ1_indexOf_4cfef 24 = .ok (.if_icmp .lt 5, 3) := by decide +kernel
theorem dJ1_indexOf_4cfef_27 : decode cJ1_indexOf_4cfef 27 = .ok (.iconst (-1), 1) := by decide +kernel
theorem dJ1_indexOf_4cfef_28 : decode cJ1_indexOf_4cfef 28 = .ok (.ireturn, 1) := by decide +kernel
theorem dJ1_indexOf_4cfef_29 : decode cJ1_indexOf_4cfef 29 = .ok (.aload_n 0, 1) := by decide +kernel
theorem dJ1_indexOf_4cfef_30 : decode cJ1_indexOf_4cfef 30 = .ok (.iload_n 1, 1) := by decide +kernel
theorem dJ1_indexOf_4cfef_31 : decode cJ1_indexOf_4cfef 31 = .ok (.iload_n 2, 1) := by decide +kernel
theorem dJ1_indexOf_4cfef_32 : decode cJ1_indexOf_4cfef 32 = .ok (.iload_n 3, 1) := by decide +kernel
theorem dJ1_indexOf_4cfef_33 : decode cJ1_indexOf_4cfef 33 = .ok (.invokestatic 95, 3) := by decide +kernel
theorem dJ1_indexOf_4cfef_36 : decode cJ1_indexOf_4cfef 36 = .ok (.ireturn, 1) := by decide +kernel
theorem dJ1_indexOfChar_4cfef_0 : decode cJ1_indexOfChar_4cfef 0 = .ok (.iload_n 1, 1) := by decide +kernel
theorem dJ1_indexOfChar_4cfef_1 : decode cJ1_indexOfChar_4cfef 1 = .ok (.i2b, 1) := by decide +kernel
theorem dJ1_indexOfChar_4cfef_2 : decode cJ1_indexOfChar_4cfef 2 = .ok (.istore 4, 2) := by decide +kernel
theorem dJ1_indexOfChar_4cfef_4 : decode cJ1_indexOfChar_4cfef 4 = .ok (.iload_n 2, 1) := by decide +kernel
theorem dJ1_indexOfChar_4cfef_5 : decode cJ1_indexOfChar_4cfef 5 = .ok (.istore 5, 2) := by decide +kernel
theorem dJ1_indexOfChar_4cfef_7 : decode cJ1_indexOfChar_4cfef 7 = .ok (.iload 5, 2) := by decide +kernel
theorem dJ1_indexOfChar_4cfef_9 : decode cJ1_indexOfChar_4cfef 9 = .ok (.iload_n 3, 1) := by decide +kernel
theorem dJ1_indexOfChar_4cfef_10 : decode cJ1_indexOfChar_4cfef 10 = .ok (.if_icmp .ge 21, 3) := by decide +kernel
theorem dJ1_indexOfChar_4cfef_13 : decode cJ1_indexOfChar_4cfef 13 = .ok (.aload_n 0, 1) := by decide +kernel
theorem dJ1_indexOfChar_4cfef_14 : decode cJ1_indexOfChar_4cfef 14 = .ok (.iload 5, 2) := by decide +kernel
theorem dJ1_indexOfChar_4cfef_16 : decode cJ1_indexOfChar_4cfef 16 = .ok (.baload, 1) := by decide +kernel
theorem dJ1_indexOfChar_4cfef_17 : decode cJ1_indexOfChar_4cfef 17 = .ok (.iload 4, 2) := by decide +kernel
theorem dJ1_indexOfChar_4cfef_19 : decode cJ1_indexOfChar_4cfef 19 = .ok (.if_icmp .ne 6, 3) := by decide +kernel
theorem dJ1_indexOfChar_4cfef_22 : decode cJ1_indexOfChar_4cfef 22 = .ok (.iload 5, 2) := by decide +kernel
theorem dJ1_indexOfChar_4cfef_24 : decode cJ1_indexOfChar_4cfef 24 = .ok (.ireturn, 1) := by decide +kernel
theorem dJ1_indexOfChar_4cfef_25 : decode cJ1_indexOfChar_4cfef 25 = .ok (.iinc 5 1, 3) := by decide +kernel
theorem dJ1_indexOfChar_4cfef_28 : decode cJ1_indexOfChar_4cfef 28 = .ok (.goto (-21), 3) := by decide +kernel
theorem dJ1_indexOfChar_4cfef_31 : decode cJ1_indexOfChar_4cfef 31 = .ok (.iconst (-1), 1) := by decide +kernel
theorem dJ1_indexOfChar_4cfef_32 : decode cJ1_indexOfChar_4cfef 32 = .ok (.ireturn, 1) := by decide +kernel
theorem dJ2_getChar_3b067_0 : decode cJ2_getChar_3b067 0 = .ok (.getstatic 44, 3) := by decide +kernel
theorem dJ2_getChar_3b067_3 : decode cJ2_getChar_3b067 3 = .ok (.ifCond .ne 25, 3) := by decide +kernel
theorem dJ2_getChar_3b067_6 : decode cJ2_getChar_3b067 6 = .ok (.iload_n 1, 1) := by decide +kernel
theorem dJ2_getChar_3b067_7 : decode cJ2_getChar_3b067 7 = .ok (.ifCond .lt 11, 3) := by decide +kernel
theorem dJ2_getChar_3b067_10 : decode cJ2_getChar_3b067 10 = .ok (.iload_n 1, 1) := by decide +kernel
theorem dJ2_getChar_3b067_11 : decode cJ2_getChar_3b067 11 = .ok (.aload_n 0, 1) := by decide +kernel
theorem dJ2_getChar_3b067_12 : decode cJ2_getChar_3b067 12 = .ok (.invokestatic 48, 3) := by decide +kernel
theorem dJ2_getChar_3b067_15 : decode cJ2_getChar_3b067 15 = .ok (.if_icmp .lt 13, 3) := by decide +kernel
theorem dJ2_getChar_3b067_18 : decode cJ2_getChar_3b067 18 = .ok (.new 52, 3) := by decide +kernel
theorem dJ2_getChar_3b067_21 : decode cJ2_getChar_3b067 21 = .ok (.dup, 1) := by decide +kernel
theorem dJ2_getChar_3b067_22 : decode cJ2_getChar_3b067 22 = .ok (.ldc 54, 2) := by decide +kernel
theorem dJ2_getChar_3b067_24 : decode cJ2_getChar_3b067 24 = .ok (.invokespecial 56, 3) := by decide +kernel
theorem dJ2_getChar_3b067_27 : decode cJ2_getChar_3b067 27 = .ok (.athrow, 1) := by decide +kernel
theorem dJ2_getChar_3b067_28 : decode cJ2_getChar_3b067 28 = .ok (.iload_n 1, 1) := by decide +kernel
theorem dJ2_getChar_3b067_29 : decode cJ2_getChar_3b067 29 = .ok (.iconst 1, 1) := by decide +kernel
theorem dJ2_getChar_3b067_30 : decode cJ2_getChar_3b067 30 = .ok (.ishl, 1) := by decide +kernel
theorem dJ2_getChar_3b067_31 : decode cJ2_getChar_3b067 31 = .ok (.istore_n 1, 1) := by decide +kernel
theorem dJ2_getChar_3b067_32 : decode cJ2_getChar_3b067 32 = .ok (.aload_n 0, 1) := by decide +kernel
theorem dJ2_getChar_3b067_33 : decode cJ2_getChar_3b067 33 = .ok (.iload_n 1, 1) := by decide +kernel
theorem dJ2_getChar_3b067_34 : decode cJ2_getChar_3b067 34 = .ok (.iinc 1 1, 3) := by decide +kernel
theorem dJ2_getChar_3b067_37 : decode cJ2_getChar_3b067 37 = .ok (.baload, 1) := by decide +kernel
theorem dJ2_getChar_3b067_38 : decode cJ2_getChar_3b067 38 = .ok (.sipush 255, 3) := by decide +kernel
theorem dJ2_getChar_3b067_41 : decode cJ2_getChar_3b067 41 = .ok (.iand, 1) := by decide +kernel
theorem dJ2_getChar_3b067_42 : decode cJ2_getChar_3b067 42 = .ok (.getstatic 59, 3) := by decide +kernel
theorem dJ2_getChar_3b067_45 : decode cJ2_getChar_3b067 45 = .ok (.ishl, 1) := by decide +kernel
theorem dJ2_getChar_3b067_46 : decode cJ2_getChar_3b067 46 = .ok (.aload_n 0, 1) := by decide +kernel
theorem dJ2_getChar_3b067_47 : decode cJ2_getChar_3b067 47 = .ok (.iload_n 1, 1) := by decide +kernel
theorem dJ2_getChar_3b067_48 : decode cJ2_getChar_3b067 48 = .ok (.baload, 1) := by decide +kernel
theorem dJ2_getChar_3b067_49 : decode cJ2_getChar_3b067 49 = .ok (.sipush 255, 3) := by decide +kernel
theorem dJ2_getChar_3b067_52 : decode cJ2_getChar_3b067 52 = .ok (.iand, 1) := by decide +kernel
theorem dJ2_getChar_3b067_53 : decode cJ2_getChar_3b067 53 = .ok (.getstatic 63, 3) := by decide +kernel
theorem dJ2_getChar_3b067_56 : decode cJ2_getChar_3b067 56 = .ok (.ishl, 1) := by decide +kernel
theorem dJ2_getChar_3b067_57 : decode cJ2_getChar_3b067 57 = .ok (.ior, 1) := by decide +kernel
theorem dJ2_getChar_3b067_58 : decode cJ2_getChar_3b067 58 = .ok (.i2c, 1) := by decide +kernel
theorem dJ2_getChar_3b067_59 : decode cJ2_getChar_3b067 59 = .ok (.ireturn, 1) := by decide +kernel
theorem dJ2_length_9d52b_0 : decode cJ2_length_9d52b 0 = .ok (.aload_n 0, 1) := by decide +kernel
theorem dJ2_length_9d52b_1 : decode cJ2_length_9d52b 1 = .ok (.arraylength, 1) := by decide +kernel
theorem dJ2_length_9d52b_2 : decode cJ2_length_9d52b 2 = .ok (.iconst 1, 1) := by decide +kernel
theorem dJ2_length_9d52b_3 : decode cJ2_length_9d52b 3 = .ok (.ishr, 1) := by decide +kernel
theorem dJ2_length_9d52b_4 : decode cJ2_length_9d52b 4 = .ok (.ireturn, 1) := by decide +kernel
theorem dJ2_indexOf_4cfef_0 : decode cJ2_indexOf_4cfef 0 = .ok (.iload_n 2, 1) := by decide +kernel
theorem dJ2_indexOf_4cfef_1 : decode cJ2_indexOf_4cfef 1 = .ok (.iconst 0, 1) := by decide +kernel
theorem dJ2_indexOf_4cfef_2 : decode cJ2_indexOf_4cfef 2 = .ok (.invokestatic 224, 3) := by decide +kernel
theorem dJ2_indexOf_4cfef_5 : decode cJ2_indexOf_4cfef 5 = .ok (.istore_n 2, 1) := by decide +kernel
theorem dJ2_indexOf_4cfef_6 : decode cJ2_indexOf_4cfef 6 = .ok (.iload_n 3, 1) := by decide +kernel
theorem dJ2_indexOf_4cfef_7 : decode cJ2_indexOf_4cfef 7 = .ok (.aload_n 0, 1) := by decide +kernel
theorem dJ2_indexOf_4cfef_8 : decode cJ2_indexOf_4cfef 8 = .ok (.arraylength, 1) := by decide +kernel
theorem dJ2_indexOf_4cfef_9 : decode cJ2_indexOf_4cfef 9 = .ok (.iconst 1, 1) := by decide +kernel
theorem dJ2_indexOf_4cfef_10 : decode cJ2_indexOf_4cfef 10 = .ok (.ishr, 1) := by decide +kernel
theorem dJ2_indexOf_4cfef_11 : decode cJ2_indexOf_4cfef 11 = .ok (.invokestatic 183, 3) := by decide +kernel
theorem dJ2_indexOf_4cfef_14 : decode cJ2_indexOf_4cfef 14 = .ok (.istore_n 3, 1) := by decide +kernel
theorem dJ2_indexOf_4cfef_15 : decode cJ2_indexOf_4cfef 15 = .ok (.iload_n 2, 1) := by decide +kernel
theorem dJ2_indexOf_4cfef_16 : decode cJ2_indexOf_4cfef 16 = .ok (.iload_n 3, 1) := by decide +kernel
theorem dJ2_indexOf_4cfef_17 : decode cJ2_indexOf_4cfef 17 = .ok (.if_icmp .lt 5, 3) := by decide +kernel
theorem dJ2_indexOf_4cfef_20 : decode cJ2_indexOf_4cfef 20 = .ok (.iconst (-1), 1) := by decide +kernel
theorem dJ2_indexOf_4cfef_21 : decode cJ2_indexOf_4cfef 21 = .ok (.ireturn, 1) := by decide +kernel
theorem dJ2_indexOf_4cfef_22 : decode cJ2_indexOf_4cfef 22 = .ok (.iload_n 1, 1) := by decide +kernel
theorem dJ2_indexOf_4cfef_23 : decode cJ2_indexOf_4cfef 23 = .ok (.ldc 227, 2) := by decide +kernel
theorem dJ2_indexOf_4cfef_25 : decode cJ2_indexOf_4cfef 25 = .ok (.if_icmp .ge 11, 3) := by decide +kernel
theorem dJ2_indexOf_4cfef_28 : decode cJ2_indexOf_4cfef 28 = .ok (.aload_n 0, 1) := by decide +kernel
theorem dJ2_indexOf_4cfef_29 : decode cJ2_indexOf_4cfef 29 = .ok (.iload_n 1, 1) := by decide +kernel
theorem dJ2_indexOf_4cfef_30 : decode cJ2_indexOf_4cfef 30 = .ok (.iload_n 2, 1) := by decide +kernel
theorem dJ2_indexOf_4cfef_31 : decode cJ2_indexOf_4cfef 31 = .ok (.iload_n 3, 1) := by decide +kernel
theorem dJ2_indexOf_4cfef_32 : decode cJ2_indexOf_4cfef 32 = .ok (.invokestatic 228, 3) := by decide +kernel
theorem dJ2_indexOf_4cfef_35 : decode cJ2_indexOf_4cfef 35 = .ok (.ireturn, 1) := by decide +kernel
theorem dJ2_indexOf_4cfef_36 : decode cJ2_indexOf_4cfef 36 = .ok (.aload_n 0, 1) := by decide +kernel
theorem dJ2_indexOf_4cfef_37 : decode cJ2_indexOf_4cfef 37 = .ok (.iload_n 1, 1) := by decide +kernel
theorem dJ2_indexOf_4cfef_38 : decode cJ2_indexOf_4cfef 38 = .ok (.iload_n 2, 1) := by decide +kernel
theorem dJ2_indexOf_4cfef_39 : decode cJ2_indexOf_4cfef 39 = .ok (.iload_n 3, 1) := by decide +kernel
theorem dJ2_indexOf_4cfef_40 : decode cJ2_indexOf_4cfef 40 = .ok (.invokestatic 232, 3) := by decide +kernel
theorem dJ2_indexOf_4cfef_43 : decode cJ2_indexOf_4cfef 43 = .ok (.ireturn, 1) := by decide +kernel
theorem dJ2_indexOfChar_4cfef_0 : decode cJ2_indexOfChar_4cfef 0 = .ok (.iload_n 2, 1) := by decide +kernel
theorem dJ2_indexOfChar_4cfef_1 : decode cJ2_indexOfChar_4cfef 1 = .ok (.iload_n 3, 1) := by decide +kernel
theorem dJ2_indexOfChar_4cfef_2 : decode cJ2_indexOfChar_4cfef 2 = .ok (.aload_n 0, 1) := by decide +kernel
theorem dJ2_indexOfChar_4cfef_3 : decode cJ2_indexOfChar_4cfef 3 = .ok (.invokestatic 96, 3) := by decide +kernel
theorem dJ2_indexOfChar_4cfef_6 : decode cJ2_indexOfChar_4cfef 6 = .ok (.aload_n 0, 1) := by decide +kernel
theorem dJ2_indexOfChar_4cfef_7 : decode cJ2_indexOfChar_4cfef 7 = .ok (.iload_n 1, 1) := by decide +kernel
theorem dJ2_indexOfChar_4cfef_8 : decode cJ2_indexOfChar_4cfef 8 = .ok (.iload_n 2, 1) := by decide +kernel
theorem dJ2_indexOfChar_4cfef_9 : decode cJ2_indexOfChar_4cfef 9 = .ok (.iload_n 3, 1) := by decide +kernel
theorem dJ2_indexOfChar_4cfef_10 : decode cJ2_indexOfChar_4cfef 10 = .ok (.invokestatic 244, 3) := by decide +kernel
theorem dJ2_indexOfChar_4cfef_13 : decode cJ2_indexOfChar_4cfef 13 = .ok (.ireturn, 1) := by decide +kernel
theorem dJ2_indexOfCharUnsafe_4cfef_0 : decode cJ2_indexOfCharUnsafe_4cfef 0 = .ok (.iload_n 2, 1) := by decide +kernel
theorem dJ2_indexOfCharUnsafe_4cfef_1 : decode cJ2_indexOfCharUnsafe_4cfef 1 = .ok (.istore 4, 2) := by decide +kernel
theorem dJ2_indexOfCharUnsafe_4cfef_3 : decode cJ2_indexOfCharUnsafe_4cfef 3 = .ok (.iload 4, 2) := by decide +kernel
theorem dJ2_indexOfCharUnsafe_4cfef_5 : decode cJ2_indexOfCharUnsafe_4cfef 5 = .ok (.iload_n 3, 1) := by decide +kernel
theorem dJ2_indexOfCharUnsafe_4cfef_6 : decode cJ2_indexOfCharUnsafe_4cfef 6 = .ok (.if_icmp .ge 22, 3) := by decide +kernel
theorem dJ2_indexOfCharUnsafe_4cfef_9 : decode cJ2_indexOfCharUnsafe_4cfef 9 = .ok (.aload_n 0, 1) := by decide +kernel
theorem dJ2_indexOfCharUnsafe_4cfef_10 : decode cJ2_indexOfCharUnsafe_4cfef 10 = .ok (.iload 4, 2) := by decide +kernel
theorem dJ2_indexOfCharUnsafe_4cfef_12 : decode cJ2_indexOfCharUnsafe_4cfef 12 = .ok (.invokestatic 71, 3) := by decide +kernel
theorem dJ2_indexOfCharUnsafe_4cfef_15 : decode cJ2_indexOfCharUnsafe_4cfef 15 = .ok (.iload_n 1, 1) := by decide +kernel
theorem dJ2_indexOfCharUnsafe_4cfef_16 : decode cJ2_indexOfCharUnsafe_4cfef 16 = .ok (.if_icmp .ne 6, 3) := by decide +kernel
theorem dJ2_indexOfCharUnsafe_4cfef_19 : decode cJ2_indexOfCharUnsafe_4cfef 19 = .ok (.iload 4, 2) := by decide +kernel
theorem dJ2_indexOfCharUnsafe_4cfef_21 : decode cJ2_indexOfCharUnsafe_4cfef 21 = .ok (.ireturn, 1) := by decide +kernel
theorem dJ2_indexOfCharUnsafe_4cfef_22 : decode cJ2_indexOfCharUnsafe_4cfef 22 = .ok (.iinc 4 1, 3) := by decide +kernel
theorem dJ2_indexOfCharUnsafe_4cfef_25 : decode cJ2_indexOfCharUnsafe_4cfef 25 = .ok (.goto (-22), 3) := by decide +kernel
theorem dJ2_indexOfCharUnsafe_4cfef_28 : decode cJ2_indexOfCharUnsafe_4cfef 28 = .ok (.iconst (-1), 1) := by decide +kernel
theorem dJ2_indexOfCharUnsafe_4cfef_29 : decode cJ2_indexOfCharUnsafe_4cfef 29 = .ok (.ireturn, 1) := by decide +kernel
theorem dJ2_indexOfSupplementary_4cfef_0 : decode cJ2_indexOfSupplementary_4cfef 0 = .ok (.iload_n 1, 1) := by decide +kernel
theorem dJ2_indexOfSupplementary_4cfef_1 : decode cJ2_indexOfSupplementary_4cfef 1 = .ok (.invokestatic 164, 3) := by decide +kernel
theorem dJ2_indexOfSupplementary_4cfef_4 : decode cJ2_indexOfSupplementary_4cfef 4 = .ok (.ifCond .eq 65, 3) := by decide +kernel
theorem dJ2_indexOfSupplementary_4cfef_7 : decode cJ2_indexOfSupplementary_4cfef 7 = .ok (.iload_n 1, 1) := by decide +kernel
theorem dJ2_indexOfSupplementary_4cfef_8 : decode cJ2_indexOfSupplementary_4cfef 8 = .ok (.invokestatic 157, 3) := by decide +kernel
theorem dJ2_indexOfSupplementary_4cfef_11 : decode cJ2_indexOfSupplementary_4cfef 11 = .ok (.istore 4, 2) := by decide +kernel
theorem dJ2_indexOfSupplementary_4cfef_13 : decode cJ2_indexOfSupplementary_4cfef 13 = .ok (.iload_n 1, 1) := by decide +kernel
theorem dJ2_indexOfSupplementary_4cfef_14 : decode cJ2_indexOfSupplementary_4cfef 14 = .ok (.invokestatic 161, 3) := by decide +kernel
theorem dJ2_indexOfSupplementary_4cfef_17 : decode cJ2_indexOfSupplementary_4cfef 17 = .ok (.istore 5, 2) := by decide +kernel
theorem dJ2_indexOfSupplementary_4cfef_19 : decode cJ2_indexOfSupplementary_4cfef 19 = .ok (.iload_n 2, 1) := by decide +kernel
theorem dJ2_indexOfSupplementary_4cfef_20 : decode cJ2_indexOfSupplementary_4cfef 20 = .ok (.iload_n 3, 1) := by decide +kernel
theorem dJ2_indexOfSupplementary_4cfef_21 : decode cJ2_indexOfSupplementary_4cfef 21 = .ok (.aload_n 0, 1) := by decide +kernel
theorem dJ2_indexOfSupplementary_4cfef_22 : decode cJ2_indexOfSupplementary_4cfef 22 = .ok (.invokestatic 96, 3) := by decide +kernel
theorem dJ2_indexOfSupplementary_4cfef_25 : decode cJ2_indexOfSupplementary_4cfef 25 = .ok (.iload_n 2, 1) := by decide +kernel
theorem dJ2_indexOfSupplementary_4cfef_26 : decode cJ2_indexOfSupplementary_4cfef 26 = .ok (.istore 6, 2) := by decide +kernel
theorem dJ2_indexOfSupplementary_4cfef_28 : decode cJ2_indexOfSupplementary_4cfef 28 = .ok (.iload 6, 2) := by decide +kernel
theorem dJ2_indexOfSupplementary_4cfef_30 : decode cJ2_indexOfSupplementary_4cfef 30 = .ok (.iload_n 3, 1) := by decide +kernel
theorem dJ2_indexOfSupplementary_4cfef_31 : decode cJ2_indexOfSupplementary_4cfef 31 = .ok (.iconst 1, 1) := by decide +kernel
theorem dJ2_indexOfSupplementary_4cfef_32 : decode cJ2_indexOfSupplementary_4cfef 32 = .ok (.isub, 1) := by decide +kernel
theorem dJ2_indexOfSupplementary_4cfef_33 : decode cJ2_indexOfSupplementary_4cfef 33 = .ok (.if_icmp .ge 36, 3) := by decide +kernel
theorem dJ2_indexOfSupplementary_4cfef_36 : decode cJ2_indexOfSupplementary_4cfef 36 = .ok (.aload_n 0, 1) := by decide +kernel
theorem dJ2_indexOfSupplementary_4cfef_37 : decode cJ2_indexOfSupplementary_4cfef 37 = .ok (.iload 6, 2) := by decide +kernel
theorem dJ2_indexOfSupplementary_4cfef_39 : decode cJ2_indexOfSupplementary_4cfef 39 = .ok (.invokestatic 71, 3) := by decide +kernel
theorem dJ2_indexOfSupplementary_4cfef_42 : decode cJ2_indexOfSupplementary_4cfef 42 = .ok (.iload 4, 2) := by decide +kernel
theorem dJ2_indexOfSupplementary_4cfef_44 : decode cJ2_indexOfSupplementary_4cfef 44 = .ok (.if_icmp .ne 19, 3) := by decide +kernel
theorem dJ2_indexOfSupplementary_4cfef_47 : decode cJ2_indexOfSupplementary_4cfef 47 = .ok (.aload_n 0, 1) := by decide +kernel
theorem dJ2_indexOfSupplementary_4cfef_48 : decode cJ2_indexOfSupplementary_4cfef 48 = .ok (.iload 6, 2) := by decide +kernel
theorem dJ2_indexOfSupplementary_4cfef_50 : decode cJ2_indexOfSupplementary_4cfef 50 = .ok (.iconst 1, 1) := by decide +kernel
theorem dJ2_indexOfSupplementary_4cfef_51 : decode cJ2_indexOfSupplementary_4cfef 51 = .ok (.iadd, 1) := by decide +kernel
theorem dJ2_indexOfSupplementary_4cfef_52 : decode cJ2_indexOfSupplementary_4cfef 52 = .ok (.invokestatic 71, 3) := by decide +kernel
theorem dJ2_indexOfSupplementary_4cfef_55 : decode cJ2_indexOfSupplementary_4cfef 55 = .ok (.iload 5, 2) := by decide +kernel
theorem dJ2_indexOfSupplementary_4cfef_57 : decode cJ2_indexOfSupplementary_4cfef 57 = .ok (.if_icmp .ne 6, 3) := by decide +kernel
theorem dJ2_indexOfSupplementary_4cfef_60 : decode cJ2_indexOfSupplementary_4cfef 60 = .ok (.iload 6, 2) := by decide +kernel
theorem dJ2_indexOfSupplementary_4cfef_62 : decode cJ2_indexOfSupplementary_4cfef 62 = .ok (.ireturn, 1) := by decide +kernel
theorem dJ2_indexOfSupplementary_4cfef_63 : decode cJ2_indexOfSupplementary_4cfef 63 = .ok (.iinc 6 1, 3) := by decide +kernel
theorem dJ2_indexOfSupplementary_4cfef_66 : decode cJ2_indexOfSupplementary_4cfef 66 = .ok (.goto (-38), 3) := by decide +kernel
theorem dJ2_indexOfSupplementary_4cfef_69 : decode cJ2_indexOfSupplementary_4cfef 69 = .ok (.iconst (-1), 1) := by decide +kernel
theorem dJ2_indexOfSupplementary_4cfef_70 : decode cJ2_indexOfSupplementary_4cfef 70 = .ok (.ireturn, 1) := by decide +kernel
theorem dJ2_checkBoundsBeginEnd_d044e_0 : decode cJ2_checkBoundsBeginEnd_d044e 0 = .ok (.iload_n 0, 1) := by decide +kernel
theorem dJ2_checkBoundsBeginEnd_d044e_1 : decode cJ2_checkBoundsBeginEnd_d044e 1 = .ok (.iload_n 1, 1) := by decide +kernel
theorem dJ2_checkBoundsBeginEnd_d044e_2 : decode cJ2_checkBoundsBeginEnd_d044e 2 = .ok (.aload_n 2, 1) := by decide +kernel
theorem dJ2_checkBoundsBeginEnd_d044e_3 : decode cJ2_checkBoundsBeginEnd_d044e 3 = .ok (.invokestatic 48, 3) := by decide +kernel
theorem dJ2_checkBoundsBeginEnd_d044e_6 : decode cJ2_checkBoundsBeginEnd_d044e 6 = .ok (.invokestatic 241, 3) := by decide +kernel
theorem dJ2_checkBoundsBeginEnd_d044e_9 : decode cJ2_checkBoundsBeginEnd_d044e 9 = .ok (.return_, 1) := by decide +kernel
theorem dJ7_fill_53178_0 : decode cJ7_fill_53178 0 = .ok (.iconst 0, 1) := by decide +kernel
theorem dJ7_fill_53178_1 : decode cJ7_fill_53178 1 = .ok (.istore_n 2, 1) := by decide +kernel
theorem dJ7_fill_53178_2 : decode cJ7_fill_53178 2 = .ok (.aload_n 0, 1) := by decide +kernel
theorem dJ7_fill_53178_3 : decode cJ7_fill_53178 3 = .ok (.arraylength, 1) := by decide +kernel
theorem dJ7_fill_53178_4 : decode cJ7_fill_53178 4 = .ok (.istore_n 3, 1) := by decide +kernel
theorem dJ7_fill_53178_5 : decode cJ7_fill_53178 5 = .ok (.iload_n 2, 1) := by decide +kernel
theorem dJ7_fill_53178_6 : decode cJ7_fill_53178 6 = .ok (.iload_n 3, 1) := by decide +kernel
theorem dJ7_fill_53178_7 : decode cJ7_fill_53178 7 = .ok (.if_icmp .ge 13, 3) := by decide +kernel
theorem dJ7_fill_53178_10 : decode cJ7_fill_53178 10 = .ok (.aload_n 0, 1) := by decide +kernel
theorem dJ7_fill_53178_11 : decode cJ7_fill_53178 11 = .ok (.iload_n 2, 1) := by decide +kernel
theorem dJ7_fill_53178_12 : decode cJ7_fill_53178 12 = .ok (.iload_n 1, 1) := by decide +kernel
theorem dJ7_fill_53178_13 : decode cJ7_fill_53178 13 = .ok (.iastore, 1) := by decide +kernel
theorem dJ7_fill_53178_14 : decode cJ7_fill_53178 14 = .ok (.iinc 2 1, 3) := by decide +kernel
theorem dJ7_fill_53178_17 : decode cJ7_fill_53178 17 = .ok (.goto (-12), 3) := by decide +kernel
theorem dJ7_fill_53178_20 : decode cJ7_fill_53178 20 = .ok (.return_, 1) := by decide +kernel
theorem dJ3_checkFromToIndex_8c36e_0 : decode cJ3_checkFromToIndex_8c36e 0 = .ok (.iload_n 0, 1) := by decide +kernel
theorem dJ3_checkFromToIndex_8c36e_1 : decode cJ3_checkFromToIndex_8c36e 1 = .ok (.ifCond .lt 13, 3) := by decide +kernel
theorem dJ3_checkFromToIndex_8c36e_4 : decode cJ3_checkFromToIndex_8c36e 4 = .ok (.iload_n 0, 1) := by decide +kernel
theorem dJ3_checkFromToIndex_8c36e_5 : decode cJ3_checkFromToIndex_8c36e 5 = .ok (.iload_n 1, 1) := by decide +kernel
theorem dJ3_checkFromToIndex_8c36e_6 : decode cJ3_checkFromToIndex_8c36e 6 = .ok (.if_icmp .gt 8, 3) := by decide +kernel
theorem dJ3_checkFromToIndex_8c36e_9 : decode cJ3_checkFromToIndex_8c36e 9 = .ok (.iload_n 1, 1) := by decide +kernel
theorem dJ3_checkFromToIndex_8c36e_10 : decode cJ3_checkFromToIndex_8c36e 10 = .ok (.iload_n 2, 1) := by decide +kernel
theorem dJ3_checkFromToIndex_8c36e_11 : decode cJ3_checkFromToIndex_8c36e 11 = .ok (.if_icmp .le 11, 3) := by decide +kernel
theorem dJ3_checkFromToIndex_8c36e_14 : decode cJ3_checkFromToIndex_8c36e 14 = .ok (.aload_n 3, 1) := by decide +kernel
theorem dJ3_checkFromToIndex_8c36e_15 : decode cJ3_checkFromToIndex_8c36e 15 = .ok (.iload_n 0, 1) := by decide +kernel
theorem dJ3_checkFromToIndex_8c36e_16 : decode cJ3_checkFromToIndex_8c36e 16 = .ok (.iload_n 1, 1) := by decide +kernel
theorem dJ3_checkFromToIndex_8c36e_17 : decode cJ3_checkFromToIndex_8c36e 17 = .ok (.iload_n 2, 1) := by decide +kernel
theorem dJ3_checkFromToIndex_8c36e_18 : decode cJ3_checkFromToIndex_8c36e 18 = .ok (.invokestatic 99, 3) := by decide +kernel
theorem dJ3_checkFromToIndex_8c36e_21 : decode cJ3_checkFromToIndex_8c36e 21 = .ok (.athrow, 1) := by decide +kernel
theorem dJ3_checkFromToIndex_8c36e_22 : decode cJ3_checkFromToIndex_8c36e 22 = .ok (.iload_n 0, 1) := by decide +kernel
theorem dJ3_checkFromToIndex_8c36e_23 : decode cJ3_checkFromToIndex_8c36e 23 = .ok (.ireturn, 1) := by decide +kernel
