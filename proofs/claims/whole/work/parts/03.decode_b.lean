theorem dX8_burn_23 : decode cX8_burn 23 = .ok (.getfield 183, 3) := by decide +kernel
theorem dX8_burn_26 : decode cX8_burn 26 = .ok (.dup, 1) := by decide +kernel
theorem dX8_burn_27 : decode cX8_burn 27 = .ok (.getfield 192, 3) := by decide +kernel
theorem dX8_burn_30 : decode cX8_burn 30 = .ok (.iconst 1, 1) := by decide +kernel
theorem dX8_burn_31 : decode cX8_burn 31 = .ok (.isub, 1) := by decide +kernel
theorem dX8_burn_32 : decode cX8_burn 32 = .ok (.putfield 192, 3) := by decide +kernel
theorem dX8_burn_35 : decode cX8_burn 35 = .ok (.aload_n 0, 1) := by decide +kernel
theorem dX8_burn_36 : decode cX8_burn 36 = .ok (.getfield 12, 3) := by decide +kernel
theorem dX8_burn_39 : decode cX8_burn 39 = .ok (.getfield 183, 3) := by decide +kernel
theorem dX8_burn_42 : decode cX8_burn 42 = .ok (.getfield 192, 3) := by decide +kernel
theorem dX8_burn_45 : decode cX8_burn 45 = .ok (.ireturn, 1) := by decide +kernel
theorem dX8_may_0 : decode cX8_may 0 = .ok (.aload_n 0, 1) := by decide +kernel
theorem dX8_may_1 : decode cX8_may 1 = .ok (.iload_n 1, 1) := by decide +kernel
theorem dX8_may_2 : decode cX8_may 2 = .ok (.invokevirtual 193, 3) := by decide +kernel
theorem dX8_may_5 : decode cX8_may 5 = .ok (.ifCond .eq 7, 3) := by decide +kernel
theorem dX8_may_8 : decode cX8_may 8 = .ok (.iload_n 2, 1) := by decide +kernel
theorem dX8_may_9 : decode cX8_may 9 = .ok (.ifCond .ge 9, 3) := by decide +kernel
theorem dX8_may_12 : decode cX8_may 12 = .ok (.aload_n 0, 1) := by decide +kernel
theorem dX8_may_13 : decode cX8_may 13 = .ok (.iconst 1, 1) := by decide +kernel
theorem dX8_may_14 : decode cX8_may 14 = .ok (.invokevirtual 48, 3) := by decide +kernel
theorem dX8_may_17 : decode cX8_may 17 = .ok (.ireturn, 1) := by decide +kernel
theorem dX8_may_18 : decode cX8_may 18 = .ok (.aload_n 0, 1) := by decide +kernel
theorem dX8_may_19 : decode cX8_may 19 = .ok (.getfield 12, 3) := by decide +kernel
theorem dX8_may_22 : decode cX8_may 22 = .ok (.getfield 183, 3) := by decide +kernel
theorem dX8_may_25 : decode cX8_may 25 = .ok (.aload_n 0, 1) := by decide +kernel
theorem dX8_may_26 : decode cX8_may 26 = .ok (.getfield 12, 3) := by decide +kernel
theorem dX8_may_29 : decode cX8_may 29 = .ok (.getfield 52, 3) := by decide +kernel
theorem dX8_may_32 : decode cX8_may 32 = .ok (.iload_n 1, 1) := by decide +kernel
theorem dX8_may_33 : decode cX8_may 33 = .ok (.invokevirtual 196, 3) := by decide +kernel
theorem dX8_may_36 : decode cX8_may 36 = .ok (.istore_n 3, 1) := by decide +kernel
theorem dX8_may_37 : decode cX8_may 37 = .ok (.iload_n 2, 1) := by decide +kernel
theorem dX8_may_38 : decode cX8_may 38 = .ok (.iload_n 3, 1) := by decide +kernel
theorem dX8_may_39 : decode cX8_may 39 = .ok (.if_icmp .ge 18, 3) := by decide +kernel
theorem dX8_may_42 : decode cX8_may 42 = .ok (.aload_n 0, 1) := by decide +kernel
theorem dX8_may_43 : decode cX8_may 43 = .ok (.getfield 12, 3) := by decide +kernel
theorem dX8_may_46 : decode cX8_may 46 = .ok (.getfield 183, 3) := by decide +kernel
theorem dX8_may_49 : decode cX8_may 49 = .ok (.getfield 204, 3) := by decide +kernel
theorem dX8_may_52 : decode cX8_may 52 = .ok (.iload_n 2, 1) := by decide +kernel
theorem dX8_may_53 : decode cX8_may 53 = .ok (.iaload, 1) := by decide +kernel
theorem dX8_may_54 : decode cX8_may 54 = .ok (.goto 8, 3) := by decide +kernel
theorem dX8_may_57 : decode cX8_may 57 = .ok (.aload_n 0, 1) := by decide +kernel
theorem dX8_may_58 : decode cX8_may 58 = .ok (.iconst 2, 1) := by decide +kernel
theorem dX8_may_59 : decode cX8_may 59 = .ok (.invokevirtual 48, 3) := by decide +kernel
theorem dX8_may_62 : decode cX8_may 62 = .ok (.ireturn, 1) := by decide +kernel
theorem dX8_rows_0 : decode cX8_rows 0 = .ok (.aload_n 0, 1) := by decide +kernel
theorem dX8_rows_1 : decode cX8_rows 1 = .ok (.getfield 12, 3) := by decide +kernel
theorem dX8_rows_4 : decode cX8_rows 4 = .ok (.getfield 183, 3) := by decide +kernel
theorem dX8_rows_7 : decode cX8_rows 7 = .ok (.aload_n 0, 1) := by decide +kernel
theorem dX8_rows_8 : decode cX8_rows 8 = .ok (.getfield 12, 3) := by decide +kernel
theorem dX8_rows_11 : decode cX8_rows 11 = .ok (.getfield 52, 3) := by decide +kernel
theorem dX8_rows_14 : decode cX8_rows 14 = .ok (.invokevirtual 207, 3) := by decide +kernel
theorem dX8_rows_17 : decode cX8_rows 17 = .ok (.lreturn, 1) := by decide +kernel
theorem dX8_span_0 : decode cX8_span 0 = .ok (.aload_n 0, 1) := by decide +kernel
theorem dX8_span_1 : decode cX8_span 1 = .ok (.iload_n 1, 1) := by decide +kernel
theorem dX8_span_2 : decode cX8_span 2 = .ok (.invokevirtual 193, 3) := by decide +kernel
theorem dX8_span_5 : decode cX8_span 5 = .ok (.ifCond .eq 11, 3) := by decide +kernel
theorem dX8_span_8 : decode cX8_span 8 = .ok (.iload_n 2, 1) := by decide +kernel
theorem dX8_span_9 : decode cX8_span 9 = .ok (.iconst 2, 1) := by decide +kernel
theorem dX8_span_10 : decode cX8_span 10 = .ok (.invokestatic 66, 3) := by decide +kernel
theorem dX8_span_13 : decode cX8_span 13 = .ok (.ifCond .ne 9, 3) := by decide +kernel
theorem dX8_span_16 : decode cX8_span 16 = .ok (.aload_n 0, 1) := by decide +kernel
theorem dX8_span_17 : decode cX8_span 17 = .ok (.iconst 1, 1) := by decide +kernel
theorem dX8_span_18 : decode cX8_span 18 = .ok (.invokevirtual 48, 3) := by decide +kernel
theorem dX8_span_21 : decode cX8_span 21 = .ok (.ireturn, 1) := by decide +kernel
theorem dX8_span_22 : decode cX8_span 22 = .ok (.aload_n 0, 1) := by decide +kernel
theorem dX8_span_23 : decode cX8_span 23 = .ok (.getfield 12, 3) := by decide +kernel
theorem dX8_span_26 : decode cX8_span 26 = .ok (.getfield 183, 3) := by decide +kernel
theorem dX8_span_29 : decode cX8_span 29 = .ok (.aload_n 0, 1) := by decide +kernel
theorem dX8_span_30 : decode cX8_span 30 = .ok (.getfield 12, 3) := by decide +kernel
theorem dX8_span_33 : decode cX8_span 33 = .ok (.getfield 52, 3) := by decide +kernel
theorem dX8_span_36 : decode cX8_span 36 = .ok (.iload_n 1, 1) := by decide +kernel
theorem dX8_span_37 : decode cX8_span 37 = .ok (.invokevirtual 211, 3) := by decide +kernel
theorem dX8_span_40 : decode cX8_span 40 = .ok (.istore_n 3, 1) := by decide +kernel
theorem dX8_span_41 : decode cX8_span 41 = .ok (.iload_n 3, 1) := by decide +kernel
theorem dX8_span_42 : decode cX8_span 42 = .ok (.ifCond .ge 9, 3) := by decide +kernel
theorem dX8_span_45 : decode cX8_span 45 = .ok (.aload_n 0, 1) := by decide +kernel
theorem dX8_span_46 : decode cX8_span 46 = .ok (.iconst 2, 1) := by decide +kernel
theorem dX8_span_47 : decode cX8_span 47 = .ok (.invokevirtual 48, 3) := by decide +kernel
theorem dX8_span_50 : decode cX8_span 50 = .ok (.ireturn, 1) := by decide +kernel
theorem dX8_span_51 : decode cX8_span 51 = .ok (.iload_n 2, 1) := by decide +kernel
theorem dX8_span_52 : decode cX8_span 52 = .ok (.ifCond .ne 7, 3) := by decide +kernel
theorem dX8_span_55 : decode cX8_span 55 = .ok (.iload_n 3, 1) := by decide +kernel
theorem dX8_span_56 : decode cX8_span 56 = .ok (.goto 21, 3) := by decide +kernel
theorem dX8_span_59 : decode cX8_span 59 = .ok (.aload_n 0, 1) := by decide +kernel
theorem dX8_span_60 : decode cX8_span 60 = .ok (.getfield 12, 3) := by decide +kernel
theorem dX8_span_63 : decode cX8_span 63 = .ok (.getfield 183, 3) := by decide +kernel
theorem dX8_span_66 : decode cX8_span 66 = .ok (.aload_n 0, 1) := by decide +kernel
theorem dX8_span_67 : decode cX8_span 67 = .ok (.getfield 12, 3) := by decide +kernel
theorem dX8_span_70 : decode cX8_span 70 = .ok (.getfield 52, 3) := by decide +kernel
theorem dX8_span_73 : decode cX8_span 73 = .ok (.iload_n 1, 1) := by decide +kernel
theorem dX8_span_74 : decode cX8_span 74 = .ok (.invokevirtual 214, 3) := by decide +kernel
theorem dX8_span_77 : decode cX8_span 77 = .ok (.ireturn, 1) := by decide +kernel
theorem dX8_clerk_0 : decode cX8_clerk 0 = .ok (.iconst 0, 1) := by decide +kernel
theorem dX8_clerk_1 : decode cX8_clerk 1 = .ok (.istore_n 1, 1) := by decide +kernel
theorem dX8_clerk_2 : decode cX8_clerk 2 = .ok (.iconst 0, 1) := by decide +kernel
theorem dX8_clerk_3 : decode cX8_clerk 3 = .ok (.istore_n 2, 1) := by decide +kernel
theorem dX8_clerk_4 : decode cX8_clerk 4 = .ok (.iload_n 2, 1) := by decide +kernel
theorem dX8_clerk_5 : decode cX8_clerk 5 = .ok (.aload_n 0, 1) := by decide +kernel
theorem dX8_clerk_6 : decode cX8_clerk 6 = .ok (.getfield 12, 3) := by decide +kernel
theorem dX8_clerk_9 : decode cX8_clerk 9 = .ok (.getfield 183, 3) := by decide +kernel
theorem dX8_clerk_12 : decode cX8_clerk 12 = .ok (.getfield 192, 3) := by decide +kernel
theorem dX8_clerk_15 : decode cX8_clerk 15 = .ok (.if_icmp .ge 92, 3) := by decide +kernel
theorem dX8_clerk_18 : decode cX8_clerk 18 = .ok (.aload_n 0, 1) := by decide +kernel
theorem dX8_clerk_19 : decode cX8_clerk 19 = .ok (.getfield 12, 3) := by decide +kernel
theorem dX8_clerk_22 : decode cX8_clerk 22 = .ok (.getfield 183, 3) := by decide +kernel
theorem dX8_clerk_25 : decode cX8_clerk 25 = .ok (.getfield 200, 3) := by decide +kernel
theorem dX8_clerk_28 : decode cX8_clerk 28 = .ok (.iload_n 2, 1) := by decide +kernel
theorem dX8_clerk_29 : decode cX8_clerk 29 = .ok (.iaload, 1) := by decide +kernel
theorem dX8_clerk_30 : decode cX8_clerk 30 = .ok (.istore_n 3, 1) := by decide +kernel
theorem dX8_clerk_31 : decode cX8_clerk 31 = .ok (.aload_n 0, 1) := by decide +kernel
theorem dX8_clerk_32 : decode cX8_clerk 32 = .ok (.getfield 12, 3) := by decide +kernel
theorem dX8_clerk_35 : decode cX8_clerk 35 = .ok (.invokevirtual 217, 3) := by decide +kernel
theorem dX8_clerk_38 : decode cX8_clerk 38 = .ok (.bipush 8, 2) := by decide +kernel
theorem dX8_clerk_40 : decode cX8_clerk 40 = .ok (.irem, 1) := by decide +kernel
theorem dX8_clerk_41 : decode cX8_clerk 41 = .ok (.istore 4, 2) := by decide +kernel
theorem dX8_clerk_43 : decode cX8_clerk 43 = .ok (.iload 4, 2) := by decide +kernel
theorem dX8_clerk_45 : decode cX8_clerk 45 = .ok (.ifCond .ne 7, 3) := by decide +kernel
theorem dX8_clerk_48 : decode cX8_clerk 48 = .ok (.iconst 1, 1) := by decide +kernel
theorem dX8_clerk_49 : decode cX8_clerk 49 = .ok (.goto 14, 3) := by decide +kernel
theorem dX8_clerk_52 : decode cX8_clerk 52 = .ok (.iload 4, 2) := by decide +kernel
theorem dX8_clerk_54 : decode cX8_clerk 54 = .ok (.iconst 1, 1) := by decide +kernel
theorem dX8_clerk_55 : decode cX8_clerk 55 = .ok (.if_icmp .ne 7, 3) := by decide +kernel
theorem dX8_clerk_58 : decode cX8_clerk 58 = .ok (.iconst (-1), 1) := by decide +kernel
theorem dX8_clerk_59 : decode cX8_clerk 59 = .ok (.goto 4, 3) := by decide +kernel
theorem dX8_clerk_62 : decode cX8_clerk 62 = .ok (.iconst 0, 1) := by decide +kernel
theorem dX8_clerk_63 : decode cX8_clerk 63 = .ok (.istore 5, 2) := by decide +kernel
theorem dX8_clerk_65 : decode cX8_clerk 65 = .ok (.iload_n 3, 1) := by decide +kernel
theorem dX8_clerk_66 : decode cX8_clerk 66 = .ok (.iload 5, 2) := by decide +kernel
theorem dX8_clerk_68 : decode cX8_clerk 68 = .ok (.iadd, 1) := by decide +kernel
theorem dX8_clerk_69 : decode cX8_clerk 69 = .ok (.iconst 0, 1) := by decide +kernel
theorem dX8_clerk_70 : decode cX8_clerk 70 = .ok (.sipush 206, 3) := by decide +kernel
theorem dX8_clerk_73 : decode cX8_clerk 73 = .ok (.invokestatic 221, 3) := by decide +kernel
theorem dX8_clerk_76 : decode cX8_clerk 76 = .ok (.istore 6, 2) := by decide +kernel
theorem dX8_clerk_78 : decode cX8_clerk 78 = .ok (.aload_n 0, 1) := by decide +kernel
theorem dX8_clerk_79 : decode cX8_clerk 79 = .ok (.getfield 12, 3) := by decide +kernel
theorem dX8_clerk_82 : decode cX8_clerk 82 = .ok (.getfield 183, 3) := by decide +kernel
theorem dX8_clerk_85 : decode cX8_clerk 85 = .ok (.getfield 200, 3) := by decide +kernel
theorem dX8_clerk_88 : decode cX8_clerk 88 = .ok (.iload_n 2, 1) := by decide +kernel
theorem dX8_clerk_89 : decode cX8_clerk 89 = .ok (.iload 6, 2) := by decide +kernel
theorem dX8_clerk_91 : decode cX8_clerk 91 = .ok (.iastore, 1) := by decide +kernel
theorem dX8_clerk_92 : decode cX8_clerk 92 = .ok (.iload 6, 2) := by decide +kernel
theorem dX8_clerk_94 : decode cX8_clerk 94 = .ok (.iload_n 3, 1) := by decide +kernel
theorem dX8_clerk_95 : decode cX8_clerk 95 = .ok (.if_icmp .eq 6, 3) := by decide +kernel
theorem dX8_clerk_98 : decode cX8_clerk 98 = .ok (.iinc 1 1, 3) := by decide +kernel
theorem dX8_clerk_101 : decode cX8_clerk 101 = .ok (.iinc 2 1, 3) := by decide +kernel
theorem dX8_clerk_104 : decode cX8_clerk 104 = .ok (.goto (-100), 3) := by decide +kernel
theorem dX8_clerk_107 : decode cX8_clerk 107 = .ok (.iload_n 1, 1) := by decide +kernel
theorem dX8_clerk_108 : decode cX8_clerk 108 = .ok (.ireturn, 1) := by decide +kernel
theorem dX8_seed_0 : decode cX8_seed 0 = .ok (.aload_n 0, 1) := by decide +kernel
theorem dX8_seed_1 : decode cX8_seed 1 = .ok (.getfield 12, 3) := by decide +kernel
theorem dX8_seed_4 : decode cX8_seed 4 = .ok (.getfield 224, 3) := by decide +kernel
theorem dX8_seed_7 : decode cX8_seed 7 = .ok (.istore_n 2, 1) := by decide +kernel
theorem dX8_seed_8 : decode cX8_seed 8 = .ok (.aload_n 0, 1) := by decide +kernel
theorem dX8_seed_9 : decode cX8_seed 9 = .ok (.getfield 12, 3) := by decide +kernel
theorem dX8_seed_12 : decode cX8_seed 12 = .ok (.iload_n 1, 1) := by decide +kernel
theorem dX8_seed_13 : decode cX8_seed 13 = .ok (.putfield 224, 3) := by decide +kernel
theorem dX8_seed_16 : decode cX8_seed 16 = .ok (.iload_n 2, 1) := by decide +kernel
theorem dX8_seed_17 : decode cX8_seed 17 = .ok (.ireturn, 1) := by decide +kernel
theorem dX8_comet_0 : decode cX8_comet 0 = .ok (.iload_n 1, 1) := by decide +kernel
theorem dX8_comet_1 : decode cX8_comet 1 = .ok (.ldc 86, 2) := by decide +kernel
theorem dX8_comet_3 : decode cX8_comet 3 = .ok (.invokestatic 66, 3) := by decide +kernel
theorem dX8_comet_6 : decode cX8_comet 6 = .ok (.ifCond .eq 10, 3) := by decide +kernel
theorem dX8_comet_9 : decode cX8_comet 9 = .ok (.iload_n 2, 1) := by decide +kernel
theorem dX8_comet_10 : decode cX8_comet 10 = .ok (.invokestatic 134, 3) := by decide +kernel
theorem dX8_comet_13 : decode cX8_comet 13 = .ok (.ifCond .ne 9, 3) := by decide +kernel
theorem dX8_comet_16 : decode cX8_comet 16 = .ok (.aload_n 0, 1) := by decide +kernel
theorem dX8_comet_17 : decode cX8_comet 17 = .ok (.iconst 1, 1) := by decide +kernel
theorem dX8_comet_18 : decode cX8_comet 18 = .ok (.invokevirtual 48, 3) := by decide +kernel
theorem dX8_comet_21 : decode cX8_comet 21 = .ok (.ireturn, 1) := by decide +kernel
theorem dX8_comet_22 : decode cX8_comet 22 = .ok (.aload_n 0, 1) := by decide +kernel
theorem dX8_comet_23 : decode cX8_comet 23 = .ok (.getfield 12, 3) := by decide +kernel
theorem dX8_comet_26 : decode cX8_comet 26 = .ok (.iload_n 1, 1) := by decide +kernel
theorem dX8_comet_27 : decode cX8_comet 27 = .ok (.putfield 227, 3) := by decide +kernel
theorem dX8_comet_30 : decode cX8_comet 30 = .ok (.aload_n 0, 1) := by decide +kernel
theorem dX8_comet_31 : decode cX8_comet 31 = .ok (.getfield 12, 3) := by decide +kernel
theorem dX8_comet_34 : decode cX8_comet 34 = .ok (.iload_n 2, 1) := by decide +kernel
theorem dX8_comet_35 : decode cX8_comet 35 = .ok (.putfield 230, 3) := by decide +kernel
theorem dX8_comet_38 : decode cX8_comet 38 = .ok (.ldc 233, 2) := by decide +kernel
theorem dX8_comet_40 : decode cX8_comet 40 = .ok (.iload_n 1, 1) := by decide +kernel
theorem dX8_comet_41 : decode cX8_comet 41 = .ok (.isub, 1) := by decide +kernel
theorem dX8_comet_42 : decode cX8_comet 42 = .ok (.iload_n 2, 1) := by decide +kernel
theorem dX8_comet_43 : decode cX8_comet 43 = .ok (.sipush 365, 3) := by decide +kernel
theorem dX8_comet_46 : decode cX8_comet 46 = .ok (.imul, 1) := by decide +kernel
theorem dX8_comet_47 : decode cX8_comet 47 = .ok (.idiv, 1) := by decide +kernel
theorem dX8_comet_48 : decode cX8_comet 48 = .ok (.iconst 1, 1) := by decide +kernel
theorem dX8_comet_49 : decode cX8_comet 49 = .ok (.iadd, 1) := by decide +kernel
theorem dX8_comet_50 : decode cX8_comet 50 = .ok (.ireturn, 1) := by decide +kernel
theorem dX8_claim_0 : decode cX8_claim 0 = .ok (.iload_n 1, 1) := by decide +kernel
theorem dX8_claim_1 : decode cX8_claim 1 = .ok (.sipush 207, 3) := by decide +kernel
theorem dX8_claim_4 : decode cX8_claim 4 = .ok (.invokestatic 66, 3) := by decide +kernel
theorem dX8_claim_7 : decode cX8_claim 7 = .ok (.ifCond .ne 9, 3) := by decide +kernel
theorem dX8_claim_10 : decode cX8_claim 10 = .ok (.aload_n 0, 1) := by decide +kernel
theorem dX8_claim_11 : decode cX8_claim 11 = .ok (.iconst 1, 1) := by decide +kernel
theorem dX8_claim_12 : decode cX8_claim 12 = .ok (.invokevirtual 48, 3) := by decide +kernel
theorem dX8_claim_15 : decode cX8_claim 15 = .ok (.ireturn, 1) := by decide +kernel
theorem dX8_claim_16 : decode cX8_claim 16 = .ok (.aload_n 0, 1) := by decide +kernel
theorem dX8_claim_17 : decode cX8_claim 17 = .ok (.getfield 12, 3) := by decide +kernel
theorem dX8_claim_20 : decode cX8_claim 20 = .ok (.getfield 230, 3) := by decide +kernel
theorem dX8_claim_23 : decode cX8_claim 23 = .ok (.ifCond .ne 9, 3) := by decide +kernel
theorem dX8_claim_26 : decode cX8_claim 26 = .ok (.aload_n 0, 1) := by decide +kernel
theorem dX8_claim_27 : decode cX8_claim 27 = .ok (.iconst 3, 1) := by decide +kernel
theorem dX8_claim_28 : decode cX8_claim 28 = .ok (.invokevirtual 48, 3) := by decide +kernel
theorem dX8_claim_31 : decode cX8_claim 31 = .ok (.ireturn, 1) := by decide +kernel
theorem dX8_claim_32 : decode cX8_claim 32 = .ok (.iconst 0, 1) := by decide +kernel
theorem dX8_claim_33 : decode cX8_claim 33 = .ok (.istore_n 2, 1) := by decide +kernel
theorem dX8_claim_34 : decode cX8_claim 34 = .ok (.iconst 0, 1) := by decide +kernel
theorem dX8_claim_35 : decode cX8_claim 35 = .ok (.istore_n 3, 1) := by decide +kernel
theorem dX8_claim_36 : decode cX8_claim 36 = .ok (.iload_n 3, 1) := by decide +kernel
theorem dX8_claim_37 : decode cX8_claim 37 = .ok (.iconst 4, 1) := by decide +kernel
theorem dX8_claim_38 : decode cX8_claim 38 = .ok (.if_icmp .ge 27, 3) := by decide +kernel
theorem dX8_claim_41 : decode cX8_claim 41 = .ok (.aload_n 0, 1) := by decide +kernel
theorem dX8_claim_42 : decode cX8_claim 42 = .ok (.getfield 12, 3) := by decide +kernel
theorem dX8_claim_45 : decode cX8_claim 45 = .ok (.iload_n 3, 1) := by decide +kernel
theorem dX8_claim_46 : decode cX8_claim 46 = .ok (.iload_n 1, 1) := by decide +kernel
theorem dX8_claim_47 : decode cX8_claim 47 = .ok (.invokevirtual 234, 3) := by decide +kernel
theorem dX8_claim_50 : decode cX8_claim 50 = .ok (.ifCond .eq 9, 3) := by decide +kernel
theorem dX8_claim_53 : decode cX8_claim 53 = .ok (.iload_n 2, 1) := by decide +kernel
theorem dX8_claim_54 : decode cX8_claim 54 = .ok (.iconst 1, 1) := by decide +kernel
theorem dX8_claim_55 : decode cX8_claim 55 = .ok (.iload_n 3, 1) := by decide +kernel
theorem dX8_claim_56 : decode cX8_claim 56 = .ok (.ishl, 1) := by decide +kernel
theorem dX8_claim_57 : decode cX8_claim 57 = .ok (.ior, 1) := by decide +kernel
theorem dX8_claim_58 : decode cX8_claim 58 = .ok (.istore_n 2, 1) := by decide +kernel
theorem dX8_claim_59 : decode cX8_claim 59 = .ok (.iinc 3 1, 3) := by decide +kernel
theorem dX8_claim_62 : decode cX8_claim 62 = .ok (.goto (-26), 3) := by decide +kernel
theorem dX8_claim_65 : decode cX8_claim 65 = .ok (.iload_n 2, 1) := by decide +kernel
theorem dX8_claim_66 : decode cX8_claim 66 = .ok (.ireturn, 1) := by decide +kernel
theorem dX8_breaks_0 : decode cX8_breaks 0 = .ok (.aload_n 0, 1) := by decide +kernel
theorem dX8_breaks_1 : decode cX8_breaks 1 = .ok (.iload_n 1, 1) := by decide +kernel
theorem dX8_breaks_2 : decode cX8_breaks 2 = .ok (.iload_n 2, 1) := by decide +kernel
theorem dX8_breaks_3 : decode cX8_breaks 3 = .ok (.iload_n 3, 1) := by decide +kernel
theorem dX8_breaks_4 : decode cX8_breaks 4 = .ok (.invokevirtual 44, 3) := by decide +kernel
theorem dX8_breaks_7 : decode cX8_breaks 7 = .ok (.istore 4, 2) := by decide +kernel
theorem dX8_breaks_9 : decode cX8_breaks 9 = .ok (.iload 4, 2) := by decide +kernel
theorem dX8_breaks_11 : decode cX8_breaks 11 = .ok (.ifCond .ne 16, 3) := by decide +kernel
theorem dX8_breaks_14 : decode cX8_breaks 14 = .ok (.aload_n 0, 1) := by decide +kernel
theorem dX8_breaks_15 : decode cX8_breaks 15 = .ok (.getfield 12, 3) := by decide +kernel
theorem dX8_breaks_18 : decode cX8_breaks 18 = .ok (.iload_n 1, 1) := by decide +kernel
theorem dX8_breaks_19 : decode cX8_breaks 19 = .ok (.iload_n 2, 1) := by decide +kernel
theorem dX8_breaks_20 : decode cX8_breaks 20 = .ok (.iload_n 3, 1) := by decide +kernel
theorem dX8_breaks_21 : decode cX8_breaks 21 = .ok (.invokevirtual 237, 3) := by decide +kernel
theorem dX8_breaks_24 : decode cX8_breaks 24 = .ok (.goto 9, 3) := by decide +kernel
theorem dX8_breaks_27 : decode cX8_breaks 27 = .ok (.aload_n 0, 1) := by decide +kernel
theorem dX8_breaks_28 : decode cX8_breaks 28 = .ok (.iload 4, 2) := by decide +kernel
theorem dX8_breaks_30 : decode cX8_breaks 30 = .ok (.invokevirtual 48, 3) := by decide +kernel
theorem dX8_breaks_33 : decode cX8_breaks 33 = .ok (.ireturn, 1) := by decide +kernel
theorem dX8_least_0 : decode cX8_least 0 = .ok (.iload_n 1, 1) := by decide +kernel
theorem dX8_least_1 : decode cX8_least 1 = .ok (.iload_n 2, 1) := by decide +kernel
theorem dX8_least_2 : decode cX8_least 2 = .ok (.invokestatic 240, 3) := by decide +kernel
theorem dX8_least_5 : decode cX8_least 5 = .ok (.ifCond .ne 9, 3) := by decide +kernel
theorem dX8_least_8 : decode cX8_least 8 = .ok (.aload_n 0, 1) := by decide +kernel
theorem dX8_least_9 : decode cX8_least 9 = .ok (.iconst 1, 1) := by decide +kernel
theorem dX8_least_10 : decode cX8_least 10 = .ok (.invokevirtual 48, 3) := by decide +kernel
theorem dX8_least_13 : decode cX8_least 13 = .ok (.ireturn, 1) := by decide +kernel
theorem dX8_least_14 : decode cX8_least 14 = .ok (.aload_n 0, 1) := by decide +kernel
theorem dX8_least_15 : decode cX8_least 15 = .ok (.getfield 12, 3) := by decide +kernel
theorem dX8_least_18 : decode cX8_least 18 = .ok (.getfield 52, 3) := by decide +kernel
theorem dX8_least_21 : decode cX8_least 21 = .ok (.getfield 62, 3) := by decide +kernel
theorem dX8_least_24 : decode cX8_least 24 = .ok (.bipush 6, 2) := by decide +kernel
theorem dX8_least_26 : decode cX8_least 26 = .ok (.if_icmp .lt 9, 3) := by decide +kernel
theorem dX8_least_29 : decode cX8_least 29 = .ok (.aload_n 0, 1) := by decide +kernel
theorem dX8_least_30 : decode cX8_least 30 = .ok (.iconst 4, 1) := by decide +kernel
theorem dX8_least_31 : decode cX8_least 31 = .ok (.invokevirtual 48, 3) := by decide +kernel
theorem dX8_least_34 : decode cX8_least 34 = .ok (.ireturn, 1) := by decide +kernel
theorem dX8_least_35 : decode cX8_least 35 = .ok (.iconst 0, 1) := by decide +kernel
theorem dX8_least_36 : decode cX8_least 36 = .ok (.istore_n 3, 1) := by decide +kernel
theorem dX8_least_37 : decode cX8_least 37 = .ok (.bipush 11, 2) := by decide +kernel
theorem dX8_least_39 : decode cX8_least 39 = .ok (.istore 4, 2) := by decide +kernel
theorem dX8_least_41 : decode cX8_least 41 = .ok (.iconst 1, 1) := by decide +kernel
theorem dX8_least_42 : decode cX8_least 42 = .ok (.istore 5, 2) := by decide +kernel
theorem dX8_least_44 : decode cX8_least 44 = .ok (.iload 5, 2) := by decide +kernel
theorem dX8_least_46 : decode cX8_least 46 = .ok (.bipush 60, 2) := by decide +kernel
theorem dX8_least_48 : decode cX8_least 48 = .ok (.if_icmp .gt 53, 3) := by decide +kernel
theorem dX8_least_51 : decode cX8_least 51 = .ok (.aload_n 0, 1) := by decide +kernel
theorem dX8_least_52 : decode cX8_least 52 = .ok (.getfield 12, 3) := by decide +kernel
theorem dX8_least_55 : decode cX8_least 55 = .ok (.getfield 52, 3) := by decide +kernel
theorem dX8_least_58 : decode cX8_least 58 = .ok (.iload 5, 2) := by decide +kernel
theorem dX8_least_60 : decode cX8_least 60 = .ok (.iload_n 1, 1) := by decide +kernel
theorem dX8_least_61 : decode cX8_least 61 = .ok (.iload_n 2, 1) := by decide +kernel
theorem dX8_least_62 : decode cX8_least 62 = .ok (.invokevirtual 243, 3) := by decide +kernel
theorem dX8_least_65 : decode cX8_least 65 = .ok (.ifCond .eq 30, 3) := by decide +kernel
theorem dX8_least_68 : decode cX8_least 68 = .ok (.aload_n 0, 1) := by decide +kernel
theorem dX8_least_69 : decode cX8_least 69 = .ok (.getfield 12, 3) := by decide +kernel
theorem dX8_least_72 : decode cX8_least 72 = .ok (.iload 5, 2) := by decide +kernel
theorem dX8_least_74 : decode cX8_least 74 = .ok (.iload_n 1, 1) := by decide +kernel
theorem dX8_least_75 : decode cX8_least 75 = .ok (.iload_n 2, 1) := by decide +kernel
theorem dX8_least_76 : decode cX8_least 76 = .ok (.invokevirtual 237, 3) := by decide +kernel
theorem dX8_least_79 : decode cX8_least 79 = .ok (.istore 6, 2) := by decide +kernel
theorem dX8_least_81 : decode cX8_least 81 = .ok (.iload 6, 2) := by decide +kernel
theorem dX8_least_83 : decode cX8_least 83 = .ok (.iload 4, 2) := by decide +kernel
theorem dX8_least_85 : decode cX8_least 85 = .ok (.if_icmp .ge 10, 3) := by decide +kernel
theorem dX8_least_88 : decode cX8_least 88 = .ok (.iload 6, 2) := by decide +kernel
theorem dX8_least_90 : decode cX8_least 90 = .ok (.istore 4, 2) := by decide +kernel
theorem dX8_least_92 : decode cX8_least 92 = .ok (.iload 5, 2) := by decide +kernel
theorem dX8_least_94 : decode cX8_least 94 = .ok (.istore_n 3, 1) := by decide +kernel
theorem dX8_least_95 : decode cX8_least 95 = .ok (.iinc 5 1, 3) := by decide +kernel
theorem dX8_least_98 : decode cX8_least 98 = .ok (.goto (-54), 3) := by decide +kernel
theorem dX8_least_101 : decode cX8_least 101 = .ok (.iload_n 3, 1) := by decide +kernel
theorem dX8_least_102 : decode cX8_least 102 = .ok (.ifCond .ne 11, 3) := by decide +kernel
theorem dX8_least_105 : decode cX8_least 105 = .ok (.aload_n 0, 1) := by decide +kernel
theorem dX8_least_106 : decode cX8_least 106 = .ok (.iconst 2, 1) := by decide +kernel
theorem dX8_least_107 : decode cX8_least 107 = .ok (.invokevirtual 48, 3) := by decide +kernel
theorem dX8_least_110 : decode cX8_least 110 = .ok (.goto 4, 3) := by decide +kernel
theorem dX8_least_113 : decode cX8_least 113 = .ok (.iload_n 3, 1) := by decide +kernel
theorem dX8_least_114 : decode cX8_least 114 = .ok (.ireturn, 1) := by decide +kernel
theorem dX8_voice_0 : decode cX8_voice 0 = .ok (.aload_n 0, 1) := by decide +kernel
theorem dX8_voice_1 : decode cX8_voice 1 = .ok (.iload_n 1, 1) := by decide +kernel
theorem dX8_voice_2 : decode cX8_voice 2 = .ok (.invokevirtual 109, 3) := by decide +kernel
theorem dX8_voice_5 : decode cX8_voice 5 = .ok (.ifCond .eq 11, 3) := by decide +kernel
theorem dX8_voice_8 : decode cX8_voice 8 = .ok (.iload_n 2, 1) := by decide +kernel
theorem dX8_voice_9 : decode cX8_voice 9 = .ok (.iconst 4, 1) := by decide +kernel
theorem dX8_voice_10 : decode cX8_voice 10 = .ok (.invokestatic 66, 3) := by decide +kernel
theorem dX8_voice_13 : decode cX8_voice 13 = .ok (.ifCond .ne 9, 3) := by decide +kernel
theorem dX8_voice_16 : decode cX8_voice 16 = .ok (.aload_n 0, 1) := by decide +kernel
theorem dX8_voice_17 : decode cX8_voice 17 = .ok (.iconst 1, 1) := by decide +kernel
theorem dX8_voice_18 : decode cX8_voice 18 = .ok (.invokevirtual 48, 3) := by decide +kernel
theorem dX8_voice_21 : decode cX8_voice 21 = .ok (.ireturn, 1) := by decide +kernel
theorem dX8_voice_22 : decode cX8_voice 22 = .ok (.aload_n 0, 1) := by decide +kernel
theorem dX8_voice_23 : decode cX8_voice 23 = .ok (.getfield 29, 3) := by decide +kernel
theorem dX8_voice_26 : decode cX8_voice 26 = .ok (.iload_n 1, 1) := by decide +kernel
theorem dX8_voice_27 : decode cX8_voice 27 = .ok (.aload_n 0, 1) := by decide +kernel
theorem dX8_voice_28 : decode cX8_voice 28 = .ok (.getfield 12, 3) := by decide +kernel
theorem dX8_voice_31 : decode cX8_voice 31 = .ok (.getfield 99, 3) := by decide +kernel
theorem dX8_voice_34 : decode cX8_voice 34 = .ok (.iload_n 2, 1) := by decide +kernel
theorem dX8_voice_35 : decode cX8_voice 35 = .ok (.iload_n 3, 1) := by decide +kernel
theorem dX8_voice_36 : decode cX8_voice 36 = .ok (.invokevirtual 247, 3) := by decide +kernel
theorem dX8_voice_39 : decode cX8_voice 39 = .ok (.istore 4, 2) := by decide +kernel
theorem dX8_voice_41 : decode cX8_voice 41 = .ok (.aload_n 0, 1) := by decide +kernel
theorem dX8_voice_42 : decode cX8_voice 42 = .ok (.getfield 29, 3) := by decide +kernel
theorem dX8_voice_45 : decode cX8_voice 45 = .ok (.getfield 251, 3) := by decide +kernel
theorem dX8_voice_48 : decode cX8_voice 48 = .ok (.ifCond .eq 12, 3) := by decide +kernel
theorem dX8_voice_51 : decode cX8_voice 51 = .ok (.aload_n 0, 1) := by decide +kernel
theorem dX8_voice_52 : decode cX8_voice 52 = .ok (.bipush 6, 2) := by decide +kernel
theorem dX8_voice_54 : decode cX8_voice 54 = .ok (.invokevirtual 48, 3) := by decide +kernel
theorem dX8_voice_57 : decode cX8_voice 57 = .ok (.goto 5, 3) := by decide +kernel
theorem dX8_voice_60 : decode cX8_voice 60 = .ok (.iload 4, 2) := by decide +kernel
theorem dX8_voice_62 : decode cX8_voice 62 = .ok (.ireturn, 1) := by decide +kernel
theorem dX8_body_0 : decode cX8_body 0 = .ok (.iload_n 1, 1) := by decide +kernel
theorem dX8_body_1 : decode cX8_body 1 = .ok (.aload_n 0, 1) := by decide +kernel
theorem dX8_body_2 : decode cX8_body 2 = .ok (.getfield 29, 3) := by decide +kernel
theorem dX8_body_5 : decode cX8_body 5 = .ok (.getfield 254, 3) := by decide +kernel
theorem dX8_body_8 : decode cX8_body 8 = .ok (.invokestatic 66, 3) := by decide +kernel
theorem dX8_body_11 : decode cX8_body 11 = .ok (.ifCond .eq 15, 3) := by decide +kernel
theorem dX8_body_14 : decode cX8_body 14 = .ok (.aload_n 0, 1) := by decide +kernel
theorem dX8_body_15 : decode cX8_body 15 = .ok (.getfield 29, 3) := by decide +kernel
theorem dX8_body_18 : decode cX8_body 18 = .ok (.getfield 257, 3) := by decide +kernel
theorem dX8_body_21 : decode cX8_body 21 = .ok (.iload_n 1, 1) := by decide +kernel
theorem dX8_body_22 : decode cX8_body 22 = .ok (.iaload, 1) := by decide +kernel
theorem dX8_body_23 : decode cX8_body 23 = .ok (.goto 8, 3) := by decide +kernel
theorem dX8_body_26 : decode cX8_body 26 = .ok (.aload_n 0, 1) := by decide +kernel
theorem dX8_body_27 : decode cX8_body 27 = .ok (.iconst 2, 1) := by decide +kernel
theorem dX8_body_28 : decode cX8_body 28 = .ok (.invokevirtual 48, 3) := by decide +kernel
theorem dX8_body_31 : decode cX8_body 31 = .ok (.ireturn, 1) := by decide +kernel
theorem dX8_sheet_0 : decode cX8_sheet 0 = .ok (.iload_n 1, 1) := by decide +kernel
theorem dX8_sheet_1 : decode cX8_sheet 1 = .ok (.iconst 4, 1) := by decide +kernel
theorem dX8_sheet_2 : decode cX8_sheet 2 = .ok (.invokestatic 66, 3) := by decide +kernel
theorem dX8_sheet_5 : decode cX8_sheet 5 = .ok (.ifCond .eq 10, 3) := by decide +kernel
theorem dX8_sheet_8 : decode cX8_sheet 8 = .ok (.iload_n 2, 1) := by decide +kernel
theorem dX8_sheet_9 : decode cX8_sheet 9 = .ok (.invokestatic 260, 3) := by decide +kernel
theorem dX8_sheet_12 : decode cX8_sheet 12 = .ok (.ifCond .ne 9, 3) := by decide +kernel
theorem dX8_sheet_15 : decode cX8_sheet 15 = .ok (.aload_n 0, 1) := by decide +kernel
theorem dX8_sheet_16 : decode cX8_sheet 16 = .ok (.iconst 1, 1) := by decide +kernel
theorem dX8_sheet_17 : decode cX8_sheet 17 = .ok (.invokevirtual 48, 3) := by decide +kernel
theorem dX8_sheet_20 : decode cX8_sheet 20 = .ok (.ireturn, 1) := by decide +kernel
theorem dX8_sheet_21 : decode cX8_sheet 21 = .ok (.iload_n 2, 1) := by decide +kernel
theorem dX8_sheet_22 : decode cX8_sheet 22 = .ok (.ifCond .eq 13, 3) := by decide +kernel
theorem dX8_sheet_25 : decode cX8_sheet 25 = .ok (.iload_n 3, 1) := by decide +kernel
theorem dX8_sheet_26 : decode cX8_sheet 26 = .ok (.ifCond .ge 9, 3) := by decide +kernel
theorem dX8_sheet_29 : decode cX8_sheet 29 = .ok (.aload_n 0, 1) := by decide +kernel
theorem dX8_sheet_30 : decode cX8_sheet 30 = .ok (.iconst 3, 1) := by decide +kernel
theorem dX8_sheet_31 : decode cX8_sheet 31 = .ok (.invokevirtual 48, 3) := by decide +kernel
theorem dX8_sheet_34 : decode cX8_sheet 34 = .ok (.ireturn, 1) := by decide +kernel
theorem dX8_sheet_35 : decode cX8_sheet 35 = .ok (.iload_n 2, 1) := by decide +kernel
theorem dX8_sheet_36 : decode cX8_sheet 36 = .ok (.ifCond .eq 15, 3) := by decide +kernel
theorem dX8_sheet_39 : decode cX8_sheet 39 = .ok (.iload_n 3, 1) := by decide +kernel
theorem dX8_sheet_40 : decode cX8_sheet 40 = .ok (.bipush 24, 2) := by decide +kernel
theorem dX8_sheet_42 : decode cX8_sheet 42 = .ok (.if_icmp .le 9, 3) := by decide +kernel
theorem dX8_sheet_45 : decode cX8_sheet 45 = .ok (.aload_n 0, 1) := by decide +kernel
theorem dX8_sheet_46 : decode cX8_sheet 46 = .ok (.iconst 1, 1) := by decide +kernel
theorem dX8_sheet_47 : decode cX8_sheet 47 = .ok (.invokevirtual 48, 3) := by decide +kernel
theorem dX8_sheet_50 : decode cX8_sheet 50 = .ok (.ireturn, 1) := by decide +kernel
theorem dX8_sheet_51 : decode cX8_sheet 51 = .ok (.aload_n 0, 1) := by decide +kernel
theorem dX8_sheet_52 : decode cX8_sheet 52 = .ok (.getfield 35, 3) := by decide +kernel
theorem dX8_sheet_55 : decode cX8_sheet 55 = .ok (.iload_n 1, 1) := by decide +kernel
theorem dX8_sheet_56 : decode cX8_sheet 56 = .ok (.aaload, 1) := by decide +kernel
theorem dX8_sheet_57 : decode cX8_sheet 57 = .ok (.iload_n 2, 1) := by decide +kernel
theorem dX8_sheet_58 : decode cX8_sheet 58 = .ok (.iload_n 2, 1) := by decide +kernel
theorem dX8_sheet_59 : decode cX8_sheet 59 = .ok (.ifCond .ne 7, 3) := by decide +kernel
theorem dX8_sheet_62 : decode cX8_sheet 62 = .ok (.iconst 0, 1) := by decide +kernel
theorem dX8_sheet_63 : decode cX8_sheet 63 = .ok (.goto 4, 3) := by decide +kernel
theorem dX8_sheet_66 : decode cX8_sheet 66 = .ok (.iload_n 3, 1) := by decide +kernel
theorem dX8_sheet_67 : decode cX8_sheet 67 = .ok (.invokevirtual 263, 3) := by decide +kernel
theorem dX8_sheet_70 : decode cX8_sheet 70 = .ok (.iconst 1, 1) := by decide +kernel
theorem dX8_sheet_71 : decode cX8_sheet 71 = .ok (.ireturn, 1) := by decide +kernel
theorem dX8_put_0 : decode cX8_put 0 = .ok (.iload_n 1, 1) := by decide +kernel
theorem dX8_put_1 : decode cX8_put 1 = .ok (.iconst 4, 1) := by decide +kernel
theorem dX8_put_2 : decode cX8_put 2 = .ok (.invokestatic 66, 3) := by decide +kernel
theorem dX8_put_5 : decode cX8_put 5 = .ok (.ifCond .ne 9, 3) := by decide +kernel
theorem dX8_put_8 : decode cX8_put 8 = .ok (.aload_n 0, 1) := by decide +kernel
theorem dX8_put_9 : decode cX8_put 9 = .ok (.iconst 1, 1) := by decide +kernel
theorem dX8_put_10 : decode cX8_put 10 = .ok (.invokevirtual 48, 3) := by decide +kernel
theorem dX8_put_13 : decode cX8_put 13 = .ok (.ireturn, 1) := by decide +kernel
theorem dX8_put_14 : decode cX8_put 14 = .ok (.aload_n 0, 1) := by decide +kernel
theorem dX8_put_15 : decode cX8_put 15 = .ok (.getfield 35, 3) := by decide +kernel
theorem dX8_put_18 : decode cX8_put 18 = .ok (.iload_n 1, 1) := by decide +kernel
theorem dX8_put_19 : decode cX8_put 19 = .ok (.aaload, 1) := by decide +kernel
theorem dX8_put_20 : decode cX8_put 20 = .ok (.getfield 266, 3) := by decide +kernel
theorem dX8_put_23 : decode cX8_put 23 = .ok (.ifCond .ne 9, 3) := by decide +kernel
theorem dX8_put_26 : decode cX8_put 26 = .ok (.aload_n 0, 1) := by decide +kernel
theorem dX8_put_27 : decode cX8_put 27 = .ok (.iconst 2, 1) := by decide +kernel
theorem dX8_put_28 : decode cX8_put 28 = .ok (.invokevirtual 48, 3) := by decide +kernel
theorem dX8_put_31 : decode cX8_put 31 = .ok (.ireturn, 1) := by decide +kernel
theorem dX8_put_32 : decode cX8_put 32 = .ok (.iload_n 2, 1) := by decide +kernel
theorem dX8_put_33 : decode cX8_put 33 = .ok (.aload_n 0, 1) := by decide +kernel
theorem dX8_put_34 : decode cX8_put 34 = .ok (.getfield 35, 3) := by decide +kernel
theorem dX8_put_37 : decode cX8_put 37 = .ok (.iload_n 1, 1) := by decide +kernel
theorem dX8_put_38 : decode cX8_put 38 = .ok (.aaload, 1) := by decide +kernel
theorem dX8_put_39 : decode cX8_put 39 = .ok (.getfield 269, 3) := by decide +kernel
theorem dX8_put_42 : decode cX8_put 42 = .ok (.invokestatic 66, 3) := by decide +kernel
theorem dX8_put_45 : decode cX8_put 45 = .ok (.ifCond .ne 9, 3) := by decide +kernel
theorem dX8_put_48 : decode cX8_put 48 = .ok (.aload_n 0, 1) := by decide +kernel
theorem dX8_put_49 : decode cX8_put 49 = .ok (.iconst 1, 1) := by decide +kernel
theorem dX8_put_50 : decode cX8_put 50 = .ok (.invokevirtual 48, 3) := by decide +kernel
theorem dX8_put_53 : decode cX8_put 53 = .ok (.ireturn, 1) := by decide +kernel
theorem dX8_put_54 : decode cX8_put 54 = .ok (.aload_n 0, 1) := by decide +kernel
theorem dX8_put_55 : decode cX8_put 55 = .ok (.getfield 35, 3) := by decide +kernel
theorem dX8_put_58 : decode cX8_put 58 = .ok (.iload_n 1, 1) := by decide +kernel
theorem dX8_put_59 : decode cX8_put 59 = .ok (.aaload, 1) := by decide +kernel
theorem dX8_put_60 : decode cX8_put 60 = .ok (.iload_n 2, 1) := by decide +kernel
theorem dX8_put_61 : decode cX8_put 61 = .ok (.iload_n 3, 1) := by decide +kernel
theorem dX8_put_62 : decode cX8_put 62 = .ok (.invokevirtual 270, 3) := by decide +kernel
theorem dX8_put_65 : decode cX8_put 65 = .ok (.iconst 1, 1) := by decide +kernel
theorem dX8_put_66 : decode cX8_put 66 = .ok (.ireturn, 1) := by decide +kernel
theorem dX8_move_0 : decode cX8_move 0 = .ok (.iload_n 1, 1) := by decide +kernel
theorem dX8_move_1 : decode cX8_move 1 = .ok (.iconst 4, 1) := by decide +kernel
theorem dX8_move_2 : decode cX8_move 2 = .ok (.invokestatic 66, 3) := by decide +kernel
theorem dX8_move_5 : decode cX8_move 5 = .ok (.ifCond .eq 11, 3) := by decide +kernel
theorem dX8_move_8 : decode cX8_move 8 = .ok (.iload_n 3, 1) := by decide +kernel
theorem dX8_move_9 : decode cX8_move 9 = .ok (.iconst 4, 1) := by decide +kernel
theorem dX8_move_10 : decode cX8_move 10 = .ok (.invokestatic 66, 3) := by decide +kernel
theorem dX8_move_13 : decode cX8_move 13 = .ok (.ifCond .ne 9, 3) := by decide +kernel
theorem dX8_move_16 : decode cX8_move 16 = .ok (.aload_n 0, 1) := by decide +kernel
theorem dX8_move_17 : decode cX8_move 17 = .ok (.iconst 1, 1) := by decide +kernel
theorem dX8_move_18 : decode cX8_move 18 = .ok (.invokevirtual 48, 3) := by decide +kernel
theorem dX8_move_21 : decode cX8_move 21 = .ok (.ireturn, 1) := by decide +kernel
theorem dX8_move_22 : decode cX8_move 22 = .ok (.aload_n 0, 1) := by decide +kernel
theorem dX8_move_23 : decode cX8_move 23 = .ok (.getfield 35, 3) := by decide +kernel
theorem dX8_move_26 : decode cX8_move 26 = .ok (.iload_n 1, 1) := by decide +kernel
theorem dX8_move_27 : decode cX8_move 27 = .ok (.aaload, 1) := by decide +kernel
theorem dX8_move_28 : decode cX8_move 28 = .ok (.astore 6, 2) := by decide +kernel
theorem dX8_move_30 : decode cX8_move 30 = .ok (.aload_n 0, 1) := by decide +kernel
theorem dX8_move_31 : decode cX8_move 31 = .ok (.getfield 35, 3) := by decide +kernel
theorem dX8_move_34 : decode cX8_move 34 = .ok (.iload_n 3, 1) := by decide +kernel
theorem dX8_move_35 : decode cX8_move 35 = .ok (.aaload, 1) := by decide +kernel
theorem dX8_move_36 : decode cX8_move 36 = .ok (.astore 7, 2) := by decide +kernel
theorem dX8_move_38 : decode cX8_move 38 = .ok (.aload 6, 2) := by decide +kernel
theorem dX8_move_40 : decode cX8_move 40 = .ok (.getfield 266, 3) := by decide +kernel
theorem dX8_move_43 : decode cX8_move 43 = .ok (.ifCond .eq 11, 3) := by decide +kernel
theorem dX8_move_46 : decode cX8_move 46 = .ok (.aload 7, 2) := by decide +kernel
theorem dX8_move_48 : decode cX8_move 48 = .ok (.getfield 266, 3) := by decide +kernel
theorem dX8_move_51 : decode cX8_move 51 = .ok (.ifCond .ne 9, 3) := by decide +kernel
theorem dX8_move_54 : decode cX8_move 54 = .ok (.aload_n 0, 1) := by decide +kernel
theorem dX8_move_55 : decode cX8_move 55 = .ok (.iconst 2, 1) := by decide +kernel
theorem dX8_move_56 : decode cX8_move 56 = .ok (.invokevirtual 48, 3) := by decide +kernel
theorem dX8_move_59 : decode cX8_move 59 = .ok (.ireturn, 1) := by decide +kernel
theorem dX8_move_60 : decode cX8_move 60 = .ok (.aload 6, 2) := by decide +kernel
theorem dX8_move_62 : decode cX8_move 62 = .ok (.getfield 266, 3) := by decide +kernel
theorem dX8_move_65 : decode cX8_move 65 = .ok (.aload 7, 2) := by decide +kernel
theorem dX8_move_67 : decode cX8_move 67 = .ok (.getfield 266, 3) := by decide +kernel
theorem dX8_move_70 : decode cX8_move 70 = .ok (.if_icmp .eq 9, 3) := by decide +kernel
theorem dX8_move_73 : decode cX8_move 73 = .ok (.aload_n 0, 1) := by decide +kernel
theorem dX8_move_74 : decode cX8_move 74 = .ok (.iconst 5, 1) := by decide +kernel
theorem dX8_move_75 : decode cX8_move 75 = .ok (.invokevirtual 48, 3) := by decide +kernel
theorem dX8_move_78 : decode cX8_move 78 = .ok (.ireturn, 1) := by decide +kernel
theorem dX8_move_79 : decode cX8_move 79 = .ok (.aload 6, 2) := by decide +kernel
theorem dX8_move_81 : decode cX8_move 81 = .ok (.iload_n 2, 1) := by decide +kernel
theorem dX8_move_82 : decode cX8_move 82 = .ok (.iload 5, 2) := by decide +kernel
theorem dX8_move_84 : decode cX8_move 84 = .ok (.invokevirtual 273, 3) := by decide +kernel
theorem dX8_move_87 : decode cX8_move 87 = .ok (.ifCond .eq 15, 3) := by decide +kernel
theorem dX8_move_90 : decode cX8_move 90 = .ok (.aload 7, 2) := by decide +kernel
theorem dX8_move_92 : decode cX8_move 92 = .ok (.iload 4, 2) := by decide +kernel
theorem dX8_move_94 : decode cX8_move 94 = .ok (.iload 5, 2) := by decide +kernel
theorem dX8_move_96 : decode cX8_move 96 = .ok (.invokevirtual 273, 3) := by decide +kernel
theorem dX8_move_99 : decode cX8_move 99 = .ok (.ifCond .ne 9, 3) := by decide +kernel
theorem dX8_move_102 : decode cX8_move 102 = .ok (.aload_n 0, 1) := by decide +kernel
theorem dX8_move_103 : decode cX8_move 103 = .ok (.iconst 1, 1) := by decide +kernel
theorem dX8_move_104 : decode cX8_move 104 = .ok (.invokevirtual 48, 3) := by decide +kernel
theorem dX8_move_107 : decode cX8_move 107 = .ok (.ireturn, 1) := by decide +kernel
theorem dX8_move_108 : decode cX8_move 108 = .ok (.aload 6, 2) := by decide +kernel
theorem dX8_move_110 : decode cX8_move 110 = .ok (.getfield 276, 3) := by decide +kernel
theorem dX8_move_113 : decode cX8_move 113 = .ok (.iload_n 2, 1) := by decide +kernel
theorem dX8_move_114 : decode cX8_move 114 = .ok (.aload 7, 2) := by decide +kernel
theorem dX8_move_116 : decode cX8_move 116 = .ok (.getfield 276, 3) := by decide +kernel
theorem dX8_move_119 : decode cX8_move 119 = .ok (.iload 4, 2) := by decide +kernel
theorem dX8_move_121 : decode cX8_move 121 = .ok (.iload 5, 2) := by decide +kernel
theorem dX8_move_123 : decode cX8_move 123 = .ok (.invokestatic 279, 3) := by decide +kernel
theorem dX8_move_126 : decode cX8_move 126 = .ok (.iload 5, 2) := by decide +kernel
theorem dX8_move_128 : decode cX8_move 128 = .ok (.ireturn, 1) := by decide +kernel
theorem dX8_papers_0 : decode cX8_papers 0 = .ok (.iload_n 1, 1) := by decide +kernel
theorem dX8_papers_1 : decode cX8_papers 1 = .ok (.iconst 4, 1) := by decide +kernel
theorem dX8_papers_2 : decode cX8_papers 2 = .ok (.invokestatic 66, 3) := by decide +kernel
theorem dX8_papers_5 : decode cX8_papers 5 = .ok (.ifCond .ne 9, 3) := by decide +kernel
theorem dX8_papers_8 : decode cX8_papers 8 = .ok (.aload_n 0, 1) := by decide +kernel
theorem dX8_papers_9 : decode cX8_papers 9 = .ok (.iconst 1, 1) := by decide +kernel
theorem dX8_papers_10 : decode cX8_papers 10 = .ok (.invokevirtual 48, 3) := by decide +kernel
theorem dX8_papers_13 : decode cX8_papers 13 = .ok (.ireturn, 1) := by decide +kernel
theorem dX8_papers_14 : decode cX8_papers 14 = .ok (.aload_n 0, 1) := by decide +kernel
theorem dX8_papers_15 : decode cX8_papers 15 = .ok (.getfield 35, 3) := by decide +kernel
theorem dX8_papers_18 : decode cX8_papers 18 = .ok (.iload_n 1, 1) := by decide +kernel
theorem dX8_papers_19 : decode cX8_papers 19 = .ok (.aaload, 1) := by decide +kernel
theorem dX8_papers_20 : decode cX8_papers 20 = .ok (.astore_n 2, 1) := by decide +kernel
theorem dX8_papers_21 : decode cX8_papers 21 = .ok (.aload_n 2, 1) := by decide +kernel
theorem dX8_papers_22 : decode cX8_papers 22 = .ok (.getfield 266, 3) := by decide +kernel
theorem dX8_papers_25 : decode cX8_papers 25 = .ok (.ifCond .ne 9, 3) := by decide +kernel
theorem dX8_papers_28 : decode cX8_papers 28 = .ok (.aload_n 0, 1) := by decide +kernel
theorem dX8_papers_29 : decode cX8_papers 29 = .ok (.iconst 2, 1) := by decide +kernel
theorem dX8_papers_30 : decode cX8_papers 30 = .ok (.invokevirtual 48, 3) := by decide +kernel
theorem dX8_papers_33 : decode cX8_papers 33 = .ok (.ireturn, 1) := by decide +kernel
theorem dX8_papers_34 : decode cX8_papers 34 = .ok (.iconst 0, 1) := by decide +kernel
theorem dX8_papers_35 : decode cX8_papers 35 = .ok (.istore_n 3, 1) := by decide +kernel
theorem dX8_papers_36 : decode cX8_papers 36 = .ok (.iconst 0, 1) := by decide +kernel
theorem dX8_papers_37 : decode cX8_papers 37 = .ok (.istore 4, 2) := by decide +kernel
theorem dX8_papers_39 : decode cX8_papers 39 = .ok (.iload 4, 2) := by decide +kernel
theorem dX8_papers_41 : decode cX8_papers 41 = .ok (.iconst 1, 1) := by decide +kernel
theorem dX8_papers_42 : decode cX8_papers 42 = .ok (.iadd, 1) := by decide +kernel
theorem dX8_papers_43 : decode cX8_papers 43 = .ok (.aload_n 2, 1) := by decide +kernel
theorem dX8_papers_44 : decode cX8_papers 44 = .ok (.getfield 269, 3) := by decide +kernel
theorem dX8_papers_47 : decode cX8_papers 47 = .ok (.if_icmp .ge 63, 3) := by decide +kernel
theorem dX8_papers_50 : decode cX8_papers 50 = .ok (.aload_n 0, 1) := by decide +kernel
theorem dX8_papers_51 : decode cX8_papers 51 = .ok (.aload_n 2, 1) := by decide +kernel
theorem dX8_papers_52 : decode cX8_papers 52 = .ok (.getfield 276, 3) := by decide +kernel
theorem dX8_papers_55 : decode cX8_papers 55 = .ok (.iload 4, 2) := by decide +kernel
theorem dX8_papers_57 : decode cX8_papers 57 = .ok (.iaload, 1) := by decide +kernel
theorem dX8_papers_58 : decode cX8_papers 58 = .ok (.aload_n 2, 1) := by decide +kernel
theorem dX8_papers_59 : decode cX8_papers 59 = .ok (.getfield 276, 3) := by decide +kernel
theorem dX8_papers_62 : decode cX8_papers 62 = .ok (.iload 4, 2) := by decide +kernel
theorem dX8_papers_64 : decode cX8_papers 64 = .ok (.iconst 1, 1) := by decide +kernel
theorem dX8_papers_65 : decode cX8_papers 65 = .ok (.iadd, 1) := by decide +kernel
theorem dX8_papers_66 : decode cX8_papers 66 = .ok (.iaload, 1) := by decide +kernel
theorem dX8_papers_67 : decode cX8_papers 67 = .ok (.invokevirtual 180, 3) := by decide +kernel
theorem dX8_papers_70 : decode cX8_papers 70 = .ok (.ifCond .eq 5, 3) := by decide +kernel
theorem dX8_papers_73 : decode cX8_papers 73 = .ok (.iload_n 3, 1) := by decide +kernel
theorem dX8_papers_74 : decode cX8_papers 74 = .ok (.ireturn, 1) := by decide +kernel
theorem dX8_papers_75 : decode cX8_papers 75 = .ok (.aload_n 0, 1) := by decide +kernel
theorem dX8_papers_76 : decode cX8_papers 76 = .ok (.getfield 12, 3) := by decide +kernel
theorem dX8_papers_79 : decode cX8_papers 79 = .ok (.getfield 183, 3) := by decide +kernel
theorem dX8_papers_82 : decode cX8_papers 82 = .ok (.aload_n 2, 1) := by decide +kernel
theorem dX8_papers_83 : decode cX8_papers 83 = .ok (.getfield 276, 3) := by decide +kernel
theorem dX8_papers_86 : decode cX8_papers 86 = .ok (.iload 4, 2) := by decide +kernel
theorem dX8_papers_88 : decode cX8_papers 88 = .ok (.iaload, 1) := by decide +kernel
theorem dX8_papers_89 : decode cX8_papers 89 = .ok (.aload_n 2, 1) := by decide +kernel
theorem dX8_papers_90 : decode cX8_papers 90 = .ok (.getfield 276, 3) := by decide +kernel
theorem dX8_papers_93 : decode cX8_papers 93 = .ok (.iload 4, 2) := by decide +kernel
theorem dX8_papers_95 : decode cX8_papers 95 = .ok (.iconst 1, 1) := by decide +kernel
theorem dX8_papers_96 : decode cX8_papers 96 = .ok (.iadd, 1) := by decide +kernel
theorem dX8_papers_97 : decode cX8_papers 97 = .ok (.iaload, 1) := by decide +kernel
theorem dX8_papers_98 : decode cX8_papers 98 = .ok (.invokevirtual 187, 3) := by decide +kernel
theorem dX8_papers_101 : decode cX8_papers 101 = .ok (.iinc 3 1, 3) := by decide +kernel
theorem dX8_papers_104 : decode cX8_papers 104 = .ok (.iinc 4 2, 3) := by decide +kernel
theorem dX8_papers_107 : decode cX8_papers 107 = .ok (.goto (-68), 3) := by decide +kernel
theorem dX8_papers_110 : decode cX8_papers 110 = .ok (.iload_n 3, 1) := by decide +kernel
theorem dX8_papers_111 : decode cX8_papers 111 = .ok (.ireturn, 1) := by decide +kernel
theorem dX8_judge_0 : decode cX8_judge 0 = .ok (.iload_n 1, 1) := by decide +kernel
theorem dX8_judge_1 : decode cX8_judge 1 = .ok (.iconst 4, 1) := by decide +kernel
theorem dX8_judge_2 : decode cX8_judge 2 = .ok (.invokestatic 66, 3) := by decide +kernel
theorem dX8_judge_5 : decode cX8_judge 5 = .ok (.ifCond .eq 21, 3) := by decide +kernel
theorem dX8_judge_8 : decode cX8_judge 8 = .ok (.iload_n 2, 1) := by decide +kernel
theorem dX8_judge_9 : decode cX8_judge 9 = .ok (.iconst 4, 1) := by decide +kernel
theorem dX8_judge_10 : decode cX8_judge 10 = .ok (.invokestatic 66, 3) := by decide +kernel
theorem dX8_judge_13 : decode cX8_judge 13 = .ok (.ifCond .eq 13, 3) := by decide +kernel
theorem dX8_judge_16 : decode cX8_judge 16 = .ok (.iload_n 3, 1) := by decide +kernel
theorem dX8_judge_17 : decode cX8_judge 17 = .ok (.sipush 200, 3) := by decide +kernel
theorem dX8_judge_20 : decode cX8_judge 20 = .ok (.invokestatic 66, 3) := by decide +kernel
theorem dX8_judge_23 : decode cX8_judge 23 = .ok (.ifCond .ne 9, 3) := by decide +kernel
theorem dX8_judge_26 : decode cX8_judge 26 = .ok (.aload_n 0, 1) := by decide +kernel
theorem dX8_judge_27 : decode cX8_judge 27 = .ok (.iconst 1, 1) := by decide +kernel
theorem dX8_judge_28 : decode cX8_judge 28 = .ok (.invokevirtual 48, 3) := by decide +kernel
theorem dX8_judge_31 : decode cX8_judge 31 = .ok (.ireturn, 1) := by decide +kernel
theorem dX8_judge_32 : decode cX8_judge 32 = .ok (.aload_n 0, 1) := by decide +kernel
theorem dX8_judge_33 : decode cX8_judge 33 = .ok (.getfield 35, 3) := by decide +kernel
theorem dX8_judge_36 : decode cX8_judge 36 = .ok (.iload_n 1, 1) := by decide +kernel
theorem dX8_judge_37 : decode cX8_judge 37 = .ok (.aaload, 1) := by decide +kernel
theorem dX8_judge_38 : decode cX8_judge 38 = .ok (.astore 4, 2) := by decide +kernel
theorem dX8_judge_40 : decode cX8_judge 40 = .ok (.aload 4, 2) := by decide +kernel
theorem dX8_judge_42 : decode cX8_judge 42 = .ok (.getfield 266, 3) := by decide +kernel
theorem dX8_judge_45 : decode cX8_judge 45 = .ok (.ifCond .ne 9, 3) := by decide +kernel
theorem dX8_judge_48 : decode cX8_judge 48 = .ok (.aload_n 0, 1) := by decide +kernel
theorem dX8_judge_49 : decode cX8_judge 49 = .ok (.iconst 2, 1) := by decide +kernel
theorem dX8_judge_50 : decode cX8_judge 50 = .ok (.invokevirtual 48, 3) := by decide +kernel
theorem dX8_judge_53 : decode cX8_judge 53 = .ok (.ireturn, 1) := by decide +kernel
theorem dX8_judge_54 : decode cX8_judge 54 = .ok (.iconst 0, 1) := by decide +kernel
theorem dX8_judge_55 : decode cX8_judge 55 = .ok (.istore 5, 2) := by decide +kernel
theorem dX8_judge_57 : decode cX8_judge 57 = .ok (.iload 5, 2) := by decide +kernel
theorem dX8_judge_59 : decode cX8_judge 59 = .ok (.aload 4, 2) := by decide +kernel
theorem dX8_judge_61 : decode cX8_judge 61 = .ok (.getfield 269, 3) := by decide +kernel
theorem dX8_judge_64 : decode cX8_judge 64 = .ok (.if_icmp .ge 48, 3) := by decide +kernel
theorem dX8_judge_67 : decode cX8_judge 67 = .ok (.iload_n 3, 1) := by decide +kernel
theorem dX8_judge_68 : decode cX8_judge 68 = .ok (.iload 5, 2) := by decide +kernel
theorem dX8_judge_70 : decode cX8_judge 70 = .ok (.iadd, 1) := by decide +kernel
theorem dX8_judge_71 : decode cX8_judge 71 = .ok (.sipush 200, 3) := by decide +kernel
theorem dX8_judge_74 : decode cX8_judge 74 = .ok (.if_icmp .ge 29, 3) := by decide +kernel
theorem dX8_judge_77 : decode cX8_judge 77 = .ok (.aload 4, 2) := by decide +kernel
theorem dX8_judge_79 : decode cX8_judge 79 = .ok (.getfield 276, 3) := by decide +kernel
theorem dX8_judge_82 : decode cX8_judge 82 = .ok (.iload 5, 2) := by decide +kernel
theorem dX8_judge_84 : decode cX8_judge 84 = .ok (.iaload, 1) := by decide +kernel
theorem dX8_judge_85 : decode cX8_judge 85 = .ok (.aload_n 0, 1) := by decide +kernel
theorem dX8_judge_86 : decode cX8_judge 86 = .ok (.getfield 12, 3) := by decide +kernel
theorem dX8_judge_89 : decode cX8_judge 89 = .ok (.getfield 52, 3) := by decide +kernel
theorem dX8_judge_92 : decode cX8_judge 92 = .ok (.iload_n 2, 1) := by decide +kernel
theorem dX8_judge_93 : decode cX8_judge 93 = .ok (.iload_n 3, 1) := by decide +kernel
theorem dX8_judge_94 : decode cX8_judge 94 = .ok (.iload 5, 2) := by decide +kernel
theorem dX8_judge_96 : decode cX8_judge 96 = .ok (.iadd, 1) := by decide +kernel
theorem dX8_judge_97 : decode cX8_judge 97 = .ok (.invokevirtual 82, 3) := by decide +kernel
theorem dX8_judge_100 : decode cX8_judge 100 = .ok (.if_icmp .eq 6, 3) := by decide +kernel
theorem dX8_judge_103 : decode cX8_judge 103 = .ok (.iload 5, 2) := by decide +kernel
theorem dX8_judge_105 : decode cX8_judge 105 = .ok (.ireturn, 1) := by decide +kernel
theorem dX8_judge_106 : decode cX8_judge 106 = .ok (.iinc 5 1, 3) := by decide +kernel
theorem dX8_judge_109 : decode cX8_judge 109 = .ok (.goto (-52), 3) := by decide +kernel
theorem dX8_judge_112 : decode cX8_judge 112 = .ok (.aload 4, 2) := by decide +kernel
theorem dX8_judge_114 : decode cX8_judge 114 = .ok (.getfield 269, 3) := by decide +kernel
theorem dX8_judge_117 : decode cX8_judge 117 = .ok (.ireturn, 1) := by decide +kernel
theorem dX8_image_0 : decode cX8_image 0 = .ok (.aload_n 0, 1) := by decide +kernel
theorem dX8_image_1 : decode cX8_image 1 = .ok (.getfield 16, 3) := by decide +kernel
theorem dX8_image_4 : decode cX8_image 4 = .ok (.aload_n 0, 1) := by decide +kernel
theorem dX8_image_5 : decode cX8_image 5 = .ok (.getfield 12, 3) := by decide +kernel
theorem dX8_image_8 : decode cX8_image 8 = .ok (.invokevirtual 285, 3) := by decide +kernel
theorem dX8_image_11 : decode cX8_image 11 = .ok (.aload_n 0, 1) := by decide +kernel
theorem dX8_image_12 : decode cX8_image 12 = .ok (.dup, 1) := by decide +kernel
theorem dX8_image_13 : decode cX8_image 13 = .ok (.getfield 289, 3) := by decide +kernel
theorem dX8_image_16 : decode cX8_image 16 = .ok (.iconst 1, 1) := by decide +kernel
theorem dX8_image_17 : decode cX8_image 17 = .ok (.iadd, 1) := by decide +kernel
theorem dX8_image_18 : decode cX8_image 18 = .ok (.putfield 289, 3) := by decide +kernel
theorem dX8_image_21 : decode cX8_image 21 = .ok (.aload_n 0, 1) := by decide +kernel
theorem dX8_image_22 : decode cX8_image 22 = .ok (.getfield 289, 3) := by decide +kernel
theorem dX8_image_25 : decode cX8_image 25 = .ok (.ireturn, 1) := by decide +kernel
theorem dX8_restore_0 : decode cX8_restore 0 = .ok (.aload_n 0, 1) := by decide +kernel
theorem dX8_restore_1 : decode cX8_restore 1 = .ok (.getfield 289, 3) := by decide +kernel
theorem dX8_restore_4 : decode cX8_restore 4 = .ok (.ifCond .ne 9, 3) := by decide +kernel
theorem dX8_restore_7 : decode cX8_restore 7 = .ok (.aload_n 0, 1) := by decide +kernel
theorem dX8_restore_8 : decode cX8_restore 8 = .ok (.iconst 2, 1) := by decide +kernel
theorem dX8_restore_9 : decode cX8_restore 9 = .ok (.invokevirtual 48, 3) := by decide +kernel
theorem dX8_restore_12 : decode cX8_restore 12 = .ok (.ireturn, 1) := by decide +kernel
theorem dX8_restore_13 : decode cX8_restore 13 = .ok (.aload_n 0, 1) := by decide +kernel
theorem dX8_restore_14 : decode cX8_restore 14 = .ok (.getfield 12, 3) := by decide +kernel
theorem dX8_restore_17 : decode cX8_restore 17 = .ok (.aload_n 0, 1) := by decide +kernel
theorem dX8_restore_18 : decode cX8_restore 18 = .ok (.getfield 16, 3) := by decide +kernel
theorem dX8_restore_21 : decode cX8_restore 21 = .ok (.invokevirtual 285, 3) := by decide +kernel
theorem dX8_restore_24 : decode cX8_restore 24 = .ok (.aload_n 0, 1) := by decide +kernel
theorem dX8_restore_25 : decode cX8_restore 25 = .ok (.getfield 12, 3) := by decide +kernel
theorem dX8_restore_28 : decode cX8_restore 28 = .ok (.getfield 96, 3) := by decide +kernel
theorem dX8_restore_31 : decode cX8_restore 31 = .ok (.ireturn, 1) := by decide +kernel
theorem dX8_tell_0 : decode cX8_tell 0 = .ok (.aload_n 0, 1) := by decide +kernel
theorem dX8_tell_1 : decode cX8_tell 1 = .ok (.getfield 12, 3) := by decide +kernel
theorem dX8_tell_4 : decode cX8_tell 4 = .ok (.getfield 292, 3) := by decide +kernel
theorem dX8_tell_7 : decode cX8_tell 7 = .ok (.bipush 24, 2) := by decide +kernel
theorem dX8_tell_9 : decode cX8_tell 9 = .ok (.if_icmp .lt 9, 3) := by decide +kernel
theorem dX8_tell_12 : decode cX8_tell 12 = .ok (.aload_n 0, 1) := by decide +kernel
theorem dX8_tell_13 : decode cX8_tell 13 = .ok (.iconst 4, 1) := by decide +kernel
theorem dX8_tell_14 : decode cX8_tell 14 = .ok (.invokevirtual 48, 3) := by decide +kernel
theorem dX8_tell_17 : decode cX8_tell 17 = .ok (.ireturn, 1) := by decide +kernel
theorem dX8_tell_18 : decode cX8_tell 18 = .ok (.aload_n 0, 1) := by decide +kernel
theorem dX8_tell_19 : decode cX8_tell 19 = .ok (.getfield 12, 3) := by decide +kernel
theorem dX8_tell_22 : decode cX8_tell 22 = .ok (.getfield 295, 3) := by decide +kernel
theorem dX8_tell_25 : decode cX8_tell 25 = .ok (.aload_n 0, 1) := by decide +kernel
theorem dX8_tell_26 : decode cX8_tell 26 = .ok (.getfield 12, 3) := by decide +kernel
theorem dX8_tell_29 : decode cX8_tell 29 = .ok (.getfield 292, 3) := by decide +kernel
theorem dX8_tell_32 : decode cX8_tell 32 = .ok (.iload_n 1, 1) := by decide +kernel
theorem dX8_tell_33 : decode cX8_tell 33 = .ok (.iastore, 1) := by decide +kernel
theorem dX8_tell_34 : decode cX8_tell 34 = .ok (.aload_n 0, 1) := by decide +kernel
theorem dX8_tell_35 : decode cX8_tell 35 = .ok (.getfield 12, 3) := by decide +kernel
theorem dX8_tell_38 : decode cX8_tell 38 = .ok (.dup, 1) := by decide +kernel
theorem dX8_tell_39 : decode cX8_tell 39 = .ok (.getfield 292, 3) := by decide +kernel
theorem dX8_tell_42 : decode cX8_tell 42 = .ok (.iconst 1, 1) := by decide +kernel
theorem dX8_tell_43 : decode cX8_tell 43 = .ok (.iadd, 1) := by decide +kernel
theorem dX8_tell_44 : decode cX8_tell 44 = .ok (.putfield 292, 3) := by decide +kernel
theorem dX8_tell_47 : decode cX8_tell 47 = .ok (.aload_n 0, 1) := by decide +kernel
theorem dX8_tell_48 : decode cX8_tell 48 = .ok (.getfield 12, 3) := by decide +kernel
theorem dX8_tell_51 : decode cX8_tell 51 = .ok (.getfield 292, 3) := by decide +kernel
theorem dX8_tell_54 : decode cX8_tell 54 = .ok (.ireturn, 1) := by decide +kernel
theorem dX8_check_0 : decode cX8_check 0 = .ok (.aload_n 0, 1) := by decide +kernel
theorem dX8_check_1 : decode cX8_check 1 = .ok (.getfield 12, 3) := by decide +kernel
theorem dX8_check_4 : decode cX8_check 4 = .ok (.getfield 292, 3) := by decide +kernel
theorem dX8_check_7 : decode cX8_check 7 = .ok (.istore_n 1, 1) := by decide +kernel
theorem dX8_check_8 : decode cX8_check 8 = .ok (.aload_n 0, 1) := by decide +kernel
theorem dX8_check_9 : decode cX8_check 9 = .ok (.getfield 12, 3) := by decide +kernel
theorem dX8_check_12 : decode cX8_check 12 = .ok (.iconst 0, 1) := by decide +kernel
theorem dX8_check_13 : decode cX8_check 13 = .ok (.putfield 292, 3) := by decide +kernel
theorem dX8_check_16 : decode cX8_check 16 = .ok (.iload_n 1, 1) := by decide +kernel
theorem dX8_check_17 : decode cX8_check 17 = .ok (.aload_n 0, 1) := by decide +kernel
theorem dX8_check_18 : decode cX8_check 18 = .ok (.getfield 12, 3) := by decide +kernel
theorem dX8_check_21 : decode cX8_check 21 = .ok (.getfield 183, 3) := by decide +kernel
theorem dX8_check_24 : decode cX8_check 24 = .ok (.getfield 192, 3) := by decide +kernel
theorem dX8_check_27 : decode cX8_check 27 = .ok (.invokestatic 298, 3) := by decide +kernel
theorem dX8_check_30 : decode cX8_check 30 = .ok (.istore_n 2, 1) := by decide +kernel
theorem dX8_check_31 : decode cX8_check 31 = .ok (.iconst 0, 1) := by decide +kernel
theorem dX8_check_32 : decode cX8_check 32 = .ok (.istore_n 3, 1) := by decide +kernel
theorem dX8_check_33 : decode cX8_check 33 = .ok (.iload_n 3, 1) := by decide +kernel
theorem dX8_check_34 : decode cX8_check 34 = .ok (.iload_n 2, 1) := by decide +kernel
theorem dX8_check_35 : decode cX8_check 35 = .ok (.if_icmp .ge 105, 3) := by decide +kernel
theorem dX8_check_38 : decode cX8_check 38 = .ok (.iload_n 3, 1) := by decide +kernel
theorem dX8_check_39 : decode cX8_check 39 = .ok (.iload_n 1, 1) := by decide +kernel
theorem dX8_check_40 : decode cX8_check 40 = .ok (.if_icmp .ge 17, 3) := by decide +kernel
theorem dX8_check_43 : decode cX8_check 43 = .ok (.iload_n 3, 1) := by decide +kernel
theorem dX8_check_44 : decode cX8_check 44 = .ok (.aload_n 0, 1) := by decide +kernel
theorem dX8_check_45 : decode cX8_check 45 = .ok (.getfield 12, 3) := by decide +kernel
theorem dX8_check_48 : decode cX8_check 48 = .ok (.getfield 183, 3) := by decide +kernel
theorem dX8_check_51 : decode cX8_check 51 = .ok (.getfield 192, 3) := by decide +kernel
theorem dX8_check_54 : decode cX8_check 54 = .ok (.if_icmp .lt 7, 3) := by decide +kernel
theorem dX8_check_57 : decode cX8_check 57 = .ok (.iconst 1, 1) := by decide +kernel
theorem dX8_check_58 : decode cX8_check 58 = .ok (.iload_n 3, 1) := by decide +kernel
theorem dX8_check_59 : decode cX8_check 59 = .ok (.iadd, 1) := by decide +kernel
theorem dX8_check_60 : decode cX8_check 60 = .ok (.ireturn, 1) := by decide +kernel
theorem dX8_check_61 : decode cX8_check 61 = .ok (.iload_n 3, 1) := by decide +kernel
theorem dX8_check_62 : decode cX8_check 62 = .ok (.ifCond .eq 26, 3) := by decide +kernel
theorem dX8_check_65 : decode cX8_check 65 = .ok (.aload_n 0, 1) := by decide +kernel
theorem dX8_check_66 : decode cX8_check 66 = .ok (.getfield 12, 3) := by decide +kernel
theorem dX8_check_69 : decode cX8_check 69 = .ok (.getfield 295, 3) := by decide +kernel
theorem dX8_check_72 : decode cX8_check 72 = .ok (.iload_n 3, 1) := by decide +kernel
theorem dX8_check_73 : decode cX8_check 73 = .ok (.iaload, 1) := by decide +kernel
theorem dX8_check_74 : decode cX8_check 74 = .ok (.aload_n 0, 1) := by decide +kernel
theorem dX8_check_75 : decode cX8_check 75 = .ok (.getfield 12, 3) := by decide +kernel
theorem dX8_check_78 : decode cX8_check 78 = .ok (.getfield 295, 3) := by decide +kernel
theorem dX8_check_81 : decode cX8_check 81 = .ok (.iload_n 3, 1) := by decide +kernel
theorem dX8_check_82 : decode cX8_check 82 = .ok (.iconst 1, 1) := by decide +kernel
theorem dX8_check_83 : decode cX8_check 83 = .ok (.isub, 1) := by decide +kernel
theorem dX8_check_84 : decode cX8_check 84 = .ok (.iaload, 1) := by decide +kernel
theorem dX8_check_85 : decode cX8_check 85 = .ok (.if_icmp .le 7, 3) := by decide +kernel
theorem dX8_check_88 : decode cX8_check 88 = .ok (.iconst 1, 1) := by decide +kernel
theorem dX8_check_89 : decode cX8_check 89 = .ok (.goto 4, 3) := by decide +kernel
theorem dX8_check_92 : decode cX8_check 92 = .ok (.iconst 0, 1) := by decide +kernel
theorem dX8_check_93 : decode cX8_check 93 = .ok (.istore 4, 2) := by decide +kernel
theorem dX8_check_95 : decode cX8_check 95 = .ok (.iload 4, 2) := by decide +kernel
theorem dX8_check_97 : decode cX8_check 97 = .ok (.ifCond .eq 33, 3) := by decide +kernel
theorem dX8_check_100 : decode cX8_check 100 = .ok (.aload_n 0, 1) := by decide +kernel
theorem dX8_check_101 : decode cX8_check 101 = .ok (.getfield 12, 3) := by decide +kernel
theorem dX8_check_104 : decode cX8_check 104 = .ok (.getfield 183, 3) := by decide +kernel
theorem dX8_check_107 : decode cX8_check 107 = .ok (.aload_n 0, 1) := by decide +kernel
theorem dX8_check_108 : decode cX8_check 108 = .ok (.getfield 12, 3) := by decide +kernel
theorem dX8_check_111 : decode cX8_check 111 = .ok (.getfield 52, 3) := by decide +kernel
theorem dX8_check_114 : decode cX8_check 114 = .ok (.iload_n 3, 1) := by decide +kernel
theorem dX8_check_115 : decode cX8_check 115 = .ok (.aload_n 0, 1) := by decide +kernel
theorem dX8_check_116 : decode cX8_check 116 = .ok (.getfield 12, 3) := by decide +kernel
theorem dX8_check_119 : decode cX8_check 119 = .ok (.getfield 295, 3) := by decide +kernel
theorem dX8_check_122 : decode cX8_check 122 = .ok (.iload_n 3, 1) := by decide +kernel
theorem dX8_check_123 : decode cX8_check 123 = .ok (.iaload, 1) := by decide +kernel
theorem dX8_check_124 : decode cX8_check 124 = .ok (.invokevirtual 303, 3) := by decide +kernel
theorem dX8_check_127 : decode cX8_check 127 = .ok (.ifCond .ne 7, 3) := by decide +kernel
theorem dX8_check_130 : decode cX8_check 130 = .ok (.iconst 1, 1) := by decide +kernel
theorem dX8_check_131 : decode cX8_check 131 = .ok (.iload_n 3, 1) := by decide +kernel
theorem dX8_check_132 : decode cX8_check 132 = .ok (.iadd, 1) := by decide +kernel
theorem dX8_check_133 : decode cX8_check 133 = .ok (.ireturn, 1) := by decide +kernel
theorem dX8_check_134 : decode cX8_check 134 = .ok (.iinc 3 1, 3) := by decide +kernel
theorem dX8_check_137 : decode cX8_check 137 = .ok (.goto (-104), 3) := by decide +kernel
theorem dX8_check_140 : decode cX8_check 140 = .ok (.iconst 0, 1) := by decide +kernel
theorem dX8_check_141 : decode cX8_check 141 = .ok (.ireturn, 1) := by decide +kernel
theorem dX8_count_0 : decode cX8_count 0 = .ok (.iload_n 1, 1) := by decide +kernel
theorem dX8_count_1 : decode cX8_count 1 = .ok (.tableswitch 132 0 8 #[51, 62, 73, 84, 92, 100, 108, 116, 124], 51) := by decide +kernel
theorem dX8_count_52 : decode cX8_count 52 = .ok (.aload_n 0, 1) := by decide +kernel
theorem dX8_count_53 : decode cX8_count 53 = .ok (.getfield 12, 3) := by decide +kernel
theorem dX8_count_56 : decode cX8_count 56 = .ok (.getfield 52, 3) := by decide +kernel
theorem dX8_count_59 : decode cX8_count 59 = .ok (.getfield 62, 3) := by decide +kernel
theorem dX8_count_62 : decode cX8_count 62 = .ok (.ireturn, 1) := by decide +kernel
theorem dX8_count_63 : decode cX8_count 63 = .ok (.aload_n 0, 1) := by decide +kernel
theorem dX8_count_64 : decode cX8_count 64 = .ok (.getfield 12, 3) := by decide +kernel
theorem dX8_count_67 : decode cX8_count 67 = .ok (.getfield 99, 3) := by decide +kernel
theorem dX8_count_70 : decode cX8_count 70 = .ok (.getfield 103, 3) := by decide +kernel
theorem dX8_count_73 : decode cX8_count 73 = .ok (.ireturn, 1) := by decide +kernel
theorem dX8_count_74 : decode cX8_count 74 = .ok (.aload_n 0, 1) := by decide +kernel
theorem dX8_count_75 : decode cX8_count 75 = .ok (.getfield 12, 3) := by decide +kernel
theorem dX8_count_78 : decode cX8_count 78 = .ok (.getfield 183, 3) := by decide +kernel
theorem dX8_count_81 : decode cX8_count 81 = .ok (.getfield 192, 3) := by decide +kernel
theorem dX8_count_84 : decode cX8_count 84 = .ok (.ireturn, 1) := by decide +kernel
theorem dX8_count_85 : decode cX8_count 85 = .ok (.aload_n 0, 1) := by decide +kernel
theorem dX8_count_86 : decode cX8_count 86 = .ok (.getfield 12, 3) := by decide +kernel
theorem dX8_count_89 : decode cX8_count 89 = .ok (.getfield 96, 3) := by decide +kernel
theorem dX8_count_92 : decode cX8_count 92 = .ok (.ireturn, 1) := by decide +kernel
theorem dX8_count_93 : decode cX8_count 93 = .ok (.aload_n 0, 1) := by decide +kernel
theorem dX8_count_94 : decode cX8_count 94 = .ok (.getfield 12, 3) := by decide +kernel
theorem dX8_count_97 : decode cX8_count 97 = .ok (.getfield 143, 3) := by decide +kernel
theorem dX8_count_100 : decode cX8_count 100 = .ok (.ireturn, 1) := by decide +kernel
theorem dX8_count_101 : decode cX8_count 101 = .ok (.aload_n 0, 1) := by decide +kernel
theorem dX8_count_102 : decode cX8_count 102 = .ok (.getfield 12, 3) := by decide +kernel
theorem dX8_count_105 : decode cX8_count 105 = .ok (.getfield 292, 3) := by decide +kernel
theorem dX8_count_108 : decode cX8_count 108 = .ok (.ireturn, 1) := by decide +kernel
theorem dX8_count_109 : decode cX8_count 109 = .ok (.aload_n 0, 1) := by decide +kernel
theorem dX8_count_110 : decode cX8_count 110 = .ok (.getfield 29, 3) := by decide +kernel
theorem dX8_count_113 : decode cX8_count 113 = .ok (.getfield 254, 3) := by decide +kernel
theorem dX8_count_116 : decode cX8_count 116 = .ok (.ireturn, 1) := by decide +kernel
theorem dX8_count_117 : decode cX8_count 117 = .ok (.aload_n 0, 1) := by decide +kernel
theorem dX8_count_118 : decode cX8_count 118 = .ok (.getfield 12, 3) := by decide +kernel
theorem dX8_count_121 : decode cX8_count 121 = .ok (.getfield 224, 3) := by decide +kernel
theorem dX8_count_124 : decode cX8_count 124 = .ok (.ireturn, 1) := by decide +kernel
theorem dX8_count_125 : decode cX8_count 125 = .ok (.aload_n 0, 1) := by decide +kernel
theorem dX8_count_126 : decode cX8_count 126 = .ok (.getfield 12, 3) := by decide +kernel
theorem dX8_count_129 : decode cX8_count 129 = .ok (.invokevirtual 307, 3) := by decide +kernel
theorem dX8_count_132 : decode cX8_count 132 = .ok (.ireturn, 1) := by decide +kernel
theorem dX8_count_133 : decode cX8_count 133 = .ok (.aload_n 0, 1) := by decide +kernel
theorem dX8_count_134 : decode cX8_count 134 = .ok (.iconst 1, 1) := by decide +kernel
theorem dX8_count_135 : decode cX8_count 135 = .ok (.invokevirtual 48, 3) := by decide +kernel
theorem dX8_count_138 : decode cX8_count 138 = .ok (.ireturn, 1) := by decide +kernel
theorem dX8_told_0 : decode cX8_told 0 = .ok (.iload_n 1, 1) := by decide +kernel
theorem dX8_told_1 : decode cX8_told 1 = .ok (.iconst 1, 1) := by decide +kernel
theorem dX8_told_2 : decode cX8_told 2 = .ok (.if_icmp .lt 18, 3) := by decide +kernel
theorem dX8_told_5 : decode cX8_told 5 = .ok (.iload_n 1, 1) := by decide +kernel
theorem dX8_told_6 : decode cX8_told 6 = .ok (.bipush 6, 2) := by decide +kernel
theorem dX8_told_8 : decode cX8_told 8 = .ok (.if_icmp .gt 12, 3) := by decide +kernel
theorem dX8_told_11 : decode cX8_told 11 = .ok (.aload_n 0, 1) := by decide +kernel
theorem dX8_told_12 : decode cX8_told 12 = .ok (.getfield 39, 3) := by decide +kernel
theorem dX8_told_15 : decode cX8_told 15 = .ok (.iload_n 1, 1) := by decide +kernel
theorem dX8_told_16 : decode cX8_told 16 = .ok (.iaload, 1) := by decide +kernel
theorem dX8_told_17 : decode cX8_told 17 = .ok (.goto 8, 3) := by decide +kernel
theorem dX8_told_20 : decode cX8_told 20 = .ok (.aload_n 0, 1) := by decide +kernel
theorem dX8_told_21 : decode cX8_told 21 = .ok (.iconst 1, 1) := by decide +kernel
theorem dX8_told_22 : decode cX8_told 22 = .ok (.invokevirtual 48, 3) := by decide +kernel
theorem dX8_told_25 : decode cX8_told 25 = .ok (.ireturn, 1) := by decide +kernel
theorem dX8_error_0 : decode cX8_error 0 = .ok (.aload_n 0, 1) := by decide +kernel
theorem dX8_error_1 : decode cX8_error 1 = .ok (.getfield 39, 3) := by decide +kernel
theorem dX8_error_4 : decode cX8_error 4 = .ok (.iload_n 1, 1) := by decide +kernel
theorem dX8_error_5 : decode cX8_error 5 = .ok (.dup2, 1) := by decide +kernel
theorem dX8_error_6 : decode cX8_error 6 = .ok (.iaload, 1) := by decide +kernel
theorem dX8_error_7 : decode cX8_error 7 = .ok (.iconst 1, 1) := by decide +kernel
theorem dX8_error_8 : decode cX8_error 8 = .ok (.iadd, 1) := by decide +kernel
theorem dX8_error_9 : decode cX8_error 9 = .ok (.iastore, 1) := by decide +kernel
theorem dX8_error_10 : decode cX8_error 10 = .ok (.ldc_w 310, 3) := by decide +kernel
theorem dX8_error_13 : decode cX8_error 13 = .ok (.iload_n 1, 1) := by decide +kernel
theorem dX8_error_14 : decode cX8_error 14 = .ok (.isub, 1) := by decide +kernel
theorem dX8_error_15 : decode cX8_error 15 = .ok (.ireturn, 1) := by decide +kernel
theorem dX8_saleRefusal_0 : decode cX8_saleRefusal 0 = .ok (.iload_n 1, 1) := by decide +kernel
theorem dX8_saleRefusal_1 : decode cX8_saleRefusal 1 = .ok (.iconst 1, 1) := by decide +kernel
theorem dX8_saleRefusal_2 : decode cX8_saleRefusal 2 = .ok (.if_icmp .lt 18, 3) := by decide +kernel
theorem dX8_saleRefusal_5 : decode cX8_saleRefusal 5 = .ok (.iload_n 1, 1) := by decide +kernel
theorem dX8_saleRefusal_6 : decode cX8_saleRefusal 6 = .ok (.sipush 150, 3) := by decide +kernel
theorem dX8_saleRefusal_9 : decode cX8_saleRefusal 9 = .ok (.if_icmp .gt 11, 3) := by decide +kernel
theorem dX8_saleRefusal_12 : decode cX8_saleRefusal 12 = .ok (.iload_n 2, 1) := by decide +kernel
theorem dX8_saleRefusal_13 : decode cX8_saleRefusal 13 = .ok (.iload_n 3, 1) := by decide +kernel
theorem dX8_saleRefusal_14 : decode cX8_saleRefusal 14 = .ok (.invokestatic 240, 3) := by decide +kernel
theorem dX8_saleRefusal_17 : decode cX8_saleRefusal 17 = .ok (.ifCond .ne 5, 3) := by decide +kernel
theorem dX8_saleRefusal_20 : decode cX8_saleRefusal 20 = .ok (.iconst 1, 1) := by decide +kernel
theorem dX8_saleRefusal_21 : decode cX8_saleRefusal 21 = .ok (.ireturn, 1) := by decide +kernel
theorem dX8_saleRefusal_22 : decode cX8_saleRefusal 22 = .ok (.aload_n 0, 1) := by decide +kernel
theorem dX8_saleRefusal_23 : decode cX8_saleRefusal 23 = .ok (.getfield 12, 3) := by decide +kernel
theorem dX8_saleRefusal_26 : decode cX8_saleRefusal 26 = .ok (.getfield 52, 3) := by decide +kernel
theorem dX8_saleRefusal_29 : decode cX8_saleRefusal 29 = .ok (.iload_n 1, 1) := by decide +kernel
theorem dX8_saleRefusal_30 : decode cX8_saleRefusal 30 = .ok (.iload_n 2, 1) := by decide +kernel
theorem dX8_saleRefusal_31 : decode cX8_saleRefusal 31 = .ok (.iload_n 3, 1) := by decide +kernel
theorem dX8_saleRefusal_32 : decode cX8_saleRefusal 32 = .ok (.invokevirtual 243, 3) := by decide +kernel
theorem dX8_saleRefusal_35 : decode cX8_saleRefusal 35 = .ok (.ifCond .ne 5, 3) := by decide +kernel
theorem dX8_saleRefusal_38 : decode cX8_saleRefusal 38 = .ok (.iconst 3, 1) := by decide +kernel
theorem dX8_saleRefusal_39 : decode cX8_saleRefusal 39 = .ok (.ireturn, 1) := by decide +kernel
theorem dX8_saleRefusal_40 : decode cX8_saleRefusal 40 = .ok (.aload_n 0, 1) := by decide +kernel
theorem dX8_saleRefusal_41 : decode cX8_saleRefusal 41 = .ok (.getfield 12, 3) := by decide +kernel
theorem dX8_saleRefusal_44 : decode cX8_saleRefusal 44 = .ok (.getfield 52, 3) := by decide +kernel
theorem dX8_saleRefusal_47 : decode cX8_saleRefusal 47 = .ok (.getfield 62, 3) := by decide +kernel
theorem dX8_saleRefusal_50 : decode cX8_saleRefusal 50 = .ok (.bipush 6, 2) := by decide +kernel
theorem dX8_saleRefusal_52 : decode cX8_saleRefusal 52 = .ok (.if_icmp .lt 7, 3) := by decide +kernel
theorem dX8_saleRefusal_55 : decode cX8_saleRefusal 55 = .ok (.iconst 4, 1) := by decide +kernel
theorem dX8_saleRefusal_56 : decode cX8_saleRefusal 56 = .ok (.goto 4, 3) := by decide +kernel
theorem dX8_saleRefusal_59 : decode cX8_saleRefusal 59 = .ok (.iconst 0, 1) := by decide +kernel
theorem dX8_saleRefusal_60 : decode cX8_saleRefusal 60 = .ok (.ireturn, 1) := by decide +kernel
theorem dX8_paperRefusal_0 : decode cX8_paperRefusal 0 = .ok (.iload_n 1, 1) := by decide +kernel
theorem dX8_paperRefusal_1 : decode cX8_paperRefusal 1 = .ok (.iload_n 2, 1) := by decide +kernel
theorem dX8_paperRefusal_2 : decode cX8_paperRefusal 2 = .ok (.invokestatic 90, 3) := by decide +kernel
theorem dX8_paperRefusal_5 : decode cX8_paperRefusal 5 = .ok (.ifCond .ne 5, 3) := by decide +kernel
theorem dX8_paperRefusal_8 : decode cX8_paperRefusal 8 = .ok (.iconst 1, 1) := by decide +kernel
theorem dX8_paperRefusal_9 : decode cX8_paperRefusal 9 = .ok (.ireturn, 1) := by decide +kernel
theorem dX8_paperRefusal_10 : decode cX8_paperRefusal 10 = .ok (.aload_n 0, 1) := by decide +kernel
theorem dX8_paperRefusal_11 : decode cX8_paperRefusal 11 = .ok (.getfield 12, 3) := by decide +kernel
theorem dX8_paperRefusal_14 : decode cX8_paperRefusal 14 = .ok (.getfield 183, 3) := by decide +kernel
theorem dX8_paperRefusal_17 : decode cX8_paperRefusal 17 = .ok (.getfield 192, 3) := by decide +kernel
theorem dX8_paperRefusal_20 : decode cX8_paperRefusal 20 = .ok (.bipush 8, 2) := by decide +kernel
theorem dX8_paperRefusal_22 : decode cX8_paperRefusal 22 = .ok (.if_icmp .lt 7, 3) := by decide +kernel
theorem dX8_paperRefusal_25 : decode cX8_paperRefusal 25 = .ok (.iconst 4, 1) := by decide +kernel
theorem dX8_paperRefusal_26 : decode cX8_paperRefusal 26 = .ok (.goto 4, 3) := by decide +kernel
theorem dX8_paperRefusal_29 : decode cX8_paperRefusal 29 = .ok (.iconst 0, 1) := by decide +kernel
theorem dX8_paperRefusal_30 : decode cX8_paperRefusal 30 = .ok (.ireturn, 1) := by decide +kernel
theorem dX8_isThing_0 : decode cX8_isThing 0 = .ok (.iload_n 1, 1) := by decide +kernel
theorem dX8_isThing_1 : decode cX8_isThing 1 = .ok (.aload_n 0, 1) := by decide +kernel
theorem dX8_isThing_2 : decode cX8_isThing 2 = .ok (.getfield 12, 3) := by decide +kernel
theorem dX8_isThing_5 : decode cX8_isThing 5 = .ok (.getfield 99, 3) := by decide +kernel
theorem dX8_isThing_8 : decode cX8_isThing 8 = .ok (.getfield 103, 3) := by decide +kernel
theorem dX8_isThing_11 : decode cX8_isThing 11 = .ok (.invokestatic 66, 3) := by decide +kernel
theorem dX8_isThing_14 : decode cX8_isThing 14 = .ok (.ireturn, 1) := by decide +kernel
theorem dX8_isPaper_0 : decode cX8_isPaper 0 = .ok (.iload_n 1, 1) := by decide +kernel
theorem dX8_isPaper_1 : decode cX8_isPaper 1 = .ok (.aload_n 0, 1) := by decide +kernel
theorem dX8_isPaper_2 : decode cX8_isPaper 2 = .ok (.getfield 12, 3) := by decide +kernel
theorem dX8_isPaper_5 : decode cX8_isPaper 5 = .ok (.getfield 183, 3) := by decide +kernel
theorem dX8_isPaper_8 : decode cX8_isPaper 8 = .ok (.getfield 192, 3) := by decide +kernel
theorem dX8_isPaper_11 : decode cX8_isPaper 11 = .ok (.invokestatic 66, 3) := by decide +kernel
theorem dX8_isPaper_14 : decode cX8_isPaper 14 = .ok (.ireturn, 1) := by decide +kernel
theorem dX8_isWithin_0 : decode cX8_isWithin 0 = .ok (.iload_n 0, 1) := by decide +kernel
theorem dX8_isWithin_1 : decode cX8_isWithin 1 = .ok (.ifCond .lt 12, 3) := by decide +kernel
theorem dX8_isWithin_4 : decode cX8_isWithin 4 = .ok (.iload_n 0, 1) := by decide +kernel
theorem dX8_isWithin_5 : decode cX8_isWithin 5 = .ok (.iload_n 1, 1) := by decide +kernel
theorem dX8_isWithin_6 : decode cX8_isWithin 6 = .ok (.if_icmp .ge 7, 3) := by decide +kernel
theorem dX8_isWithin_9 : decode cX8_isWithin 9 = .ok (.iconst 1, 1) := by decide +kernel
theorem dX8_isWithin_10 : decode cX8_isWithin 10 = .ok (.goto 4, 3) := by decide +kernel
theorem dX8_isWithin_13 : decode cX8_isWithin 13 = .ok (.iconst 0, 1) := by decide +kernel
theorem dX8_isWithin_14 : decode cX8_isWithin 14 = .ok (.ireturn, 1) := by decide +kernel
theorem dX8_isTrade_0 : decode cX8_isTrade 0 = .ok (.iload_n 0, 1) := by decide +kernel
theorem dX8_isTrade_1 : decode cX8_isTrade 1 = .ok (.iconst 4, 1) := by decide +kernel
theorem dX8_isTrade_2 : decode cX8_isTrade 2 = .ok (.invokestatic 66, 3) := by decide +kernel
theorem dX8_isTrade_5 : decode cX8_isTrade 5 = .ok (.ifCond .eq 20, 3) := by decide +kernel
theorem dX8_isTrade_8 : decode cX8_isTrade 8 = .ok (.iload_n 1, 1) := by decide +kernel
theorem dX8_isTrade_9 : decode cX8_isTrade 9 = .ok (.iconst 4, 1) := by decide +kernel
theorem dX8_isTrade_10 : decode cX8_isTrade 10 = .ok (.invokestatic 66, 3) := by decide +kernel
theorem dX8_isTrade_13 : decode cX8_isTrade 13 = .ok (.ifCond .eq 12, 3) := by decide +kernel
theorem dX8_isTrade_16 : decode cX8_isTrade 16 = .ok (.iload_n 0, 1) := by decide +kernel
theorem dX8_isTrade_17 : decode cX8_isTrade 17 = .ok (.iload_n 1, 1) := by decide +kernel
theorem dX8_isTrade_18 : decode cX8_isTrade 18 = .ok (.if_icmp .eq 7, 3) := by decide +kernel
theorem dX8_isTrade_21 : decode cX8_isTrade 21 = .ok (.iconst 1, 1) := by decide +kernel
theorem dX8_isTrade_22 : decode cX8_isTrade 22 = .ok (.goto 4, 3) := by decide +kernel
theorem dX8_isTrade_25 : decode cX8_isTrade 25 = .ok (.iconst 0, 1) := by decide +kernel
theorem dX8_isTrade_26 : decode cX8_isTrade 26 = .ok (.ireturn, 1) := by decide +kernel
theorem dX8_isDate_0 : decode cX8_isDate 0 = .ok (.iload_n 0, 1) := by decide +kernel
theorem dX8_isDate_1 : decode cX8_isDate 1 = .ok (.sipush 207, 3) := by decide +kernel
theorem dX8_isDate_4 : decode cX8_isDate 4 = .ok (.invokestatic 66, 3) := by decide +kernel
theorem dX8_isDate_7 : decode cX8_isDate 7 = .ok (.ifCond .eq 17, 3) := by decide +kernel
theorem dX8_isDate_10 : decode cX8_isDate 10 = .ok (.iload_n 1, 1) := by decide +kernel
theorem dX8_isDate_11 : decode cX8_isDate 11 = .ok (.sipush 365, 3) := by decide +kernel
theorem dX8_isDate_14 : decode cX8_isDate 14 = .ok (.invokestatic 66, 3) := by decide +kernel
theorem dX8_isDate_17 : decode cX8_isDate 17 = .ok (.ifCond .eq 7, 3) := by decide +kernel
theorem dX8_isDate_20 : decode cX8_isDate 20 = .ok (.iconst 1, 1) := by decide +kernel
theorem dX8_isDate_21 : decode cX8_isDate 21 = .ok (.goto 4, 3) := by decide +kernel
theorem dX8_isDate_24 : decode cX8_isDate 24 = .ok (.iconst 0, 1) := by decide +kernel
theorem dX8_isDate_25 : decode cX8_isDate 25 = .ok (.ireturn, 1) := by decide +kernel
theorem dX8_isTerm_0 : decode cX8_isTerm 0 = .ok (.iload_n 0, 1) := by decide +kernel
theorem dX8_isTerm_1 : decode cX8_isTerm 1 = .ok (.iconst 1, 1) := by decide +kernel
theorem dX8_isTerm_2 : decode cX8_isTerm 2 = .ok (.if_icmp .lt 13, 3) := by decide +kernel
theorem dX8_isTerm_5 : decode cX8_isTerm 5 = .ok (.iload_n 0, 1) := by decide +kernel
theorem dX8_isTerm_6 : decode cX8_isTerm 6 = .ok (.bipush 99, 2) := by decide +kernel
theorem dX8_isTerm_8 : decode cX8_isTerm 8 = .ok (.if_icmp .gt 7, 3) := by decide +kernel
theorem dX8_isTerm_11 : decode cX8_isTerm 11 = .ok (.iconst 1, 1) := by decide +kernel
theorem dX8_isTerm_12 : decode cX8_isTerm 12 = .ok (.goto 4, 3) := by decide +kernel
theorem dX8_isTerm_15 : decode cX8_isTerm 15 = .ok (.iconst 0, 1) := by decide +kernel
theorem dX8_isTerm_16 : decode cX8_isTerm 16 = .ok (.ireturn, 1) := by decide +kernel
theorem dX8_isWidth_0 : decode cX8_isWidth 0 = .ok (.iload_n 0, 1) := by decide +kernel
theorem dX8_isWidth_1 : decode cX8_isWidth 1 = .ok (.ifCond .eq 21, 3) := by decide +kernel
theorem dX8_isWidth_4 : decode cX8_isWidth 4 = .ok (.iload_n 0, 1) := by decide +kernel
theorem dX8_isWidth_5 : decode cX8_isWidth 5 = .ok (.bipush 8, 2) := by decide +kernel
theorem dX8_isWidth_7 : decode cX8_isWidth 7 = .ok (.if_icmp .eq 15, 3) := by decide +kernel
theorem dX8_isWidth_10 : decode cX8_isWidth 10 = .ok (.iload_n 0, 1) := by decide +kernel
theorem dX8_isWidth_11 : decode cX8_isWidth 11 = .ok (.bipush 16, 2) := by decide +kernel
theorem dX8_isWidth_13 : decode cX8_isWidth 13 = .ok (.if_icmp .eq 9, 3) := by decide +kernel
theorem dX8_isWidth_16 : decode cX8_isWidth 16 = .ok (.iload_n 0, 1) := by decide +kernel
theorem dX8_isWidth_17 : decode cX8_isWidth 17 = .ok (.bipush 32, 2) := by decide +kernel
theorem dX8_isWidth_19 : decode cX8_isWidth 19 = .ok (.if_icmp .ne 7, 3) := by decide +kernel
theorem dX8_isWidth_22 : decode cX8_isWidth 22 = .ok (.iconst 1, 1) := by decide +kernel
theorem dX8_isWidth_23 : decode cX8_isWidth 23 = .ok (.goto 4, 3) := by decide +kernel
theorem dX8_isWidth_26 : decode cX8_isWidth 26 = .ok (.iconst 0, 1) := by decide +kernel
theorem dX8_isWidth_27 : decode cX8_isWidth 27 = .ok (.ireturn, 1) := by decide +kernel
theorem dX8_factBound_0 : decode cX8_factBound 0 = .ok (.iload_n 0, 1) := by decide +kernel
theorem dX8_factBound_1 : decode cX8_factBound 1 = .ok (.tableswitch 35 0 2 #[27, 30, 33], 27) := by decide +kernel
theorem dX8_factBound_28 : decode cX8_factBound 28 = .ok (.bipush 7, 2) := by decide +kernel
theorem dX8_factBound_30 : decode cX8_factBound 30 = .ok (.ireturn, 1) := by decide +kernel
theorem dX8_factBound_31 : decode cX8_factBound 31 = .ok (.bipush 10, 2) := by decide +kernel
theorem dX8_factBound_33 : decode cX8_factBound 33 = .ok (.ireturn, 1) := by decide +kernel
theorem dX8_factBound_34 : decode cX8_factBound 34 = .ok (.iconst 4, 1) := by decide +kernel
theorem dX8_factBound_35 : decode cX8_factBound 35 = .ok (.ireturn, 1) := by decide +kernel
theorem dX8_factBound_36 : decode cX8_factBound 36 = .ok (.ldc 86, 2) := by decide +kernel
theorem dX8_factBound_38 : decode cX8_factBound 38 = .ok (.ireturn, 1) := by decide +kernel
theorem dX8_hold_0 : decode cX8_hold 0 = .ok (.iload_n 1, 1) := by decide +kernel
theorem dX8_hold_1 : decode cX8_hold 1 = .ok (.iload_n 2, 1) := by decide +kernel
theorem dX8_hold_2 : decode cX8_hold 2 = .ok (.iload_n 0, 1) := by decide +kernel
theorem dX8_hold_3 : decode cX8_hold 3 = .ok (.invokestatic 311, 3) := by decide +kernel
theorem dX8_hold_6 : decode cX8_hold 6 = .ok (.invokestatic 298, 3) := by decide +kernel
theorem dX8_hold_9 : decode cX8_hold 9 = .ok (.ireturn, 1) := by decide +kernel
theorem dX9_init_0 : decode cX9_init 0 = .ok (.aload_n 0, 1) := by decide +kernel
theorem dX9_init_1 : decode cX9_init 1 = .ok (.invokespecial 1, 3) := by decide +kernel
theorem dX9_init_4 : decode cX9_init 4 = .ok (.aload_n 0, 1) := by decide +kernel
theorem dX9_init_5 : decode cX9_init 5 = .ok (.sipush 418, 3) := by decide +kernel
theorem dX9_init_8 : decode cX9_init 8 = .ok (.newarray .int, 2) := by decide +kernel
theorem dX9_init_10 : decode cX9_init 10 = .ok (.putfield 7, 3) := by decide +kernel
theorem dX9_init_13 : decode cX9_init 13 = .ok (.aload_n 0, 1) := by decide +kernel
theorem dX9_init_14 : decode cX9_init 14 = .ok (.sipush 418, 3) := by decide +kernel
theorem dX9_init_17 : decode cX9_init 17 = .ok (.newarray .int, 2) := by decide +kernel
theorem dX9_init_19 : decode cX9_init 19 = .ok (.putfield 13, 3) := by decide +kernel
theorem dX9_init_22 : decode cX9_init 22 = .ok (.aload_n 0, 1) := by decide +kernel
theorem dX9_init_23 : decode cX9_init 23 = .ok (.bipush 7, 2) := by decide +kernel
theorem dX9_init_25 : decode cX9_init 25 = .ok (.newarray .int, 2) := by decide +kernel
theorem dX9_init_27 : decode cX9_init 27 = .ok (.putfield 16, 3) := by decide +kernel
theorem dX9_init_30 : decode cX9_init 30 = .ok (.aload_n 0, 1) := by decide +kernel
theorem dX9_init_31 : decode cX9_init 31 = .ok (.sipush 800, 3) := by decide +kernel
theorem dX9_init_34 : decode cX9_init 34 = .ok (.newarray .int, 2) := by decide +kernel
theorem dX9_init_36 : decode cX9_init 36 = .ok (.putfield 19, 3) := by decide +kernel
theorem dX9_init_39 : decode cX9_init 39 = .ok (.aload_n 0, 1) := by decide +kernel
theorem dX9_init_40 : decode cX9_init 40 = .ok (.bipush 124, 2) := by decide +kernel
theorem dX9_init_42 : decode cX9_init 42 = .ok (.newarray .int, 2) := by decide +kernel
theorem dX9_init_44 : decode cX9_init 44 = .ok (.putfield 22, 3) := by decide +kernel
theorem dX9_init_47 : decode cX9_init 47 = .ok (.aload_n 0, 1) := by decide +kernel
theorem dX9_init_48 : decode cX9_init 48 = .ok (.sipush 128, 3) := by decide +kernel
theorem dX9_init_51 : decode cX9_init 51 = .ok (.newarray .int, 2) := by decide +kernel
theorem dX9_init_53 : decode cX9_init 53 = .ok (.putfield 25, 3) := by decide +kernel
theorem dX9_init_56 : decode cX9_init 56 = .ok (.aload_n 0, 1) := by decide +kernel
theorem dX9_init_57 : decode cX9_init 57 = .ok (.bipush 64, 2) := by decide +kernel
theorem dX9_init_59 : decode cX9_init 59 = .ok (.newarray .int, 2) := by decide +kernel
theorem dX9_init_61 : decode cX9_init 61 = .ok (.putfield 28, 3) := by decide +kernel
theorem dX9_init_64 : decode cX9_init 64 = .ok (.aload_n 0, 1) := by decide +kernel
theorem dX9_init_65 : decode cX9_init 65 = .ok (.bipush 64, 2) := by decide +kernel
theorem dX9_init_67 : decode cX9_init 67 = .ok (.newarray .int, 2) := by decide +kernel
theorem dX9_init_69 : decode cX9_init 69 = .ok (.putfield 31, 3) := by decide +kernel
theorem dX9_init_72 : decode cX9_init 72 = .ok (.aload_n 0, 1) := by decide +kernel
theorem dX9_init_73 : decode cX9_init 73 = .ok (.bipush 8, 2) := by decide +kernel
theorem dX9_init_75 : decode cX9_init 75 = .ok (.newarray .int, 2) := by decide +kernel
theorem dX9_init_77 : decode cX9_init 77 = .ok (.putfield 34, 3) := by decide +kernel
theorem dX9_init_80 : decode cX9_init 80 = .ok (.aload_n 0, 1) := by decide +kernel
theorem dX9_init_81 : decode cX9_init 81 = .ok (.bipush 64, 2) := by decide +kernel
theorem dX9_init_83 : decode cX9_init 83 = .ok (.newarray .long, 2) := by decide +kernel
theorem dX9_init_85 : decode cX9_init 85 = .ok (.putfield 37, 3) := by decide +kernel
theorem dX9_init_88 : decode cX9_init 88 = .ok (.aload_n 0, 1) := by decide +kernel
theorem dX9_init_89 : decode cX9_init 89 = .ok (.bipush 64, 2) := by decide +kernel
theorem dX9_init_91 : decode cX9_init 91 = .ok (.newarray .long, 2) := by decide +kernel
theorem dX9_init_93 : decode cX9_init 93 = .ok (.putfield 41, 3) := by decide +kernel
theorem dX9_init_96 : decode cX9_init 96 = .ok (.aload_n 0, 1) := by decide +kernel
theorem dX9_init_97 : decode cX9_init 97 = .ok (.bipush 10, 2) := by decide +kernel
theorem dX9_init_99 : decode cX9_init 99 = .ok (.newarray .int, 2) := by decide +kernel
theorem dX9_init_101 : decode cX9_init 101 = .ok (.putfield 44, 3) := by decide +kernel
theorem dX9_init_104 : decode cX9_init 104 = .ok (.aload_n 0, 1) := by decide +kernel
theorem dX9_init_105 : decode cX9_init 105 = .ok (.bipush 30, 2) := by decide +kernel
theorem dX9_init_107 : decode cX9_init 107 = .ok (.newarray .int, 2) := by decide +kernel
theorem dX9_init_109 : decode cX9_init 109 = .ok (.putfield 47, 3) := by decide +kernel
theorem dX9_init_112 : decode cX9_init 112 = .ok (.aload_n 0, 1) := by decide +kernel
theorem dX9_init_113 : decode cX9_init 113 = .ok (.iconst 4, 1) := by decide +kernel
theorem dX9_init_114 : decode cX9_init 114 = .ok (.newarray .int, 2) := by decide +kernel
theorem dX9_init_116 : decode cX9_init 116 = .ok (.putfield 50, 3) := by decide +kernel
theorem dX9_init_119 : decode cX9_init 119 = .ok (.aload_n 0, 1) := by decide +kernel
theorem dX9_init_120 : decode cX9_init 120 = .ok (.iconst 4, 1) := by decide +kernel
theorem dX9_init_121 : decode cX9_init 121 = .ok (.newarray .int, 2) := by decide +kernel
theorem dX9_init_123 : decode cX9_init 123 = .ok (.putfield 53, 3) := by decide +kernel
theorem dX9_init_126 : decode cX9_init 126 = .ok (.aload_n 0, 1) := by decide +kernel
theorem dX9_init_127 : decode cX9_init 127 = .ok (.bipush 96, 2) := by decide +kernel
theorem dX9_init_129 : decode cX9_init 129 = .ok (.newarray .int, 2) := by decide +kernel
theorem dX9_init_131 : decode cX9_init 131 = .ok (.putfield 56, 3) := by decide +kernel
theorem dX9_init_134 : decode cX9_init 134 = .ok (.aload_n 0, 1) := by decide +kernel
theorem dX9_init_135 : decode cX9_init 135 = .ok (.bipush 24, 2) := by decide +kernel
theorem dX9_init_137 : decode cX9_init 137 = .ok (.newarray .int, 2) := by decide +kernel
theorem dX9_init_139 : decode cX9_init 139 = .ok (.putfield 59, 3) := by decide +kernel
theorem dX9_init_142 : decode cX9_init 142 = .ok (.aload_n 0, 1) := by decide +kernel
theorem dX9_init_143 : decode cX9_init 143 = .ok (.getfield 7, 3) := by decide +kernel
theorem dX9_init_146 : decode cX9_init 146 = .ok (.bipush 8, 2) := by decide +kernel
theorem dX9_init_148 : decode cX9_init 148 = .ok (.iconst 1, 1) := by decide +kernel
theorem dX9_init_149 : decode cX9_init 149 = .ok (.iastore, 1) := by decide +kernel
theorem dX9_init_150 : decode cX9_init 150 = .ok (.aload_n 0, 1) := by decide +kernel
theorem dX9_init_151 : decode cX9_init 151 = .ok (.getfield 7, 3) := by decide +kernel
theorem dX9_init_154 : decode cX9_init 154 = .ok (.iconst 4, 1) := by decide +kernel
theorem dX9_init_155 : decode cX9_init 155 = .ok (.iconst (-1), 1) := by decide +kernel
theorem dX9_init_156 : decode cX9_init 156 = .ok (.iastore, 1) := by decide +kernel
theorem dX9_init_157 : decode cX9_init 157 = .ok (.return_, 1) := by decide +kernel
theorem dX9_error_0 : decode cX9_error 0 = .ok (.aload_n 0, 1) := by decide +kernel
theorem dX9_error_1 : decode cX9_error 1 = .ok (.getfield 16, 3) := by decide +kernel
theorem dX9_error_4 : decode cX9_error 4 = .ok (.iload_n 1, 1) := by decide +kernel
theorem dX9_error_5 : decode cX9_error 5 = .ok (.dup2, 1) := by decide +kernel
theorem dX9_error_6 : decode cX9_error 6 = .ok (.iaload, 1) := by decide +kernel
theorem dX9_error_7 : decode cX9_error 7 = .ok (.iconst 1, 1) := by decide +kernel
theorem dX9_error_8 : decode cX9_error 8 = .ok (.iadd, 1) := by decide +kernel
theorem dX9_error_9 : decode cX9_error 9 = .ok (.iastore, 1) := by decide +kernel
theorem dX9_error_10 : decode cX9_error 10 = .ok (.ldc 62, 2) := by decide +kernel
theorem dX9_error_12 : decode cX9_error 12 = .ok (.iload_n 1, 1) := by decide +kernel
theorem dX9_error_13 : decode cX9_error 13 = .ok (.isub, 1) := by decide +kernel
theorem dX9_error_14 : decode cX9_error 14 = .ok (.ireturn, 1) := by decide +kernel
theorem dX9_in_0 : decode cX9_in 0 = .ok (.iload_n 0, 1) := by decide +kernel
theorem dX9_in_1 : decode cX9_in 1 = .ok (.iload_n 1, 1) := by decide +kernel
theorem dX9_in_2 : decode cX9_in 2 = .ok (.if_icmp .lt 12, 3) := by decide +kernel
theorem dX9_in_5 : decode cX9_in 5 = .ok (.iload_n 0, 1) := by decide +kernel
theorem dX9_in_6 : decode cX9_in 6 = .ok (.iload_n 2, 1) := by decide +kernel
theorem dX9_in_7 : decode cX9_in 7 = .ok (.if_icmp .gt 7, 3) := by decide +kernel
theorem dX9_in_10 : decode cX9_in 10 = .ok (.iconst 1, 1) := by decide +kernel
theorem dX9_in_11 : decode cX9_in 11 = .ok (.goto 4, 3) := by decide +kernel
theorem dX9_in_14 : decode cX9_in 14 = .ok (.iconst 0, 1) := by decide +kernel
theorem dX9_in_15 : decode cX9_in 15 = .ok (.ireturn, 1) := by decide +kernel
theorem dX9_held_0 : decode cX9_held 0 = .ok (.iload_n 0, 1) := by decide +kernel
theorem dX9_held_1 : decode cX9_held 1 = .ok (.iload_n 1, 1) := by decide +kernel
theorem dX9_held_2 : decode cX9_held 2 = .ok (.if_icmp .ge 7, 3) := by decide +kernel
theorem dX9_held_5 : decode cX9_held 5 = .ok (.iload_n 1, 1) := by decide +kernel
theorem dX9_held_6 : decode cX9_held 6 = .ok (.goto 13, 3) := by decide +kernel
theorem dX9_held_9 : decode cX9_held 9 = .ok (.iload_n 0, 1) := by decide +kernel
theorem dX9_held_10 : decode cX9_held 10 = .ok (.iload_n 2, 1) := by decide +kernel
theorem dX9_held_11 : decode cX9_held 11 = .ok (.if_icmp .le 7, 3) := by decide +kernel
theorem dX9_held_14 : decode cX9_held 14 = .ok (.iload_n 2, 1) := by decide +kernel
theorem dX9_held_15 : decode cX9_held 15 = .ok (.goto 4, 3) := by decide +kernel
theorem dX9_held_18 : decode cX9_held 18 = .ok (.iload_n 0, 1) := by decide +kernel
theorem dX9_held_19 : decode cX9_held 19 = .ok (.ireturn, 1) := by decide +kernel
theorem dX9_carry_0 : decode cX9_carry 0 = .ok (.iconst 0, 1) := by decide +kernel
theorem dX9_carry_1 : decode cX9_carry 1 = .ok (.istore_n 2, 1) := by decide +kernel
theorem dX9_carry_2 : decode cX9_carry 2 = .ok (.iload_n 2, 1) := by decide +kernel
theorem dX9_carry_3 : decode cX9_carry 3 = .ok (.sipush 418, 3) := by decide +kernel
theorem dX9_carry_6 : decode cX9_carry 6 = .ok (.if_icmp .ge 15, 3) := by decide +kernel
theorem dX9_carry_9 : decode cX9_carry 9 = .ok (.aload_n 1, 1) := by decide +kernel
theorem dX9_carry_10 : decode cX9_carry 10 = .ok (.iload_n 2, 1) := by decide +kernel
theorem dX9_carry_11 : decode cX9_carry 11 = .ok (.aload_n 0, 1) := by decide +kernel
theorem dX9_carry_12 : decode cX9_carry 12 = .ok (.iload_n 2, 1) := by decide +kernel
theorem dX9_carry_13 : decode cX9_carry 13 = .ok (.iaload, 1) := by decide +kernel
theorem dX9_carry_14 : decode cX9_carry 14 = .ok (.iastore, 1) := by decide +kernel
theorem dX9_carry_15 : decode cX9_carry 15 = .ok (.iinc 2 1, 3) := by decide +kernel
theorem dX9_carry_18 : decode cX9_carry 18 = .ok (.goto (-16), 3) := by decide +kernel
theorem dX9_carry_21 : decode cX9_carry 21 = .ok (.return_, 1) := by decide +kernel
theorem dX9_isCounty_0 : decode cX9_isCounty 0 = .ok (.iload_n 0, 1) := by decide +kernel
theorem dX9_isCounty_1 : decode cX9_isCounty 1 = .ok (.iconst 0, 1) := by decide +kernel
theorem dX9_isCounty_2 : decode cX9_isCounty 2 = .ok (.iconst 3, 1) := by decide +kernel
theorem dX9_isCounty_3 : decode cX9_isCounty 3 = .ok (.invokestatic 63, 3) := by decide +kernel
theorem dX9_isCounty_6 : decode cX9_isCounty 6 = .ok (.ireturn, 1) := by decide +kernel
theorem dX9_isDay_0 : decode cX9_isDay 0 = .ok (.iload_n 0, 1) := by decide +kernel
theorem dX9_isDay_1 : decode cX9_isDay 1 = .ok (.iconst 0, 1) := by decide +kernel
theorem dX9_isDay_2 : decode cX9_isDay 2 = .ok (.ldc 67, 2) := by decide +kernel
theorem dX9_isDay_4 : decode cX9_isDay 4 = .ok (.invokestatic 63, 3) := by decide +kernel
theorem dX9_isDay_7 : decode cX9_isDay 7 = .ok (.ireturn, 1) := by decide +kernel
theorem dX9_isThing_0 : decode cX9_isThing 0 = .ok (.iload_n 1, 1) := by decide +kernel
theorem dX9_isThing_1 : decode cX9_isThing 1 = .ok (.iconst 0, 1) := by decide +kernel
theorem dX9_isThing_2 : decode cX9_isThing 2 = .ok (.aload_n 0, 1) := by decide +kernel
theorem dX9_isThing_3 : decode cX9_isThing 3 = .ok (.getfield 7, 3) := by decide +kernel
theorem dX9_isThing_6 : decode cX9_isThing 6 = .ok (.iconst 1, 1) := by decide +kernel
theorem dX9_isThing_7 : decode cX9_isThing 7 = .ok (.iaload, 1) := by decide +kernel
theorem dX9_isThing_8 : decode cX9_isThing 8 = .ok (.iconst 1, 1) := by decide +kernel
theorem dX9_isThing_9 : decode cX9_isThing 9 = .ok (.isub, 1) := by decide +kernel
theorem dX9_isThing_10 : decode cX9_isThing 10 = .ok (.invokestatic 63, 3) := by decide +kernel
theorem dX9_isThing_13 : decode cX9_isThing 13 = .ok (.ireturn, 1) := by decide +kernel
theorem dX9_isPaper_0 : decode cX9_isPaper 0 = .ok (.iload_n 1, 1) := by decide +kernel
theorem dX9_isPaper_1 : decode cX9_isPaper 1 = .ok (.iconst 0, 1) := by decide +kernel
theorem dX9_isPaper_2 : decode cX9_isPaper 2 = .ok (.aload_n 0, 1) := by decide +kernel
theorem dX9_isPaper_3 : decode cX9_isPaper 3 = .ok (.getfield 7, 3) := by decide +kernel
theorem dX9_isPaper_6 : decode cX9_isPaper 6 = .ok (.iconst 2, 1) := by decide +kernel
theorem dX9_isPaper_7 : decode cX9_isPaper 7 = .ok (.iaload, 1) := by decide +kernel
theorem dX9_isPaper_8 : decode cX9_isPaper 8 = .ok (.iconst 1, 1) := by decide +kernel
theorem dX9_isPaper_9 : decode cX9_isPaper 9 = .ok (.isub, 1) := by decide +kernel
theorem dX9_isPaper_10 : decode cX9_isPaper 10 = .ok (.invokestatic 63, 3) := by decide +kernel
theorem dX9_isPaper_13 : decode cX9_isPaper 13 = .ok (.ireturn, 1) := by decide +kernel
theorem dX9_its_0 : decode cX9_its 0 = .ok (.aload_n 0, 1) := by decide +kernel
theorem dX9_its_1 : decode cX9_its 1 = .ok (.getfield 7, 3) := by decide +kernel
theorem dX9_its_4 : decode cX9_its 4 = .ok (.bipush 28, 2) := by decide +kernel
theorem dX9_its_6 : decode cX9_its 6 = .ok (.iconst 4, 1) := by decide +kernel
theorem dX9_its_7 : decode cX9_its 7 = .ok (.iload_n 1, 1) := by decide +kernel
theorem dX9_its_8 : decode cX9_its 8 = .ok (.imul, 1) := by decide +kernel
theorem dX9_its_9 : decode cX9_its 9 = .ok (.iadd, 1) := by decide +kernel
theorem dX9_its_10 : decode cX9_its 10 = .ok (.iload_n 2, 1) := by decide +kernel
theorem dX9_its_11 : decode cX9_its 11 = .ok (.iadd, 1) := by decide +kernel
theorem dX9_its_12 : decode cX9_its 12 = .ok (.iaload, 1) := by decide +kernel
theorem dX9_its_13 : decode cX9_its 13 = .ok (.ireturn, 1) := by decide +kernel
theorem dX9_of_0 : decode cX9_of 0 = .ok (.aload_n 0, 1) := by decide +kernel
theorem dX9_of_1 : decode cX9_of 1 = .ok (.getfield 7, 3) := by decide +kernel
theorem dX9_of_4 : decode cX9_of 4 = .ok (.bipush 10, 2) := by decide +kernel
theorem dX9_of_6 : decode cX9_of 6 = .ok (.iconst 3, 1) := by decide +kernel
theorem dX9_of_7 : decode cX9_of 7 = .ok (.iload_n 1, 1) := by decide +kernel
theorem dX9_of_8 : decode cX9_of 8 = .ok (.imul, 1) := by decide +kernel
theorem dX9_of_9 : decode cX9_of 9 = .ok (.iadd, 1) := by decide +kernel
theorem dX9_of_10 : decode cX9_of 10 = .ok (.iload_n 2, 1) := by decide +kernel
theorem dX9_of_11 : decode cX9_of 11 = .ok (.iadd, 1) := by decide +kernel
theorem dX9_of_12 : decode cX9_of 12 = .ok (.iaload, 1) := by decide +kernel
theorem dX9_of_13 : decode cX9_of 13 = .ok (.ireturn, 1) := by decide +kernel
theorem dX9_has_0 : decode cX9_has 0 = .ok (.iconst 0, 1) := by decide +kernel
theorem dX9_has_1 : decode cX9_has 1 = .ok (.istore 4, 2) := by decide +kernel
theorem dX9_has_3 : decode cX9_has 3 = .ok (.iconst 0, 1) := by decide +kernel
theorem dX9_has_4 : decode cX9_has 4 = .ok (.istore 5, 2) := by decide +kernel
theorem dX9_has_6 : decode cX9_has 6 = .ok (.iload 5, 2) := by decide +kernel
theorem dX9_has_8 : decode cX9_has 8 = .ok (.aload_n 0, 1) := by decide +kernel
theorem dX9_has_9 : decode cX9_has 9 = .ok (.getfield 7, 3) := by decide +kernel
theorem dX9_has_12 : decode cX9_has 12 = .ok (.iconst 0, 1) := by decide +kernel
theorem dX9_has_13 : decode cX9_has 13 = .ok (.iaload, 1) := by decide +kernel
theorem dX9_has_14 : decode cX9_has 14 = .ok (.if_icmp .ge 43, 3) := by decide +kernel
theorem dX9_has_17 : decode cX9_has 17 = .ok (.iload 4, 2) := by decide +kernel
theorem dX9_has_19 : decode cX9_has 19 = .ok (.ifCond .ne 25, 3) := by decide +kernel
theorem dX9_has_22 : decode cX9_has 22 = .ok (.aload_n 0, 1) := by decide +kernel
theorem dX9_has_23 : decode cX9_has 23 = .ok (.iload 5, 2) := by decide +kernel
theorem dX9_has_25 : decode cX9_has 25 = .ok (.iconst 0, 1) := by decide +kernel
theorem dX9_has_26 : decode cX9_has 26 = .ok (.invokevirtual 68, 3) := by decide +kernel
theorem dX9_has_29 : decode cX9_has 29 = .ok (.iload_n 2, 1) := by decide +kernel
theorem dX9_has_30 : decode cX9_has 30 = .ok (.if_icmp .ne 18, 3) := by decide +kernel
theorem dX9_has_33 : decode cX9_has 33 = .ok (.aload_n 0, 1) := by decide +kernel
theorem dX9_has_34 : decode cX9_has 34 = .ok (.iload 5, 2) := by decide +kernel
theorem dX9_has_36 : decode cX9_has 36 = .ok (.iload_n 3, 1) := by decide +kernel
theorem dX9_has_37 : decode cX9_has 37 = .ok (.invokevirtual 68, 3) := by decide +kernel
theorem dX9_has_40 : decode cX9_has 40 = .ok (.iload_n 1, 1) := by decide +kernel
theorem dX9_has_41 : decode cX9_has 41 = .ok (.if_icmp .ne 7, 3) := by decide +kernel
theorem dX9_has_44 : decode cX9_has 44 = .ok (.iconst 1, 1) := by decide +kernel
theorem dX9_has_45 : decode cX9_has 45 = .ok (.goto 4, 3) := by decide +kernel
theorem dX9_has_48 : decode cX9_has 48 = .ok (.iconst 0, 1) := by decide +kernel
theorem dX9_has_49 : decode cX9_has 49 = .ok (.istore 4, 2) := by decide +kernel
theorem dX9_has_51 : decode cX9_has 51 = .ok (.iinc 5 1, 3) := by decide +kernel
theorem dX9_has_54 : decode cX9_has 54 = .ok (.goto (-48), 3) := by decide +kernel
theorem dX9_has_57 : decode cX9_has 57 = .ok (.iload 4, 2) := by decide +kernel
theorem dX9_has_59 : decode cX9_has 59 = .ok (.ireturn, 1) := by decide +kernel
theorem dX9_findNames_0 : decode cX9_findNames 0 = .ok (.iconst 0, 1) := by decide +kernel
theorem dX9_findNames_1 : decode cX9_findNames 1 = .ok (.istore_n 1, 1) := by decide +kernel
theorem dX9_findNames_2 : decode cX9_findNames 2 = .ok (.iload_n 1, 1) := by decide +kernel
theorem dX9_findNames_3 : decode cX9_findNames 3 = .ok (.iconst 4, 1) := by decide +kernel
theorem dX9_findNames_4 : decode cX9_findNames 4 = .ok (.if_icmp .ge 85, 3) := by decide +kernel
theorem dX9_findNames_7 : decode cX9_findNames 7 = .ok (.iconst 0, 1) := by decide +kernel
theorem dX9_findNames_8 : decode cX9_findNames 8 = .ok (.istore_n 2, 1) := by decide +kernel
theorem dX9_findNames_9 : decode cX9_findNames 9 = .ok (.iconst 0, 1) := by decide +kernel
theorem dX9_findNames_10 : decode cX9_findNames 10 = .ok (.istore_n 3, 1) := by decide +kernel
theorem dX9_findNames_11 : decode cX9_findNames 11 = .ok (.iload_n 3, 1) := by decide +kernel
theorem dX9_findNames_12 : decode cX9_findNames 12 = .ok (.sipush 200, 3) := by decide +kernel
theorem dX9_findNames_15 : decode cX9_findNames 15 = .ok (.if_icmp .ge 68, 3) := by decide +kernel
theorem dX9_findNames_18 : decode cX9_findNames 18 = .ok (.aload_n 0, 1) := by decide +kernel
theorem dX9_findNames_19 : decode cX9_findNames 19 = .ok (.iload_n 1, 1) := by decide +kernel
theorem dX9_findNames_20 : decode cX9_findNames 20 = .ok (.iload_n 2, 1) := by decide +kernel
theorem dX9_findNames_21 : decode cX9_findNames 21 = .ok (.iconst 1, 1) := by decide +kernel
theorem dX9_findNames_22 : decode cX9_findNames 22 = .ok (.invokevirtual 72, 3) := by decide +kernel
theorem dX9_findNames_25 : decode cX9_findNames 25 = .ok (.ifCond .ne 52, 3) := by decide +kernel
theorem dX9_findNames_28 : decode cX9_findNames 28 = .ok (.aload_n 0, 1) := by decide +kernel
theorem dX9_findNames_29 : decode cX9_findNames 29 = .ok (.getfield 19, 3) := by decide +kernel
theorem dX9_findNames_32 : decode cX9_findNames 32 = .ok (.sipush 200, 3) := by decide +kernel
theorem dX9_findNames_35 : decode cX9_findNames 35 = .ok (.iload_n 1, 1) := by decide +kernel
theorem dX9_findNames_36 : decode cX9_findNames 36 = .ok (.imul, 1) := by decide +kernel
theorem dX9_findNames_37 : decode cX9_findNames 37 = .ok (.iload_n 3, 1) := by decide +kernel
theorem dX9_findNames_38 : decode cX9_findNames 38 = .ok (.iadd, 1) := by decide +kernel
theorem dX9_findNames_39 : decode cX9_findNames 39 = .ok (.iload_n 2, 1) := by decide +kernel
theorem dX9_findNames_40 : decode cX9_findNames 40 = .ok (.iastore, 1) := by decide +kernel
theorem dX9_findNames_41 : decode cX9_findNames 41 = .ok (.iinc 3 1, 3) := by decide +kernel
theorem dX9_findNames_44 : decode cX9_findNames 44 = .ok (.aload_n 0, 1) := by decide +kernel
theorem dX9_findNames_45 : decode cX9_findNames 45 = .ok (.iload_n 1, 1) := by decide +kernel
theorem dX9_findNames_46 : decode cX9_findNames 46 = .ok (.iload_n 2, 1) := by decide +kernel
theorem dX9_findNames_47 : decode cX9_findNames 47 = .ok (.iconst 2, 1) := by decide +kernel
theorem dX9_findNames_48 : decode cX9_findNames 48 = .ok (.invokevirtual 72, 3) := by decide +kernel
theorem dX9_findNames_51 : decode cX9_findNames 51 = .ok (.ifCond .eq 26, 3) := by decide +kernel
theorem dX9_findNames_54 : decode cX9_findNames 54 = .ok (.iload_n 3, 1) := by decide +kernel
theorem dX9_findNames_55 : decode cX9_findNames 55 = .ok (.sipush 200, 3) := by decide +kernel
theorem dX9_findNames_58 : decode cX9_findNames 58 = .ok (.if_icmp .ge 19, 3) := by decide +kernel
theorem dX9_findNames_61 : decode cX9_findNames 61 = .ok (.aload_n 0, 1) := by decide +kernel
theorem dX9_findNames_62 : decode cX9_findNames 62 = .ok (.getfield 19, 3) := by decide +kernel
theorem dX9_findNames_65 : decode cX9_findNames 65 = .ok (.sipush 200, 3) := by decide +kernel
theorem dX9_findNames_68 : decode cX9_findNames 68 = .ok (.iload_n 1, 1) := by decide +kernel
theorem dX9_findNames_69 : decode cX9_findNames 69 = .ok (.imul, 1) := by decide +kernel
theorem dX9_findNames_70 : decode cX9_findNames 70 = .ok (.iload_n 3, 1) := by decide +kernel
theorem dX9_findNames_71 : decode cX9_findNames 71 = .ok (.iadd, 1) := by decide +kernel
theorem dX9_findNames_72 : decode cX9_findNames 72 = .ok (.iload_n 2, 1) := by decide +kernel
theorem dX9_findNames_73 : decode cX9_findNames 73 = .ok (.iastore, 1) := by decide +kernel
theorem dX9_findNames_74 : decode cX9_findNames 74 = .ok (.iinc 3 1, 3) := by decide +kernel
theorem dX9_findNames_77 : decode cX9_findNames 77 = .ok (.iinc 2 1, 3) := by decide +kernel
theorem dX9_findNames_80 : decode cX9_findNames 80 = .ok (.goto (-69), 3) := by decide +kernel
theorem dX9_findNames_83 : decode cX9_findNames 83 = .ok (.iinc 1 1, 3) := by decide +kernel
theorem dX9_findNames_86 : decode cX9_findNames 86 = .ok (.goto (-84), 3) := by decide +kernel
theorem dX9_findNames_89 : decode cX9_findNames 89 = .ok (.return_, 1) := by decide +kernel
theorem dX9_nameOf_0 : decode cX9_nameOf 0 = .ok (.aload_n 0, 1) := by decide +kernel
theorem dX9_nameOf_1 : decode cX9_nameOf 1 = .ok (.getfield 19, 3) := by decide +kernel
theorem dX9_nameOf_4 : decode cX9_nameOf 4 = .ok (.sipush 200, 3) := by decide +kernel
theorem dX9_nameOf_7 : decode cX9_nameOf 7 = .ok (.iload_n 1, 1) := by decide +kernel
theorem dX9_nameOf_8 : decode cX9_nameOf 8 = .ok (.imul, 1) := by decide +kernel
theorem dX9_nameOf_9 : decode cX9_nameOf 9 = .ok (.iload_n 2, 1) := by decide +kernel
theorem dX9_nameOf_10 : decode cX9_nameOf 10 = .ok (.sipush 365, 3) := by decide +kernel
theorem dX9_nameOf_13 : decode cX9_nameOf 13 = .ok (.idiv, 1) := by decide +kernel
theorem dX9_nameOf_14 : decode cX9_nameOf 14 = .ok (.iadd, 1) := by decide +kernel
theorem dX9_nameOf_15 : decode cX9_nameOf 15 = .ok (.iaload, 1) := by decide +kernel
theorem dX9_nameOf_16 : decode cX9_nameOf 16 = .ok (.ireturn, 1) := by decide +kernel
theorem dX9_whyNotSold_0 : decode cX9_whyNotSold 0 = .ok (.iload_n 1, 1) := by decide +kernel
theorem dX9_whyNotSold_1 : decode cX9_whyNotSold 1 = .ok (.iconst 1, 1) := by decide +kernel
theorem dX9_whyNotSold_2 : decode cX9_whyNotSold 2 = .ok (.sipush 150, 3) := by decide +kernel
theorem dX9_whyNotSold_5 : decode cX9_whyNotSold 5 = .ok (.invokestatic 63, 3) := by decide +kernel
theorem dX9_whyNotSold_8 : decode cX9_whyNotSold 8 = .ok (.ifCond .eq 22, 3) := by decide +kernel
theorem dX9_whyNotSold_11 : decode cX9_whyNotSold 11 = .ok (.iload_n 2, 1) := by decide +kernel
theorem dX9_whyNotSold_12 : decode cX9_whyNotSold 12 = .ok (.invokestatic 75, 3) := by decide +kernel
theorem dX9_whyNotSold_15 : decode cX9_whyNotSold 15 = .ok (.ifCond .eq 15, 3) := by decide +kernel
theorem dX9_whyNotSold_18 : decode cX9_whyNotSold 18 = .ok (.iload_n 3, 1) := by decide +kernel
theorem dX9_whyNotSold_19 : decode cX9_whyNotSold 19 = .ok (.invokestatic 75, 3) := by decide +kernel
theorem dX9_whyNotSold_22 : decode cX9_whyNotSold 22 = .ok (.ifCond .eq 8, 3) := by decide +kernel
theorem dX9_whyNotSold_25 : decode cX9_whyNotSold 25 = .ok (.iload_n 2, 1) := by decide +kernel
theorem dX9_whyNotSold_26 : decode cX9_whyNotSold 26 = .ok (.iload_n 3, 1) := by decide +kernel
theorem dX9_whyNotSold_27 : decode cX9_whyNotSold 27 = .ok (.if_icmp .ne 5, 3) := by decide +kernel
theorem dX9_whyNotSold_30 : decode cX9_whyNotSold 30 = .ok (.iconst 1, 1) := by decide +kernel
theorem dX9_whyNotSold_31 : decode cX9_whyNotSold 31 = .ok (.ireturn, 1) := by decide +kernel
theorem dX9_whyNotSold_32 : decode cX9_whyNotSold 32 = .ok (.aload_n 0, 1) := by decide +kernel
theorem dX9_whyNotSold_33 : decode cX9_whyNotSold 33 = .ok (.iload_n 2, 1) := by decide +kernel
theorem dX9_whyNotSold_34 : decode cX9_whyNotSold 34 = .ok (.iload_n 1, 1) := by decide +kernel
theorem dX9_whyNotSold_35 : decode cX9_whyNotSold 35 = .ok (.iconst 1, 1) := by decide +kernel
theorem dX9_whyNotSold_36 : decode cX9_whyNotSold 36 = .ok (.invokevirtual 72, 3) := by decide +kernel
theorem dX9_whyNotSold_39 : decode cX9_whyNotSold 39 = .ok (.ifCond .ne 33, 3) := by decide +kernel
theorem dX9_whyNotSold_42 : decode cX9_whyNotSold 42 = .ok (.aload_n 0, 1) := by decide +kernel
theorem dX9_whyNotSold_43 : decode cX9_whyNotSold 43 = .ok (.iload_n 2, 1) := by decide +kernel
theorem dX9_whyNotSold_44 : decode cX9_whyNotSold 44 = .ok (.iload_n 1, 1) := by decide +kernel
theorem dX9_whyNotSold_45 : decode cX9_whyNotSold 45 = .ok (.iconst 2, 1) := by decide +kernel
theorem dX9_whyNotSold_46 : decode cX9_whyNotSold 46 = .ok (.invokevirtual 72, 3) := by decide +kernel
theorem dX9_whyNotSold_49 : decode cX9_whyNotSold 49 = .ok (.ifCond .ne 23, 3) := by decide +kernel
theorem dX9_whyNotSold_52 : decode cX9_whyNotSold 52 = .ok (.aload_n 0, 1) := by decide +kernel
theorem dX9_whyNotSold_53 : decode cX9_whyNotSold 53 = .ok (.iload_n 3, 1) := by decide +kernel
theorem dX9_whyNotSold_54 : decode cX9_whyNotSold 54 = .ok (.iload_n 1, 1) := by decide +kernel
theorem dX9_whyNotSold_55 : decode cX9_whyNotSold 55 = .ok (.iconst 1, 1) := by decide +kernel
theorem dX9_whyNotSold_56 : decode cX9_whyNotSold 56 = .ok (.invokevirtual 72, 3) := by decide +kernel
theorem dX9_whyNotSold_59 : decode cX9_whyNotSold 59 = .ok (.ifCond .ne 13, 3) := by decide +kernel
theorem dX9_whyNotSold_62 : decode cX9_whyNotSold 62 = .ok (.aload_n 0, 1) := by decide +kernel
theorem dX9_whyNotSold_63 : decode cX9_whyNotSold 63 = .ok (.iload_n 3, 1) := by decide +kernel
theorem dX9_whyNotSold_64 : decode cX9_whyNotSold 64 = .ok (.iload_n 1, 1) := by decide +kernel
theorem dX9_whyNotSold_65 : decode cX9_whyNotSold 65 = .ok (.iconst 2, 1) := by decide +kernel
theorem dX9_whyNotSold_66 : decode cX9_whyNotSold 66 = .ok (.invokevirtual 72, 3) := by decide +kernel
theorem dX9_whyNotSold_69 : decode cX9_whyNotSold 69 = .ok (.ifCond .eq 7, 3) := by decide +kernel
theorem dX9_whyNotSold_72 : decode cX9_whyNotSold 72 = .ok (.iconst 1, 1) := by decide +kernel
theorem dX9_whyNotSold_73 : decode cX9_whyNotSold 73 = .ok (.goto 4, 3) := by decide +kernel
theorem dX9_whyNotSold_76 : decode cX9_whyNotSold 76 = .ok (.iconst 0, 1) := by decide +kernel
theorem dX9_whyNotSold_77 : decode cX9_whyNotSold 77 = .ok (.istore 4, 2) := by decide +kernel
theorem dX9_whyNotSold_79 : decode cX9_whyNotSold 79 = .ok (.iload 4, 2) := by decide +kernel
theorem dX9_whyNotSold_81 : decode cX9_whyNotSold 81 = .ok (.ifCond .eq 7, 3) := by decide +kernel
theorem dX9_whyNotSold_84 : decode cX9_whyNotSold 84 = .ok (.iconst 3, 1) := by decide +kernel
theorem dX9_whyNotSold_85 : decode cX9_whyNotSold 85 = .ok (.goto 19, 3) := by decide +kernel
theorem dX9_whyNotSold_88 : decode cX9_whyNotSold 88 = .ok (.aload_n 0, 1) := by decide +kernel
theorem dX9_whyNotSold_89 : decode cX9_whyNotSold 89 = .ok (.getfield 7, 3) := by decide +kernel
theorem dX9_whyNotSold_92 : decode cX9_whyNotSold 92 = .ok (.iconst 0, 1) := by decide +kernel
theorem dX9_whyNotSold_93 : decode cX9_whyNotSold 93 = .ok (.iaload, 1) := by decide +kernel
theorem dX9_whyNotSold_94 : decode cX9_whyNotSold 94 = .ok (.bipush 6, 2) := by decide +kernel
theorem dX9_whyNotSold_96 : decode cX9_whyNotSold 96 = .ok (.if_icmp .ne 7, 3) := by decide +kernel
theorem dX9_whyNotSold_99 : decode cX9_whyNotSold 99 = .ok (.iconst 4, 1) := by decide +kernel
theorem dX9_whyNotSold_100 : decode cX9_whyNotSold 100 = .ok (.goto 4, 3) := by decide +kernel
theorem dX9_whyNotSold_103 : decode cX9_whyNotSold 103 = .ok (.iconst 0, 1) := by decide +kernel
theorem dX9_whyNotSold_104 : decode cX9_whyNotSold 104 = .ok (.ireturn, 1) := by decide +kernel
theorem dX9_sells_0 : decode cX9_sells 0 = .ok (.bipush 10, 2) := by decide +kernel
theorem dX9_sells_2 : decode cX9_sells 2 = .ok (.iconst 3, 1) := by decide +kernel
theorem dX9_sells_3 : decode cX9_sells 3 = .ok (.aload_n 0, 1) := by decide +kernel
theorem dX9_sells_4 : decode cX9_sells 4 = .ok (.getfield 7, 3) := by decide +kernel
theorem dX9_sells_7 : decode cX9_sells 7 = .ok (.iconst 0, 1) := by decide +kernel
theorem dX9_sells_8 : decode cX9_sells 8 = .ok (.iaload, 1) := by decide +kernel
theorem dX9_sells_9 : decode cX9_sells 9 = .ok (.imul, 1) := by decide +kernel
theorem dX9_sells_10 : decode cX9_sells 10 = .ok (.iadd, 1) := by decide +kernel
theorem dX9_sells_11 : decode cX9_sells 11 = .ok (.istore 4, 2) := by decide +kernel
theorem dX9_sells_13 : decode cX9_sells 13 = .ok (.aload_n 0, 1) := by decide +kernel
theorem dX9_sells_14 : decode cX9_sells 14 = .ok (.getfield 7, 3) := by decide +kernel
theorem dX9_sells_17 : decode cX9_sells 17 = .ok (.iload 4, 2) := by decide +kernel
theorem dX9_sells_19 : decode cX9_sells 19 = .ok (.iload_n 1, 1) := by decide +kernel
theorem dX9_sells_20 : decode cX9_sells 20 = .ok (.iastore, 1) := by decide +kernel
theorem dX9_sells_21 : decode cX9_sells 21 = .ok (.aload_n 0, 1) := by decide +kernel
theorem dX9_sells_22 : decode cX9_sells 22 = .ok (.getfield 7, 3) := by decide +kernel
theorem dX9_sells_25 : decode cX9_sells 25 = .ok (.iload 4, 2) := by decide +kernel
theorem dX9_sells_27 : decode cX9_sells 27 = .ok (.iconst 1, 1) := by decide +kernel
theorem dX9_sells_28 : decode cX9_sells 28 = .ok (.iadd, 1) := by decide +kernel
theorem dX9_sells_29 : decode cX9_sells 29 = .ok (.iload_n 2, 1) := by decide +kernel
theorem dX9_sells_30 : decode cX9_sells 30 = .ok (.iastore, 1) := by decide +kernel
theorem dX9_sells_31 : decode cX9_sells 31 = .ok (.aload_n 0, 1) := by decide +kernel
theorem dX9_sells_32 : decode cX9_sells 32 = .ok (.getfield 7, 3) := by decide +kernel
theorem dX9_sells_35 : decode cX9_sells 35 = .ok (.iload 4, 2) := by decide +kernel
theorem dX9_sells_37 : decode cX9_sells 37 = .ok (.iconst 2, 1) := by decide +kernel
theorem dX9_sells_38 : decode cX9_sells 38 = .ok (.iadd, 1) := by decide +kernel
theorem dX9_sells_39 : decode cX9_sells 39 = .ok (.iload_n 3, 1) := by decide +kernel
theorem dX9_sells_40 : decode cX9_sells 40 = .ok (.iastore, 1) := by decide +kernel
theorem dX9_sells_41 : decode cX9_sells 41 = .ok (.aload_n 0, 1) := by decide +kernel
theorem dX9_sells_42 : decode cX9_sells 42 = .ok (.getfield 7, 3) := by decide +kernel
theorem dX9_sells_45 : decode cX9_sells 45 = .ok (.iconst 0, 1) := by decide +kernel
theorem dX9_sells_46 : decode cX9_sells 46 = .ok (.dup2, 1) := by decide +kernel
theorem dX9_sells_47 : decode cX9_sells 47 = .ok (.iaload, 1) := by decide +kernel
theorem dX9_sells_48 : decode cX9_sells 48 = .ok (.iconst 1, 1) := by decide +kernel
theorem dX9_sells_49 : decode cX9_sells 49 = .ok (.iadd, 1) := by decide +kernel
theorem dX9_sells_50 : decode cX9_sells 50 = .ok (.iastore, 1) := by decide +kernel
theorem dX9_sells_51 : decode cX9_sells 51 = .ok (.return_, 1) := by decide +kernel
theorem dX9_sale_0 : decode cX9_sale 0 = .ok (.aload_n 0, 1) := by decide +kernel
theorem dX9_sale_1 : decode cX9_sale 1 = .ok (.iload_n 1, 1) := by decide +kernel
theorem dX9_sale_2 : decode cX9_sale 2 = .ok (.iload_n 2, 1) := by decide +kernel
theorem dX9_sale_3 : decode cX9_sale 3 = .ok (.iload_n 3, 1) := by decide +kernel
theorem dX9_sale_4 : decode cX9_sale 4 = .ok (.invokevirtual 79, 3) := by decide +kernel
theorem dX9_sale_7 : decode cX9_sale 7 = .ok (.istore 4, 2) := by decide +kernel
theorem dX9_sale_9 : decode cX9_sale 9 = .ok (.iload 4, 2) := by decide +kernel
theorem dX9_sale_11 : decode cX9_sale 11 = .ok (.ifCond .le 10, 3) := by decide +kernel
theorem dX9_sale_14 : decode cX9_sale 14 = .ok (.aload_n 0, 1) := by decide +kernel
theorem dX9_sale_15 : decode cX9_sale 15 = .ok (.iload 4, 2) := by decide +kernel
theorem dX9_sale_17 : decode cX9_sale 17 = .ok (.invokevirtual 83, 3) := by decide +kernel
theorem dX9_sale_20 : decode cX9_sale 20 = .ok (.ireturn, 1) := by decide +kernel
theorem dX9_sale_21 : decode cX9_sale 21 = .ok (.aload_n 0, 1) := by decide +kernel
theorem dX9_sale_22 : decode cX9_sale 22 = .ok (.iload_n 1, 1) := by decide +kernel
theorem dX9_sale_23 : decode cX9_sale 23 = .ok (.iload_n 2, 1) := by decide +kernel
theorem dX9_sale_24 : decode cX9_sale 24 = .ok (.iload_n 3, 1) := by decide +kernel
theorem dX9_sale_25 : decode cX9_sale 25 = .ok (.invokevirtual 87, 3) := by decide +kernel
theorem dX9_sale_28 : decode cX9_sale 28 = .ok (.aload_n 0, 1) := by decide +kernel
theorem dX9_sale_29 : decode cX9_sale 29 = .ok (.getfield 7, 3) := by decide +kernel
theorem dX9_sale_32 : decode cX9_sale 32 = .ok (.iconst 0, 1) := by decide +kernel
theorem dX9_sale_33 : decode cX9_sale 33 = .ok (.iaload, 1) := by decide +kernel
theorem dX9_sale_34 : decode cX9_sale 34 = .ok (.iconst 1, 1) := by decide +kernel
theorem dX9_sale_35 : decode cX9_sale 35 = .ok (.isub, 1) := by decide +kernel
theorem dX9_sale_36 : decode cX9_sale 36 = .ok (.ireturn, 1) := by decide +kernel
theorem dX9_saleIs_0 : decode cX9_saleIs 0 = .ok (.iload_n 1, 1) := by decide +kernel
theorem dX9_saleIs_1 : decode cX9_saleIs 1 = .ok (.iconst 0, 1) := by decide +kernel
theorem dX9_saleIs_2 : decode cX9_saleIs 2 = .ok (.aload_n 0, 1) := by decide +kernel
theorem dX9_saleIs_3 : decode cX9_saleIs 3 = .ok (.getfield 7, 3) := by decide +kernel
theorem dX9_saleIs_6 : decode cX9_saleIs 6 = .ok (.iconst 0, 1) := by decide +kernel
theorem dX9_saleIs_7 : decode cX9_saleIs 7 = .ok (.iaload, 1) := by decide +kernel
theorem dX9_saleIs_8 : decode cX9_saleIs 8 = .ok (.iconst 1, 1) := by decide +kernel
theorem dX9_saleIs_9 : decode cX9_saleIs 9 = .ok (.isub, 1) := by decide +kernel
theorem dX9_saleIs_10 : decode cX9_saleIs 10 = .ok (.invokestatic 63, 3) := by decide +kernel
theorem dX9_saleIs_13 : decode cX9_saleIs 13 = .ok (.ifCond .eq 21, 3) := by decide +kernel
theorem dX9_saleIs_16 : decode cX9_saleIs 16 = .ok (.iload_n 2, 1) := by decide +kernel
theorem dX9_saleIs_17 : decode cX9_saleIs 17 = .ok (.iconst 0, 1) := by decide +kernel
theorem dX9_saleIs_18 : decode cX9_saleIs 18 = .ok (.iconst 2, 1) := by decide +kernel
theorem dX9_saleIs_19 : decode cX9_saleIs 19 = .ok (.invokestatic 63, 3) := by decide +kernel
theorem dX9_saleIs_22 : decode cX9_saleIs 22 = .ok (.ifCond .eq 12, 3) := by decide +kernel
theorem dX9_saleIs_25 : decode cX9_saleIs 25 = .ok (.aload_n 0, 1) := by decide +kernel
theorem dX9_saleIs_26 : decode cX9_saleIs 26 = .ok (.iload_n 1, 1) := by decide +kernel
theorem dX9_saleIs_27 : decode cX9_saleIs 27 = .ok (.iload_n 2, 1) := by decide +kernel
theorem dX9_saleIs_28 : decode cX9_saleIs 28 = .ok (.invokevirtual 68, 3) := by decide +kernel
theorem dX9_saleIs_31 : decode cX9_saleIs 31 = .ok (.goto 8, 3) := by decide +kernel
theorem dX9_saleIs_34 : decode cX9_saleIs 34 = .ok (.aload_n 0, 1) := by decide +kernel
theorem dX9_saleIs_35 : decode cX9_saleIs 35 = .ok (.iconst 1, 1) := by decide +kernel
theorem dX9_saleIs_36 : decode cX9_saleIs 36 = .ok (.invokevirtual 83, 3) := by decide +kernel
theorem dX9_saleIs_39 : decode cX9_saleIs 39 = .ok (.ireturn, 1) := by decide +kernel
theorem dX9_undo_0 : decode cX9_undo 0 = .ok (.aload_n 0, 1) := by decide +kernel
theorem dX9_undo_1 : decode cX9_undo 1 = .ok (.getfield 7, 3) := by decide +kernel
theorem dX9_undo_4 : decode cX9_undo 4 = .ok (.iconst 0, 1) := by decide +kernel
theorem dX9_undo_5 : decode cX9_undo 5 = .ok (.iaload, 1) := by decide +kernel
theorem dX9_undo_6 : decode cX9_undo 6 = .ok (.ifCond .ne 9, 3) := by decide +kernel
theorem dX9_undo_9 : decode cX9_undo 9 = .ok (.aload_n 0, 1) := by decide +kernel
theorem dX9_undo_10 : decode cX9_undo 10 = .ok (.iconst 3, 1) := by decide +kernel
theorem dX9_undo_11 : decode cX9_undo 11 = .ok (.invokevirtual 83, 3) := by decide +kernel
theorem dX9_undo_14 : decode cX9_undo 14 = .ok (.ireturn, 1) := by decide +kernel
theorem dX9_undo_15 : decode cX9_undo 15 = .ok (.aload_n 0, 1) := by decide +kernel
theorem dX9_undo_16 : decode cX9_undo 16 = .ok (.getfield 7, 3) := by decide +kernel
theorem dX9_undo_19 : decode cX9_undo 19 = .ok (.iconst 0, 1) := by decide +kernel
theorem dX9_undo_20 : decode cX9_undo 20 = .ok (.dup2, 1) := by decide +kernel
theorem dX9_undo_21 : decode cX9_undo 21 = .ok (.iaload, 1) := by decide +kernel
theorem dX9_undo_22 : decode cX9_undo 22 = .ok (.iconst 1, 1) := by decide +kernel
theorem dX9_undo_23 : decode cX9_undo 23 = .ok (.isub, 1) := by decide +kernel
theorem dX9_undo_24 : decode cX9_undo 24 = .ok (.iastore, 1) := by decide +kernel
theorem dX9_undo_25 : decode cX9_undo 25 = .ok (.aload_n 0, 1) := by decide +kernel
theorem dX9_undo_26 : decode cX9_undo 26 = .ok (.getfield 7, 3) := by decide +kernel
theorem dX9_undo_29 : decode cX9_undo 29 = .ok (.iconst 0, 1) := by decide +kernel
theorem dX9_undo_30 : decode cX9_undo 30 = .ok (.iaload, 1) := by decide +kernel
theorem dX9_undo_31 : decode cX9_undo 31 = .ok (.ireturn, 1) := by decide +kernel
theorem dX9_name_0 : decode cX9_name 0 = .ok (.iload_n 1, 1) := by decide +kernel
theorem dX9_name_1 : decode cX9_name 1 = .ok (.invokestatic 75, 3) := by decide +kernel
theorem dX9_name_4 : decode cX9_name 4 = .ok (.ifCond .eq 14, 3) := by decide +kernel
theorem dX9_name_7 : decode cX9_name 7 = .ok (.iload_n 2, 1) := by decide +kernel
theorem dX9_name_8 : decode cX9_name 8 = .ok (.iconst 0, 1) := by decide +kernel
theorem dX9_name_9 : decode cX9_name 9 = .ok (.sipush 199, 3) := by decide +kernel
theorem dX9_name_12 : decode cX9_name 12 = .ok (.invokestatic 63, 3) := by decide +kernel
theorem dX9_name_15 : decode cX9_name 15 = .ok (.ifCond .ne 9, 3) := by decide +kernel
theorem dX9_name_18 : decode cX9_name 18 = .ok (.aload_n 0, 1) := by decide +kernel
theorem dX9_name_19 : decode cX9_name 19 = .ok (.iconst 1, 1) := by decide +kernel
theorem dX9_name_20 : decode cX9_name 20 = .ok (.invokevirtual 83, 3) := by decide +kernel
theorem dX9_name_23 : decode cX9_name 23 = .ok (.ireturn, 1) := by decide +kernel
theorem dX9_name_24 : decode cX9_name 24 = .ok (.aload_n 0, 1) := by decide +kernel
theorem dX9_name_25 : decode cX9_name 25 = .ok (.invokevirtual 91, 3) := by decide +kernel
theorem dX9_name_28 : decode cX9_name 28 = .ok (.aload_n 0, 1) := by decide +kernel
theorem dX9_name_29 : decode cX9_name 29 = .ok (.getfield 19, 3) := by decide +kernel
theorem dX9_name_32 : decode cX9_name 32 = .ok (.sipush 200, 3) := by decide +kernel
theorem dX9_name_35 : decode cX9_name 35 = .ok (.iload_n 1, 1) := by decide +kernel
theorem dX9_name_36 : decode cX9_name 36 = .ok (.imul, 1) := by decide +kernel
theorem dX9_name_37 : decode cX9_name 37 = .ok (.iload_n 2, 1) := by decide +kernel
theorem dX9_name_38 : decode cX9_name 38 = .ok (.iadd, 1) := by decide +kernel
theorem dX9_name_39 : decode cX9_name 39 = .ok (.iaload, 1) := by decide +kernel
theorem dX9_name_40 : decode cX9_name 40 = .ok (.ireturn, 1) := by decide +kernel
theorem dX9_date_0 : decode cX9_date 0 = .ok (.iload_n 1, 1) := by decide +kernel
theorem dX9_date_1 : decode cX9_date 1 = .ok (.invokestatic 75, 3) := by decide +kernel
theorem dX9_date_4 : decode cX9_date 4 = .ok (.ifCond .eq 10, 3) := by decide +kernel
theorem dX9_date_7 : decode cX9_date 7 = .ok (.iload_n 2, 1) := by decide +kernel
theorem dX9_date_8 : decode cX9_date 8 = .ok (.invokestatic 94, 3) := by decide +kernel
theorem dX9_date_11 : decode cX9_date 11 = .ok (.ifCond .ne 9, 3) := by decide +kernel
theorem dX9_date_14 : decode cX9_date 14 = .ok (.aload_n 0, 1) := by decide +kernel
theorem dX9_date_15 : decode cX9_date 15 = .ok (.iconst 1, 1) := by decide +kernel
theorem dX9_date_16 : decode cX9_date 16 = .ok (.invokevirtual 83, 3) := by decide +kernel
theorem dX9_date_19 : decode cX9_date 19 = .ok (.ireturn, 1) := by decide +kernel
theorem dX9_date_20 : decode cX9_date 20 = .ok (.aload_n 0, 1) := by decide +kernel
theorem dX9_date_21 : decode cX9_date 21 = .ok (.invokevirtual 91, 3) := by decide +kernel
theorem dX9_date_24 : decode cX9_date 24 = .ok (.sipush 1000, 3) := by decide +kernel
theorem dX9_date_27 : decode cX9_date 27 = .ok (.aload_n 0, 1) := by decide +kernel
theorem dX9_date_28 : decode cX9_date 28 = .ok (.iload_n 1, 1) := by decide +kernel
theorem dX9_date_29 : decode cX9_date 29 = .ok (.iload_n 2, 1) := by decide +kernel
theorem dX9_date_30 : decode cX9_date 30 = .ok (.invokevirtual 97, 3) := by decide +kernel
theorem dX9_date_33 : decode cX9_date 33 = .ok (.imul, 1) := by decide +kernel
theorem dX9_date_34 : decode cX9_date 34 = .ok (.iload_n 2, 1) := by decide +kernel
theorem dX9_date_35 : decode cX9_date 35 = .ok (.sipush 365, 3) := by decide +kernel
theorem dX9_date_38 : decode cX9_date 38 = .ok (.irem, 1) := by decide +kernel
theorem dX9_date_39 : decode cX9_date 39 = .ok (.iadd, 1) := by decide +kernel
theorem dX9_date_40 : decode cX9_date 40 = .ok (.ireturn, 1) := by decide +kernel
theorem dX9_isDate_0 : decode cX9_isDate 0 = .ok (.iload_n 0, 1) := by decide +kernel
theorem dX9_isDate_1 : decode cX9_isDate 1 = .ok (.iconst 0, 1) := by decide +kernel
theorem dX9_isDate_2 : decode cX9_isDate 2 = .ok (.sipush 206, 3) := by decide +kernel
theorem dX9_isDate_5 : decode cX9_isDate 5 = .ok (.invokestatic 63, 3) := by decide +kernel
theorem dX9_isDate_8 : decode cX9_isDate 8 = .ok (.ifCond .eq 18, 3) := by decide +kernel
theorem dX9_isDate_11 : decode cX9_isDate 11 = .ok (.iload_n 1, 1) := by decide +kernel
theorem dX9_isDate_12 : decode cX9_isDate 12 = .ok (.iconst 0, 1) := by decide +kernel
theorem dX9_isDate_13 : decode cX9_isDate 13 = .ok (.sipush 364, 3) := by decide +kernel
theorem dX9_isDate_16 : decode cX9_isDate 16 = .ok (.invokestatic 63, 3) := by decide +kernel
theorem dX9_isDate_19 : decode cX9_isDate 19 = .ok (.ifCond .eq 7, 3) := by decide +kernel
theorem dX9_isDate_22 : decode cX9_isDate 22 = .ok (.iconst 1, 1) := by decide +kernel
theorem dX9_isDate_23 : decode cX9_isDate 23 = .ok (.goto 4, 3) := by decide +kernel
theorem dX9_isDate_26 : decode cX9_isDate 26 = .ok (.iconst 0, 1) := by decide +kernel
theorem dX9_isDate_27 : decode cX9_isDate 27 = .ok (.ireturn, 1) := by decide +kernel
theorem dX9_day_0 : decode cX9_day 0 = .ok (.iload_n 1, 1) := by decide +kernel
theorem dX9_day_1 : decode cX9_day 1 = .ok (.invokestatic 75, 3) := by decide +kernel
theorem dX9_day_4 : decode cX9_day 4 = .ok (.ifCond .eq 21, 3) := by decide +kernel
theorem dX9_day_7 : decode cX9_day 7 = .ok (.iload_n 2, 1) := by decide +kernel
theorem dX9_day_8 : decode cX9_day 8 = .ok (.iload_n 3, 1) := by decide +kernel
theorem dX9_day_9 : decode cX9_day 9 = .ok (.invokestatic 100, 3) := by decide +kernel
theorem dX9_day_12 : decode cX9_day 12 = .ok (.ifCond .eq 13, 3) := by decide +kernel
theorem dX9_day_15 : decode cX9_day 15 = .ok (.iload 4, 2) := by decide +kernel
theorem dX9_day_17 : decode cX9_day 17 = .ok (.iconst 0, 1) := by decide +kernel
theorem dX9_day_18 : decode cX9_day 18 = .ok (.iconst 1, 1) := by decide +kernel
theorem dX9_day_19 : decode cX9_day 19 = .ok (.invokestatic 63, 3) := by decide +kernel
theorem dX9_day_22 : decode cX9_day 22 = .ok (.ifCond .ne 9, 3) := by decide +kernel
theorem dX9_day_25 : decode cX9_day 25 = .ok (.aload_n 0, 1) := by decide +kernel
theorem dX9_day_26 : decode cX9_day 26 = .ok (.iconst 1, 1) := by decide +kernel
theorem dX9_day_27 : decode cX9_day 27 = .ok (.invokevirtual 83, 3) := by decide +kernel
theorem dX9_day_30 : decode cX9_day 30 = .ok (.ireturn, 1) := by decide +kernel
theorem dX9_day_31 : decode cX9_day 31 = .ok (.aload_n 0, 1) := by decide +kernel
theorem dX9_day_32 : decode cX9_day 32 = .ok (.invokevirtual 91, 3) := by decide +kernel
theorem dX9_day_35 : decode cX9_day 35 = .ok (.iload 4, 2) := by decide +kernel
theorem dX9_day_37 : decode cX9_day 37 = .ok (.istore 5, 2) := by decide +kernel
theorem dX9_day_39 : decode cX9_day 39 = .ok (.iconst 0, 1) := by decide +kernel
theorem dX9_day_40 : decode cX9_day 40 = .ok (.istore 6, 2) := by decide +kernel
theorem dX9_day_42 : decode cX9_day 42 = .ok (.iload 6, 2) := by decide +kernel
theorem dX9_day_44 : decode cX9_day 44 = .ok (.sipush 200, 3) := by decide +kernel
theorem dX9_day_47 : decode cX9_day 47 = .ok (.if_icmp .ge 43, 3) := by decide +kernel
theorem dX9_day_50 : decode cX9_day 50 = .ok (.aload_n 0, 1) := by decide +kernel
theorem dX9_day_51 : decode cX9_day 51 = .ok (.getfield 19, 3) := by decide +kernel
theorem dX9_day_54 : decode cX9_day 54 = .ok (.sipush 200, 3) := by decide +kernel
theorem dX9_day_57 : decode cX9_day 57 = .ok (.iload_n 1, 1) := by decide +kernel
theorem dX9_day_58 : decode cX9_day 58 = .ok (.imul, 1) := by decide +kernel
theorem dX9_day_59 : decode cX9_day 59 = .ok (.iload 6, 2) := by decide +kernel
theorem dX9_day_61 : decode cX9_day 61 = .ok (.iadd, 1) := by decide +kernel
theorem dX9_day_62 : decode cX9_day 62 = .ok (.iaload, 1) := by decide +kernel
theorem dX9_day_63 : decode cX9_day 63 = .ok (.iload_n 2, 1) := by decide +kernel
theorem dX9_day_64 : decode cX9_day 64 = .ok (.if_icmp .ne 20, 3) := by decide +kernel
theorem dX9_day_67 : decode cX9_day 67 = .ok (.iload 5, 2) := by decide +kernel
theorem dX9_day_69 : decode cX9_day 69 = .ok (.ifCond .ne 12, 3) := by decide +kernel
theorem dX9_day_72 : decode cX9_day 72 = .ok (.sipush 365, 3) := by decide +kernel
theorem dX9_day_75 : decode cX9_day 75 = .ok (.iload 6, 2) := by decide +kernel
theorem dX9_day_77 : decode cX9_day 77 = .ok (.imul, 1) := by decide +kernel
theorem dX9_day_78 : decode cX9_day 78 = .ok (.iload_n 3, 1) := by decide +kernel
theorem dX9_day_79 : decode cX9_day 79 = .ok (.iadd, 1) := by decide +kernel
theorem dX9_day_80 : decode cX9_day 80 = .ok (.ireturn, 1) := by decide +kernel
theorem dX9_day_81 : decode cX9_day 81 = .ok (.iinc 5 (-1), 3) := by decide +kernel
theorem dX9_day_84 : decode cX9_day 84 = .ok (.iinc 6 1, 3) := by decide +kernel
theorem dX9_day_87 : decode cX9_day 87 = .ok (.goto (-45), 3) := by decide +kernel
theorem dX9_day_90 : decode cX9_day 90 = .ok (.aload_n 0, 1) := by decide +kernel
theorem dX9_day_91 : decode cX9_day 91 = .ok (.iconst 2, 1) := by decide +kernel
theorem dX9_day_92 : decode cX9_day 92 = .ok (.invokevirtual 83, 3) := by decide +kernel
theorem dX9_day_95 : decode cX9_day 95 = .ok (.ireturn, 1) := by decide +kernel
theorem dX9_pass_0 : decode cX9_pass 0 = .ok (.iload_n 1, 1) := by decide +kernel
theorem dX9_pass_1 : decode cX9_pass 1 = .ok (.iconst 1, 1) := by decide +kernel
theorem dX9_pass_2 : decode cX9_pass 2 = .ok (.sipush 9999, 3) := by decide +kernel
theorem dX9_pass_5 : decode cX9_pass 5 = .ok (.invokestatic 63, 3) := by decide +kernel
theorem dX9_pass_8 : decode cX9_pass 8 = .ok (.ifCond .ne 9, 3) := by decide +kernel
theorem dX9_pass_11 : decode cX9_pass 11 = .ok (.aload_n 0, 1) := by decide +kernel
theorem dX9_pass_12 : decode cX9_pass 12 = .ok (.iconst 1, 1) := by decide +kernel
theorem dX9_pass_13 : decode cX9_pass 13 = .ok (.invokevirtual 83, 3) := by decide +kernel
theorem dX9_pass_16 : decode cX9_pass 16 = .ok (.ireturn, 1) := by decide +kernel
theorem dX9_pass_17 : decode cX9_pass 17 = .ok (.aload_n 0, 1) := by decide +kernel
theorem dX9_pass_18 : decode cX9_pass 18 = .ok (.getfield 7, 3) := by decide +kernel
theorem dX9_pass_21 : decode cX9_pass 21 = .ok (.iconst 3, 1) := by decide +kernel
theorem dX9_pass_22 : decode cX9_pass 22 = .ok (.iaload, 1) := by decide +kernel
theorem dX9_pass_23 : decode cX9_pass 23 = .ok (.iload_n 1, 1) := by decide +kernel
theorem dX9_pass_24 : decode cX9_pass 24 = .ok (.iadd, 1) := by decide +kernel
theorem dX9_pass_25 : decode cX9_pass 25 = .ok (.ldc 67, 2) := by decide +kernel
theorem dX9_pass_27 : decode cX9_pass 27 = .ok (.if_icmp .le 9, 3) := by decide +kernel
theorem dX9_pass_30 : decode cX9_pass 30 = .ok (.aload_n 0, 1) := by decide +kernel
theorem dX9_pass_31 : decode cX9_pass 31 = .ok (.iconst 3, 1) := by decide +kernel
theorem dX9_pass_32 : decode cX9_pass 32 = .ok (.invokevirtual 83, 3) := by decide +kernel
theorem dX9_pass_35 : decode cX9_pass 35 = .ok (.ireturn, 1) := by decide +kernel
theorem dX9_pass_36 : decode cX9_pass 36 = .ok (.aload_n 0, 1) := by decide +kernel
theorem dX9_pass_37 : decode cX9_pass 37 = .ok (.getfield 7, 3) := by decide +kernel
theorem dX9_pass_40 : decode cX9_pass 40 = .ok (.iconst 3, 1) := by decide +kernel
theorem dX9_pass_41 : decode cX9_pass 41 = .ok (.dup2, 1) := by decide +kernel
theorem dX9_pass_42 : decode cX9_pass 42 = .ok (.iaload, 1) := by decide +kernel
theorem dX9_pass_43 : decode cX9_pass 43 = .ok (.iload_n 1, 1) := by decide +kernel
theorem dX9_pass_44 : decode cX9_pass 44 = .ok (.iadd, 1) := by decide +kernel
theorem dX9_pass_45 : decode cX9_pass 45 = .ok (.iastore, 1) := by decide +kernel
theorem dX9_pass_46 : decode cX9_pass 46 = .ok (.aload_n 0, 1) := by decide +kernel
theorem dX9_pass_47 : decode cX9_pass 47 = .ok (.getfield 7, 3) := by decide +kernel
theorem dX9_pass_50 : decode cX9_pass 50 = .ok (.iconst 3, 1) := by decide +kernel
theorem dX9_pass_51 : decode cX9_pass 51 = .ok (.iaload, 1) := by decide +kernel
theorem dX9_pass_52 : decode cX9_pass 52 = .ok (.ireturn, 1) := by decide +kernel
theorem dX9_feed_0 : decode cX9_feed 0 = .ok (.iload_n 3, 1) := by decide +kernel
theorem dX9_feed_1 : decode cX9_feed 1 = .ok (.iconst 1, 1) := by decide +kernel
theorem dX9_feed_2 : decode cX9_feed 2 = .ok (.bipush 8, 2) := by decide +kernel
theorem dX9_feed_4 : decode cX9_feed 4 = .ok (.invokestatic 63, 3) := by decide +kernel
theorem dX9_feed_7 : decode cX9_feed 7 = .ok (.ifCond .ne 9, 3) := by decide +kernel
theorem dX9_feed_10 : decode cX9_feed 10 = .ok (.aload_n 0, 1) := by decide +kernel
theorem dX9_feed_11 : decode cX9_feed 11 = .ok (.iconst 1, 1) := by decide +kernel
theorem dX9_feed_12 : decode cX9_feed 12 = .ok (.invokevirtual 83, 3) := by decide +kernel
theorem dX9_feed_15 : decode cX9_feed 15 = .ok (.ireturn, 1) := by decide +kernel
theorem dX9_feed_16 : decode cX9_feed 16 = .ok (.aload_n 0, 1) := by decide +kernel
theorem dX9_feed_17 : decode cX9_feed 17 = .ok (.getfield 7, 3) := by decide +kernel
theorem dX9_feed_20 : decode cX9_feed 20 = .ok (.bipush 6, 2) := by decide +kernel
theorem dX9_feed_22 : decode cX9_feed 22 = .ok (.iaload, 1) := by decide +kernel
theorem dX9_feed_23 : decode cX9_feed 23 = .ok (.iload_n 3, 1) := by decide +kernel
theorem dX9_feed_24 : decode cX9_feed 24 = .ok (.iadd, 1) := by decide +kernel
theorem dX9_feed_25 : decode cX9_feed 25 = .ok (.bipush 60, 2) := by decide +kernel
theorem dX9_feed_27 : decode cX9_feed 27 = .ok (.if_icmp .le 9, 3) := by decide +kernel
theorem dX9_feed_30 : decode cX9_feed 30 = .ok (.aload_n 0, 1) := by decide +kernel
theorem dX9_feed_31 : decode cX9_feed 31 = .ok (.iconst 4, 1) := by decide +kernel
theorem dX9_feed_32 : decode cX9_feed 32 = .ok (.invokevirtual 83, 3) := by decide +kernel
theorem dX9_feed_35 : decode cX9_feed 35 = .ok (.ireturn, 1) := by decide +kernel
theorem dX9_feed_36 : decode cX9_feed 36 = .ok (.iconst 0, 1) := by decide +kernel
theorem dX9_feed_37 : decode cX9_feed 37 = .ok (.istore 4, 2) := by decide +kernel
theorem dX9_feed_39 : decode cX9_feed 39 = .ok (.iload 4, 2) := by decide +kernel
theorem dX9_feed_41 : decode cX9_feed 41 = .ok (.iload_n 3, 1) := by decide +kernel
theorem dX9_feed_42 : decode cX9_feed 42 = .ok (.if_icmp .ge 48, 3) := by decide +kernel
theorem dX9_feed_45 : decode cX9_feed 45 = .ok (.aload_n 0, 1) := by decide +kernel
theorem dX9_feed_46 : decode cX9_feed 46 = .ok (.getfield 7, 3) := by decide +kernel
theorem dX9_feed_49 : decode cX9_feed 49 = .ok (.sipush 334, 3) := by decide +kernel
theorem dX9_feed_52 : decode cX9_feed 52 = .ok (.aload_n 0, 1) := by decide +kernel
theorem dX9_feed_53 : decode cX9_feed 53 = .ok (.getfield 7, 3) := by decide +kernel
theorem dX9_feed_56 : decode cX9_feed 56 = .ok (.bipush 6, 2) := by decide +kernel
theorem dX9_feed_58 : decode cX9_feed 58 = .ok (.iaload, 1) := by decide +kernel
theorem dX9_feed_59 : decode cX9_feed 59 = .ok (.iadd, 1) := by decide +kernel
theorem dX9_feed_60 : decode cX9_feed 60 = .ok (.lload_n 1, 1) := by decide +kernel
theorem dX9_feed_61 : decode cX9_feed 61 = .ok (.bipush 8, 2) := by decide +kernel
theorem dX9_feed_63 : decode cX9_feed 63 = .ok (.iload 4, 2) := by decide +kernel
theorem dX9_feed_65 : decode cX9_feed 65 = .ok (.imul, 1) := by decide +kernel
theorem dX9_feed_66 : decode cX9_feed 66 = .ok (.lshr, 1) := by decide +kernel
theorem dX9_feed_67 : decode cX9_feed 67 = .ok (.ldc2_w 104, 3) := by decide +kernel
theorem dX9_feed_70 : decode cX9_feed 70 = .ok (.land, 1) := by decide +kernel
theorem dX9_feed_71 : decode cX9_feed 71 = .ok (.l2i, 1) := by decide +kernel
theorem dX9_feed_72 : decode cX9_feed 72 = .ok (.iastore, 1) := by decide +kernel
theorem dX9_feed_73 : decode cX9_feed 73 = .ok (.aload_n 0, 1) := by decide +kernel
theorem dX9_feed_74 : decode cX9_feed 74 = .ok (.getfield 7, 3) := by decide +kernel
theorem dX9_feed_77 : decode cX9_feed 77 = .ok (.bipush 6, 2) := by decide +kernel
theorem dX9_feed_79 : decode cX9_feed 79 = .ok (.dup2, 1) := by decide +kernel
theorem dX9_feed_80 : decode cX9_feed 80 = .ok (.iaload, 1) := by decide +kernel
theorem dX9_feed_81 : decode cX9_feed 81 = .ok (.iconst 1, 1) := by decide +kernel
theorem dX9_feed_82 : decode cX9_feed 82 = .ok (.iadd, 1) := by decide +kernel
theorem dX9_feed_83 : decode cX9_feed 83 = .ok (.iastore, 1) := by decide +kernel
theorem dX9_feed_84 : decode cX9_feed 84 = .ok (.iinc 4 1, 3) := by decide +kernel
theorem dX9_feed_87 : decode cX9_feed 87 = .ok (.goto (-48), 3) := by decide +kernel
theorem dX9_feed_90 : decode cX9_feed 90 = .ok (.aload_n 0, 1) := by decide +kernel
theorem dX9_feed_91 : decode cX9_feed 91 = .ok (.getfield 7, 3) := by decide +kernel
theorem dX9_feed_94 : decode cX9_feed 94 = .ok (.bipush 6, 2) := by decide +kernel
theorem dX9_feed_96 : decode cX9_feed 96 = .ok (.iaload, 1) := by decide +kernel
theorem dX9_feed_97 : decode cX9_feed 97 = .ok (.ireturn, 1) := by decide +kernel
theorem dX9_look_0 : decode cX9_look 0 = .ok (.aload_n 0, 1) := by decide +kernel
theorem dX9_look_1 : decode cX9_look 1 = .ok (.getfield 106, 3) := by decide +kernel
theorem dX9_look_4 : decode cX9_look 4 = .ok (.aload_n 0, 1) := by decide +kernel
theorem dX9_look_5 : decode cX9_look 5 = .ok (.getfield 7, 3) := by decide +kernel
theorem dX9_look_8 : decode cX9_look 8 = .ok (.bipush 6, 2) := by decide +kernel
theorem dX9_look_10 : decode cX9_look 10 = .ok (.iaload, 1) := by decide +kernel
theorem dX9_look_11 : decode cX9_look 11 = .ok (.if_icmp .ge 19, 3) := by decide +kernel
theorem dX9_look_14 : decode cX9_look 14 = .ok (.aload_n 0, 1) := by decide +kernel
theorem dX9_look_15 : decode cX9_look 15 = .ok (.getfield 7, 3) := by decide +kernel
theorem dX9_look_18 : decode cX9_look 18 = .ok (.sipush 334, 3) := by decide +kernel
theorem dX9_look_21 : decode cX9_look 21 = .ok (.aload_n 0, 1) := by decide +kernel
theorem dX9_look_22 : decode cX9_look 22 = .ok (.getfield 106, 3) := by decide +kernel
theorem dX9_look_25 : decode cX9_look 25 = .ok (.iadd, 1) := by decide +kernel
theorem dX9_look_26 : decode cX9_look 26 = .ok (.iaload, 1) := by decide +kernel
theorem dX9_look_27 : decode cX9_look 27 = .ok (.goto 4, 3) := by decide +kernel
theorem dX9_look_30 : decode cX9_look 30 = .ok (.iconst (-1), 1) := by decide +kernel
theorem dX9_look_31 : decode cX9_look 31 = .ok (.ireturn, 1) := by decide +kernel
theorem dX9_isName_0 : decode cX9_isName 0 = .ok (.iload_n 1, 1) := by decide +kernel
theorem dX9_isName_1 : decode cX9_isName 1 = .ok (.bipush 109, 2) := by decide +kernel
theorem dX9_isName_3 : decode cX9_isName 3 = .ok (.if_icmp .ne 5, 3) := by decide +kernel
theorem dX9_isName_6 : decode cX9_isName 6 = .ok (.iconst 1, 1) := by decide +kernel
theorem dX9_isName_7 : decode cX9_isName 7 = .ok (.ireturn, 1) := by decide +kernel
theorem dX9_isName_8 : decode cX9_isName 8 = .ok (.aload_n 0, 1) := by decide +kernel
theorem dX9_isName_9 : decode cX9_isName 9 = .ok (.getfield 110, 3) := by decide +kernel
theorem dX9_isName_12 : decode cX9_isName 12 = .ok (.ifCond .ne 23, 3) := by decide +kernel
theorem dX9_isName_15 : decode cX9_isName 15 = .ok (.iload_n 1, 1) := by decide +kernel
theorem dX9_isName_16 : decode cX9_isName 16 = .ok (.bipush 98, 2) := by decide +kernel
theorem dX9_isName_18 : decode cX9_isName 18 = .ok (.if_icmp .eq 9, 3) := by decide +kernel
theorem dX9_isName_21 : decode cX9_isName 21 = .ok (.iload_n 1, 1) := by decide +kernel
theorem dX9_isName_22 : decode cX9_isName 22 = .ok (.bipush 116, 2) := by decide +kernel
theorem dX9_isName_24 : decode cX9_isName 24 = .ok (.if_icmp .ne 7, 3) := by decide +kernel
theorem dX9_isName_27 : decode cX9_isName 27 = .ok (.iconst 1, 1) := by decide +kernel
theorem dX9_isName_28 : decode cX9_isName 28 = .ok (.goto 24, 3) := by decide +kernel
theorem dX9_isName_31 : decode cX9_isName 31 = .ok (.iconst 0, 1) := by decide +kernel
theorem dX9_isName_32 : decode cX9_isName 32 = .ok (.goto 20, 3) := by decide +kernel
theorem dX9_isName_35 : decode cX9_isName 35 = .ok (.iload_n 1, 1) := by decide +kernel
theorem dX9_isName_36 : decode cX9_isName 36 = .ok (.bipush 97, 2) := by decide +kernel
theorem dX9_isName_38 : decode cX9_isName 38 = .ok (.if_icmp .eq 9, 3) := by decide +kernel
theorem dX9_isName_41 : decode cX9_isName 41 = .ok (.iload_n 1, 1) := by decide +kernel
theorem dX9_isName_42 : decode cX9_isName 42 = .ok (.bipush 107, 2) := by decide +kernel
theorem dX9_isName_44 : decode cX9_isName 44 = .ok (.if_icmp .ne 7, 3) := by decide +kernel
theorem dX9_isName_47 : decode cX9_isName 47 = .ok (.iconst 1, 1) := by decide +kernel
theorem dX9_isName_48 : decode cX9_isName 48 = .ok (.goto 4, 3) := by decide +kernel
theorem dX9_isName_51 : decode cX9_isName 51 = .ok (.iconst 0, 1) := by decide +kernel
theorem dX9_isName_52 : decode cX9_isName 52 = .ok (.ireturn, 1) := by decide +kernel
theorem dX9_lays_0 : decode cX9_lays 0 = .ok (.aload_n 0, 1) := by decide +kernel
theorem dX9_lays_1 : decode cX9_lays 1 = .ok (.getfield 22, 3) := by decide +kernel
theorem dX9_lays_4 : decode cX9_lays 4 = .ok (.iconst 2, 1) := by decide +kernel
theorem dX9_lays_5 : decode cX9_lays 5 = .ok (.aload_n 0, 1) := by decide +kernel
theorem dX9_lays_6 : decode cX9_lays 6 = .ok (.getfield 113, 3) := by decide +kernel
theorem dX9_lays_9 : decode cX9_lays 9 = .ok (.imul, 1) := by decide +kernel
theorem dX9_lays_10 : decode cX9_lays 10 = .ok (.iload_n 1, 1) := by decide +kernel
theorem dX9_lays_11 : decode cX9_lays 11 = .ok (.iastore, 1) := by decide +kernel
theorem dX9_lays_12 : decode cX9_lays 12 = .ok (.aload_n 0, 1) := by decide +kernel
theorem dX9_lays_13 : decode cX9_lays 13 = .ok (.getfield 22, 3) := by decide +kernel
theorem dX9_lays_16 : decode cX9_lays 16 = .ok (.iconst 2, 1) := by decide +kernel
theorem dX9_lays_17 : decode cX9_lays 17 = .ok (.aload_n 0, 1) := by decide +kernel
theorem dX9_lays_18 : decode cX9_lays 18 = .ok (.getfield 113, 3) := by decide +kernel
theorem dX9_lays_21 : decode cX9_lays 21 = .ok (.imul, 1) := by decide +kernel
theorem dX9_lays_22 : decode cX9_lays 22 = .ok (.iconst 1, 1) := by decide +kernel
theorem dX9_lays_23 : decode cX9_lays 23 = .ok (.iadd, 1) := by decide +kernel
theorem dX9_lays_24 : decode cX9_lays 24 = .ok (.iload_n 2, 1) := by decide +kernel
theorem dX9_lays_25 : decode cX9_lays 25 = .ok (.iastore, 1) := by decide +kernel
theorem dX9_lays_26 : decode cX9_lays 26 = .ok (.aload_n 0, 1) := by decide +kernel
theorem dX9_lays_27 : decode cX9_lays 27 = .ok (.dup, 1) := by decide +kernel
theorem dX9_lays_28 : decode cX9_lays 28 = .ok (.getfield 113, 3) := by decide +kernel
theorem dX9_lays_31 : decode cX9_lays 31 = .ok (.iconst 1, 1) := by decide +kernel
theorem dX9_lays_32 : decode cX9_lays 32 = .ok (.iadd, 1) := by decide +kernel
theorem dX9_lays_33 : decode cX9_lays 33 = .ok (.putfield 113, 3) := by decide +kernel
theorem dX9_lays_36 : decode cX9_lays 36 = .ok (.return_, 1) := by decide +kernel
theorem dX9_whole_0 : decode cX9_whole 0 = .ok (.aload_n 0, 1) := by decide +kernel
theorem dX9_whole_1 : decode cX9_whole 1 = .ok (.invokevirtual 116, 3) := by decide +kernel
theorem dX9_whole_4 : decode cX9_whole 4 = .ok (.ifCond .ne 5, 3) := by decide +kernel
theorem dX9_whole_7 : decode cX9_whole 7 = .ok (.iconst 0, 1) := by decide +kernel
theorem dX9_whole_8 : decode cX9_whole 8 = .ok (.ireturn, 1) := by decide +kernel
theorem dX9_whole_9 : decode cX9_whole 9 = .ok (.aload_n 0, 1) := by decide +kernel
theorem dX9_whole_10 : decode cX9_whole 10 = .ok (.invokevirtual 120, 3) := by decide +kernel
theorem dX9_whole_13 : decode cX9_whole 13 = .ok (.bipush 124, 2) := by decide +kernel
theorem dX9_whole_15 : decode cX9_whole 15 = .ok (.if_icmp .ne 32, 3) := by decide +kernel
theorem dX9_whole_18 : decode cX9_whole 18 = .ok (.aload_n 0, 1) := by decide +kernel
theorem dX9_whole_19 : decode cX9_whole 19 = .ok (.dup, 1) := by decide +kernel
theorem dX9_whole_20 : decode cX9_whole 20 = .ok (.getfield 106, 3) := by decide +kernel
theorem dX9_whole_23 : decode cX9_whole 23 = .ok (.iconst 1, 1) := by decide +kernel
theorem dX9_whole_24 : decode cX9_whole 24 = .ok (.iadd, 1) := by decide +kernel
theorem dX9_whole_25 : decode cX9_whole 25 = .ok (.putfield 106, 3) := by decide +kernel
theorem dX9_whole_28 : decode cX9_whole 28 = .ok (.aload_n 0, 1) := by decide +kernel
theorem dX9_whole_29 : decode cX9_whole 29 = .ok (.invokevirtual 116, 3) := by decide +kernel
theorem dX9_whole_32 : decode cX9_whole 32 = .ok (.ifCond .ne 5, 3) := by decide +kernel
theorem dX9_whole_35 : decode cX9_whole 35 = .ok (.iconst 0, 1) := by decide +kernel
theorem dX9_whole_36 : decode cX9_whole 36 = .ok (.ireturn, 1) := by decide +kernel
theorem dX9_whole_37 : decode cX9_whole 37 = .ok (.aload_n 0, 1) := by decide +kernel
theorem dX9_whole_38 : decode cX9_whole 38 = .ok (.iconst 3, 1) := by decide +kernel
theorem dX9_whole_39 : decode cX9_whole 39 = .ok (.bipush 124, 2) := by decide +kernel
theorem dX9_whole_41 : decode cX9_whole 41 = .ok (.invokevirtual 124, 3) := by decide +kernel
theorem dX9_whole_44 : decode cX9_whole 44 = .ok (.goto (-35), 3) := by decide +kernel
theorem dX9_whole_47 : decode cX9_whole 47 = .ok (.iconst 1, 1) := by decide +kernel
theorem dX9_whole_48 : decode cX9_whole 48 = .ok (.ireturn, 1) := by decide +kernel
theorem dX9_both_0 : decode cX9_both 0 = .ok (.aload_n 0, 1) := by decide +kernel
theorem dX9_both_1 : decode cX9_both 1 = .ok (.invokevirtual 128, 3) := by decide +kernel
theorem dX9_both_4 : decode cX9_both 4 = .ok (.ifCond .ne 5, 3) := by decide +kernel
theorem dX9_both_7 : decode cX9_both 7 = .ok (.iconst 0, 1) := by decide +kernel
theorem dX9_both_8 : decode cX9_both 8 = .ok (.ireturn, 1) := by decide +kernel
theorem dX9_both_9 : decode cX9_both 9 = .ok (.aload_n 0, 1) := by decide +kernel
theorem dX9_both_10 : decode cX9_both 10 = .ok (.invokevirtual 120, 3) := by decide +kernel
theorem dX9_both_13 : decode cX9_both 13 = .ok (.bipush 38, 2) := by decide +kernel
theorem dX9_both_15 : decode cX9_both 15 = .ok (.if_icmp .ne 32, 3) := by decide +kernel
theorem dX9_both_18 : decode cX9_both 18 = .ok (.aload_n 0, 1) := by decide +kernel
theorem dX9_both_19 : decode cX9_both 19 = .ok (.dup, 1) := by decide +kernel
theorem dX9_both_20 : decode cX9_both 20 = .ok (.getfield 106, 3) := by decide +kernel
theorem dX9_both_23 : decode cX9_both 23 = .ok (.iconst 1, 1) := by decide +kernel
theorem dX9_both_24 : decode cX9_both 24 = .ok (.iadd, 1) := by decide +kernel
theorem dX9_both_25 : decode cX9_both 25 = .ok (.putfield 106, 3) := by decide +kernel
theorem dX9_both_28 : decode cX9_both 28 = .ok (.aload_n 0, 1) := by decide +kernel
theorem dX9_both_29 : decode cX9_both 29 = .ok (.invokevirtual 128, 3) := by decide +kernel
theorem dX9_both_32 : decode cX9_both 32 = .ok (.ifCond .ne 5, 3) := by decide +kernel
theorem dX9_both_35 : decode cX9_both 35 = .ok (.iconst 0, 1) := by decide +kernel
theorem dX9_both_36 : decode cX9_both 36 = .ok (.ireturn, 1) := by decide +kernel
theorem dX9_both_37 : decode cX9_both 37 = .ok (.aload_n 0, 1) := by decide +kernel
theorem dX9_both_38 : decode cX9_both 38 = .ok (.iconst 3, 1) := by decide +kernel
theorem dX9_both_39 : decode cX9_both 39 = .ok (.bipush 38, 2) := by decide +kernel
theorem dX9_both_41 : decode cX9_both 41 = .ok (.invokevirtual 124, 3) := by decide +kernel
theorem dX9_both_44 : decode cX9_both 44 = .ok (.goto (-35), 3) := by decide +kernel
theorem dX9_both_47 : decode cX9_both 47 = .ok (.iconst 1, 1) := by decide +kernel
theorem dX9_both_48 : decode cX9_both 48 = .ok (.ireturn, 1) := by decide +kernel
theorem dX9_compared_0 : decode cX9_compared 0 = .ok (.aload_n 0, 1) := by decide +kernel
theorem dX9_compared_1 : decode cX9_compared 1 = .ok (.invokevirtual 131, 3) := by decide +kernel
theorem dX9_compared_4 : decode cX9_compared 4 = .ok (.ifCond .ne 5, 3) := by decide +kernel
theorem dX9_compared_7 : decode cX9_compared 7 = .ok (.iconst 0, 1) := by decide +kernel
theorem dX9_compared_8 : decode cX9_compared 8 = .ok (.ireturn, 1) := by decide +kernel
theorem dX9_compared_9 : decode cX9_compared 9 = .ok (.aload_n 0, 1) := by decide +kernel
theorem dX9_compared_10 : decode cX9_compared 10 = .ok (.invokevirtual 120, 3) := by decide +kernel
theorem dX9_compared_13 : decode cX9_compared 13 = .ok (.istore_n 1, 1) := by decide +kernel
theorem dX9_compared_14 : decode cX9_compared 14 = .ok (.iload_n 1, 1) := by decide +kernel
theorem dX9_compared_15 : decode cX9_compared 15 = .ok (.bipush 60, 2) := by decide +kernel
theorem dX9_compared_17 : decode cX9_compared 17 = .ok (.if_icmp .eq 17, 3) := by decide +kernel
theorem dX9_compared_20 : decode cX9_compared 20 = .ok (.iload_n 1, 1) := by decide +kernel
theorem dX9_compared_21 : decode cX9_compared 21 = .ok (.bipush 61, 2) := by decide +kernel
theorem dX9_compared_23 : decode cX9_compared 23 = .ok (.if_icmp .eq 11, 3) := by decide +kernel
theorem dX9_compared_26 : decode cX9_compared 26 = .ok (.iload_n 1, 1) := by decide +kernel
theorem dX9_compared_27 : decode cX9_compared 27 = .ok (.bipush 62, 2) := by decide +kernel
theorem dX9_compared_29 : decode cX9_compared 29 = .ok (.if_icmp .eq 5, 3) := by decide +kernel
theorem dX9_compared_32 : decode cX9_compared 32 = .ok (.iconst 1, 1) := by decide +kernel
theorem dX9_compared_33 : decode cX9_compared 33 = .ok (.ireturn, 1) := by decide +kernel
theorem dX9_compared_34 : decode cX9_compared 34 = .ok (.aload_n 0, 1) := by decide +kernel
theorem dX9_compared_35 : decode cX9_compared 35 = .ok (.dup, 1) := by decide +kernel
theorem dX9_compared_36 : decode cX9_compared 36 = .ok (.getfield 106, 3) := by decide +kernel
theorem dX9_compared_39 : decode cX9_compared 39 = .ok (.iconst 1, 1) := by decide +kernel
theorem dX9_compared_40 : decode cX9_compared 40 = .ok (.iadd, 1) := by decide +kernel
theorem dX9_compared_41 : decode cX9_compared 41 = .ok (.putfield 106, 3) := by decide +kernel
theorem dX9_compared_44 : decode cX9_compared 44 = .ok (.aload_n 0, 1) := by decide +kernel
theorem dX9_compared_45 : decode cX9_compared 45 = .ok (.invokevirtual 131, 3) := by decide +kernel
theorem dX9_compared_48 : decode cX9_compared 48 = .ok (.ifCond .ne 5, 3) := by decide +kernel
theorem dX9_compared_51 : decode cX9_compared 51 = .ok (.iconst 0, 1) := by decide +kernel
theorem dX9_compared_52 : decode cX9_compared 52 = .ok (.ireturn, 1) := by decide +kernel
theorem dX9_compared_53 : decode cX9_compared 53 = .ok (.aload_n 0, 1) := by decide +kernel
theorem dX9_compared_54 : decode cX9_compared 54 = .ok (.iconst 3, 1) := by decide +kernel
theorem dX9_compared_55 : decode cX9_compared 55 = .ok (.iload_n 1, 1) := by decide +kernel
theorem dX9_compared_56 : decode cX9_compared 56 = .ok (.invokevirtual 124, 3) := by decide +kernel
theorem dX9_compared_59 : decode cX9_compared 59 = .ok (.iconst 1, 1) := by decide +kernel
theorem dX9_compared_60 : decode cX9_compared 60 = .ok (.ireturn, 1) := by decide +kernel
theorem dX9_sum_0 : decode cX9_sum 0 = .ok (.aload_n 0, 1) := by decide +kernel
theorem dX9_sum_1 : decode cX9_sum 1 = .ok (.invokevirtual 134, 3) := by decide +kernel
theorem dX9_sum_4 : decode cX9_sum 4 = .ok (.ifCond .ne 5, 3) := by decide +kernel
theorem dX9_sum_7 : decode cX9_sum 7 = .ok (.iconst 0, 1) := by decide +kernel
theorem dX9_sum_8 : decode cX9_sum 8 = .ok (.ireturn, 1) := by decide +kernel
theorem dX9_sum_9 : decode cX9_sum 9 = .ok (.aload_n 0, 1) := by decide +kernel
theorem dX9_sum_10 : decode cX9_sum 10 = .ok (.invokevirtual 120, 3) := by decide +kernel
theorem dX9_sum_13 : decode cX9_sum 13 = .ok (.bipush 43, 2) := by decide +kernel
theorem dX9_sum_15 : decode cX9_sum 15 = .ok (.if_icmp .eq 12, 3) := by decide +kernel
theorem dX9_sum_18 : decode cX9_sum 18 = .ok (.aload_n 0, 1) := by decide +kernel
theorem dX9_sum_19 : decode cX9_sum 19 = .ok (.invokevirtual 120, 3) := by decide +kernel
theorem dX9_sum_22 : decode cX9_sum 22 = .ok (.bipush 45, 2) := by decide +kernel
theorem dX9_sum_24 : decode cX9_sum 24 = .ok (.if_icmp .ne 36, 3) := by decide +kernel
theorem dX9_sum_27 : decode cX9_sum 27 = .ok (.aload_n 0, 1) := by decide +kernel
theorem dX9_sum_28 : decode cX9_sum 28 = .ok (.invokevirtual 120, 3) := by decide +kernel
theorem dX9_sum_31 : decode cX9_sum 31 = .ok (.istore_n 1, 1) := by decide +kernel
theorem dX9_sum_32 : decode cX9_sum 32 = .ok (.aload_n 0, 1) := by decide +kernel
theorem dX9_sum_33 : decode cX9_sum 33 = .ok (.dup, 1) := by decide +kernel
theorem dX9_sum_34 : decode cX9_sum 34 = .ok (.getfield 106, 3) := by decide +kernel
theorem dX9_sum_37 : decode cX9_sum 37 = .ok (.iconst 1, 1) := by decide +kernel
theorem dX9_sum_38 : decode cX9_sum 38 = .ok (.iadd, 1) := by decide +kernel
theorem dX9_sum_39 : decode cX9_sum 39 = .ok (.putfield 106, 3) := by decide +kernel
theorem dX9_sum_42 : decode cX9_sum 42 = .ok (.aload_n 0, 1) := by decide +kernel
theorem dX9_sum_43 : decode cX9_sum 43 = .ok (.invokevirtual 134, 3) := by decide +kernel
theorem dX9_sum_46 : decode cX9_sum 46 = .ok (.ifCond .ne 5, 3) := by decide +kernel
theorem dX9_sum_49 : decode cX9_sum 49 = .ok (.iconst 0, 1) := by decide +kernel
theorem dX9_sum_50 : decode cX9_sum 50 = .ok (.ireturn, 1) := by decide +kernel
theorem dX9_sum_51 : decode cX9_sum 51 = .ok (.aload_n 0, 1) := by decide +kernel
theorem dX9_sum_52 : decode cX9_sum 52 = .ok (.iconst 3, 1) := by decide +kernel
theorem dX9_sum_53 : decode cX9_sum 53 = .ok (.iload_n 1, 1) := by decide +kernel
theorem dX9_sum_54 : decode cX9_sum 54 = .ok (.invokevirtual 124, 3) := by decide +kernel
theorem dX9_sum_57 : decode cX9_sum 57 = .ok (.goto (-48), 3) := by decide +kernel
theorem dX9_sum_60 : decode cX9_sum 60 = .ok (.iconst 1, 1) := by decide +kernel
theorem dX9_sum_61 : decode cX9_sum 61 = .ok (.ireturn, 1) := by decide +kernel
theorem dX9_product_0 : decode cX9_product 0 = .ok (.aload_n 0, 1) := by decide +kernel
theorem dX9_product_1 : decode cX9_product 1 = .ok (.invokevirtual 137, 3) := by decide +kernel
theorem dX9_product_4 : decode cX9_product 4 = .ok (.ifCond .ne 5, 3) := by decide +kernel
theorem dX9_product_7 : decode cX9_product 7 = .ok (.iconst 0, 1) := by decide +kernel
theorem dX9_product_8 : decode cX9_product 8 = .ok (.ireturn, 1) := by decide +kernel
theorem dX9_product_9 : decode cX9_product 9 = .ok (.aload_n 0, 1) := by decide +kernel
theorem dX9_product_10 : decode cX9_product 10 = .ok (.invokevirtual 120, 3) := by decide +kernel
theorem dX9_product_13 : decode cX9_product 13 = .ok (.bipush 42, 2) := by decide +kernel
theorem dX9_product_15 : decode cX9_product 15 = .ok (.if_icmp .eq 21, 3) := by decide +kernel
theorem dX9_product_18 : decode cX9_product 18 = .ok (.aload_n 0, 1) := by decide +kernel
theorem dX9_product_19 : decode cX9_product 19 = .ok (.invokevirtual 120, 3) := by decide +kernel
theorem dX9_product_22 : decode cX9_product 22 = .ok (.bipush 47, 2) := by decide +kernel
theorem dX9_product_24 : decode cX9_product 24 = .ok (.if_icmp .eq 12, 3) := by decide +kernel
theorem dX9_product_27 : decode cX9_product 27 = .ok (.aload_n 0, 1) := by decide +kernel
theorem dX9_product_28 : decode cX9_product 28 = .ok (.invokevirtual 120, 3) := by decide +kernel
theorem dX9_product_31 : decode cX9_product 31 = .ok (.bipush 37, 2) := by decide +kernel
theorem dX9_product_33 : decode cX9_product 33 = .ok (.if_icmp .ne 36, 3) := by decide +kernel
theorem dX9_product_36 : decode cX9_product 36 = .ok (.aload_n 0, 1) := by decide +kernel
theorem dX9_product_37 : decode cX9_product 37 = .ok (.invokevirtual 120, 3) := by decide +kernel
theorem dX9_product_40 : decode cX9_product 40 = .ok (.istore_n 1, 1) := by decide +kernel
theorem dX9_product_41 : decode cX9_product 41 = .ok (.aload_n 0, 1) := by decide +kernel
theorem dX9_product_42 : decode cX9_product 42 = .ok (.dup, 1) := by decide +kernel
theorem dX9_product_43 : decode cX9_product 43 = .ok (.getfield 106, 3) := by decide +kernel
theorem dX9_product_46 : decode cX9_product 46 = .ok (.iconst 1, 1) := by decide +kernel
theorem dX9_product_47 : decode cX9_product 47 = .ok (.iadd, 1) := by decide +kernel
theorem dX9_product_48 : decode cX9_product 48 = .ok (.putfield 106, 3) := by decide +kernel
theorem dX9_product_51 : decode cX9_product 51 = .ok (.aload_n 0, 1) := by decide +kernel
theorem dX9_product_52 : decode cX9_product 52 = .ok (.invokevirtual 137, 3) := by decide +kernel
theorem dX9_product_55 : decode cX9_product 55 = .ok (.ifCond .ne 5, 3) := by decide +kernel
theorem dX9_product_58 : decode cX9_product 58 = .ok (.iconst 0, 1) := by decide +kernel
theorem dX9_product_59 : decode cX9_product 59 = .ok (.ireturn, 1) := by decide +kernel
theorem dX9_product_60 : decode cX9_product 60 = .ok (.aload_n 0, 1) := by decide +kernel
theorem dX9_product_61 : decode cX9_product 61 = .ok (.iconst 3, 1) := by decide +kernel
theorem dX9_product_62 : decode cX9_product 62 = .ok (.iload_n 1, 1) := by decide +kernel
theorem dX9_product_63 : decode cX9_product 63 = .ok (.invokevirtual 124, 3) := by decide +kernel
theorem dX9_product_66 : decode cX9_product 66 = .ok (.goto (-57), 3) := by decide +kernel
theorem dX9_product_69 : decode cX9_product 69 = .ok (.iconst 1, 1) := by decide +kernel
theorem dX9_product_70 : decode cX9_product 70 = .ok (.ireturn, 1) := by decide +kernel
theorem dX9_opens_0 : decode cX9_opens 0 = .ok (.aload_n 0, 1) := by decide +kernel
theorem dX9_opens_1 : decode cX9_opens 1 = .ok (.getfield 140, 3) := by decide +kernel
theorem dX9_opens_4 : decode cX9_opens 4 = .ok (.iconst 5, 1) := by decide +kernel
theorem dX9_opens_5 : decode cX9_opens 5 = .ok (.if_icmp .ne 5, 3) := by decide +kernel
theorem dX9_opens_8 : decode cX9_opens 8 = .ok (.iconst 0, 1) := by decide +kernel
theorem dX9_opens_9 : decode cX9_opens 9 = .ok (.ireturn, 1) := by decide +kernel
theorem dX9_opens_10 : decode cX9_opens 10 = .ok (.aload_n 0, 1) := by decide +kernel
theorem dX9_opens_11 : decode cX9_opens 11 = .ok (.dup, 1) := by decide +kernel
theorem dX9_opens_12 : decode cX9_opens 12 = .ok (.getfield 140, 3) := by decide +kernel
theorem dX9_opens_15 : decode cX9_opens 15 = .ok (.iconst 1, 1) := by decide +kernel
theorem dX9_opens_16 : decode cX9_opens 16 = .ok (.iadd, 1) := by decide +kernel
theorem dX9_opens_17 : decode cX9_opens 17 = .ok (.putfield 140, 3) := by decide +kernel
theorem dX9_opens_20 : decode cX9_opens 20 = .ok (.aload_n 0, 1) := by decide +kernel
theorem dX9_opens_21 : decode cX9_opens 21 = .ok (.dup, 1) := by decide +kernel
theorem dX9_opens_22 : decode cX9_opens 22 = .ok (.getfield 106, 3) := by decide +kernel
theorem dX9_opens_25 : decode cX9_opens 25 = .ok (.iconst 1, 1) := by decide +kernel
theorem dX9_opens_26 : decode cX9_opens 26 = .ok (.iadd, 1) := by decide +kernel
theorem dX9_opens_27 : decode cX9_opens 27 = .ok (.putfield 106, 3) := by decide +kernel
theorem dX9_opens_30 : decode cX9_opens 30 = .ok (.iconst 1, 1) := by decide +kernel
theorem dX9_opens_31 : decode cX9_opens 31 = .ok (.ireturn, 1) := by decide +kernel
theorem dX9_one_0 : decode cX9_one 0 = .ok (.aload_n 0, 1) := by decide +kernel
theorem dX9_one_1 : decode cX9_one 1 = .ok (.invokevirtual 120, 3) := by decide +kernel
theorem dX9_one_4 : decode cX9_one 4 = .ok (.istore_n 1, 1) := by decide +kernel
theorem dX9_one_5 : decode cX9_one 5 = .ok (.aload_n 0, 1) := by decide +kernel
theorem dX9_one_6 : decode cX9_one 6 = .ok (.iload_n 1, 1) := by decide +kernel
theorem dX9_one_7 : decode cX9_one 7 = .ok (.invokevirtual 143, 3) := by decide +kernel
theorem dX9_one_10 : decode cX9_one 10 = .ok (.ifCond .eq 21, 3) := by decide +kernel
theorem dX9_one_13 : decode cX9_one 13 = .ok (.aload_n 0, 1) := by decide +kernel
theorem dX9_one_14 : decode cX9_one 14 = .ok (.dup, 1) := by decide +kernel
theorem dX9_one_15 : decode cX9_one 15 = .ok (.getfield 106, 3) := by decide +kernel
theorem dX9_one_18 : decode cX9_one 18 = .ok (.iconst 1, 1) := by decide +kernel
theorem dX9_one_19 : decode cX9_one 19 = .ok (.iadd, 1) := by decide +kernel
theorem dX9_one_20 : decode cX9_one 20 = .ok (.putfield 106, 3) := by decide +kernel
theorem dX9_one_23 : decode cX9_one 23 = .ok (.aload_n 0, 1) := by decide +kernel
theorem dX9_one_24 : decode cX9_one 24 = .ok (.iconst 1, 1) := by decide +kernel
theorem dX9_one_25 : decode cX9_one 25 = .ok (.iload_n 1, 1) := by decide +kernel
theorem dX9_one_26 : decode cX9_one 26 = .ok (.invokevirtual 124, 3) := by decide +kernel
theorem dX9_one_29 : decode cX9_one 29 = .ok (.iconst 1, 1) := by decide +kernel
theorem dX9_one_30 : decode cX9_one 30 = .ok (.ireturn, 1) := by decide +kernel
theorem dX9_one_31 : decode cX9_one 31 = .ok (.iload_n 1, 1) := by decide +kernel
theorem dX9_one_32 : decode cX9_one 32 = .ok (.bipush 48, 2) := by decide +kernel
theorem dX9_one_34 : decode cX9_one 34 = .ok (.bipush 57, 2) := by decide +kernel
theorem dX9_one_36 : decode cX9_one 36 = .ok (.invokestatic 63, 3) := by decide +kernel
theorem dX9_one_39 : decode cX9_one 39 = .ok (.ifCond .eq 63, 3) := by decide +kernel
theorem dX9_one_42 : decode cX9_one 42 = .ok (.iconst 0, 1) := by decide +kernel
theorem dX9_one_43 : decode cX9_one 43 = .ok (.istore_n 2, 1) := by decide +kernel
theorem dX9_one_44 : decode cX9_one 44 = .ok (.iconst 0, 1) := by decide +kernel
theorem dX9_one_45 : decode cX9_one 45 = .ok (.istore_n 3, 1) := by decide +kernel
theorem dX9_one_46 : decode cX9_one 46 = .ok (.iload_n 3, 1) := by decide +kernel
theorem dX9_one_47 : decode cX9_one 47 = .ok (.iconst 4, 1) := by decide +kernel
theorem dX9_one_48 : decode cX9_one 48 = .ok (.if_icmp .ge 46, 3) := by decide +kernel
theorem dX9_one_51 : decode cX9_one 51 = .ok (.aload_n 0, 1) := by decide +kernel
theorem dX9_one_52 : decode cX9_one 52 = .ok (.invokevirtual 120, 3) := by decide +kernel
theorem dX9_one_55 : decode cX9_one 55 = .ok (.bipush 48, 2) := by decide +kernel
theorem dX9_one_57 : decode cX9_one 57 = .ok (.bipush 57, 2) := by decide +kernel
theorem dX9_one_59 : decode cX9_one 59 = .ok (.invokestatic 63, 3) := by decide +kernel
theorem dX9_one_62 : decode cX9_one 62 = .ok (.ifCond .eq 32, 3) := by decide +kernel
theorem dX9_one_65 : decode cX9_one 65 = .ok (.bipush 10, 2) := by decide +kernel
theorem dX9_one_67 : decode cX9_one 67 = .ok (.iload_n 2, 1) := by decide +kernel
theorem dX9_one_68 : decode cX9_one 68 = .ok (.imul, 1) := by decide +kernel
theorem dX9_one_69 : decode cX9_one 69 = .ok (.aload_n 0, 1) := by decide +kernel
theorem dX9_one_70 : decode cX9_one 70 = .ok (.invokevirtual 120, 3) := by decide +kernel
theorem dX9_one_73 : decode cX9_one 73 = .ok (.iadd, 1) := by decide +kernel
theorem dX9_one_74 : decode cX9_one 74 = .ok (.bipush 48, 2) := by decide +kernel
theorem dX9_one_76 : decode cX9_one 76 = .ok (.isub, 1) := by decide +kernel
theorem dX9_one_77 : decode cX9_one 77 = .ok (.istore_n 2, 1) := by decide +kernel
theorem dX9_one_78 : decode cX9_one 78 = .ok (.aload_n 0, 1) := by decide +kernel
theorem dX9_one_79 : decode cX9_one 79 = .ok (.dup, 1) := by decide +kernel
theorem dX9_one_80 : decode cX9_one 80 = .ok (.getfield 106, 3) := by decide +kernel
theorem dX9_one_83 : decode cX9_one 83 = .ok (.iconst 1, 1) := by decide +kernel
theorem dX9_one_84 : decode cX9_one 84 = .ok (.iadd, 1) := by decide +kernel
theorem dX9_one_85 : decode cX9_one 85 = .ok (.putfield 106, 3) := by decide +kernel
theorem dX9_one_88 : decode cX9_one 88 = .ok (.iinc 3 1, 3) := by decide +kernel
theorem dX9_one_91 : decode cX9_one 91 = .ok (.goto (-45), 3) := by decide +kernel
theorem dX9_one_94 : decode cX9_one 94 = .ok (.aload_n 0, 1) := by decide +kernel
theorem dX9_one_95 : decode cX9_one 95 = .ok (.iconst 0, 1) := by decide +kernel
theorem dX9_one_96 : decode cX9_one 96 = .ok (.iload_n 2, 1) := by decide +kernel
theorem dX9_one_97 : decode cX9_one 97 = .ok (.invokevirtual 124, 3) := by decide +kernel
theorem dX9_one_100 : decode cX9_one 100 = .ok (.iconst 1, 1) := by decide +kernel
theorem dX9_one_101 : decode cX9_one 101 = .ok (.ireturn, 1) := by decide +kernel
theorem dX9_one_102 : decode cX9_one 102 = .ok (.iload_n 1, 1) := by decide +kernel
theorem dX9_one_103 : decode cX9_one 103 = .ok (.bipush 33, 2) := by decide +kernel
theorem dX9_one_105 : decode cX9_one 105 = .ok (.if_icmp .ne 37, 3) := by decide +kernel
theorem dX9_one_108 : decode cX9_one 108 = .ok (.aload_n 0, 1) := by decide +kernel
theorem dX9_one_109 : decode cX9_one 109 = .ok (.invokevirtual 146, 3) := by decide +kernel
theorem dX9_one_112 : decode cX9_one 112 = .ok (.ifCond .eq 10, 3) := by decide +kernel
theorem dX9_one_115 : decode cX9_one 115 = .ok (.aload_n 0, 1) := by decide +kernel
theorem dX9_one_116 : decode cX9_one 116 = .ok (.invokevirtual 137, 3) := by decide +kernel
theorem dX9_one_119 : decode cX9_one 119 = .ok (.ifCond .ne 5, 3) := by decide +kernel
theorem dX9_one_122 : decode cX9_one 122 = .ok (.iconst 0, 1) := by decide +kernel
theorem dX9_one_123 : decode cX9_one 123 = .ok (.ireturn, 1) := by decide +kernel
theorem dX9_one_124 : decode cX9_one 124 = .ok (.aload_n 0, 1) := by decide +kernel
theorem dX9_one_125 : decode cX9_one 125 = .ok (.dup, 1) := by decide +kernel
theorem dX9_one_126 : decode cX9_one 126 = .ok (.getfield 140, 3) := by decide +kernel
theorem dX9_one_129 : decode cX9_one 129 = .ok (.iconst 1, 1) := by decide +kernel
theorem dX9_one_130 : decode cX9_one 130 = .ok (.isub, 1) := by decide +kernel
theorem dX9_one_131 : decode cX9_one 131 = .ok (.putfield 140, 3) := by decide +kernel
theorem dX9_one_134 : decode cX9_one 134 = .ok (.aload_n 0, 1) := by decide +kernel
theorem dX9_one_135 : decode cX9_one 135 = .ok (.iconst 2, 1) := by decide +kernel
theorem dX9_one_136 : decode cX9_one 136 = .ok (.iconst 0, 1) := by decide +kernel
theorem dX9_one_137 : decode cX9_one 137 = .ok (.invokevirtual 124, 3) := by decide +kernel
theorem dX9_one_140 : decode cX9_one 140 = .ok (.iconst 1, 1) := by decide +kernel
theorem dX9_one_141 : decode cX9_one 141 = .ok (.ireturn, 1) := by decide +kernel
theorem dX9_one_142 : decode cX9_one 142 = .ok (.iload_n 1, 1) := by decide +kernel
theorem dX9_one_143 : decode cX9_one 143 = .ok (.bipush 40, 2) := by decide +kernel
theorem dX9_one_145 : decode cX9_one 145 = .ok (.if_icmp .ne 26, 3) := by decide +kernel
theorem dX9_one_148 : decode cX9_one 148 = .ok (.aload_n 0, 1) := by decide +kernel
theorem dX9_one_149 : decode cX9_one 149 = .ok (.invokevirtual 146, 3) := by decide +kernel
theorem dX9_one_152 : decode cX9_one 152 = .ok (.ifCond .eq 19, 3) := by decide +kernel
theorem dX9_one_155 : decode cX9_one 155 = .ok (.aload_n 0, 1) := by decide +kernel
theorem dX9_one_156 : decode cX9_one 156 = .ok (.invokevirtual 149, 3) := by decide +kernel
theorem dX9_one_159 : decode cX9_one 159 = .ok (.ifCond .eq 12, 3) := by decide +kernel
theorem dX9_one_162 : decode cX9_one 162 = .ok (.aload_n 0, 1) := by decide +kernel
theorem dX9_one_163 : decode cX9_one 163 = .ok (.invokevirtual 120, 3) := by decide +kernel
theorem dX9_one_166 : decode cX9_one 166 = .ok (.bipush 41, 2) := by decide +kernel
theorem dX9_one_168 : decode cX9_one 168 = .ok (.if_icmp .eq 5, 3) := by decide +kernel
theorem dX9_one_171 : decode cX9_one 171 = .ok (.iconst 0, 1) := by decide +kernel
theorem dX9_one_172 : decode cX9_one 172 = .ok (.ireturn, 1) := by decide +kernel
theorem dX9_one_173 : decode cX9_one 173 = .ok (.aload_n 0, 1) := by decide +kernel
theorem dX9_one_174 : decode cX9_one 174 = .ok (.dup, 1) := by decide +kernel
theorem dX9_one_175 : decode cX9_one 175 = .ok (.getfield 106, 3) := by decide +kernel
theorem dX9_one_178 : decode cX9_one 178 = .ok (.iconst 1, 1) := by decide +kernel
theorem dX9_one_179 : decode cX9_one 179 = .ok (.iadd, 1) := by decide +kernel
theorem dX9_one_180 : decode cX9_one 180 = .ok (.putfield 106, 3) := by decide +kernel
theorem dX9_one_183 : decode cX9_one 183 = .ok (.aload_n 0, 1) := by decide +kernel
theorem dX9_one_184 : decode cX9_one 184 = .ok (.dup, 1) := by decide +kernel
theorem dX9_one_185 : decode cX9_one 185 = .ok (.getfield 140, 3) := by decide +kernel
theorem dX9_one_188 : decode cX9_one 188 = .ok (.iconst 1, 1) := by decide +kernel
theorem dX9_one_189 : decode cX9_one 189 = .ok (.isub, 1) := by decide +kernel
theorem dX9_one_190 : decode cX9_one 190 = .ok (.putfield 140, 3) := by decide +kernel
theorem dX9_one_193 : decode cX9_one 193 = .ok (.iconst 1, 1) := by decide +kernel
theorem dX9_one_194 : decode cX9_one 194 = .ok (.ireturn, 1) := by decide +kernel
theorem dX9_hasText_0 : decode cX9_hasText 0 = .ok (.aload_n 0, 1) := by decide +kernel
theorem dX9_hasText_1 : decode cX9_hasText 1 = .ok (.getfield 7, 3) := by decide +kernel
theorem dX9_hasText_4 : decode cX9_hasText 4 = .ok (.bipush 84, 2) := by decide +kernel
theorem dX9_hasText_6 : decode cX9_hasText 6 = .ok (.bipush 125, 2) := by decide +kernel
theorem dX9_hasText_8 : decode cX9_hasText 8 = .ok (.iload_n 1, 1) := by decide +kernel
theorem dX9_hasText_9 : decode cX9_hasText 9 = .ok (.imul, 1) := by decide +kernel
theorem dX9_hasText_10 : decode cX9_hasText 10 = .ok (.iadd, 1) := by decide +kernel
theorem dX9_hasText_11 : decode cX9_hasText 11 = .ok (.iaload, 1) := by decide +kernel
theorem dX9_hasText_12 : decode cX9_hasText 12 = .ok (.ifCond .le 7, 3) := by decide +kernel
theorem dX9_hasText_15 : decode cX9_hasText 15 = .ok (.iconst 1, 1) := by decide +kernel
theorem dX9_hasText_16 : decode cX9_hasText 16 = .ok (.goto 4, 3) := by decide +kernel
theorem dX9_hasText_19 : decode cX9_hasText 19 = .ok (.iconst 0, 1) := by decide +kernel
theorem dX9_hasText_20 : decode cX9_hasText 20 = .ok (.ireturn, 1) := by decide +kernel
theorem dX9_text_0 : decode cX9_text 0 = .ok (.iload_n 1, 1) := by decide +kernel
theorem dX9_text_1 : decode cX9_text 1 = .ok (.iconst 0, 1) := by decide +kernel
theorem dX9_text_2 : decode cX9_text 2 = .ok (.iconst 1, 1) := by decide +kernel
theorem dX9_text_3 : decode cX9_text 3 = .ok (.invokestatic 63, 3) := by decide +kernel
theorem dX9_text_6 : decode cX9_text 6 = .ok (.ifCond .ne 9, 3) := by decide +kernel
theorem dX9_text_9 : decode cX9_text 9 = .ok (.aload_n 0, 1) := by decide +kernel
theorem dX9_text_10 : decode cX9_text 10 = .ok (.iconst 1, 1) := by decide +kernel
theorem dX9_text_11 : decode cX9_text 11 = .ok (.invokevirtual 83, 3) := by decide +kernel
theorem dX9_text_14 : decode cX9_text 14 = .ok (.ireturn, 1) := by decide +kernel
theorem dX9_text_15 : decode cX9_text 15 = .ok (.aload_n 0, 1) := by decide +kernel
theorem dX9_text_16 : decode cX9_text 16 = .ok (.iload_n 1, 1) := by decide +kernel
theorem dX9_text_17 : decode cX9_text 17 = .ok (.putfield 110, 3) := by decide +kernel
theorem dX9_text_20 : decode cX9_text 20 = .ok (.aload_n 0, 1) := by decide +kernel
theorem dX9_text_21 : decode cX9_text 21 = .ok (.iconst 0, 1) := by decide +kernel
theorem dX9_text_22 : decode cX9_text 22 = .ok (.putfield 106, 3) := by decide +kernel
theorem dX9_text_25 : decode cX9_text 25 = .ok (.aload_n 0, 1) := by decide +kernel
theorem dX9_text_26 : decode cX9_text 26 = .ok (.iconst 0, 1) := by decide +kernel
theorem dX9_text_27 : decode cX9_text 27 = .ok (.putfield 140, 3) := by decide +kernel
theorem dX9_text_30 : decode cX9_text 30 = .ok (.aload_n 0, 1) := by decide +kernel
theorem dX9_text_31 : decode cX9_text 31 = .ok (.iconst 0, 1) := by decide +kernel
theorem dX9_text_32 : decode cX9_text 32 = .ok (.putfield 113, 3) := by decide +kernel
theorem dX9_text_35 : decode cX9_text 35 = .ok (.aload_n 0, 1) := by decide +kernel
theorem dX9_text_36 : decode cX9_text 36 = .ok (.invokevirtual 149, 3) := by decide +kernel
theorem dX9_text_39 : decode cX9_text 39 = .ok (.ifCond .eq 21, 3) := by decide +kernel
theorem dX9_text_42 : decode cX9_text 42 = .ok (.aload_n 0, 1) := by decide +kernel
theorem dX9_text_43 : decode cX9_text 43 = .ok (.getfield 106, 3) := by decide +kernel
theorem dX9_text_46 : decode cX9_text 46 = .ok (.aload_n 0, 1) := by decide +kernel
theorem dX9_text_47 : decode cX9_text 47 = .ok (.getfield 7, 3) := by decide +kernel
theorem dX9_text_50 : decode cX9_text 50 = .ok (.bipush 6, 2) := by decide +kernel
theorem dX9_text_52 : decode cX9_text 52 = .ok (.iaload, 1) := by decide +kernel
theorem dX9_text_53 : decode cX9_text 53 = .ok (.if_icmp .ne 7, 3) := by decide +kernel
theorem dX9_text_56 : decode cX9_text 56 = .ok (.iconst 1, 1) := by decide +kernel
theorem dX9_text_57 : decode cX9_text 57 = .ok (.goto 4, 3) := by decide +kernel
theorem dX9_text_60 : decode cX9_text 60 = .ok (.iconst 0, 1) := by decide +kernel
theorem dX9_text_61 : decode cX9_text 61 = .ok (.istore_n 2, 1) := by decide +kernel
theorem dX9_text_62 : decode cX9_text 62 = .ok (.aload_n 0, 1) := by decide +kernel
theorem dX9_text_63 : decode cX9_text 63 = .ok (.getfield 7, 3) := by decide +kernel
theorem dX9_text_66 : decode cX9_text 66 = .ok (.bipush 6, 2) := by decide +kernel
theorem dX9_text_68 : decode cX9_text 68 = .ok (.iconst 0, 1) := by decide +kernel
theorem dX9_text_69 : decode cX9_text 69 = .ok (.iastore, 1) := by decide +kernel
theorem dX9_text_70 : decode cX9_text 70 = .ok (.iload_n 2, 1) := by decide +kernel
theorem dX9_text_71 : decode cX9_text 71 = .ok (.ifCond .ne 11, 3) := by decide +kernel
theorem dX9_text_74 : decode cX9_text 74 = .ok (.bipush (-10), 2) := by decide +kernel
theorem dX9_text_76 : decode cX9_text 76 = .ok (.aload_n 0, 1) := by decide +kernel
theorem dX9_text_77 : decode cX9_text 77 = .ok (.getfield 106, 3) := by decide +kernel
theorem dX9_text_80 : decode cX9_text 80 = .ok (.isub, 1) := by decide +kernel
theorem dX9_text_81 : decode cX9_text 81 = .ok (.ireturn, 1) := by decide +kernel
theorem dX9_text_82 : decode cX9_text 82 = .ok (.bipush 84, 2) := by decide +kernel
theorem dX9_text_84 : decode cX9_text 84 = .ok (.bipush 125, 2) := by decide +kernel
theorem dX9_text_86 : decode cX9_text 86 = .ok (.iload_n 1, 1) := by decide +kernel
theorem dX9_text_87 : decode cX9_text 87 = .ok (.imul, 1) := by decide +kernel
theorem dX9_text_88 : decode cX9_text 88 = .ok (.iadd, 1) := by decide +kernel
theorem dX9_text_89 : decode cX9_text 89 = .ok (.istore_n 3, 1) := by decide +kernel
theorem dX9_text_90 : decode cX9_text 90 = .ok (.aload_n 0, 1) := by decide +kernel
theorem dX9_text_91 : decode cX9_text 91 = .ok (.getfield 7, 3) := by decide +kernel
theorem dX9_text_94 : decode cX9_text 94 = .ok (.iload_n 3, 1) := by decide +kernel
theorem dX9_text_95 : decode cX9_text 95 = .ok (.aload_n 0, 1) := by decide +kernel
theorem dX9_text_96 : decode cX9_text 96 = .ok (.getfield 113, 3) := by decide +kernel
theorem dX9_text_99 : decode cX9_text 99 = .ok (.iastore, 1) := by decide +kernel
theorem dX9_text_100 : decode cX9_text 100 = .ok (.iconst 0, 1) := by decide +kernel
theorem dX9_text_101 : decode cX9_text 101 = .ok (.istore 4, 2) := by decide +kernel
theorem dX9_text_103 : decode cX9_text 103 = .ok (.iload 4, 2) := by decide +kernel
theorem dX9_text_105 : decode cX9_text 105 = .ok (.iconst 2, 1) := by decide +kernel
theorem dX9_text_106 : decode cX9_text 106 = .ok (.aload_n 0, 1) := by decide +kernel
theorem dX9_text_107 : decode cX9_text 107 = .ok (.getfield 113, 3) := by decide +kernel
theorem dX9_text_110 : decode cX9_text 110 = .ok (.imul, 1) := by decide +kernel
theorem dX9_text_111 : decode cX9_text 111 = .ok (.if_icmp .ge 27, 3) := by decide +kernel
theorem dX9_text_114 : decode cX9_text 114 = .ok (.aload_n 0, 1) := by decide +kernel
theorem dX9_text_115 : decode cX9_text 115 = .ok (.getfield 7, 3) := by decide +kernel
theorem dX9_text_118 : decode cX9_text 118 = .ok (.iload_n 3, 1) := by decide +kernel
theorem dX9_text_119 : decode cX9_text 119 = .ok (.iconst 1, 1) := by decide +kernel
theorem dX9_text_120 : decode cX9_text 120 = .ok (.iadd, 1) := by decide +kernel
theorem dX9_text_121 : decode cX9_text 121 = .ok (.iload 4, 2) := by decide +kernel
theorem dX9_text_123 : decode cX9_text 123 = .ok (.iadd, 1) := by decide +kernel
theorem dX9_text_124 : decode cX9_text 124 = .ok (.aload_n 0, 1) := by decide +kernel
theorem dX9_text_125 : decode cX9_text 125 = .ok (.getfield 22, 3) := by decide +kernel
theorem dX9_text_128 : decode cX9_text 128 = .ok (.iload 4, 2) := by decide +kernel
theorem dX9_text_130 : decode cX9_text 130 = .ok (.iaload, 1) := by decide +kernel
theorem dX9_text_131 : decode cX9_text 131 = .ok (.iastore, 1) := by decide +kernel
theorem dX9_text_132 : decode cX9_text 132 = .ok (.iinc 4 1, 3) := by decide +kernel
theorem dX9_text_135 : decode cX9_text 135 = .ok (.goto (-32), 3) := by decide +kernel
theorem dX9_text_138 : decode cX9_text 138 = .ok (.iconst 1, 1) := by decide +kernel
theorem dX9_text_139 : decode cX9_text 139 = .ok (.ireturn, 1) := by decide +kernel
theorem dX9_untell_0 : decode cX9_untell 0 = .ok (.iload_n 1, 1) := by decide +kernel
theorem dX9_untell_1 : decode cX9_untell 1 = .ok (.iconst 0, 1) := by decide +kernel
theorem dX9_untell_2 : decode cX9_untell 2 = .ok (.iconst 1, 1) := by decide +kernel
theorem dX9_untell_3 : decode cX9_untell 3 = .ok (.invokestatic 63, 3) := by decide +kernel
theorem dX9_untell_6 : decode cX9_untell 6 = .ok (.ifCond .ne 9, 3) := by decide +kernel
theorem dX9_untell_9 : decode cX9_untell 9 = .ok (.aload_n 0, 1) := by decide +kernel
theorem dX9_untell_10 : decode cX9_untell 10 = .ok (.iconst 1, 1) := by decide +kernel
theorem dX9_untell_11 : decode cX9_untell 11 = .ok (.invokevirtual 83, 3) := by decide +kernel
theorem dX9_untell_14 : decode cX9_untell 14 = .ok (.ireturn, 1) := by decide +kernel
theorem dX9_untell_15 : decode cX9_untell 15 = .ok (.aload_n 0, 1) := by decide +kernel
theorem dX9_untell_16 : decode cX9_untell 16 = .ok (.iload_n 1, 1) := by decide +kernel
theorem dX9_untell_17 : decode cX9_untell 17 = .ok (.invokevirtual 152, 3) := by decide +kernel
theorem dX9_untell_20 : decode cX9_untell 20 = .ok (.ifCond .eq 7, 3) := by decide +kernel
theorem dX9_untell_23 : decode cX9_untell 23 = .ok (.iconst 1, 1) := by decide +kernel
theorem dX9_untell_24 : decode cX9_untell 24 = .ok (.goto 4, 3) := by decide +kernel
theorem dX9_untell_27 : decode cX9_untell 27 = .ok (.iconst 0, 1) := by decide +kernel
theorem dX9_untell_28 : decode cX9_untell 28 = .ok (.istore_n 2, 1) := by decide +kernel
theorem dX9_untell_29 : decode cX9_untell 29 = .ok (.aload_n 0, 1) := by decide +kernel
theorem dX9_untell_30 : decode cX9_untell 30 = .ok (.getfield 7, 3) := by decide +kernel
theorem dX9_untell_33 : decode cX9_untell 33 = .ok (.bipush 84, 2) := by decide +kernel
theorem dX9_untell_35 : decode cX9_untell 35 = .ok (.bipush 125, 2) := by decide +kernel
theorem dX9_untell_37 : decode cX9_untell 37 = .ok (.iload_n 1, 1) := by decide +kernel
theorem dX9_untell_38 : decode cX9_untell 38 = .ok (.imul, 1) := by decide +kernel
theorem dX9_untell_39 : decode cX9_untell 39 = .ok (.iadd, 1) := by decide +kernel
theorem dX9_untell_40 : decode cX9_untell 40 = .ok (.iconst 0, 1) := by decide +kernel
theorem dX9_untell_41 : decode cX9_untell 41 = .ok (.iastore, 1) := by decide +kernel
theorem dX9_untell_42 : decode cX9_untell 42 = .ok (.iload_n 2, 1) := by decide +kernel
theorem dX9_untell_43 : decode cX9_untell 43 = .ok (.ireturn, 1) := by decide +kernel
theorem dX9_joined_0 : decode cX9_joined 0 = .ok (.iload_n 0, 1) := by decide +kernel
theorem dX9_joined_1 : decode cX9_joined 1 = .ok (.tableswitch 217 37 62 #[153, 203, 217, 217, 217, 127, 119, 217, 123, 217, 131, 217, 217, 217, 217, 217, 217, 217, 217, 217, 217, 217, 217, 170, 192, 181], 119) := by decide +kernel
theorem dX9_joined_120 : decode cX9_joined 120 = .ok (.iload_n 1, 1) := by decide +kernel
theorem dX9_joined_121 : decode cX9_joined 121 = .ok (.iload_n 2, 1) := by decide +kernel
theorem dX9_joined_122 : decode cX9_joined 122 = .ok (.iadd, 1) := by decide +kernel
theorem dX9_joined_123 : decode cX9_joined 123 = .ok (.ireturn, 1) := by decide +kernel
theorem dX9_joined_124 : decode cX9_joined 124 = .ok (.iload_n 1, 1) := by decide +kernel
theorem dX9_joined_125 : decode cX9_joined 125 = .ok (.iload_n 2, 1) := by decide +kernel
theorem dX9_joined_126 : decode cX9_joined 126 = .ok (.isub, 1) := by decide +kernel
theorem dX9_joined_127 : decode cX9_joined 127 = .ok (.ireturn, 1) := by decide +kernel
theorem dX9_joined_128 : decode cX9_joined 128 = .ok (.iload_n 1, 1) := by decide +kernel
theorem dX9_joined_129 : decode cX9_joined 129 = .ok (.iload_n 2, 1) := by decide +kernel
theorem dX9_joined_130 : decode cX9_joined 130 = .ok (.imul, 1) := by decide +kernel
theorem dX9_joined_131 : decode cX9_joined 131 = .ok (.ireturn, 1) := by decide +kernel
theorem dX9_joined_132 : decode cX9_joined 132 = .ok (.iload_n 2, 1) := by decide +kernel
theorem dX9_joined_133 : decode cX9_joined 133 = .ok (.ifCond .ne 7, 3) := by decide +kernel
theorem dX9_joined_136 : decode cX9_joined 136 = .ok (.iconst 0, 1) := by decide +kernel
theorem dX9_joined_137 : decode cX9_joined 137 = .ok (.goto 16, 3) := by decide +kernel
theorem dX9_joined_140 : decode cX9_joined 140 = .ok (.iload_n 2, 1) := by decide +kernel
theorem dX9_joined_141 : decode cX9_joined 141 = .ok (.iconst (-1), 1) := by decide +kernel
theorem dX9_joined_142 : decode cX9_joined 142 = .ok (.if_icmp .ne 8, 3) := by decide +kernel
theorem dX9_joined_145 : decode cX9_joined 145 = .ok (.iload_n 1, 1) := by decide +kernel
theorem dX9_joined_146 : decode cX9_joined 146 = .ok (.ineg, 1) := by decide +kernel
theorem dX9_joined_147 : decode cX9_joined 147 = .ok (.goto 6, 3) := by decide +kernel
theorem dX9_joined_150 : decode cX9_joined 150 = .ok (.iload_n 1, 1) := by decide +kernel
theorem dX9_joined_151 : decode cX9_joined 151 = .ok (.iload_n 2, 1) := by decide +kernel
theorem dX9_joined_152 : decode cX9_joined 152 = .ok (.idiv, 1) := by decide +kernel
theorem dX9_joined_153 : decode cX9_joined 153 = .ok (.ireturn, 1) := by decide +kernel
theorem dX9_joined_154 : decode cX9_joined 154 = .ok (.iload_n 2, 1) := by decide +kernel
theorem dX9_joined_155 : decode cX9_joined 155 = .ok (.ifCond .eq 8, 3) := by decide +kernel
theorem dX9_joined_158 : decode cX9_joined 158 = .ok (.iload_n 2, 1) := by decide +kernel
theorem dX9_joined_159 : decode cX9_joined 159 = .ok (.iconst (-1), 1) := by decide +kernel
theorem dX9_joined_160 : decode cX9_joined 160 = .ok (.if_icmp .ne 7, 3) := by decide +kernel
theorem dX9_joined_163 : decode cX9_joined 163 = .ok (.iconst 0, 1) := by decide +kernel
theorem dX9_joined_164 : decode cX9_joined 164 = .ok (.goto 6, 3) := by decide +kernel
theorem dX9_joined_167 : decode cX9_joined 167 = .ok (.iload_n 1, 1) := by decide +kernel
theorem dX9_joined_168 : decode cX9_joined 168 = .ok (.iload_n 2, 1) := by decide +kernel
theorem dX9_joined_169 : decode cX9_joined 169 = .ok (.irem, 1) := by decide +kernel
theorem dX9_joined_170 : decode cX9_joined 170 = .ok (.ireturn, 1) := by decide +kernel
theorem dX9_joined_171 : decode cX9_joined 171 = .ok (.iload_n 1, 1) := by decide +kernel
theorem dX9_joined_172 : decode cX9_joined 172 = .ok (.iload_n 2, 1) := by decide +kernel
theorem dX9_joined_173 : decode cX9_joined 173 = .ok (.if_icmp .ge 7, 3) := by decide +kernel
theorem dX9_joined_176 : decode cX9_joined 176 = .ok (.iconst 1, 1) := by decide +kernel
theorem dX9_joined_177 : decode cX9_joined 177 = .ok (.goto 4, 3) := by decide +kernel
theorem dX9_joined_180 : decode cX9_joined 180 = .ok (.iconst 0, 1) := by decide +kernel
theorem dX9_joined_181 : decode cX9_joined 181 = .ok (.ireturn, 1) := by decide +kernel
theorem dX9_joined_182 : decode cX9_joined 182 = .ok (.iload_n 1, 1) := by decide +kernel
theorem dX9_joined_183 : decode cX9_joined 183 = .ok (.iload_n 2, 1) := by decide +kernel
theorem dX9_joined_184 : decode cX9_joined 184 = .ok (.if_icmp .le 7, 3) := by decide +kernel
theorem dX9_joined_187 : decode cX9_joined 187 = .ok (.iconst 1, 1) := by decide +kernel
theorem dX9_joined_188 : decode cX9_joined 188 = .ok (.goto 4, 3) := by decide +kernel
theorem dX9_joined_191 : decode cX9_joined 191 = .ok (.iconst 0, 1) := by decide +kernel
theorem dX9_joined_192 : decode cX9_joined 192 = .ok (.ireturn, 1) := by decide +kernel
theorem dX9_joined_193 : decode cX9_joined 193 = .ok (.iload_n 1, 1) := by decide +kernel
theorem dX9_joined_194 : decode cX9_joined 194 = .ok (.iload_n 2, 1) := by decide +kernel
theorem dX9_joined_195 : decode cX9_joined 195 = .ok (.if_icmp .ne 7, 3) := by decide +kernel
theorem dX9_joined_198 : decode cX9_joined 198 = .ok (.iconst 1, 1) := by decide +kernel
theorem dX9_joined_199 : decode cX9_joined 199 = .ok (.goto 4, 3) := by decide +kernel
theorem dX9_joined_202 : decode cX9_joined 202 = .ok (.iconst 0, 1) := by decide +kernel
theorem dX9_joined_203 : decode cX9_joined 203 = .ok (.ireturn, 1) := by decide +kernel
theorem dX9_joined_204 : decode cX9_joined 204 = .ok (.iload_n 1, 1) := by decide +kernel
theorem dX9_joined_205 : decode cX9_joined 205 = .ok (.ifCond .eq 11, 3) := by decide +kernel
theorem dX9_joined_208 : decode cX9_joined 208 = .ok (.iload_n 2, 1) := by decide +kernel
theorem dX9_joined_209 : decode cX9_joined 209 = .ok (.ifCond .eq 7, 3) := by decide +kernel
theorem dX9_joined_212 : decode cX9_joined 212 = .ok (.iconst 1, 1) := by decide +kernel
theorem dX9_joined_213 : decode cX9_joined 213 = .ok (.goto 4, 3) := by decide +kernel
theorem dX9_joined_216 : decode cX9_joined 216 = .ok (.iconst 0, 1) := by decide +kernel
theorem dX9_joined_217 : decode cX9_joined 217 = .ok (.ireturn, 1) := by decide +kernel
theorem dX9_joined_218 : decode cX9_joined 218 = .ok (.iload_n 1, 1) := by decide +kernel
theorem dX9_joined_219 : decode cX9_joined 219 = .ok (.ifCond .ne 7, 3) := by decide +kernel
theorem dX9_joined_222 : decode cX9_joined 222 = .ok (.iload_n 2, 1) := by decide +kernel
theorem dX9_joined_223 : decode cX9_joined 223 = .ok (.ifCond .eq 7, 3) := by decide +kernel
theorem dX9_joined_226 : decode cX9_joined 226 = .ok (.iconst 1, 1) := by decide +kernel
theorem dX9_joined_227 : decode cX9_joined 227 = .ok (.goto 4, 3) := by decide +kernel
theorem dX9_joined_230 : decode cX9_joined 230 = .ok (.iconst 0, 1) := by decide +kernel
theorem dX9_joined_231 : decode cX9_joined 231 = .ok (.ireturn, 1) := by decide +kernel
theorem dX9_worked_0 : decode cX9_worked 0 = .ok (.bipush 84, 2) := by decide +kernel
theorem dX9_worked_2 : decode cX9_worked 2 = .ok (.bipush 125, 2) := by decide +kernel
theorem dX9_worked_4 : decode cX9_worked 4 = .ok (.iload_n 1, 1) := by decide +kernel
theorem dX9_worked_5 : decode cX9_worked 5 = .ok (.imul, 1) := by decide +kernel
theorem dX9_worked_6 : decode cX9_worked 6 = .ok (.iadd, 1) := by decide +kernel
theorem dX9_worked_7 : decode cX9_worked 7 = .ok (.istore_n 2, 1) := by decide +kernel
theorem dX9_worked_8 : decode cX9_worked 8 = .ok (.iconst 0, 1) := by decide +kernel
theorem dX9_worked_9 : decode cX9_worked 9 = .ok (.istore_n 3, 1) := by decide +kernel
theorem dX9_worked_10 : decode cX9_worked 10 = .ok (.iconst 0, 1) := by decide +kernel
theorem dX9_worked_11 : decode cX9_worked 11 = .ok (.istore 4, 2) := by decide +kernel
theorem dX9_worked_13 : decode cX9_worked 13 = .ok (.iload 4, 2) := by decide +kernel
theorem dX9_worked_15 : decode cX9_worked 15 = .ok (.aload_n 0, 1) := by decide +kernel
theorem dX9_worked_16 : decode cX9_worked 16 = .ok (.getfield 7, 3) := by decide +kernel
theorem dX9_worked_19 : decode cX9_worked 19 = .ok (.iload_n 2, 1) := by decide +kernel
theorem dX9_worked_20 : decode cX9_worked 20 = .ok (.iaload, 1) := by decide +kernel
theorem dX9_worked_21 : decode cX9_worked 21 = .ok (.if_icmp .ge 142, 3) := by decide +kernel
theorem dX9_worked_24 : decode cX9_worked 24 = .ok (.aload_n 0, 1) := by decide +kernel
theorem dX9_worked_25 : decode cX9_worked 25 = .ok (.getfield 7, 3) := by decide +kernel
theorem dX9_worked_28 : decode cX9_worked 28 = .ok (.iload_n 2, 1) := by decide +kernel
theorem dX9_worked_29 : decode cX9_worked 29 = .ok (.iconst 1, 1) := by decide +kernel
theorem dX9_worked_30 : decode cX9_worked 30 = .ok (.iadd, 1) := by decide +kernel
theorem dX9_worked_31 : decode cX9_worked 31 = .ok (.iconst 2, 1) := by decide +kernel
theorem dX9_worked_32 : decode cX9_worked 32 = .ok (.iload 4, 2) := by decide +kernel
theorem dX9_worked_34 : decode cX9_worked 34 = .ok (.imul, 1) := by decide +kernel
theorem dX9_worked_35 : decode cX9_worked 35 = .ok (.iadd, 1) := by decide +kernel
theorem dX9_worked_36 : decode cX9_worked 36 = .ok (.iaload, 1) := by decide +kernel
theorem dX9_worked_37 : decode cX9_worked 37 = .ok (.istore 5, 2) := by decide +kernel
theorem dX9_worked_39 : decode cX9_worked 39 = .ok (.aload_n 0, 1) := by decide +kernel
theorem dX9_worked_40 : decode cX9_worked 40 = .ok (.getfield 7, 3) := by decide +kernel
theorem dX9_worked_43 : decode cX9_worked 43 = .ok (.iload_n 2, 1) := by decide +kernel
theorem dX9_worked_44 : decode cX9_worked 44 = .ok (.iconst 2, 1) := by decide +kernel
theorem dX9_worked_45 : decode cX9_worked 45 = .ok (.iadd, 1) := by decide +kernel
theorem dX9_worked_46 : decode cX9_worked 46 = .ok (.iconst 2, 1) := by decide +kernel
theorem dX9_worked_47 : decode cX9_worked 47 = .ok (.iload 4, 2) := by decide +kernel
theorem dX9_worked_49 : decode cX9_worked 49 = .ok (.imul, 1) := by decide +kernel
theorem dX9_worked_50 : decode cX9_worked 50 = .ok (.iadd, 1) := by decide +kernel
theorem dX9_worked_51 : decode cX9_worked 51 = .ok (.iaload, 1) := by decide +kernel
theorem dX9_worked_52 : decode cX9_worked 52 = .ok (.istore 6, 2) := by decide +kernel
theorem dX9_worked_54 : decode cX9_worked 54 = .ok (.iload 5, 2) := by decide +kernel
theorem dX9_worked_56 : decode cX9_worked 56 = .ok (.ifCond .eq 9, 3) := by decide +kernel
theorem dX9_worked_59 : decode cX9_worked 59 = .ok (.iload 5, 2) := by decide +kernel
theorem dX9_worked_61 : decode cX9_worked 61 = .ok (.iconst 1, 1) := by decide +kernel
theorem dX9_worked_62 : decode cX9_worked 62 = .ok (.if_icmp .ne 32, 3) := by decide +kernel
theorem dX9_worked_65 : decode cX9_worked 65 = .ok (.aload_n 0, 1) := by decide +kernel
theorem dX9_worked_66 : decode cX9_worked 66 = .ok (.getfield 28, 3) := by decide +kernel
theorem dX9_worked_69 : decode cX9_worked 69 = .ok (.iload_n 3, 1) := by decide +kernel
theorem dX9_worked_70 : decode cX9_worked 70 = .ok (.iload 5, 2) := by decide +kernel
theorem dX9_worked_72 : decode cX9_worked 72 = .ok (.ifCond .ne 8, 3) := by decide +kernel
theorem dX9_worked_75 : decode cX9_worked 75 = .ok (.iload 6, 2) := by decide +kernel
theorem dX9_worked_77 : decode cX9_worked 77 = .ok (.goto 10, 3) := by decide +kernel
theorem dX9_worked_80 : decode cX9_worked 80 = .ok (.aload_n 0, 1) := by decide +kernel
theorem dX9_worked_81 : decode cX9_worked 81 = .ok (.getfield 25, 3) := by decide +kernel
theorem dX9_worked_84 : decode cX9_worked 84 = .ok (.iload 6, 2) := by decide +kernel
theorem dX9_worked_86 : decode cX9_worked 86 = .ok (.iaload, 1) := by decide +kernel
theorem dX9_worked_87 : decode cX9_worked 87 = .ok (.iastore, 1) := by decide +kernel
theorem dX9_worked_88 : decode cX9_worked 88 = .ok (.iinc 3 1, 3) := by decide +kernel
theorem dX9_worked_91 : decode cX9_worked 91 = .ok (.goto 66, 3) := by decide +kernel
theorem dX9_worked_94 : decode cX9_worked 94 = .ok (.iload 5, 2) := by decide +kernel
theorem dX9_worked_96 : decode cX9_worked 96 = .ok (.iconst 2, 1) := by decide +kernel
theorem dX9_worked_97 : decode cX9_worked 97 = .ok (.if_icmp .ne 30, 3) := by decide +kernel
theorem dX9_worked_100 : decode cX9_worked 100 = .ok (.aload_n 0, 1) := by decide +kernel
theorem dX9_worked_101 : decode cX9_worked 101 = .ok (.getfield 28, 3) := by decide +kernel
theorem dX9_worked_104 : decode cX9_worked 104 = .ok (.iload_n 3, 1) := by decide +kernel
theorem dX9_worked_105 : decode cX9_worked 105 = .ok (.iconst 1, 1) := by decide +kernel
theorem dX9_worked_106 : decode cX9_worked 106 = .ok (.isub, 1) := by decide +kernel
theorem dX9_worked_107 : decode cX9_worked 107 = .ok (.aload_n 0, 1) := by decide +kernel
theorem dX9_worked_108 : decode cX9_worked 108 = .ok (.getfield 28, 3) := by decide +kernel
theorem dX9_worked_111 : decode cX9_worked 111 = .ok (.iload_n 3, 1) := by decide +kernel
theorem dX9_worked_112 : decode cX9_worked 112 = .ok (.iconst 1, 1) := by decide +kernel
theorem dX9_worked_113 : decode cX9_worked 113 = .ok (.isub, 1) := by decide +kernel
theorem dX9_worked_114 : decode cX9_worked 114 = .ok (.iaload, 1) := by decide +kernel
theorem dX9_worked_115 : decode cX9_worked 115 = .ok (.ifCond .ne 7, 3) := by decide +kernel
theorem dX9_worked_118 : decode cX9_worked 118 = .ok (.iconst 1, 1) := by decide +kernel
theorem dX9_worked_119 : decode cX9_worked 119 = .ok (.goto 4, 3) := by decide +kernel
theorem dX9_worked_122 : decode cX9_worked 122 = .ok (.iconst 0, 1) := by decide +kernel
theorem dX9_worked_123 : decode cX9_worked 123 = .ok (.iastore, 1) := by decide +kernel
theorem dX9_worked_124 : decode cX9_worked 124 = .ok (.goto 33, 3) := by decide +kernel
theorem dX9_worked_127 : decode cX9_worked 127 = .ok (.iinc 3 (-1), 3) := by decide +kernel
theorem dX9_worked_130 : decode cX9_worked 130 = .ok (.aload_n 0, 1) := by decide +kernel
theorem dX9_worked_131 : decode cX9_worked 131 = .ok (.getfield 28, 3) := by decide +kernel
theorem dX9_worked_134 : decode cX9_worked 134 = .ok (.iload_n 3, 1) := by decide +kernel
theorem dX9_worked_135 : decode cX9_worked 135 = .ok (.iconst 1, 1) := by decide +kernel
theorem dX9_worked_136 : decode cX9_worked 136 = .ok (.isub, 1) := by decide +kernel
theorem dX9_worked_137 : decode cX9_worked 137 = .ok (.iload 6, 2) := by decide +kernel
theorem dX9_worked_139 : decode cX9_worked 139 = .ok (.aload_n 0, 1) := by decide +kernel
theorem dX9_worked_140 : decode cX9_worked 140 = .ok (.getfield 28, 3) := by decide +kernel
theorem dX9_worked_143 : decode cX9_worked 143 = .ok (.iload_n 3, 1) := by decide +kernel
theorem dX9_worked_144 : decode cX9_worked 144 = .ok (.iconst 1, 1) := by decide +kernel
theorem dX9_worked_145 : decode cX9_worked 145 = .ok (.isub, 1) := by decide +kernel
theorem dX9_worked_146 : decode cX9_worked 146 = .ok (.iaload, 1) := by decide +kernel
theorem dX9_worked_147 : decode cX9_worked 147 = .ok (.aload_n 0, 1) := by decide +kernel
theorem dX9_worked_148 : decode cX9_worked 148 = .ok (.getfield 28, 3) := by decide +kernel
theorem dX9_worked_151 : decode cX9_worked 151 = .ok (.iload_n 3, 1) := by decide +kernel
theorem dX9_worked_152 : decode cX9_worked 152 = .ok (.iaload, 1) := by decide +kernel
theorem dX9_worked_153 : decode cX9_worked 153 = .ok (.invokestatic 155, 3) := by decide +kernel
theorem dX9_worked_156 : decode cX9_worked 156 = .ok (.iastore, 1) := by decide +kernel
theorem dX9_worked_157 : decode cX9_worked 157 = .ok (.iinc 4 1, 3) := by decide +kernel
theorem dX9_worked_160 : decode cX9_worked 160 = .ok (.goto (-147), 3) := by decide +kernel
theorem dX9_worked_163 : decode cX9_worked 163 = .ok (.aload_n 0, 1) := by decide +kernel
theorem dX9_worked_164 : decode cX9_worked 164 = .ok (.getfield 28, 3) := by decide +kernel
theorem dX9_worked_167 : decode cX9_worked 167 = .ok (.iconst 0, 1) := by decide +kernel
theorem dX9_worked_168 : decode cX9_worked 168 = .ok (.iaload, 1) := by decide +kernel
theorem dX9_worked_169 : decode cX9_worked 169 = .ok (.ireturn, 1) := by decide +kernel
theorem dX9_thing_0 : decode cX9_thing 0 = .ok (.iload_n 1, 1) := by decide +kernel
theorem dX9_thing_1 : decode cX9_thing 1 = .ok (.iconst 0, 1) := by decide +kernel
theorem dX9_thing_2 : decode cX9_thing 2 = .ok (.bipush 69, 2) := by decide +kernel
theorem dX9_thing_4 : decode cX9_thing 4 = .ok (.invokestatic 63, 3) := by decide +kernel
theorem dX9_thing_7 : decode cX9_thing 7 = .ok (.ifCond .eq 17, 3) := by decide +kernel
theorem dX9_thing_10 : decode cX9_thing 10 = .ok (.iload_n 2, 1) := by decide +kernel
theorem dX9_thing_11 : decode cX9_thing 11 = .ok (.invokestatic 75, 3) := by decide +kernel
theorem dX9_thing_14 : decode cX9_thing 14 = .ok (.ifCond .eq 10, 3) := by decide +kernel
theorem dX9_thing_17 : decode cX9_thing 17 = .ok (.iload_n 3, 1) := by decide +kernel
theorem dX9_thing_18 : decode cX9_thing 18 = .ok (.invokestatic 94, 3) := by decide +kernel
theorem dX9_thing_21 : decode cX9_thing 21 = .ok (.ifCond .ne 9, 3) := by decide +kernel
theorem dX9_thing_24 : decode cX9_thing 24 = .ok (.aload_n 0, 1) := by decide +kernel
theorem dX9_thing_25 : decode cX9_thing 25 = .ok (.iconst 1, 1) := by decide +kernel
theorem dX9_thing_26 : decode cX9_thing 26 = .ok (.invokevirtual 83, 3) := by decide +kernel
theorem dX9_thing_29 : decode cX9_thing 29 = .ok (.ireturn, 1) := by decide +kernel
theorem dX9_thing_30 : decode cX9_thing 30 = .ok (.aload_n 0, 1) := by decide +kernel
theorem dX9_thing_31 : decode cX9_thing 31 = .ok (.getfield 7, 3) := by decide +kernel
theorem dX9_thing_34 : decode cX9_thing 34 = .ok (.iconst 1, 1) := by decide +kernel
theorem dX9_thing_35 : decode cX9_thing 35 = .ok (.iaload, 1) := by decide +kernel
theorem dX9_thing_36 : decode cX9_thing 36 = .ok (.bipush 10, 2) := by decide +kernel
theorem dX9_thing_38 : decode cX9_thing 38 = .ok (.if_icmp .ne 9, 3) := by decide +kernel
theorem dX9_thing_41 : decode cX9_thing 41 = .ok (.aload_n 0, 1) := by decide +kernel
theorem dX9_thing_42 : decode cX9_thing 42 = .ok (.iconst 4, 1) := by decide +kernel
theorem dX9_thing_43 : decode cX9_thing 43 = .ok (.invokevirtual 83, 3) := by decide +kernel
theorem dX9_thing_46 : decode cX9_thing 46 = .ok (.ireturn, 1) := by decide +kernel
theorem dX9_thing_47 : decode cX9_thing 47 = .ok (.bipush 28, 2) := by decide +kernel
theorem dX9_thing_49 : decode cX9_thing 49 = .ok (.iconst 4, 1) := by decide +kernel
theorem dX9_thing_50 : decode cX9_thing 50 = .ok (.aload_n 0, 1) := by decide +kernel
theorem dX9_thing_51 : decode cX9_thing 51 = .ok (.getfield 7, 3) := by decide +kernel
theorem dX9_thing_54 : decode cX9_thing 54 = .ok (.iconst 1, 1) := by decide +kernel
theorem dX9_thing_55 : decode cX9_thing 55 = .ok (.iaload, 1) := by decide +kernel
theorem dX9_thing_56 : decode cX9_thing 56 = .ok (.imul, 1) := by decide +kernel
theorem dX9_thing_57 : decode cX9_thing 57 = .ok (.iadd, 1) := by decide +kernel
theorem dX9_thing_58 : decode cX9_thing 58 = .ok (.istore 4, 2) := by decide +kernel
theorem dX9_thing_60 : decode cX9_thing 60 = .ok (.aload_n 0, 1) := by decide +kernel
theorem dX9_thing_61 : decode cX9_thing 61 = .ok (.getfield 7, 3) := by decide +kernel
theorem dX9_thing_64 : decode cX9_thing 64 = .ok (.iload 4, 2) := by decide +kernel
theorem dX9_thing_66 : decode cX9_thing 66 = .ok (.iconst 0, 1) := by decide +kernel
theorem dX9_thing_67 : decode cX9_thing 67 = .ok (.iadd, 1) := by decide +kernel
theorem dX9_thing_68 : decode cX9_thing 68 = .ok (.iload_n 1, 1) := by decide +kernel
theorem dX9_thing_69 : decode cX9_thing 69 = .ok (.bipush 10, 2) := by decide +kernel
theorem dX9_thing_71 : decode cX9_thing 71 = .ok (.idiv, 1) := by decide +kernel
theorem dX9_thing_72 : decode cX9_thing 72 = .ok (.iastore, 1) := by decide +kernel
theorem dX9_thing_73 : decode cX9_thing 73 = .ok (.aload_n 0, 1) := by decide +kernel
theorem dX9_thing_74 : decode cX9_thing 74 = .ok (.getfield 7, 3) := by decide +kernel
theorem dX9_thing_77 : decode cX9_thing 77 = .ok (.iload 4, 2) := by decide +kernel
theorem dX9_thing_79 : decode cX9_thing 79 = .ok (.iconst 1, 1) := by decide +kernel
theorem dX9_thing_80 : decode cX9_thing 80 = .ok (.iadd, 1) := by decide +kernel
theorem dX9_thing_81 : decode cX9_thing 81 = .ok (.iload_n 1, 1) := by decide +kernel
theorem dX9_thing_82 : decode cX9_thing 82 = .ok (.bipush 10, 2) := by decide +kernel
theorem dX9_thing_84 : decode cX9_thing 84 = .ok (.irem, 1) := by decide +kernel
theorem dX9_thing_85 : decode cX9_thing 85 = .ok (.iastore, 1) := by decide +kernel
theorem dX9_thing_86 : decode cX9_thing 86 = .ok (.aload_n 0, 1) := by decide +kernel
theorem dX9_thing_87 : decode cX9_thing 87 = .ok (.getfield 7, 3) := by decide +kernel
theorem dX9_thing_90 : decode cX9_thing 90 = .ok (.iload 4, 2) := by decide +kernel
theorem dX9_thing_92 : decode cX9_thing 92 = .ok (.iconst 2, 1) := by decide +kernel
theorem dX9_thing_93 : decode cX9_thing 93 = .ok (.iadd, 1) := by decide +kernel
theorem dX9_thing_94 : decode cX9_thing 94 = .ok (.iload_n 2, 1) := by decide +kernel
theorem dX9_thing_95 : decode cX9_thing 95 = .ok (.iastore, 1) := by decide +kernel
theorem dX9_thing_96 : decode cX9_thing 96 = .ok (.aload_n 0, 1) := by decide +kernel
theorem dX9_thing_97 : decode cX9_thing 97 = .ok (.getfield 7, 3) := by decide +kernel
theorem dX9_thing_100 : decode cX9_thing 100 = .ok (.iload 4, 2) := by decide +kernel
theorem dX9_thing_102 : decode cX9_thing 102 = .ok (.iconst 3, 1) := by decide +kernel
theorem dX9_thing_103 : decode cX9_thing 103 = .ok (.iadd, 1) := by decide +kernel
theorem dX9_thing_104 : decode cX9_thing 104 = .ok (.iload_n 3, 1) := by decide +kernel
theorem dX9_thing_105 : decode cX9_thing 105 = .ok (.iastore, 1) := by decide +kernel
theorem dX9_thing_106 : decode cX9_thing 106 = .ok (.aload_n 0, 1) := by decide +kernel
theorem dX9_thing_107 : decode cX9_thing 107 = .ok (.getfield 7, 3) := by decide +kernel
theorem dX9_thing_110 : decode cX9_thing 110 = .ok (.iconst 1, 1) := by decide +kernel
theorem dX9_thing_111 : decode cX9_thing 111 = .ok (.dup2, 1) := by decide +kernel
theorem dX9_thing_112 : decode cX9_thing 112 = .ok (.iaload, 1) := by decide +kernel
theorem dX9_thing_113 : decode cX9_thing 113 = .ok (.iconst 1, 1) := by decide +kernel
theorem dX9_thing_114 : decode cX9_thing 114 = .ok (.iadd, 1) := by decide +kernel
theorem dX9_thing_115 : decode cX9_thing 115 = .ok (.iastore, 1) := by decide +kernel
theorem dX9_thing_116 : decode cX9_thing 116 = .ok (.aload_n 0, 1) := by decide +kernel
theorem dX9_thing_117 : decode cX9_thing 117 = .ok (.getfield 7, 3) := by decide +kernel
theorem dX9_thing_120 : decode cX9_thing 120 = .ok (.iconst 1, 1) := by decide +kernel
theorem dX9_thing_121 : decode cX9_thing 121 = .ok (.iaload, 1) := by decide +kernel
theorem dX9_thing_122 : decode cX9_thing 122 = .ok (.iconst 1, 1) := by decide +kernel
theorem dX9_thing_123 : decode cX9_thing 123 = .ok (.isub, 1) := by decide +kernel
theorem dX9_thing_124 : decode cX9_thing 124 = .ok (.ireturn, 1) := by decide +kernel
theorem dX9_bookYears_0 : decode cX9_bookYears 0 = .ok (.aload_n 0, 1) := by decide +kernel
theorem dX9_bookYears_1 : decode cX9_bookYears 1 = .ok (.iload_n 1, 1) := by decide +kernel
theorem dX9_bookYears_2 : decode cX9_bookYears 2 = .ok (.iconst 3, 1) := by decide +kernel
theorem dX9_bookYears_3 : decode cX9_bookYears 3 = .ok (.invokevirtual 158, 3) := by decide +kernel
theorem dX9_bookYears_6 : decode cX9_bookYears 6 = .ok (.istore 4, 2) := by decide +kernel
theorem dX9_bookYears_8 : decode cX9_bookYears 8 = .ok (.aload_n 0, 1) := by decide +kernel
theorem dX9_bookYears_9 : decode cX9_bookYears 9 = .ok (.iload_n 2, 1) := by decide +kernel
theorem dX9_bookYears_10 : decode cX9_bookYears 10 = .ok (.iload_n 3, 1) := by decide +kernel
theorem dX9_bookYears_11 : decode cX9_bookYears 11 = .ok (.invokevirtual 97, 3) := by decide +kernel
theorem dX9_bookYears_14 : decode cX9_bookYears 14 = .ok (.aload_n 0, 1) := by decide +kernel
theorem dX9_bookYears_15 : decode cX9_bookYears 15 = .ok (.aload_n 0, 1) := by decide +kernel
theorem dX9_bookYears_16 : decode cX9_bookYears 16 = .ok (.iload_n 1, 1) := by decide +kernel
theorem dX9_bookYears_17 : decode cX9_bookYears 17 = .ok (.iconst 2, 1) := by decide +kernel
theorem dX9_bookYears_18 : decode cX9_bookYears 18 = .ok (.invokevirtual 158, 3) := by decide +kernel
theorem dX9_bookYears_21 : decode cX9_bookYears 21 = .ok (.iload 4, 2) := by decide +kernel
theorem dX9_bookYears_23 : decode cX9_bookYears 23 = .ok (.invokevirtual 97, 3) := by decide +kernel
theorem dX9_bookYears_26 : decode cX9_bookYears 26 = .ok (.isub, 1) := by decide +kernel
theorem dX9_bookYears_27 : decode cX9_bookYears 27 = .ok (.istore 5, 2) := by decide +kernel
theorem dX9_bookYears_29 : decode cX9_bookYears 29 = .ok (.iload 5, 2) := by decide +kernel
theorem dX9_bookYears_31 : decode cX9_bookYears 31 = .ok (.iload_n 3, 1) := by decide +kernel
theorem dX9_bookYears_32 : decode cX9_bookYears 32 = .ok (.sipush 365, 3) := by decide +kernel
theorem dX9_bookYears_35 : decode cX9_bookYears 35 = .ok (.irem, 1) := by decide +kernel
theorem dX9_bookYears_36 : decode cX9_bookYears 36 = .ok (.iload 4, 2) := by decide +kernel
theorem dX9_bookYears_38 : decode cX9_bookYears 38 = .ok (.sipush 365, 3) := by decide +kernel
theorem dX9_bookYears_41 : decode cX9_bookYears 41 = .ok (.irem, 1) := by decide +kernel
theorem dX9_bookYears_42 : decode cX9_bookYears 42 = .ok (.if_icmp .ge 7, 3) := by decide +kernel
theorem dX9_bookYears_45 : decode cX9_bookYears 45 = .ok (.iconst 1, 1) := by decide +kernel
theorem dX9_bookYears_46 : decode cX9_bookYears 46 = .ok (.goto 4, 3) := by decide +kernel
theorem dX9_bookYears_49 : decode cX9_bookYears 49 = .ok (.iconst 0, 1) := by decide +kernel
theorem dX9_bookYears_50 : decode cX9_bookYears 50 = .ok (.isub, 1) := by decide +kernel
theorem dX9_bookYears_51 : decode cX9_bookYears 51 = .ok (.istore 5, 2) := by decide +kernel
theorem dX9_bookYears_53 : decode cX9_bookYears 53 = .ok (.iload 5, 2) := by decide +kernel
theorem dX9_bookYears_55 : decode cX9_bookYears 55 = .ok (.ifCond .ge 7, 3) := by decide +kernel
theorem dX9_bookYears_58 : decode cX9_bookYears 58 = .ok (.iconst 0, 1) := by decide +kernel
theorem dX9_bookYears_59 : decode cX9_bookYears 59 = .ok (.goto 5, 3) := by decide +kernel
theorem dX9_bookYears_62 : decode cX9_bookYears 62 = .ok (.iload 5, 2) := by decide +kernel
theorem dX9_bookYears_64 : decode cX9_bookYears 64 = .ok (.ireturn, 1) := by decide +kernel
theorem dX9_salesOf_0 : decode cX9_salesOf 0 = .ok (.iconst 0, 1) := by decide +kernel
theorem dX9_salesOf_1 : decode cX9_salesOf 1 = .ok (.istore_n 2, 1) := by decide +kernel
theorem dX9_salesOf_2 : decode cX9_salesOf 2 = .ok (.iconst 0, 1) := by decide +kernel
theorem dX9_salesOf_3 : decode cX9_salesOf 3 = .ok (.istore_n 3, 1) := by decide +kernel
theorem dX9_salesOf_4 : decode cX9_salesOf 4 = .ok (.iload_n 3, 1) := by decide +kernel
theorem dX9_salesOf_5 : decode cX9_salesOf 5 = .ok (.aload_n 0, 1) := by decide +kernel
theorem dX9_salesOf_6 : decode cX9_salesOf 6 = .ok (.getfield 7, 3) := by decide +kernel
theorem dX9_salesOf_9 : decode cX9_salesOf 9 = .ok (.iconst 0, 1) := by decide +kernel
theorem dX9_salesOf_10 : decode cX9_salesOf 10 = .ok (.iaload, 1) := by decide +kernel
theorem dX9_salesOf_11 : decode cX9_salesOf 11 = .ok (.if_icmp .ge 37, 3) := by decide +kernel
theorem dX9_salesOf_14 : decode cX9_salesOf 14 = .ok (.iload_n 2, 1) := by decide +kernel
theorem dX9_salesOf_15 : decode cX9_salesOf 15 = .ok (.aload_n 0, 1) := by decide +kernel
theorem dX9_salesOf_16 : decode cX9_salesOf 16 = .ok (.iload_n 3, 1) := by decide +kernel
theorem dX9_salesOf_17 : decode cX9_salesOf 17 = .ok (.iconst 1, 1) := by decide +kernel
theorem dX9_salesOf_18 : decode cX9_salesOf 18 = .ok (.invokevirtual 68, 3) := by decide +kernel
theorem dX9_salesOf_21 : decode cX9_salesOf 21 = .ok (.iload_n 1, 1) := by decide +kernel
theorem dX9_salesOf_22 : decode cX9_salesOf 22 = .ok (.if_icmp .eq 13, 3) := by decide +kernel
theorem dX9_salesOf_25 : decode cX9_salesOf 25 = .ok (.aload_n 0, 1) := by decide +kernel
theorem dX9_salesOf_26 : decode cX9_salesOf 26 = .ok (.iload_n 3, 1) := by decide +kernel
theorem dX9_salesOf_27 : decode cX9_salesOf 27 = .ok (.iconst 2, 1) := by decide +kernel
theorem dX9_salesOf_28 : decode cX9_salesOf 28 = .ok (.invokevirtual 68, 3) := by decide +kernel
theorem dX9_salesOf_31 : decode cX9_salesOf 31 = .ok (.iload_n 1, 1) := by decide +kernel
theorem dX9_salesOf_32 : decode cX9_salesOf 32 = .ok (.if_icmp .ne 7, 3) := by decide +kernel
theorem dX9_salesOf_35 : decode cX9_salesOf 35 = .ok (.iconst 1, 1) := by decide +kernel
theorem dX9_salesOf_36 : decode cX9_salesOf 36 = .ok (.goto 4, 3) := by decide +kernel
theorem dX9_salesOf_39 : decode cX9_salesOf 39 = .ok (.iconst 0, 1) := by decide +kernel
theorem dX9_salesOf_40 : decode cX9_salesOf 40 = .ok (.iadd, 1) := by decide +kernel
theorem dX9_salesOf_41 : decode cX9_salesOf 41 = .ok (.istore_n 2, 1) := by decide +kernel
theorem dX9_salesOf_42 : decode cX9_salesOf 42 = .ok (.iinc 3 1, 3) := by decide +kernel
theorem dX9_salesOf_45 : decode cX9_salesOf 45 = .ok (.goto (-41), 3) := by decide +kernel
theorem dX9_salesOf_48 : decode cX9_salesOf 48 = .ok (.iload_n 2, 1) := by decide +kernel
theorem dX9_salesOf_49 : decode cX9_salesOf 49 = .ok (.ireturn, 1) := by decide +kernel
theorem dX9_unlike_0 : decode cX9_unlike 0 = .ok (.iconst 0, 1) := by decide +kernel
theorem dX9_unlike_1 : decode cX9_unlike 1 = .ok (.istore 4, 2) := by decide +kernel
theorem dX9_unlike_3 : decode cX9_unlike 3 = .ok (.iload_n 2, 1) := by decide +kernel
theorem dX9_unlike_4 : decode cX9_unlike 4 = .ok (.iconst 1, 1) := by decide +kernel
theorem dX9_unlike_5 : decode cX9_unlike 5 = .ok (.iadd, 1) := by decide +kernel
theorem dX9_unlike_6 : decode cX9_unlike 6 = .ok (.istore 5, 2) := by decide +kernel
theorem dX9_unlike_8 : decode cX9_unlike 8 = .ok (.iload 5, 2) := by decide +kernel
theorem dX9_unlike_10 : decode cX9_unlike 10 = .ok (.iload_n 3, 1) := by decide +kernel
theorem dX9_unlike_11 : decode cX9_unlike 11 = .ok (.if_icmp .gt 50, 3) := by decide +kernel
theorem dX9_unlike_14 : decode cX9_unlike 14 = .ok (.iload 4, 2) := by decide +kernel
theorem dX9_unlike_16 : decode cX9_unlike 16 = .ok (.aload_n 0, 1) := by decide +kernel
theorem dX9_unlike_17 : decode cX9_unlike 17 = .ok (.getfield 19, 3) := by decide +kernel
theorem dX9_unlike_20 : decode cX9_unlike 20 = .ok (.sipush 200, 3) := by decide +kernel
theorem dX9_unlike_23 : decode cX9_unlike 23 = .ok (.iload_n 1, 1) := by decide +kernel
theorem dX9_unlike_24 : decode cX9_unlike 24 = .ok (.imul, 1) := by decide +kernel
theorem dX9_unlike_25 : decode cX9_unlike 25 = .ok (.iload 5, 2) := by decide +kernel
theorem dX9_unlike_27 : decode cX9_unlike 27 = .ok (.iadd, 1) := by decide +kernel
theorem dX9_unlike_28 : decode cX9_unlike 28 = .ok (.iaload, 1) := by decide +kernel
theorem dX9_unlike_29 : decode cX9_unlike 29 = .ok (.aload_n 0, 1) := by decide +kernel
theorem dX9_unlike_30 : decode cX9_unlike 30 = .ok (.getfield 19, 3) := by decide +kernel
theorem dX9_unlike_33 : decode cX9_unlike 33 = .ok (.sipush 200, 3) := by decide +kernel
theorem dX9_unlike_36 : decode cX9_unlike 36 = .ok (.iload_n 1, 1) := by decide +kernel
theorem dX9_unlike_37 : decode cX9_unlike 37 = .ok (.imul, 1) := by decide +kernel
theorem dX9_unlike_38 : decode cX9_unlike 38 = .ok (.iload 5, 2) := by decide +kernel
theorem dX9_unlike_40 : decode cX9_unlike 40 = .ok (.iadd, 1) := by decide +kernel
theorem dX9_unlike_41 : decode cX9_unlike 41 = .ok (.iconst 1, 1) := by decide +kernel
theorem dX9_unlike_42 : decode cX9_unlike 42 = .ok (.isub, 1) := by decide +kernel
theorem dX9_unlike_43 : decode cX9_unlike 43 = .ok (.iaload, 1) := by decide +kernel
theorem dX9_unlike_44 : decode cX9_unlike 44 = .ok (.if_icmp .eq 7, 3) := by decide +kernel
theorem dX9_unlike_47 : decode cX9_unlike 47 = .ok (.iconst 1, 1) := by decide +kernel
theorem dX9_unlike_48 : decode cX9_unlike 48 = .ok (.goto 4, 3) := by decide +kernel
theorem dX9_unlike_51 : decode cX9_unlike 51 = .ok (.iconst 0, 1) := by decide +kernel
theorem dX9_unlike_52 : decode cX9_unlike 52 = .ok (.iadd, 1) := by decide +kernel
theorem dX9_unlike_53 : decode cX9_unlike 53 = .ok (.istore 4, 2) := by decide +kernel
theorem dX9_unlike_55 : decode cX9_unlike 55 = .ok (.iinc 5 1, 3) := by decide +kernel
theorem dX9_unlike_58 : decode cX9_unlike 58 = .ok (.goto (-50), 3) := by decide +kernel
theorem dX9_unlike_61 : decode cX9_unlike 61 = .ok (.iload 4, 2) := by decide +kernel
theorem dX9_unlike_63 : decode cX9_unlike 63 = .ok (.ireturn, 1) := by decide +kernel
theorem dX9_toldAge_0 : decode cX9_toldAge 0 = .ok (.aload_n 0, 1) := by decide +kernel
theorem dX9_toldAge_1 : decode cX9_toldAge 1 = .ok (.iconst 0, 1) := by decide +kernel
theorem dX9_toldAge_2 : decode cX9_toldAge 2 = .ok (.invokevirtual 152, 3) := by decide +kernel
theorem dX9_toldAge_5 : decode cX9_toldAge 5 = .ok (.ifCond .ne 14, 3) := by decide +kernel
theorem dX9_toldAge_8 : decode cX9_toldAge 8 = .ok (.iload_n 2, 1) := by decide +kernel
theorem dX9_toldAge_9 : decode cX9_toldAge 9 = .ok (.iload_n 3, 1) := by decide +kernel
theorem dX9_toldAge_10 : decode cX9_toldAge 10 = .ok (.if_icmp .le 7, 3) := by decide +kernel
theorem dX9_toldAge_13 : decode cX9_toldAge 13 = .ok (.iload_n 2, 1) := by decide +kernel
theorem dX9_toldAge_14 : decode cX9_toldAge 14 = .ok (.goto 4, 3) := by decide +kernel
theorem dX9_toldAge_17 : decode cX9_toldAge 17 = .ok (.iload_n 3, 1) := by decide +kernel
theorem dX9_toldAge_18 : decode cX9_toldAge 18 = .ok (.ireturn, 1) := by decide +kernel
theorem dX9_toldAge_19 : decode cX9_toldAge 19 = .ok (.aload_n 0, 1) := by decide +kernel
theorem dX9_toldAge_20 : decode cX9_toldAge 20 = .ok (.getfield 25, 3) := by decide +kernel
theorem dX9_toldAge_23 : decode cX9_toldAge 23 = .ok (.bipush 98, 2) := by decide +kernel
theorem dX9_toldAge_25 : decode cX9_toldAge 25 = .ok (.iload_n 2, 1) := by decide +kernel
theorem dX9_toldAge_26 : decode cX9_toldAge 26 = .ok (.iastore, 1) := by decide +kernel
theorem dX9_toldAge_27 : decode cX9_toldAge 27 = .ok (.aload_n 0, 1) := by decide +kernel
theorem dX9_toldAge_28 : decode cX9_toldAge 28 = .ok (.getfield 25, 3) := by decide +kernel
theorem dX9_toldAge_31 : decode cX9_toldAge 31 = .ok (.bipush 116, 2) := by decide +kernel
theorem dX9_toldAge_33 : decode cX9_toldAge 33 = .ok (.iload_n 3, 1) := by decide +kernel
theorem dX9_toldAge_34 : decode cX9_toldAge 34 = .ok (.iastore, 1) := by decide +kernel
theorem dX9_toldAge_35 : decode cX9_toldAge 35 = .ok (.aload_n 0, 1) := by decide +kernel
theorem dX9_toldAge_36 : decode cX9_toldAge 36 = .ok (.getfield 25, 3) := by decide +kernel
theorem dX9_toldAge_39 : decode cX9_toldAge 39 = .ok (.bipush 109, 2) := by decide +kernel
theorem dX9_toldAge_41 : decode cX9_toldAge 41 = .ok (.aload_n 0, 1) := by decide +kernel
theorem dX9_toldAge_42 : decode cX9_toldAge 42 = .ok (.iload_n 1, 1) := by decide +kernel
theorem dX9_toldAge_43 : decode cX9_toldAge 43 = .ok (.iconst 1, 1) := by decide +kernel
theorem dX9_toldAge_44 : decode cX9_toldAge 44 = .ok (.invokevirtual 158, 3) := by decide +kernel
theorem dX9_toldAge_47 : decode cX9_toldAge 47 = .ok (.iastore, 1) := by decide +kernel
theorem dX9_toldAge_48 : decode cX9_toldAge 48 = .ok (.aload_n 0, 1) := by decide +kernel
theorem dX9_toldAge_49 : decode cX9_toldAge 49 = .ok (.iconst 0, 1) := by decide +kernel
theorem dX9_toldAge_50 : decode cX9_toldAge 50 = .ok (.invokevirtual 161, 3) := by decide +kernel
theorem dX9_toldAge_53 : decode cX9_toldAge 53 = .ok (.iconst 0, 1) := by decide +kernel
theorem dX9_toldAge_54 : decode cX9_toldAge 54 = .ok (.sipush 999, 3) := by decide +kernel
theorem dX9_toldAge_57 : decode cX9_toldAge 57 = .ok (.invokestatic 164, 3) := by decide +kernel
theorem dX9_toldAge_60 : decode cX9_toldAge 60 = .ok (.ireturn, 1) := by decide +kernel
theorem dX9_ageOf_0 : decode cX9_ageOf 0 = .ok (.aload_n 0, 1) := by decide +kernel
theorem dX9_ageOf_1 : decode cX9_ageOf 1 = .ok (.iload_n 1, 1) := by decide +kernel
theorem dX9_ageOf_2 : decode cX9_ageOf 2 = .ok (.iconst 3, 1) := by decide +kernel
theorem dX9_ageOf_3 : decode cX9_ageOf 3 = .ok (.invokevirtual 158, 3) := by decide +kernel
theorem dX9_ageOf_6 : decode cX9_ageOf 6 = .ok (.istore 4, 2) := by decide +kernel
theorem dX9_ageOf_8 : decode cX9_ageOf 8 = .ok (.iload_n 3, 1) := by decide +kernel
theorem dX9_ageOf_9 : decode cX9_ageOf 9 = .ok (.iload 4, 2) := by decide +kernel
theorem dX9_ageOf_11 : decode cX9_ageOf 11 = .ok (.if_icmp .ge 5, 3) := by decide +kernel
theorem dX9_ageOf_14 : decode cX9_ageOf 14 = .ok (.iconst 0, 1) := by decide +kernel
theorem dX9_ageOf_15 : decode cX9_ageOf 15 = .ok (.ireturn, 1) := by decide +kernel
theorem dX9_ageOf_16 : decode cX9_ageOf 16 = .ok (.iload_n 3, 1) := by decide +kernel
theorem dX9_ageOf_17 : decode cX9_ageOf 17 = .ok (.iload 4, 2) := by decide +kernel
theorem dX9_ageOf_19 : decode cX9_ageOf 19 = .ok (.isub, 1) := by decide +kernel
theorem dX9_ageOf_20 : decode cX9_ageOf 20 = .ok (.sipush 365, 3) := by decide +kernel
theorem dX9_ageOf_23 : decode cX9_ageOf 23 = .ok (.idiv, 1) := by decide +kernel
theorem dX9_ageOf_24 : decode cX9_ageOf 24 = .ok (.istore 5, 2) := by decide +kernel
theorem dX9_ageOf_26 : decode cX9_ageOf 26 = .ok (.aload_n 0, 1) := by decide +kernel
theorem dX9_ageOf_27 : decode cX9_ageOf 27 = .ok (.iload_n 1, 1) := by decide +kernel
theorem dX9_ageOf_28 : decode cX9_ageOf 28 = .ok (.iload_n 2, 1) := by decide +kernel
theorem dX9_ageOf_29 : decode cX9_ageOf 29 = .ok (.iload_n 3, 1) := by decide +kernel
theorem dX9_ageOf_30 : decode cX9_ageOf 30 = .ok (.invokevirtual 167, 3) := by decide +kernel
theorem dX9_ageOf_33 : decode cX9_ageOf 33 = .ok (.istore 6, 2) := by decide +kernel
theorem dX9_ageOf_35 : decode cX9_ageOf 35 = .ok (.aload_n 0, 1) := by decide +kernel
theorem dX9_ageOf_36 : decode cX9_ageOf 36 = .ok (.iload_n 1, 1) := by decide +kernel
theorem dX9_ageOf_37 : decode cX9_ageOf 37 = .ok (.iconst 1, 1) := by decide +kernel
theorem dX9_ageOf_38 : decode cX9_ageOf 38 = .ok (.invokevirtual 158, 3) := by decide +kernel
theorem dX9_ageOf_41 : decode cX9_ageOf 41 = .ok (.istore 7, 2) := by decide +kernel
theorem dX9_ageOf_43 : decode cX9_ageOf 43 = .ok (.aload_n 0, 1) := by decide +kernel
theorem dX9_ageOf_44 : decode cX9_ageOf 44 = .ok (.iload_n 1, 1) := by decide +kernel
theorem dX9_ageOf_45 : decode cX9_ageOf 45 = .ok (.iconst 0, 1) := by decide +kernel
theorem dX9_ageOf_46 : decode cX9_ageOf 46 = .ok (.invokevirtual 158, 3) := by decide +kernel
theorem dX9_ageOf_49 : decode cX9_ageOf 49 = .ok (.tableswitch 101 1 6 #[39, 42, 59, 65, 82, 91], 39) := by decide +kernel
theorem dX9_ageOf_88 : decode cX9_ageOf 88 = .ok (.iload 6, 2) := by decide +kernel
theorem dX9_ageOf_90 : decode cX9_ageOf 90 = .ok (.ireturn, 1) := by decide +kernel
theorem dX9_ageOf_91 : decode cX9_ageOf 91 = .ok (.aload_n 0, 1) := by decide +kernel
theorem dX9_ageOf_92 : decode cX9_ageOf 92 = .ok (.iload_n 2, 1) := by decide +kernel
theorem dX9_ageOf_93 : decode cX9_ageOf 93 = .ok (.iload 4, 2) := by decide +kernel
theorem dX9_ageOf_95 : decode cX9_ageOf 95 = .ok (.sipush 365, 3) := by decide +kernel
theorem dX9_ageOf_98 : decode cX9_ageOf 98 = .ok (.idiv, 1) := by decide +kernel
theorem dX9_ageOf_99 : decode cX9_ageOf 99 = .ok (.iload_n 3, 1) := by decide +kernel
theorem dX9_ageOf_100 : decode cX9_ageOf 100 = .ok (.sipush 365, 3) := by decide +kernel
theorem dX9_ageOf_103 : decode cX9_ageOf 103 = .ok (.idiv, 1) := by decide +kernel
theorem dX9_ageOf_104 : decode cX9_ageOf 104 = .ok (.invokevirtual 170, 3) := by decide +kernel
theorem dX9_ageOf_107 : decode cX9_ageOf 107 = .ok (.ireturn, 1) := by decide +kernel
theorem dX9_ageOf_108 : decode cX9_ageOf 108 = .ok (.iload 5, 2) := by decide +kernel
theorem dX9_ageOf_110 : decode cX9_ageOf 110 = .ok (.iload 7, 2) := by decide +kernel
theorem dX9_ageOf_112 : decode cX9_ageOf 112 = .ok (.iadd, 1) := by decide +kernel
theorem dX9_ageOf_113 : decode cX9_ageOf 113 = .ok (.ireturn, 1) := by decide +kernel
theorem dX9_ageOf_114 : decode cX9_ageOf 114 = .ok (.iload 6, 2) := by decide +kernel
theorem dX9_ageOf_116 : decode cX9_ageOf 116 = .ok (.iload 7, 2) := by decide +kernel
theorem dX9_ageOf_118 : decode cX9_ageOf 118 = .ok (.if_icmp .ge 7, 3) := by decide +kernel
theorem dX9_ageOf_121 : decode cX9_ageOf 121 = .ok (.iconst 0, 1) := by decide +kernel
theorem dX9_ageOf_122 : decode cX9_ageOf 122 = .ok (.goto 8, 3) := by decide +kernel
theorem dX9_ageOf_125 : decode cX9_ageOf 125 = .ok (.iload 6, 2) := by decide +kernel
theorem dX9_ageOf_127 : decode cX9_ageOf 127 = .ok (.iload 7, 2) := by decide +kernel
theorem dX9_ageOf_129 : decode cX9_ageOf 129 = .ok (.isub, 1) := by decide +kernel
theorem dX9_ageOf_130 : decode cX9_ageOf 130 = .ok (.ireturn, 1) := by decide +kernel
theorem dX9_ageOf_131 : decode cX9_ageOf 131 = .ok (.iload 6, 2) := by decide +kernel
theorem dX9_ageOf_133 : decode cX9_ageOf 133 = .ok (.aload_n 0, 1) := by decide +kernel
theorem dX9_ageOf_134 : decode cX9_ageOf 134 = .ok (.iload_n 2, 1) := by decide +kernel
theorem dX9_ageOf_135 : decode cX9_ageOf 135 = .ok (.invokevirtual 173, 3) := by decide +kernel
theorem dX9_ageOf_138 : decode cX9_ageOf 138 = .ok (.iadd, 1) := by decide +kernel
theorem dX9_ageOf_139 : decode cX9_ageOf 139 = .ok (.ireturn, 1) := by decide +kernel
theorem dX9_ageOf_140 : decode cX9_ageOf 140 = .ok (.aload_n 0, 1) := by decide +kernel
theorem dX9_ageOf_141 : decode cX9_ageOf 141 = .ok (.iload_n 1, 1) := by decide +kernel
theorem dX9_ageOf_142 : decode cX9_ageOf 142 = .ok (.iload 6, 2) := by decide +kernel
theorem dX9_ageOf_144 : decode cX9_ageOf 144 = .ok (.iload 5, 2) := by decide +kernel
theorem dX9_ageOf_146 : decode cX9_ageOf 146 = .ok (.invokevirtual 176, 3) := by decide +kernel
theorem dX9_ageOf_149 : decode cX9_ageOf 149 = .ok (.ireturn, 1) := by decide +kernel
theorem dX9_ageOf_150 : decode cX9_ageOf 150 = .ok (.iload 5, 2) := by decide +kernel
theorem dX9_ageOf_152 : decode cX9_ageOf 152 = .ok (.ireturn, 1) := by decide +kernel
theorem dX9_ageNow_0 : decode cX9_ageNow 0 = .ok (.aload_n 0, 1) := by decide +kernel
theorem dX9_ageNow_1 : decode cX9_ageNow 1 = .ok (.iload_n 1, 1) := by decide +kernel
theorem dX9_ageNow_2 : decode cX9_ageNow 2 = .ok (.aload_n 0, 1) := by decide +kernel
theorem dX9_ageNow_3 : decode cX9_ageNow 3 = .ok (.iload_n 1, 1) := by decide +kernel
theorem dX9_ageNow_4 : decode cX9_ageNow 4 = .ok (.iconst 2, 1) := by decide +kernel
theorem dX9_ageNow_5 : decode cX9_ageNow 5 = .ok (.invokevirtual 158, 3) := by decide +kernel
theorem dX9_ageNow_8 : decode cX9_ageNow 8 = .ok (.aload_n 0, 1) := by decide +kernel
theorem dX9_ageNow_9 : decode cX9_ageNow 9 = .ok (.getfield 7, 3) := by decide +kernel
theorem dX9_ageNow_12 : decode cX9_ageNow 12 = .ok (.iconst 3, 1) := by decide +kernel
theorem dX9_ageNow_13 : decode cX9_ageNow 13 = .ok (.iaload, 1) := by decide +kernel
theorem dX9_ageNow_14 : decode cX9_ageNow 14 = .ok (.invokevirtual 179, 3) := by decide +kernel
theorem dX9_ageNow_17 : decode cX9_ageNow 17 = .ok (.ireturn, 1) := by decide +kernel
theorem dX9_worth_0 : decode cX9_worth 0 = .ok (.aload_n 0, 1) := by decide +kernel
theorem dX9_worth_1 : decode cX9_worth 1 = .ok (.iload_n 1, 1) := by decide +kernel
theorem dX9_worth_2 : decode cX9_worth 2 = .ok (.invokevirtual 182, 3) := by decide +kernel
theorem dX9_worth_5 : decode cX9_worth 5 = .ok (.istore_n 2, 1) := by decide +kernel
theorem dX9_worth_6 : decode cX9_worth 6 = .ok (.aload_n 0, 1) := by decide +kernel
theorem dX9_worth_7 : decode cX9_worth 7 = .ok (.iconst 1, 1) := by decide +kernel
theorem dX9_worth_8 : decode cX9_worth 8 = .ok (.invokevirtual 152, 3) := by decide +kernel
theorem dX9_worth_11 : decode cX9_worth 11 = .ok (.ifCond .ne 24, 3) := by decide +kernel
theorem dX9_worth_14 : decode cX9_worth 14 = .ok (.bipush 10, 2) := by decide +kernel
theorem dX9_worth_16 : decode cX9_worth 16 = .ok (.iload_n 2, 1) := by decide +kernel
theorem dX9_worth_17 : decode cX9_worth 17 = .ok (.imul, 1) := by decide +kernel
theorem dX9_worth_18 : decode cX9_worth 18 = .ok (.aload_n 0, 1) := by decide +kernel
theorem dX9_worth_19 : decode cX9_worth 19 = .ok (.iload_n 1, 1) := by decide +kernel
theorem dX9_worth_20 : decode cX9_worth 20 = .ok (.iconst 1, 1) := by decide +kernel
theorem dX9_worth_21 : decode cX9_worth 21 = .ok (.invokevirtual 158, 3) := by decide +kernel
theorem dX9_worth_24 : decode cX9_worth 24 = .ok (.iadd, 1) := by decide +kernel
theorem dX9_worth_25 : decode cX9_worth 25 = .ok (.sipush (-9999), 3) := by decide +kernel
theorem dX9_worth_28 : decode cX9_worth 28 = .ok (.sipush 9999, 3) := by decide +kernel
theorem dX9_worth_31 : decode cX9_worth 31 = .ok (.invokestatic 164, 3) := by decide +kernel
theorem dX9_worth_34 : decode cX9_worth 34 = .ok (.ireturn, 1) := by decide +kernel
theorem dX9_worth_35 : decode cX9_worth 35 = .ok (.aload_n 0, 1) := by decide +kernel
theorem dX9_worth_36 : decode cX9_worth 36 = .ok (.getfield 25, 3) := by decide +kernel
theorem dX9_worth_39 : decode cX9_worth 39 = .ok (.bipush 97, 2) := by decide +kernel
theorem dX9_worth_41 : decode cX9_worth 41 = .ok (.iload_n 2, 1) := by decide +kernel
theorem dX9_worth_42 : decode cX9_worth 42 = .ok (.iastore, 1) := by decide +kernel
theorem dX9_worth_43 : decode cX9_worth 43 = .ok (.aload_n 0, 1) := by decide +kernel
theorem dX9_worth_44 : decode cX9_worth 44 = .ok (.getfield 25, 3) := by decide +kernel
theorem dX9_worth_47 : decode cX9_worth 47 = .ok (.bipush 107, 2) := by decide +kernel
theorem dX9_worth_49 : decode cX9_worth 49 = .ok (.aload_n 0, 1) := by decide +kernel
theorem dX9_worth_50 : decode cX9_worth 50 = .ok (.iload_n 1, 1) := by decide +kernel
theorem dX9_worth_51 : decode cX9_worth 51 = .ok (.iconst 0, 1) := by decide +kernel
theorem dX9_worth_52 : decode cX9_worth 52 = .ok (.invokevirtual 158, 3) := by decide +kernel
theorem dX9_worth_55 : decode cX9_worth 55 = .ok (.iastore, 1) := by decide +kernel
theorem dX9_worth_56 : decode cX9_worth 56 = .ok (.aload_n 0, 1) := by decide +kernel
theorem dX9_worth_57 : decode cX9_worth 57 = .ok (.getfield 25, 3) := by decide +kernel
theorem dX9_worth_60 : decode cX9_worth 60 = .ok (.bipush 109, 2) := by decide +kernel
theorem dX9_worth_62 : decode cX9_worth 62 = .ok (.aload_n 0, 1) := by decide +kernel
theorem dX9_worth_63 : decode cX9_worth 63 = .ok (.iload_n 1, 1) := by decide +kernel
theorem dX9_worth_64 : decode cX9_worth 64 = .ok (.iconst 1, 1) := by decide +kernel
theorem dX9_worth_65 : decode cX9_worth 65 = .ok (.invokevirtual 158, 3) := by decide +kernel
theorem dX9_worth_68 : decode cX9_worth 68 = .ok (.iastore, 1) := by decide +kernel
theorem dX9_worth_69 : decode cX9_worth 69 = .ok (.aload_n 0, 1) := by decide +kernel
theorem dX9_worth_70 : decode cX9_worth 70 = .ok (.iconst 1, 1) := by decide +kernel
theorem dX9_worth_71 : decode cX9_worth 71 = .ok (.invokevirtual 161, 3) := by decide +kernel
theorem dX9_worth_74 : decode cX9_worth 74 = .ok (.sipush (-9999), 3) := by decide +kernel
theorem dX9_worth_77 : decode cX9_worth 77 = .ok (.sipush 9999, 3) := by decide +kernel
theorem dX9_worth_80 : decode cX9_worth 80 = .ok (.invokestatic 164, 3) := by decide +kernel
theorem dX9_worth_83 : decode cX9_worth 83 = .ok (.ireturn, 1) := by decide +kernel
theorem dX9_thingIs_0 : decode cX9_thingIs 0 = .ok (.aload_n 0, 1) := by decide +kernel
theorem dX9_thingIs_1 : decode cX9_thingIs 1 = .ok (.iload_n 1, 1) := by decide +kernel
theorem dX9_thingIs_2 : decode cX9_thingIs 2 = .ok (.invokevirtual 185, 3) := by decide +kernel
theorem dX9_thingIs_5 : decode cX9_thingIs 5 = .ok (.ifCond .eq 12, 3) := by decide +kernel
theorem dX9_thingIs_8 : decode cX9_thingIs 8 = .ok (.iload_n 2, 1) := by decide +kernel
theorem dX9_thingIs_9 : decode cX9_thingIs 9 = .ok (.iconst 0, 1) := by decide +kernel
theorem dX9_thingIs_10 : decode cX9_thingIs 10 = .ok (.iconst 5, 1) := by decide +kernel
theorem dX9_thingIs_11 : decode cX9_thingIs 11 = .ok (.invokestatic 63, 3) := by decide +kernel
theorem dX9_thingIs_14 : decode cX9_thingIs 14 = .ok (.ifCond .ne 9, 3) := by decide +kernel
theorem dX9_thingIs_17 : decode cX9_thingIs 17 = .ok (.aload_n 0, 1) := by decide +kernel
theorem dX9_thingIs_18 : decode cX9_thingIs 18 = .ok (.iconst 1, 1) := by decide +kernel
theorem dX9_thingIs_19 : decode cX9_thingIs 19 = .ok (.invokevirtual 83, 3) := by decide +kernel
theorem dX9_thingIs_22 : decode cX9_thingIs 22 = .ok (.ireturn, 1) := by decide +kernel
theorem dX9_thingIs_23 : decode cX9_thingIs 23 = .ok (.aload_n 0, 1) := by decide +kernel
theorem dX9_thingIs_24 : decode cX9_thingIs 24 = .ok (.invokevirtual 91, 3) := by decide +kernel
theorem dX9_thingIs_27 : decode cX9_thingIs 27 = .ok (.iload_n 2, 1) := by decide +kernel
theorem dX9_thingIs_28 : decode cX9_thingIs 28 = .ok (.iconst 4, 1) := by decide +kernel
theorem dX9_thingIs_29 : decode cX9_thingIs 29 = .ok (.if_icmp .ne 11, 3) := by decide +kernel
theorem dX9_thingIs_32 : decode cX9_thingIs 32 = .ok (.aload_n 0, 1) := by decide +kernel
theorem dX9_thingIs_33 : decode cX9_thingIs 33 = .ok (.iload_n 1, 1) := by decide +kernel
theorem dX9_thingIs_34 : decode cX9_thingIs 34 = .ok (.invokevirtual 182, 3) := by decide +kernel
theorem dX9_thingIs_37 : decode cX9_thingIs 37 = .ok (.goto 22, 3) := by decide +kernel
theorem dX9_thingIs_40 : decode cX9_thingIs 40 = .ok (.iload_n 2, 1) := by decide +kernel
theorem dX9_thingIs_41 : decode cX9_thingIs 41 = .ok (.iconst 5, 1) := by decide +kernel
theorem dX9_thingIs_42 : decode cX9_thingIs 42 = .ok (.if_icmp .ne 11, 3) := by decide +kernel
theorem dX9_thingIs_45 : decode cX9_thingIs 45 = .ok (.aload_n 0, 1) := by decide +kernel
theorem dX9_thingIs_46 : decode cX9_thingIs 46 = .ok (.iload_n 1, 1) := by decide +kernel
theorem dX9_thingIs_47 : decode cX9_thingIs 47 = .ok (.invokevirtual 188, 3) := by decide +kernel
theorem dX9_thingIs_50 : decode cX9_thingIs 50 = .ok (.goto 9, 3) := by decide +kernel
theorem dX9_thingIs_53 : decode cX9_thingIs 53 = .ok (.aload_n 0, 1) := by decide +kernel
theorem dX9_thingIs_54 : decode cX9_thingIs 54 = .ok (.iload_n 1, 1) := by decide +kernel
theorem dX9_thingIs_55 : decode cX9_thingIs 55 = .ok (.iload_n 2, 1) := by decide +kernel
theorem dX9_thingIs_56 : decode cX9_thingIs 56 = .ok (.invokevirtual 158, 3) := by decide +kernel
theorem dX9_thingIs_59 : decode cX9_thingIs 59 = .ok (.ireturn, 1) := by decide +kernel
theorem dX9_isUnder_0 : decode cX9_isUnder 0 = .ok (.iload_n 1, 1) := by decide +kernel
theorem dX9_isUnder_1 : decode cX9_isUnder 1 = .ok (.ifCond .eq 23, 3) := by decide +kernel
theorem dX9_isUnder_4 : decode cX9_isUnder 4 = .ok (.iload_n 0, 1) := by decide +kernel
theorem dX9_isUnder_5 : decode cX9_isUnder 5 = .ok (.iload_n 1, 1) := by decide +kernel
theorem dX9_isUnder_6 : decode cX9_isUnder 6 = .ok (.if_icmp .eq 18, 3) := by decide +kernel
theorem dX9_isUnder_9 : decode cX9_isUnder 9 = .ok (.iload_n 1, 1) := by decide +kernel
theorem dX9_isUnder_10 : decode cX9_isUnder 10 = .ok (.iconst 1, 1) := by decide +kernel
theorem dX9_isUnder_11 : decode cX9_isUnder 11 = .ok (.if_icmp .ne 17, 3) := by decide +kernel
theorem dX9_isUnder_14 : decode cX9_isUnder 14 = .ok (.iload_n 0, 1) := by decide +kernel
theorem dX9_isUnder_15 : decode cX9_isUnder 15 = .ok (.iconst 4, 1) := by decide +kernel
theorem dX9_isUnder_16 : decode cX9_isUnder 16 = .ok (.if_icmp .eq 8, 3) := by decide +kernel
theorem dX9_isUnder_19 : decode cX9_isUnder 19 = .ok (.iload_n 0, 1) := by decide +kernel
theorem dX9_isUnder_20 : decode cX9_isUnder 20 = .ok (.iconst 5, 1) := by decide +kernel
theorem dX9_isUnder_21 : decode cX9_isUnder 21 = .ok (.if_icmp .ne 7, 3) := by decide +kernel
theorem dX9_isUnder_24 : decode cX9_isUnder 24 = .ok (.iconst 1, 1) := by decide +kernel
theorem dX9_isUnder_25 : decode cX9_isUnder 25 = .ok (.goto 4, 3) := by decide +kernel
theorem dX9_isUnder_28 : decode cX9_isUnder 28 = .ok (.iconst 0, 1) := by decide +kernel
theorem dX9_isUnder_29 : decode cX9_isUnder 29 = .ok (.ireturn, 1) := by decide +kernel
theorem dX9_as_0 : decode cX9_as 0 = .ok (.aload_n 0, 1) := by decide +kernel
theorem dX9_as_1 : decode cX9_as 1 = .ok (.iload_n 1, 1) := by decide +kernel
theorem dX9_as_2 : decode cX9_as 2 = .ok (.invokevirtual 185, 3) := by decide +kernel
theorem dX9_as_5 : decode cX9_as 5 = .ok (.ifCond .eq 13, 3) := by decide +kernel
theorem dX9_as_8 : decode cX9_as 8 = .ok (.iload_n 2, 1) := by decide +kernel
theorem dX9_as_9 : decode cX9_as 9 = .ok (.iconst 0, 1) := by decide +kernel
theorem dX9_as_10 : decode cX9_as 10 = .ok (.bipush 6, 2) := by decide +kernel
theorem dX9_as_12 : decode cX9_as 12 = .ok (.invokestatic 63, 3) := by decide +kernel
theorem dX9_as_15 : decode cX9_as 15 = .ok (.ifCond .ne 9, 3) := by decide +kernel
theorem dX9_as_18 : decode cX9_as 18 = .ok (.aload_n 0, 1) := by decide +kernel
theorem dX9_as_19 : decode cX9_as 19 = .ok (.iconst 1, 1) := by decide +kernel
theorem dX9_as_20 : decode cX9_as 20 = .ok (.invokevirtual 83, 3) := by decide +kernel
theorem dX9_as_23 : decode cX9_as 23 = .ok (.ireturn, 1) := by decide +kernel
theorem dX9_as_24 : decode cX9_as 24 = .ok (.aload_n 0, 1) := by decide +kernel
theorem dX9_as_25 : decode cX9_as 25 = .ok (.iload_n 1, 1) := by decide +kernel
theorem dX9_as_26 : decode cX9_as 26 = .ok (.iconst 0, 1) := by decide +kernel
theorem dX9_as_27 : decode cX9_as 27 = .ok (.invokevirtual 158, 3) := by decide +kernel
theorem dX9_as_30 : decode cX9_as 30 = .ok (.iload_n 2, 1) := by decide +kernel
theorem dX9_as_31 : decode cX9_as 31 = .ok (.invokestatic 191, 3) := by decide +kernel
theorem dX9_as_34 : decode cX9_as 34 = .ok (.ifCond .eq 12, 3) := by decide +kernel
theorem dX9_as_37 : decode cX9_as 37 = .ok (.aload_n 0, 1) := by decide +kernel
theorem dX9_as_38 : decode cX9_as 38 = .ok (.iload_n 1, 1) := by decide +kernel
theorem dX9_as_39 : decode cX9_as 39 = .ok (.iconst 3, 1) := by decide +kernel
theorem dX9_as_40 : decode cX9_as 40 = .ok (.invokevirtual 158, 3) := by decide +kernel
theorem dX9_as_43 : decode cX9_as 43 = .ok (.goto 8, 3) := by decide +kernel
theorem dX9_as_46 : decode cX9_as 46 = .ok (.aload_n 0, 1) := by decide +kernel
theorem dX9_as_47 : decode cX9_as 47 = .ok (.iconst 5, 1) := by decide +kernel
theorem dX9_as_48 : decode cX9_as 48 = .ok (.invokevirtual 83, 3) := by decide +kernel
theorem dX9_as_51 : decode cX9_as 51 = .ok (.ireturn, 1) := by decide +kernel
theorem dX9_set_0 : decode cX9_set 0 = .ok (.iload_n 2, 1) := by decide +kernel
theorem dX9_set_1 : decode cX9_set 1 = .ok (.ifCond .ne 8, 3) := by decide +kernel
theorem dX9_set_4 : decode cX9_set 4 = .ok (.bipush 6, 2) := by decide +kernel
theorem dX9_set_6 : decode cX9_set 6 = .ok (.goto 24, 3) := by decide +kernel
theorem dX9_set_9 : decode cX9_set 9 = .ok (.iload_n 2, 1) := by decide +kernel
theorem dX9_set_10 : decode cX9_set 10 = .ok (.iconst 1, 1) := by decide +kernel
theorem dX9_set_11 : decode cX9_set 11 = .ok (.if_icmp .ne 8, 3) := by decide +kernel
theorem dX9_set_14 : decode cX9_set 14 = .ok (.bipush 9, 2) := by decide +kernel
theorem dX9_set_16 : decode cX9_set 16 = .ok (.goto 14, 3) := by decide +kernel
theorem dX9_set_19 : decode cX9_set 19 = .ok (.iload_n 2, 1) := by decide +kernel
theorem dX9_set_20 : decode cX9_set 20 = .ok (.iconst 2, 1) := by decide +kernel
theorem dX9_set_21 : decode cX9_set 21 = .ok (.if_icmp .ne 7, 3) := by decide +kernel
theorem dX9_set_24 : decode cX9_set 24 = .ok (.iconst 3, 1) := by decide +kernel
theorem dX9_set_25 : decode cX9_set 25 = .ok (.goto 5, 3) := by decide +kernel
theorem dX9_set_28 : decode cX9_set 28 = .ok (.ldc 67, 2) := by decide +kernel
theorem dX9_set_30 : decode cX9_set 30 = .ok (.istore 4, 2) := by decide +kernel
theorem dX9_set_32 : decode cX9_set 32 = .ok (.aload_n 0, 1) := by decide +kernel
theorem dX9_set_33 : decode cX9_set 33 = .ok (.iload_n 1, 1) := by decide +kernel
theorem dX9_set_34 : decode cX9_set 34 = .ok (.invokevirtual 185, 3) := by decide +kernel
theorem dX9_set_37 : decode cX9_set 37 = .ok (.ifCond .eq 22, 3) := by decide +kernel
theorem dX9_set_40 : decode cX9_set 40 = .ok (.iload_n 2, 1) := by decide +kernel
theorem dX9_set_41 : decode cX9_set 41 = .ok (.iconst 0, 1) := by decide +kernel
theorem dX9_set_42 : decode cX9_set 42 = .ok (.iconst 3, 1) := by decide +kernel
theorem dX9_set_43 : decode cX9_set 43 = .ok (.invokestatic 63, 3) := by decide +kernel
theorem dX9_set_46 : decode cX9_set 46 = .ok (.ifCond .eq 13, 3) := by decide +kernel
theorem dX9_set_49 : decode cX9_set 49 = .ok (.iload_n 3, 1) := by decide +kernel
theorem dX9_set_50 : decode cX9_set 50 = .ok (.iconst 0, 1) := by decide +kernel
theorem dX9_set_51 : decode cX9_set 51 = .ok (.iload 4, 2) := by decide +kernel
theorem dX9_set_53 : decode cX9_set 53 = .ok (.invokestatic 63, 3) := by decide +kernel
theorem dX9_set_56 : decode cX9_set 56 = .ok (.ifCond .ne 9, 3) := by decide +kernel
theorem dX9_set_59 : decode cX9_set 59 = .ok (.aload_n 0, 1) := by decide +kernel
theorem dX9_set_60 : decode cX9_set 60 = .ok (.iconst 1, 1) := by decide +kernel
theorem dX9_set_61 : decode cX9_set 61 = .ok (.invokevirtual 83, 3) := by decide +kernel
theorem dX9_set_64 : decode cX9_set 64 = .ok (.ireturn, 1) := by decide +kernel
theorem dX9_set_65 : decode cX9_set 65 = .ok (.aload_n 0, 1) := by decide +kernel
theorem dX9_set_66 : decode cX9_set 66 = .ok (.iload_n 1, 1) := by decide +kernel
theorem dX9_set_67 : decode cX9_set 67 = .ok (.iload_n 2, 1) := by decide +kernel
theorem dX9_set_68 : decode cX9_set 68 = .ok (.invokevirtual 158, 3) := by decide +kernel
theorem dX9_set_71 : decode cX9_set 71 = .ok (.istore 5, 2) := by decide +kernel
theorem dX9_set_73 : decode cX9_set 73 = .ok (.aload_n 0, 1) := by decide +kernel
theorem dX9_set_74 : decode cX9_set 74 = .ok (.getfield 7, 3) := by decide +kernel
theorem dX9_set_77 : decode cX9_set 77 = .ok (.bipush 28, 2) := by decide +kernel
theorem dX9_set_79 : decode cX9_set 79 = .ok (.iconst 4, 1) := by decide +kernel
theorem dX9_set_80 : decode cX9_set 80 = .ok (.iload_n 1, 1) := by decide +kernel
theorem dX9_set_81 : decode cX9_set 81 = .ok (.imul, 1) := by decide +kernel
theorem dX9_set_82 : decode cX9_set 82 = .ok (.iadd, 1) := by decide +kernel
theorem dX9_set_83 : decode cX9_set 83 = .ok (.iload_n 2, 1) := by decide +kernel
theorem dX9_set_84 : decode cX9_set 84 = .ok (.iadd, 1) := by decide +kernel
theorem dX9_set_85 : decode cX9_set 85 = .ok (.iload_n 3, 1) := by decide +kernel
theorem dX9_set_86 : decode cX9_set 86 = .ok (.iastore, 1) := by decide +kernel
theorem dX9_set_87 : decode cX9_set 87 = .ok (.iload 5, 2) := by decide +kernel
theorem dX9_set_89 : decode cX9_set 89 = .ok (.ireturn, 1) := by decide +kernel
theorem dX9_age_0 : decode cX9_age 0 = .ok (.aload_n 0, 1) := by decide +kernel
theorem dX9_age_1 : decode cX9_age 1 = .ok (.iload_n 1, 1) := by decide +kernel
theorem dX9_age_2 : decode cX9_age 2 = .ok (.invokevirtual 185, 3) := by decide +kernel
theorem dX9_age_5 : decode cX9_age 5 = .ok (.ifCond .eq 17, 3) := by decide +kernel
theorem dX9_age_8 : decode cX9_age 8 = .ok (.iload_n 2, 1) := by decide +kernel
theorem dX9_age_9 : decode cX9_age 9 = .ok (.invokestatic 75, 3) := by decide +kernel
theorem dX9_age_12 : decode cX9_age 12 = .ok (.ifCond .eq 10, 3) := by decide +kernel
theorem dX9_age_15 : decode cX9_age 15 = .ok (.iload_n 3, 1) := by decide +kernel
theorem dX9_age_16 : decode cX9_age 16 = .ok (.invokestatic 94, 3) := by decide +kernel
theorem dX9_age_19 : decode cX9_age 19 = .ok (.ifCond .ne 9, 3) := by decide +kernel
theorem dX9_age_22 : decode cX9_age 22 = .ok (.aload_n 0, 1) := by decide +kernel
theorem dX9_age_23 : decode cX9_age 23 = .ok (.iconst 1, 1) := by decide +kernel
theorem dX9_age_24 : decode cX9_age 24 = .ok (.invokevirtual 83, 3) := by decide +kernel
theorem dX9_age_27 : decode cX9_age 27 = .ok (.ireturn, 1) := by decide +kernel
theorem dX9_age_28 : decode cX9_age 28 = .ok (.aload_n 0, 1) := by decide +kernel
theorem dX9_age_29 : decode cX9_age 29 = .ok (.invokevirtual 91, 3) := by decide +kernel
theorem dX9_age_32 : decode cX9_age 32 = .ok (.aload_n 0, 1) := by decide +kernel
theorem dX9_age_33 : decode cX9_age 33 = .ok (.iload_n 1, 1) := by decide +kernel
theorem dX9_age_34 : decode cX9_age 34 = .ok (.iload_n 2, 1) := by decide +kernel
theorem dX9_age_35 : decode cX9_age 35 = .ok (.iload_n 3, 1) := by decide +kernel
theorem dX9_age_36 : decode cX9_age 36 = .ok (.invokevirtual 179, 3) := by decide +kernel
theorem dX9_age_39 : decode cX9_age 39 = .ok (.ireturn, 1) := by decide +kernel
theorem dX9_comesAt_0 : decode cX9_comesAt 0 = .ok (.aload_n 0, 1) := by decide +kernel
theorem dX9_comesAt_1 : decode cX9_comesAt 1 = .ok (.iload_n 1, 1) := by decide +kernel
theorem dX9_comesAt_2 : decode cX9_comesAt 2 = .ok (.iconst 3, 1) := by decide +kernel
theorem dX9_comesAt_3 : decode cX9_comesAt 3 = .ok (.invokevirtual 158, 3) := by decide +kernel
theorem dX9_comesAt_6 : decode cX9_comesAt 6 = .ok (.istore 4, 2) := by decide +kernel
theorem dX9_comesAt_8 : decode cX9_comesAt 8 = .ok (.iload 4, 2) := by decide +kernel
theorem dX9_comesAt_10 : decode cX9_comesAt 10 = .ok (.sipush 365, 3) := by decide +kernel
theorem dX9_comesAt_13 : decode cX9_comesAt 13 = .ok (.idiv, 1) := by decide +kernel
theorem dX9_comesAt_14 : decode cX9_comesAt 14 = .ok (.istore 5, 2) := by decide +kernel
theorem dX9_comesAt_16 : decode cX9_comesAt 16 = .ok (.iload 5, 2) := by decide +kernel
theorem dX9_comesAt_18 : decode cX9_comesAt 18 = .ok (.sipush 200, 3) := by decide +kernel
theorem dX9_comesAt_21 : decode cX9_comesAt 21 = .ok (.if_icmp .ge 78, 3) := by decide +kernel
theorem dX9_comesAt_24 : decode cX9_comesAt 24 = .ok (.sipush 365, 3) := by decide +kernel
theorem dX9_comesAt_27 : decode cX9_comesAt 27 = .ok (.iload 5, 2) := by decide +kernel
theorem dX9_comesAt_29 : decode cX9_comesAt 29 = .ok (.imul, 1) := by decide +kernel
theorem dX9_comesAt_30 : decode cX9_comesAt 30 = .ok (.iload 4, 2) := by decide +kernel
theorem dX9_comesAt_32 : decode cX9_comesAt 32 = .ok (.if_icmp .ge 8, 3) := by decide +kernel
theorem dX9_comesAt_35 : decode cX9_comesAt 35 = .ok (.iload 4, 2) := by decide +kernel
theorem dX9_comesAt_37 : decode cX9_comesAt 37 = .ok (.goto 9, 3) := by decide +kernel
theorem dX9_comesAt_40 : decode cX9_comesAt 40 = .ok (.sipush 365, 3) := by decide +kernel
theorem dX9_comesAt_43 : decode cX9_comesAt 43 = .ok (.iload 5, 2) := by decide +kernel
theorem dX9_comesAt_45 : decode cX9_comesAt 45 = .ok (.imul, 1) := by decide +kernel
theorem dX9_comesAt_46 : decode cX9_comesAt 46 = .ok (.istore 6, 2) := by decide +kernel
theorem dX9_comesAt_48 : decode cX9_comesAt 48 = .ok (.aload_n 0, 1) := by decide +kernel
theorem dX9_comesAt_49 : decode cX9_comesAt 49 = .ok (.iload_n 1, 1) := by decide +kernel
theorem dX9_comesAt_50 : decode cX9_comesAt 50 = .ok (.iload_n 2, 1) := by decide +kernel
theorem dX9_comesAt_51 : decode cX9_comesAt 51 = .ok (.iload 6, 2) := by decide +kernel
theorem dX9_comesAt_53 : decode cX9_comesAt 53 = .ok (.invokevirtual 179, 3) := by decide +kernel
theorem dX9_comesAt_56 : decode cX9_comesAt 56 = .ok (.iload_n 3, 1) := by decide +kernel
theorem dX9_comesAt_57 : decode cX9_comesAt 57 = .ok (.if_icmp .lt 6, 3) := by decide +kernel
theorem dX9_comesAt_60 : decode cX9_comesAt 60 = .ok (.iload 6, 2) := by decide +kernel
theorem dX9_comesAt_62 : decode cX9_comesAt 62 = .ok (.ireturn, 1) := by decide +kernel
theorem dX9_comesAt_63 : decode cX9_comesAt 63 = .ok (.sipush 365, 3) := by decide +kernel
theorem dX9_comesAt_66 : decode cX9_comesAt 66 = .ok (.iload 5, 2) := by decide +kernel
theorem dX9_comesAt_68 : decode cX9_comesAt 68 = .ok (.imul, 1) := by decide +kernel
theorem dX9_comesAt_69 : decode cX9_comesAt 69 = .ok (.iload 4, 2) := by decide +kernel
theorem dX9_comesAt_71 : decode cX9_comesAt 71 = .ok (.sipush 365, 3) := by decide +kernel
theorem dX9_comesAt_74 : decode cX9_comesAt 74 = .ok (.irem, 1) := by decide +kernel
theorem dX9_comesAt_75 : decode cX9_comesAt 75 = .ok (.iadd, 1) := by decide +kernel
theorem dX9_comesAt_76 : decode cX9_comesAt 76 = .ok (.istore 7, 2) := by decide +kernel
theorem dX9_comesAt_78 : decode cX9_comesAt 78 = .ok (.aload_n 0, 1) := by decide +kernel
theorem dX9_comesAt_79 : decode cX9_comesAt 79 = .ok (.iload_n 1, 1) := by decide +kernel
theorem dX9_comesAt_80 : decode cX9_comesAt 80 = .ok (.iload_n 2, 1) := by decide +kernel
theorem dX9_comesAt_81 : decode cX9_comesAt 81 = .ok (.iload 7, 2) := by decide +kernel
theorem dX9_comesAt_83 : decode cX9_comesAt 83 = .ok (.invokevirtual 179, 3) := by decide +kernel
theorem dX9_comesAt_86 : decode cX9_comesAt 86 = .ok (.iload_n 3, 1) := by decide +kernel
theorem dX9_comesAt_87 : decode cX9_comesAt 87 = .ok (.if_icmp .lt 6, 3) := by decide +kernel
theorem dX9_comesAt_90 : decode cX9_comesAt 90 = .ok (.iload 7, 2) := by decide +kernel
theorem dX9_comesAt_92 : decode cX9_comesAt 92 = .ok (.ireturn, 1) := by decide +kernel
theorem dX9_comesAt_93 : decode cX9_comesAt 93 = .ok (.iinc 5 1, 3) := by decide +kernel
theorem dX9_comesAt_96 : decode cX9_comesAt 96 = .ok (.goto (-80), 3) := by decide +kernel
theorem dX9_comesAt_99 : decode cX9_comesAt 99 = .ok (.iconst (-1), 1) := by decide +kernel
theorem dX9_comesAt_100 : decode cX9_comesAt 100 = .ok (.ireturn, 1) := by decide +kernel
theorem dX9_comes_0 : decode cX9_comes 0 = .ok (.aload_n 0, 1) := by decide +kernel
theorem dX9_comes_1 : decode cX9_comes 1 = .ok (.iload_n 1, 1) := by decide +kernel
theorem dX9_comes_2 : decode cX9_comes 2 = .ok (.invokevirtual 185, 3) := by decide +kernel
theorem dX9_comes_5 : decode cX9_comes 5 = .ok (.ifCond .eq 20, 3) := by decide +kernel
theorem dX9_comes_8 : decode cX9_comes 8 = .ok (.iload_n 2, 1) := by decide +kernel
theorem dX9_comes_9 : decode cX9_comes 9 = .ok (.invokestatic 75, 3) := by decide +kernel
theorem dX9_comes_12 : decode cX9_comes 12 = .ok (.ifCond .eq 13, 3) := by decide +kernel
theorem dX9_comes_15 : decode cX9_comes 15 = .ok (.iload_n 3, 1) := by decide +kernel
theorem dX9_comes_16 : decode cX9_comes 16 = .ok (.iconst 1, 1) := by decide +kernel
theorem dX9_comes_17 : decode cX9_comes 17 = .ok (.bipush 99, 2) := by decide +kernel
theorem dX9_comes_19 : decode cX9_comes 19 = .ok (.invokestatic 63, 3) := by decide +kernel
theorem dX9_comes_22 : decode cX9_comes 22 = .ok (.ifCond .ne 9, 3) := by decide +kernel
theorem dX9_comes_25 : decode cX9_comes 25 = .ok (.aload_n 0, 1) := by decide +kernel
theorem dX9_comes_26 : decode cX9_comes 26 = .ok (.iconst 1, 1) := by decide +kernel
theorem dX9_comes_27 : decode cX9_comes 27 = .ok (.invokevirtual 83, 3) := by decide +kernel
theorem dX9_comes_30 : decode cX9_comes 30 = .ok (.ireturn, 1) := by decide +kernel
theorem dX9_comes_31 : decode cX9_comes 31 = .ok (.aload_n 0, 1) := by decide +kernel
theorem dX9_comes_32 : decode cX9_comes 32 = .ok (.invokevirtual 91, 3) := by decide +kernel
theorem dX9_comes_35 : decode cX9_comes 35 = .ok (.aload_n 0, 1) := by decide +kernel
theorem dX9_comes_36 : decode cX9_comes 36 = .ok (.iload_n 1, 1) := by decide +kernel
theorem dX9_comes_37 : decode cX9_comes 37 = .ok (.iload_n 2, 1) := by decide +kernel
theorem dX9_comes_38 : decode cX9_comes 38 = .ok (.iload_n 3, 1) := by decide +kernel
theorem dX9_comes_39 : decode cX9_comes 39 = .ok (.invokevirtual 194, 3) := by decide +kernel
theorem dX9_comes_42 : decode cX9_comes 42 = .ok (.istore 4, 2) := by decide +kernel
theorem dX9_comes_44 : decode cX9_comes 44 = .ok (.iload 4, 2) := by decide +kernel
theorem dX9_comes_46 : decode cX9_comes 46 = .ok (.iconst (-1), 1) := by decide +kernel
theorem dX9_comes_47 : decode cX9_comes 47 = .ok (.if_icmp .ne 11, 3) := by decide +kernel
theorem dX9_comes_50 : decode cX9_comes 50 = .ok (.aload_n 0, 1) := by decide +kernel
theorem dX9_comes_51 : decode cX9_comes 51 = .ok (.iconst 2, 1) := by decide +kernel
theorem dX9_comes_52 : decode cX9_comes 52 = .ok (.invokevirtual 83, 3) := by decide +kernel
theorem dX9_comes_55 : decode cX9_comes 55 = .ok (.goto 5, 3) := by decide +kernel
theorem dX9_comes_58 : decode cX9_comes 58 = .ok (.iload 4, 2) := by decide +kernel
theorem dX9_comes_60 : decode cX9_comes 60 = .ok (.ireturn, 1) := by decide +kernel
theorem dX9_where_0 : decode cX9_where 0 = .ok (.aload_n 0, 1) := by decide +kernel
theorem dX9_where_1 : decode cX9_where 1 = .ok (.iload_n 1, 1) := by decide +kernel
theorem dX9_where_2 : decode cX9_where 2 = .ok (.invokevirtual 185, 3) := by decide +kernel
theorem dX9_where_5 : decode cX9_where 5 = .ok (.ifCond .eq 13, 3) := by decide +kernel
theorem dX9_where_8 : decode cX9_where 8 = .ok (.iload_n 2, 1) := by decide +kernel
theorem dX9_where_9 : decode cX9_where 9 = .ok (.iconst 1, 1) := by decide +kernel
theorem dX9_where_10 : decode cX9_where 10 = .ok (.bipush 99, 2) := by decide +kernel
theorem dX9_where_12 : decode cX9_where 12 = .ok (.invokestatic 63, 3) := by decide +kernel
theorem dX9_where_15 : decode cX9_where 15 = .ok (.ifCond .ne 9, 3) := by decide +kernel
theorem dX9_where_18 : decode cX9_where 18 = .ok (.aload_n 0, 1) := by decide +kernel
theorem dX9_where_19 : decode cX9_where 19 = .ok (.iconst 1, 1) := by decide +kernel
theorem dX9_where_20 : decode cX9_where 20 = .ok (.invokevirtual 83, 3) := by decide +kernel
theorem dX9_where_23 : decode cX9_where 23 = .ok (.ireturn, 1) := by decide +kernel
theorem dX9_where_24 : decode cX9_where 24 = .ok (.aload_n 0, 1) := by decide +kernel
theorem dX9_where_25 : decode cX9_where 25 = .ok (.invokevirtual 91, 3) := by decide +kernel
theorem dX9_where_28 : decode cX9_where 28 = .ok (.iconst (-1), 1) := by decide +kernel
theorem dX9_where_29 : decode cX9_where 29 = .ok (.istore_n 3, 1) := by decide +kernel
theorem dX9_where_30 : decode cX9_where 30 = .ok (.iconst 0, 1) := by decide +kernel
theorem dX9_where_31 : decode cX9_where 31 = .ok (.istore 4, 2) := by decide +kernel
theorem dX9_where_33 : decode cX9_where 33 = .ok (.iconst 0, 1) := by decide +kernel
theorem dX9_where_34 : decode cX9_where 34 = .ok (.istore 5, 2) := by decide +kernel
theorem dX9_where_36 : decode cX9_where 36 = .ok (.iload 5, 2) := by decide +kernel
theorem dX9_where_38 : decode cX9_where 38 = .ok (.iconst 4, 1) := by decide +kernel
theorem dX9_where_39 : decode cX9_where 39 = .ok (.if_icmp .ge 44, 3) := by decide +kernel
theorem dX9_where_42 : decode cX9_where 42 = .ok (.aload_n 0, 1) := by decide +kernel
theorem dX9_where_43 : decode cX9_where 43 = .ok (.iload_n 1, 1) := by decide +kernel
theorem dX9_where_44 : decode cX9_where 44 = .ok (.iload 5, 2) := by decide +kernel
theorem dX9_where_46 : decode cX9_where 46 = .ok (.iload_n 2, 1) := by decide +kernel
theorem dX9_where_47 : decode cX9_where 47 = .ok (.invokevirtual 194, 3) := by decide +kernel
theorem dX9_where_50 : decode cX9_where 50 = .ok (.istore 6, 2) := by decide +kernel
theorem dX9_where_52 : decode cX9_where 52 = .ok (.iload 6, 2) := by decide +kernel
theorem dX9_where_54 : decode cX9_where 54 = .ok (.iconst (-1), 1) := by decide +kernel
theorem dX9_where_55 : decode cX9_where 55 = .ok (.if_icmp .eq 22, 3) := by decide +kernel
theorem dX9_where_58 : decode cX9_where 58 = .ok (.iload_n 3, 1) := by decide +kernel
theorem dX9_where_59 : decode cX9_where 59 = .ok (.iconst (-1), 1) := by decide +kernel
theorem dX9_where_60 : decode cX9_where 60 = .ok (.if_icmp .eq 10, 3) := by decide +kernel
theorem dX9_where_63 : decode cX9_where 63 = .ok (.iload 6, 2) := by decide +kernel
theorem dX9_where_65 : decode cX9_where 65 = .ok (.iload 4, 2) := by decide +kernel
theorem dX9_where_67 : decode cX9_where 67 = .ok (.if_icmp .ge 10, 3) := by decide +kernel
theorem dX9_where_70 : decode cX9_where 70 = .ok (.iload 5, 2) := by decide +kernel
theorem dX9_where_72 : decode cX9_where 72 = .ok (.istore_n 3, 1) := by decide +kernel
theorem dX9_where_73 : decode cX9_where 73 = .ok (.iload 6, 2) := by decide +kernel
theorem dX9_where_75 : decode cX9_where 75 = .ok (.istore 4, 2) := by decide +kernel
theorem dX9_where_77 : decode cX9_where 77 = .ok (.iinc 5 1, 3) := by decide +kernel
theorem dX9_where_80 : decode cX9_where 80 = .ok (.goto (-44), 3) := by decide +kernel
theorem dX9_where_83 : decode cX9_where 83 = .ok (.iload_n 3, 1) := by decide +kernel
theorem dX9_where_84 : decode cX9_where 84 = .ok (.iconst (-1), 1) := by decide +kernel
theorem dX9_where_85 : decode cX9_where 85 = .ok (.if_icmp .ne 11, 3) := by decide +kernel
theorem dX9_where_88 : decode cX9_where 88 = .ok (.aload_n 0, 1) := by decide +kernel
theorem dX9_where_89 : decode cX9_where 89 = .ok (.iconst 2, 1) := by decide +kernel
theorem dX9_where_90 : decode cX9_where 90 = .ok (.invokevirtual 83, 3) := by decide +kernel
theorem dX9_where_93 : decode cX9_where 93 = .ok (.goto 4, 3) := by decide +kernel
theorem dX9_where_96 : decode cX9_where 96 = .ok (.iload_n 3, 1) := by decide +kernel
theorem dX9_where_97 : decode cX9_where 97 = .ok (.ireturn, 1) := by decide +kernel
theorem dX9_areTwins_0 : decode cX9_areTwins 0 = .ok (.aload_n 0, 1) := by decide +kernel
theorem dX9_areTwins_1 : decode cX9_areTwins 1 = .ok (.iload_n 1, 1) := by decide +kernel
theorem dX9_areTwins_2 : decode cX9_areTwins 2 = .ok (.iconst 0, 1) := by decide +kernel
theorem dX9_areTwins_3 : decode cX9_areTwins 3 = .ok (.invokevirtual 158, 3) := by decide +kernel
theorem dX9_areTwins_6 : decode cX9_areTwins 6 = .ok (.iconst 1, 1) := by decide +kernel
theorem dX9_areTwins_7 : decode cX9_areTwins 7 = .ok (.invokestatic 191, 3) := by decide +kernel
theorem dX9_areTwins_10 : decode cX9_areTwins 10 = .ok (.ifCond .eq 35, 3) := by decide +kernel
theorem dX9_areTwins_13 : decode cX9_areTwins 13 = .ok (.aload_n 0, 1) := by decide +kernel
theorem dX9_areTwins_14 : decode cX9_areTwins 14 = .ok (.iload_n 2, 1) := by decide +kernel
theorem dX9_areTwins_15 : decode cX9_areTwins 15 = .ok (.iconst 0, 1) := by decide +kernel
theorem dX9_areTwins_16 : decode cX9_areTwins 16 = .ok (.invokevirtual 158, 3) := by decide +kernel
theorem dX9_areTwins_19 : decode cX9_areTwins 19 = .ok (.iconst 1, 1) := by decide +kernel
theorem dX9_areTwins_20 : decode cX9_areTwins 20 = .ok (.invokestatic 191, 3) := by decide +kernel
theorem dX9_areTwins_23 : decode cX9_areTwins 23 = .ok (.ifCond .eq 22, 3) := by decide +kernel
theorem dX9_areTwins_26 : decode cX9_areTwins 26 = .ok (.aload_n 0, 1) := by decide +kernel
theorem dX9_areTwins_27 : decode cX9_areTwins 27 = .ok (.iload_n 1, 1) := by decide +kernel
theorem dX9_areTwins_28 : decode cX9_areTwins 28 = .ok (.iconst 2, 1) := by decide +kernel
theorem dX9_areTwins_29 : decode cX9_areTwins 29 = .ok (.invokevirtual 158, 3) := by decide +kernel
theorem dX9_areTwins_32 : decode cX9_areTwins 32 = .ok (.aload_n 0, 1) := by decide +kernel
theorem dX9_areTwins_33 : decode cX9_areTwins 33 = .ok (.iload_n 2, 1) := by decide +kernel
theorem dX9_areTwins_34 : decode cX9_areTwins 34 = .ok (.iconst 2, 1) := by decide +kernel
theorem dX9_areTwins_35 : decode cX9_areTwins 35 = .ok (.invokevirtual 158, 3) := by decide +kernel
theorem dX9_areTwins_38 : decode cX9_areTwins 38 = .ok (.if_icmp .ne 7, 3) := by decide +kernel
theorem dX9_areTwins_41 : decode cX9_areTwins 41 = .ok (.iconst 1, 1) := by decide +kernel
theorem dX9_areTwins_42 : decode cX9_areTwins 42 = .ok (.goto 4, 3) := by decide +kernel
theorem dX9_areTwins_45 : decode cX9_areTwins 45 = .ok (.iconst 0, 1) := by decide +kernel
theorem dX9_areTwins_46 : decode cX9_areTwins 46 = .ok (.istore_n 3, 1) := by decide +kernel
theorem dX9_areTwins_47 : decode cX9_areTwins 47 = .ok (.aload_n 0, 1) := by decide +kernel
theorem dX9_areTwins_48 : decode cX9_areTwins 48 = .ok (.iload_n 1, 1) := by decide +kernel
theorem dX9_areTwins_49 : decode cX9_areTwins 49 = .ok (.iconst 3, 1) := by decide +kernel
theorem dX9_areTwins_50 : decode cX9_areTwins 50 = .ok (.invokevirtual 158, 3) := by decide +kernel
theorem dX9_areTwins_53 : decode cX9_areTwins 53 = .ok (.istore 4, 2) := by decide +kernel
theorem dX9_areTwins_55 : decode cX9_areTwins 55 = .ok (.aload_n 0, 1) := by decide +kernel
theorem dX9_areTwins_56 : decode cX9_areTwins 56 = .ok (.iload_n 2, 1) := by decide +kernel
theorem dX9_areTwins_57 : decode cX9_areTwins 57 = .ok (.iconst 3, 1) := by decide +kernel
theorem dX9_areTwins_58 : decode cX9_areTwins 58 = .ok (.invokevirtual 158, 3) := by decide +kernel
theorem dX9_areTwins_61 : decode cX9_areTwins 61 = .ok (.istore 5, 2) := by decide +kernel
theorem dX9_areTwins_63 : decode cX9_areTwins 63 = .ok (.iload_n 3, 1) := by decide +kernel
theorem dX9_areTwins_64 : decode cX9_areTwins 64 = .ok (.ifCond .eq 56, 3) := by decide +kernel
theorem dX9_areTwins_67 : decode cX9_areTwins 67 = .ok (.iload 4, 2) := by decide +kernel
theorem dX9_areTwins_69 : decode cX9_areTwins 69 = .ok (.iload 5, 2) := by decide +kernel
theorem dX9_areTwins_71 : decode cX9_areTwins 71 = .ok (.if_icmp .eq 49, 3) := by decide +kernel
theorem dX9_areTwins_74 : decode cX9_areTwins 74 = .ok (.iload 4, 2) := by decide +kernel
theorem dX9_areTwins_76 : decode cX9_areTwins 76 = .ok (.sipush 365, 3) := by decide +kernel
theorem dX9_areTwins_79 : decode cX9_areTwins 79 = .ok (.irem, 1) := by decide +kernel
theorem dX9_areTwins_80 : decode cX9_areTwins 80 = .ok (.iload 5, 2) := by decide +kernel
theorem dX9_areTwins_82 : decode cX9_areTwins 82 = .ok (.sipush 365, 3) := by decide +kernel
theorem dX9_areTwins_85 : decode cX9_areTwins 85 = .ok (.irem, 1) := by decide +kernel
theorem dX9_areTwins_86 : decode cX9_areTwins 86 = .ok (.if_icmp .ne 34, 3) := by decide +kernel
theorem dX9_areTwins_89 : decode cX9_areTwins 89 = .ok (.aload_n 0, 1) := by decide +kernel
theorem dX9_areTwins_90 : decode cX9_areTwins 90 = .ok (.aload_n 0, 1) := by decide +kernel
theorem dX9_areTwins_91 : decode cX9_areTwins 91 = .ok (.iload_n 1, 1) := by decide +kernel
theorem dX9_areTwins_92 : decode cX9_areTwins 92 = .ok (.iconst 2, 1) := by decide +kernel
theorem dX9_areTwins_93 : decode cX9_areTwins 93 = .ok (.invokevirtual 158, 3) := by decide +kernel
theorem dX9_areTwins_96 : decode cX9_areTwins 96 = .ok (.iload 4, 2) := by decide +kernel
theorem dX9_areTwins_98 : decode cX9_areTwins 98 = .ok (.invokevirtual 97, 3) := by decide +kernel
theorem dX9_areTwins_101 : decode cX9_areTwins 101 = .ok (.aload_n 0, 1) := by decide +kernel
theorem dX9_areTwins_102 : decode cX9_areTwins 102 = .ok (.aload_n 0, 1) := by decide +kernel
theorem dX9_areTwins_103 : decode cX9_areTwins 103 = .ok (.iload_n 1, 1) := by decide +kernel
theorem dX9_areTwins_104 : decode cX9_areTwins 104 = .ok (.iconst 2, 1) := by decide +kernel
theorem dX9_areTwins_105 : decode cX9_areTwins 105 = .ok (.invokevirtual 158, 3) := by decide +kernel
theorem dX9_areTwins_108 : decode cX9_areTwins 108 = .ok (.iload 5, 2) := by decide +kernel
theorem dX9_areTwins_110 : decode cX9_areTwins 110 = .ok (.invokevirtual 97, 3) := by decide +kernel
theorem dX9_areTwins_113 : decode cX9_areTwins 113 = .ok (.if_icmp .ne 7, 3) := by decide +kernel
theorem dX9_areTwins_116 : decode cX9_areTwins 116 = .ok (.iconst 1, 1) := by decide +kernel
theorem dX9_areTwins_117 : decode cX9_areTwins 117 = .ok (.goto 4, 3) := by decide +kernel
theorem dX9_areTwins_120 : decode cX9_areTwins 120 = .ok (.iconst 0, 1) := by decide +kernel
theorem dX9_areTwins_121 : decode cX9_areTwins 121 = .ok (.ireturn, 1) := by decide +kernel
theorem dX9_twins_0 : decode cX9_twins 0 = .ok (.aload_n 0, 1) := by decide +kernel
theorem dX9_twins_1 : decode cX9_twins 1 = .ok (.invokevirtual 91, 3) := by decide +kernel
theorem dX9_twins_4 : decode cX9_twins 4 = .ok (.iconst 0, 1) := by decide +kernel
theorem dX9_twins_5 : decode cX9_twins 5 = .ok (.istore_n 1, 1) := by decide +kernel
theorem dX9_twins_6 : decode cX9_twins 6 = .ok (.iconst 0, 1) := by decide +kernel
theorem dX9_twins_7 : decode cX9_twins 7 = .ok (.istore_n 2, 1) := by decide +kernel
theorem dX9_twins_8 : decode cX9_twins 8 = .ok (.iload_n 2, 1) := by decide +kernel
