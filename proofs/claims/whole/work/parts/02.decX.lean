theorem dX0_firstBroken_0 : decode cX0_firstBroken 0 = .ok (.aload_n 0, 1) := by decide +kernel
theorem dX0_firstBroken_1 : decode cX0_firstBroken 1 = .ok (.invokevirtual 9, 3) := by decide +kernel
theorem dX0_firstBroken_4 : decode cX0_firstBroken 4 = .ok (.iconst 4, 1) := by decide +kernel
theorem dX0_firstBroken_5 : decode cX0_firstBroken 5 = .ok (.if_icmp .ge 5, 3) := by decide +kernel
theorem dX0_firstBroken_8 : decode cX0_firstBroken 8 = .ok (.iconst 1, 1) := by decide +kernel
theorem dX0_firstBroken_9 : decode cX0_firstBroken 9 = .ok (.ireturn, 1) := by decide +kernel
theorem dX0_firstBroken_10 : decode cX0_firstBroken 10 = .ok (.aload_n 0, 1) := by decide +kernel
theorem dX0_firstBroken_11 : decode cX0_firstBroken 11 = .ok (.iconst 0, 1) := by decide +kernel
theorem dX0_firstBroken_12 : decode cX0_firstBroken 12 = .ok (.invokevirtual 15, 3) := by decide +kernel
theorem dX0_firstBroken_15 : decode cX0_firstBroken 15 = .ok (.bipush 80, 2) := by decide +kernel
theorem dX0_firstBroken_17 : decode cX0_firstBroken 17 = .ok (.if_icmp .ne 13, 3) := by decide +kernel
theorem dX0_firstBroken_20 : decode cX0_firstBroken 20 = .ok (.aload_n 0, 1) := by decide +kernel
theorem dX0_firstBroken_21 : decode cX0_firstBroken 21 = .ok (.iconst 1, 1) := by decide +kernel
theorem dX0_firstBroken_22 : decode cX0_firstBroken 22 = .ok (.invokevirtual 15, 3) := by decide +kernel
theorem dX0_firstBroken_25 : decode cX0_firstBroken 25 = .ok (.bipush 82, 2) := by decide +kernel
theorem dX0_firstBroken_27 : decode cX0_firstBroken 27 = .ok (.if_icmp .eq 5, 3) := by decide +kernel
theorem dX0_firstBroken_30 : decode cX0_firstBroken 30 = .ok (.iconst 2, 1) := by decide +kernel
theorem dX0_firstBroken_31 : decode cX0_firstBroken 31 = .ok (.ireturn, 1) := by decide +kernel
theorem dX0_firstBroken_32 : decode cX0_firstBroken 32 = .ok (.aload_n 0, 1) := by decide +kernel
theorem dX0_firstBroken_33 : decode cX0_firstBroken 33 = .ok (.iconst 2, 1) := by decide +kernel
theorem dX0_firstBroken_34 : decode cX0_firstBroken 34 = .ok (.invokevirtual 15, 3) := by decide +kernel
theorem dX0_firstBroken_37 : decode cX0_firstBroken 37 = .ok (.istore_n 1, 1) := by decide +kernel
theorem dX0_firstBroken_38 : decode cX0_firstBroken 38 = .ok (.iload_n 1, 1) := by decide +kernel
theorem dX0_firstBroken_39 : decode cX0_firstBroken 39 = .ok (.iconst 1, 1) := by decide +kernel
theorem dX0_firstBroken_40 : decode cX0_firstBroken 40 = .ok (.if_icmp .lt 9, 3) := by decide +kernel
theorem dX0_firstBroken_43 : decode cX0_firstBroken 43 = .ok (.iload_n 1, 1) := by decide +kernel
theorem dX0_firstBroken_44 : decode cX0_firstBroken 44 = .ok (.bipush 12, 2) := by decide +kernel
theorem dX0_firstBroken_46 : decode cX0_firstBroken 46 = .ok (.if_icmp .le 5, 3) := by decide +kernel
theorem dX0_firstBroken_49 : decode cX0_firstBroken 49 = .ok (.iconst 3, 1) := by decide +kernel
theorem dX0_firstBroken_50 : decode cX0_firstBroken 50 = .ok (.ireturn, 1) := by decide +kernel
theorem dX0_firstBroken_51 : decode cX0_firstBroken 51 = .ok (.aload_n 0, 1) := by decide +kernel
theorem dX0_firstBroken_52 : decode cX0_firstBroken 52 = .ok (.invokevirtual 9, 3) := by decide +kernel
theorem dX0_firstBroken_55 : decode cX0_firstBroken 55 = .ok (.iconst 3, 1) := by decide +kernel
theorem dX0_firstBroken_56 : decode cX0_firstBroken 56 = .ok (.iconst 4, 1) := by decide +kernel
theorem dX0_firstBroken_57 : decode cX0_firstBroken 57 = .ok (.iload_n 1, 1) := by decide +kernel
theorem dX0_firstBroken_58 : decode cX0_firstBroken 58 = .ok (.imul, 1) := by decide +kernel
theorem dX0_firstBroken_59 : decode cX0_firstBroken 59 = .ok (.iadd, 1) := by decide +kernel
theorem dX0_firstBroken_60 : decode cX0_firstBroken 60 = .ok (.iconst 1, 1) := by decide +kernel
theorem dX0_firstBroken_61 : decode cX0_firstBroken 61 = .ok (.iadd, 1) := by decide +kernel
theorem dX0_firstBroken_62 : decode cX0_firstBroken 62 = .ok (.if_icmp .eq 5, 3) := by decide +kernel
theorem dX0_firstBroken_65 : decode cX0_firstBroken 65 = .ok (.iconst 4, 1) := by decide +kernel
theorem dX0_firstBroken_66 : decode cX0_firstBroken 66 = .ok (.ireturn, 1) := by decide +kernel
theorem dX0_firstBroken_67 : decode cX0_firstBroken 67 = .ok (.aload_n 0, 1) := by decide +kernel
theorem dX0_firstBroken_68 : decode cX0_firstBroken 68 = .ok (.iload_n 1, 1) := by decide +kernel
theorem dX0_firstBroken_69 : decode cX0_firstBroken 69 = .ok (.invokestatic 19, 3) := by decide +kernel
theorem dX0_firstBroken_72 : decode cX0_firstBroken 72 = .ok (.ifCond .ne 5, 3) := by decide +kernel
theorem dX0_firstBroken_75 : decode cX0_firstBroken 75 = .ok (.iconst 5, 1) := by decide +kernel
theorem dX0_firstBroken_76 : decode cX0_firstBroken 76 = .ok (.ireturn, 1) := by decide +kernel
theorem dX0_firstBroken_77 : decode cX0_firstBroken 77 = .ok (.aload_n 0, 1) := by decide +kernel
theorem dX0_firstBroken_78 : decode cX0_firstBroken 78 = .ok (.aload_n 0, 1) := by decide +kernel
theorem dX0_firstBroken_79 : decode cX0_firstBroken 79 = .ok (.invokevirtual 9, 3) := by decide +kernel
theorem dX0_firstBroken_82 : decode cX0_firstBroken 82 = .ok (.iconst 1, 1) := by decide +kernel
theorem dX0_firstBroken_83 : decode cX0_firstBroken 83 = .ok (.isub, 1) := by decide +kernel
theorem dX0_firstBroken_84 : decode cX0_firstBroken 84 = .ok (.invokevirtual 15, 3) := by decide +kernel
theorem dX0_firstBroken_87 : decode cX0_firstBroken 87 = .ok (.aload_n 0, 1) := by decide +kernel
theorem dX0_firstBroken_88 : decode cX0_firstBroken 88 = .ok (.invokestatic 25, 3) := by decide +kernel
theorem dX0_firstBroken_91 : decode cX0_firstBroken 91 = .ok (.if_icmp .ne 7, 3) := by decide +kernel
theorem dX0_firstBroken_94 : decode cX0_firstBroken 94 = .ok (.iconst 0, 1) := by decide +kernel
theorem dX0_firstBroken_95 : decode cX0_firstBroken 95 = .ok (.goto 5, 3) := by decide +kernel
theorem dX0_firstBroken_98 : decode cX0_firstBroken 98 = .ok (.bipush 6, 2) := by decide +kernel
theorem dX0_firstBroken_100 : decode cX0_firstBroken 100 = .ok (.ireturn, 1) := by decide +kernel
theorem dX0_areSoundRules_0 : decode cX0_areSoundRules 0 = .ok (.iconst 0, 1) := by decide +kernel
theorem dX0_areSoundRules_1 : decode cX0_areSoundRules 1 = .ok (.istore_n 2, 1) := by decide +kernel
theorem dX0_areSoundRules_2 : decode cX0_areSoundRules 2 = .ok (.iload_n 2, 1) := by decide +kernel
theorem dX0_areSoundRules_3 : decode cX0_areSoundRules 3 = .ok (.iload_n 1, 1) := by decide +kernel
theorem dX0_areSoundRules_4 : decode cX0_areSoundRules 4 = .ok (.if_icmp .ge 49, 3) := by decide +kernel
theorem dX0_areSoundRules_7 : decode cX0_areSoundRules 7 = .ok (.iconst 3, 1) := by decide +kernel
theorem dX0_areSoundRules_8 : decode cX0_areSoundRules 8 = .ok (.iconst 4, 1) := by decide +kernel
theorem dX0_areSoundRules_9 : decode cX0_areSoundRules 9 = .ok (.iload_n 2, 1) := by decide +kernel
theorem dX0_areSoundRules_10 : decode cX0_areSoundRules 10 = .ok (.imul, 1) := by decide +kernel
theorem dX0_areSoundRules_11 : decode cX0_areSoundRules 11 = .ok (.iadd, 1) := by decide +kernel
theorem dX0_areSoundRules_12 : decode cX0_areSoundRules 12 = .ok (.istore_n 3, 1) := by decide +kernel
theorem dX0_areSoundRules_13 : decode cX0_areSoundRules 13 = .ok (.aload_n 0, 1) := by decide +kernel
theorem dX0_areSoundRules_14 : decode cX0_areSoundRules 14 = .ok (.iload_n 3, 1) := by decide +kernel
theorem dX0_areSoundRules_15 : decode cX0_areSoundRules 15 = .ok (.invokevirtual 15, 3) := by decide +kernel
theorem dX0_areSoundRules_18 : decode cX0_areSoundRules 18 = .ok (.aload_n 0, 1) := by decide +kernel
theorem dX0_areSoundRules_19 : decode cX0_areSoundRules 19 = .ok (.iload_n 3, 1) := by decide +kernel
theorem dX0_areSoundRules_20 : decode cX0_areSoundRules 20 = .ok (.iconst 1, 1) := by decide +kernel
theorem dX0_areSoundRules_21 : decode cX0_areSoundRules 21 = .ok (.iadd, 1) := by decide +kernel
theorem dX0_areSoundRules_22 : decode cX0_areSoundRules 22 = .ok (.invokevirtual 15, 3) := by decide +kernel
theorem dX0_areSoundRules_25 : decode cX0_areSoundRules 25 = .ok (.aload_n 0, 1) := by decide +kernel
theorem dX0_areSoundRules_26 : decode cX0_areSoundRules 26 = .ok (.iload_n 3, 1) := by decide +kernel
theorem dX0_areSoundRules_27 : decode cX0_areSoundRules 27 = .ok (.iconst 2, 1) := by decide +kernel
theorem dX0_areSoundRules_28 : decode cX0_areSoundRules 28 = .ok (.iadd, 1) := by decide +kernel
theorem dX0_areSoundRules_29 : decode cX0_areSoundRules 29 = .ok (.invokevirtual 15, 3) := by decide +kernel
theorem dX0_areSoundRules_32 : decode cX0_areSoundRules 32 = .ok (.aload_n 0, 1) := by decide +kernel
theorem dX0_areSoundRules_33 : decode cX0_areSoundRules 33 = .ok (.iload_n 3, 1) := by decide +kernel
theorem dX0_areSoundRules_34 : decode cX0_areSoundRules 34 = .ok (.iconst 3, 1) := by decide +kernel
theorem dX0_areSoundRules_35 : decode cX0_areSoundRules 35 = .ok (.iadd, 1) := by decide +kernel
theorem dX0_areSoundRules_36 : decode cX0_areSoundRules 36 = .ok (.invokevirtual 15, 3) := by decide +kernel
theorem dX0_areSoundRules_39 : decode cX0_areSoundRules 39 = .ok (.invokestatic 29, 3) := by decide +kernel
theorem dX0_areSoundRules_42 : decode cX0_areSoundRules 42 = .ok (.ifCond .ne 5, 3) := by decide +kernel
theorem dX0_areSoundRules_45 : decode cX0_areSoundRules 45 = .ok (.iconst 0, 1) := by decide +kernel
theorem dX0_areSoundRules_46 : decode cX0_areSoundRules 46 = .ok (.ireturn, 1) := by decide +kernel
theorem dX0_areSoundRules_47 : decode cX0_areSoundRules 47 = .ok (.iinc 2 1, 3) := by decide +kernel
theorem dX0_areSoundRules_50 : decode cX0_areSoundRules 50 = .ok (.goto (-48), 3) := by decide +kernel
theorem dX0_areSoundRules_53 : decode cX0_areSoundRules 53 = .ok (.iconst 1, 1) := by decide +kernel
theorem dX0_areSoundRules_54 : decode cX0_areSoundRules 54 = .ok (.ireturn, 1) := by decide +kernel
theorem dX0_isSoundRule_0 : decode cX0_isSoundRule 0 = .ok (.iload_n 0, 1) := by decide +kernel
theorem dX0_isSoundRule_1 : decode cX0_isSoundRule 1 = .ok (.bipush 8, 2) := by decide +kernel
theorem dX0_isSoundRule_3 : decode cX0_isSoundRule 3 = .ok (.if_icmp .lt 11, 3) := by decide +kernel
theorem dX0_isSoundRule_6 : decode cX0_isSoundRule 6 = .ok (.iload_n 0, 1) := by decide +kernel
theorem dX0_isSoundRule_7 : decode cX0_isSoundRule 7 = .ok (.bipush 15, 2) := by decide +kernel
theorem dX0_isSoundRule_9 : decode cX0_isSoundRule 9 = .ok (.if_icmp .eq 5, 3) := by decide +kernel
theorem dX0_isSoundRule_12 : decode cX0_isSoundRule 12 = .ok (.iconst 0, 1) := by decide +kernel
theorem dX0_isSoundRule_13 : decode cX0_isSoundRule 13 = .ok (.ireturn, 1) := by decide +kernel
theorem dX0_isSoundRule_14 : decode cX0_isSoundRule 14 = .ok (.iload_n 1, 1) := by decide +kernel
theorem dX0_isSoundRule_15 : decode cX0_isSoundRule 15 = .ok (.tableswitch 94 1 9 #[49, 83, 94, 94, 94, 94, 61, 94, 72], 49) := by decide +kernel
theorem dX0_isSoundRule_64 : decode cX0_isSoundRule 64 = .ok (.iload_n 2, 1) := by decide +kernel
theorem dX0_isSoundRule_65 : decode cX0_isSoundRule 65 = .ok (.bipush 64, 2) := by decide +kernel
theorem dX0_isSoundRule_67 : decode cX0_isSoundRule 67 = .ok (.if_icmp .ge 7, 3) := by decide +kernel
theorem dX0_isSoundRule_70 : decode cX0_isSoundRule 70 = .ok (.iconst 1, 1) := by decide +kernel
theorem dX0_isSoundRule_71 : decode cX0_isSoundRule 71 = .ok (.goto 4, 3) := by decide +kernel
theorem dX0_isSoundRule_74 : decode cX0_isSoundRule 74 = .ok (.iconst 0, 1) := by decide +kernel
theorem dX0_isSoundRule_75 : decode cX0_isSoundRule 75 = .ok (.ireturn, 1) := by decide +kernel
theorem dX0_isSoundRule_76 : decode cX0_isSoundRule 76 = .ok (.iload_n 2, 1) := by decide +kernel
theorem dX0_isSoundRule_77 : decode cX0_isSoundRule 77 = .ok (.iconst 4, 1) := by decide +kernel
theorem dX0_isSoundRule_78 : decode cX0_isSoundRule 78 = .ok (.if_icmp .ge 7, 3) := by decide +kernel
theorem dX0_isSoundRule_81 : decode cX0_isSoundRule 81 = .ok (.iconst 1, 1) := by decide +kernel
theorem dX0_isSoundRule_82 : decode cX0_isSoundRule 82 = .ok (.goto 4, 3) := by decide +kernel
theorem dX0_isSoundRule_85 : decode cX0_isSoundRule 85 = .ok (.iconst 0, 1) := by decide +kernel
theorem dX0_isSoundRule_86 : decode cX0_isSoundRule 86 = .ok (.ireturn, 1) := by decide +kernel
theorem dX0_isSoundRule_87 : decode cX0_isSoundRule 87 = .ok (.iload_n 2, 1) := by decide +kernel
theorem dX0_isSoundRule_88 : decode cX0_isSoundRule 88 = .ok (.iconst 4, 1) := by decide +kernel
theorem dX0_isSoundRule_89 : decode cX0_isSoundRule 89 = .ok (.if_icmp .ge 7, 3) := by decide +kernel
theorem dX0_isSoundRule_92 : decode cX0_isSoundRule 92 = .ok (.iconst 1, 1) := by decide +kernel
theorem dX0_isSoundRule_93 : decode cX0_isSoundRule 93 = .ok (.goto 4, 3) := by decide +kernel
theorem dX0_isSoundRule_96 : decode cX0_isSoundRule 96 = .ok (.iconst 0, 1) := by decide +kernel
theorem dX0_isSoundRule_97 : decode cX0_isSoundRule 97 = .ok (.ireturn, 1) := by decide +kernel
theorem dX0_isSoundRule_98 : decode cX0_isSoundRule 98 = .ok (.iload_n 3, 1) := by decide +kernel
theorem dX0_isSoundRule_99 : decode cX0_isSoundRule 99 = .ok (.iconst 3, 1) := by decide +kernel
theorem dX0_isSoundRule_100 : decode cX0_isSoundRule 100 = .ok (.if_icmp .ge 7, 3) := by decide +kernel
theorem dX0_isSoundRule_103 : decode cX0_isSoundRule 103 = .ok (.iconst 1, 1) := by decide +kernel
theorem dX0_isSoundRule_104 : decode cX0_isSoundRule 104 = .ok (.goto 4, 3) := by decide +kernel
theorem dX0_isSoundRule_107 : decode cX0_isSoundRule 107 = .ok (.iconst 0, 1) := by decide +kernel
theorem dX0_isSoundRule_108 : decode cX0_isSoundRule 108 = .ok (.ireturn, 1) := by decide +kernel
theorem dX0_isSoundRule_109 : decode cX0_isSoundRule 109 = .ok (.iload_n 1, 1) := by decide +kernel
theorem dX0_isSoundRule_110 : decode cX0_isSoundRule 110 = .ok (.bipush 9, 2) := by decide +kernel
theorem dX0_isSoundRule_112 : decode cX0_isSoundRule 112 = .ok (.if_icmp .gt 7, 3) := by decide +kernel
theorem dX0_isSoundRule_115 : decode cX0_isSoundRule 115 = .ok (.iconst 1, 1) := by decide +kernel
theorem dX0_isSoundRule_116 : decode cX0_isSoundRule 116 = .ok (.goto 4, 3) := by decide +kernel
theorem dX0_isSoundRule_119 : decode cX0_isSoundRule 119 = .ok (.iconst 0, 1) := by decide +kernel
theorem dX0_isSoundRule_120 : decode cX0_isSoundRule 120 = .ok (.ireturn, 1) := by decide +kernel
theorem dX0_sumAheadOfLast_0 : decode cX0_sumAheadOfLast 0 = .ok (.iconst 0, 1) := by decide +kernel
theorem dX0_sumAheadOfLast_1 : decode cX0_sumAheadOfLast 1 = .ok (.istore_n 1, 1) := by decide +kernel
theorem dX0_sumAheadOfLast_2 : decode cX0_sumAheadOfLast 2 = .ok (.iconst 0, 1) := by decide +kernel
theorem dX0_sumAheadOfLast_3 : decode cX0_sumAheadOfLast 3 = .ok (.istore_n 2, 1) := by decide +kernel
theorem dX0_sumAheadOfLast_4 : decode cX0_sumAheadOfLast 4 = .ok (.iload_n 2, 1) := by decide +kernel
theorem dX0_sumAheadOfLast_5 : decode cX0_sumAheadOfLast 5 = .ok (.aload_n 0, 1) := by decide +kernel
theorem dX0_sumAheadOfLast_6 : decode cX0_sumAheadOfLast 6 = .ok (.invokevirtual 9, 3) := by decide +kernel
theorem dX0_sumAheadOfLast_9 : decode cX0_sumAheadOfLast 9 = .ok (.iconst 1, 1) := by decide +kernel
theorem dX0_sumAheadOfLast_10 : decode cX0_sumAheadOfLast 10 = .ok (.isub, 1) := by decide +kernel
theorem dX0_sumAheadOfLast_11 : decode cX0_sumAheadOfLast 11 = .ok (.if_icmp .ge 17, 3) := by decide +kernel
theorem dX0_sumAheadOfLast_14 : decode cX0_sumAheadOfLast 14 = .ok (.iload_n 1, 1) := by decide +kernel
theorem dX0_sumAheadOfLast_15 : decode cX0_sumAheadOfLast 15 = .ok (.aload_n 0, 1) := by decide +kernel
theorem dX0_sumAheadOfLast_16 : decode cX0_sumAheadOfLast 16 = .ok (.iload_n 2, 1) := by decide +kernel
theorem dX0_sumAheadOfLast_17 : decode cX0_sumAheadOfLast 17 = .ok (.invokevirtual 15, 3) := by decide +kernel
theorem dX0_sumAheadOfLast_20 : decode cX0_sumAheadOfLast 20 = .ok (.iadd, 1) := by decide +kernel
theorem dX0_sumAheadOfLast_21 : decode cX0_sumAheadOfLast 21 = .ok (.istore_n 1, 1) := by decide +kernel
theorem dX0_sumAheadOfLast_22 : decode cX0_sumAheadOfLast 22 = .ok (.iinc 2 1, 3) := by decide +kernel
theorem dX0_sumAheadOfLast_25 : decode cX0_sumAheadOfLast 25 = .ok (.goto (-21), 3) := by decide +kernel
theorem dX0_sumAheadOfLast_28 : decode cX0_sumAheadOfLast 28 = .ok (.iload_n 1, 1) := by decide +kernel
theorem dX0_sumAheadOfLast_29 : decode cX0_sumAheadOfLast 29 = .ok (.sipush 255, 3) := by decide +kernel
theorem dX0_sumAheadOfLast_32 : decode cX0_sumAheadOfLast 32 = .ok (.iand, 1) := by decide +kernel
theorem dX0_sumAheadOfLast_33 : decode cX0_sumAheadOfLast 33 = .ok (.ireturn, 1) := by decide +kernel
theorem dX1_init_0 : decode cX1_init 0 = .ok (.aload_n 0, 1) := by decide +kernel
theorem dX1_init_1 : decode cX1_init 1 = .ok (.invokespecial 3, 3) := by decide +kernel
theorem dX1_init_4 : decode cX1_init 4 = .ok (.aload_n 0, 1) := by decide +kernel
theorem dX1_init_5 : decode cX1_init 5 = .ok (.sipush 600, 3) := by decide +kernel
theorem dX1_init_8 : decode cX1_init 8 = .ok (.newarray .int, 2) := by decide +kernel
theorem dX1_init_10 : decode cX1_init 10 = .ok (.putfield 9, 3) := by decide +kernel
theorem dX1_init_13 : decode cX1_init 13 = .ok (.return_, 1) := by decide +kernel
theorem dX1_size_0 : decode cX1_size 0 = .ok (.aload_n 0, 1) := by decide +kernel
theorem dX1_size_1 : decode cX1_size 1 = .ok (.getfield 15, 3) := by decide +kernel
theorem dX1_size_4 : decode cX1_size 4 = .ok (.ireturn, 1) := by decide +kernel
theorem dX1_has_0 : decode cX1_has 0 = .ok (.iload_n 1, 1) := by decide +kernel
theorem dX1_has_1 : decode cX1_has 1 = .ok (.ifCond .lt 15, 3) := by decide +kernel
theorem dX1_has_4 : decode cX1_has 4 = .ok (.iload_n 1, 1) := by decide +kernel
theorem dX1_has_5 : decode cX1_has 5 = .ok (.aload_n 0, 1) := by decide +kernel
theorem dX1_has_6 : decode cX1_has 6 = .ok (.getfield 15, 3) := by decide +kernel
theorem dX1_has_9 : decode cX1_has 9 = .ok (.if_icmp .ge 7, 3) := by decide +kernel
theorem dX1_has_12 : decode cX1_has 12 = .ok (.iconst 1, 1) := by decide +kernel
theorem dX1_has_13 : decode cX1_has 13 = .ok (.goto 4, 3) := by decide +kernel
theorem dX1_has_16 : decode cX1_has 16 = .ok (.iconst 0, 1) := by decide +kernel
theorem dX1_has_17 : decode cX1_has 17 = .ok (.ireturn, 1) := by decide +kernel
theorem dX1_append_0 : decode cX1_append 0 = .ok (.aload_n 0, 1) := by decide +kernel
theorem dX1_append_1 : decode cX1_append 1 = .ok (.getfield 15, 3) := by decide +kernel
theorem dX1_append_4 : decode cX1_append 4 = .ok (.bipush 120, 2) := by decide +kernel
theorem dX1_append_6 : decode cX1_append 6 = .ok (.if_icmp .lt 4, 3) := by decide +kernel
theorem dX1_append_9 : decode cX1_append 9 = .ok (.return_, 1) := by decide +kernel
theorem dX1_append_10 : decode cX1_append 10 = .ok (.aload_n 0, 1) := by decide +kernel
theorem dX1_append_11 : decode cX1_append 11 = .ok (.getfield 15, 3) := by decide +kernel
theorem dX1_append_14 : decode cX1_append 14 = .ok (.iconst 5, 1) := by decide +kernel
theorem dX1_append_15 : decode cX1_append 15 = .ok (.imul, 1) := by decide +kernel
theorem dX1_append_16 : decode cX1_append 16 = .ok (.istore 6, 2) := by decide +kernel
theorem dX1_append_18 : decode cX1_append 18 = .ok (.aload_n 0, 1) := by decide +kernel
theorem dX1_append_19 : decode cX1_append 19 = .ok (.getfield 9, 3) := by decide +kernel
theorem dX1_append_22 : decode cX1_append 22 = .ok (.iload 6, 2) := by decide +kernel
theorem dX1_append_24 : decode cX1_append 24 = .ok (.iload_n 1, 1) := by decide +kernel
theorem dX1_append_25 : decode cX1_append 25 = .ok (.iastore, 1) := by decide +kernel
theorem dX1_append_26 : decode cX1_append 26 = .ok (.aload_n 0, 1) := by decide +kernel
theorem dX1_append_27 : decode cX1_append 27 = .ok (.getfield 9, 3) := by decide +kernel
theorem dX1_append_30 : decode cX1_append 30 = .ok (.iload 6, 2) := by decide +kernel
theorem dX1_append_32 : decode cX1_append 32 = .ok (.iconst 1, 1) := by decide +kernel
theorem dX1_append_33 : decode cX1_append 33 = .ok (.iadd, 1) := by decide +kernel
theorem dX1_append_34 : decode cX1_append 34 = .ok (.iload_n 2, 1) := by decide +kernel
theorem dX1_append_35 : decode cX1_append 35 = .ok (.iastore, 1) := by decide +kernel
theorem dX1_append_36 : decode cX1_append 36 = .ok (.aload_n 0, 1) := by decide +kernel
theorem dX1_append_37 : decode cX1_append 37 = .ok (.getfield 9, 3) := by decide +kernel
theorem dX1_append_40 : decode cX1_append 40 = .ok (.iload 6, 2) := by decide +kernel
theorem dX1_append_42 : decode cX1_append 42 = .ok (.iconst 2, 1) := by decide +kernel
theorem dX1_append_43 : decode cX1_append 43 = .ok (.iadd, 1) := by decide +kernel
theorem dX1_append_44 : decode cX1_append 44 = .ok (.iload_n 3, 1) := by decide +kernel
theorem dX1_append_45 : decode cX1_append 45 = .ok (.iastore, 1) := by decide +kernel
theorem dX1_append_46 : decode cX1_append 46 = .ok (.aload_n 0, 1) := by decide +kernel
theorem dX1_append_47 : decode cX1_append 47 = .ok (.getfield 9, 3) := by decide +kernel
theorem dX1_append_50 : decode cX1_append 50 = .ok (.iload 6, 2) := by decide +kernel
theorem dX1_append_52 : decode cX1_append 52 = .ok (.iconst 3, 1) := by decide +kernel
theorem dX1_append_53 : decode cX1_append 53 = .ok (.iadd, 1) := by decide +kernel
theorem dX1_append_54 : decode cX1_append 54 = .ok (.iload 4, 2) := by decide +kernel
theorem dX1_append_56 : decode cX1_append 56 = .ok (.iastore, 1) := by decide +kernel
theorem dX1_append_57 : decode cX1_append 57 = .ok (.aload_n 0, 1) := by decide +kernel
theorem dX1_append_58 : decode cX1_append 58 = .ok (.getfield 9, 3) := by decide +kernel
theorem dX1_append_61 : decode cX1_append 61 = .ok (.iload 6, 2) := by decide +kernel
theorem dX1_append_63 : decode cX1_append 63 = .ok (.iconst 4, 1) := by decide +kernel
theorem dX1_append_64 : decode cX1_append 64 = .ok (.iadd, 1) := by decide +kernel
theorem dX1_append_65 : decode cX1_append 65 = .ok (.iload 5, 2) := by decide +kernel
theorem dX1_append_67 : decode cX1_append 67 = .ok (.iastore, 1) := by decide +kernel
theorem dX1_append_68 : decode cX1_append 68 = .ok (.aload_n 0, 1) := by decide +kernel
theorem dX1_append_69 : decode cX1_append 69 = .ok (.dup, 1) := by decide +kernel
theorem dX1_append_70 : decode cX1_append 70 = .ok (.getfield 15, 3) := by decide +kernel
theorem dX1_append_73 : decode cX1_append 73 = .ok (.iconst 1, 1) := by decide +kernel
theorem dX1_append_74 : decode cX1_append 74 = .ok (.iadd, 1) := by decide +kernel
theorem dX1_append_75 : decode cX1_append 75 = .ok (.putfield 15, 3) := by decide +kernel
theorem dX1_append_78 : decode cX1_append 78 = .ok (.return_, 1) := by decide +kernel
theorem dX1_aspect_0 : decode cX1_aspect 0 = .ok (.iload_n 1, 1) := by decide +kernel
theorem dX1_aspect_1 : decode cX1_aspect 1 = .ok (.ifCond .lt 20, 3) := by decide +kernel
theorem dX1_aspect_4 : decode cX1_aspect 4 = .ok (.iload_n 1, 1) := by decide +kernel
theorem dX1_aspect_5 : decode cX1_aspect 5 = .ok (.aload_n 0, 1) := by decide +kernel
theorem dX1_aspect_6 : decode cX1_aspect 6 = .ok (.getfield 15, 3) := by decide +kernel
theorem dX1_aspect_9 : decode cX1_aspect 9 = .ok (.if_icmp .ge 12, 3) := by decide +kernel
theorem dX1_aspect_12 : decode cX1_aspect 12 = .ok (.iload_n 2, 1) := by decide +kernel
theorem dX1_aspect_13 : decode cX1_aspect 13 = .ok (.ifCond .lt 8, 3) := by decide +kernel
theorem dX1_aspect_16 : decode cX1_aspect 16 = .ok (.iload_n 2, 1) := by decide +kernel
theorem dX1_aspect_17 : decode cX1_aspect 17 = .ok (.iconst 5, 1) := by decide +kernel
theorem dX1_aspect_18 : decode cX1_aspect 18 = .ok (.if_icmp .lt 6, 3) := by decide +kernel
theorem dX1_aspect_21 : decode cX1_aspect 21 = .ok (.bipush (-101), 2) := by decide +kernel
theorem dX1_aspect_23 : decode cX1_aspect 23 = .ok (.ireturn, 1) := by decide +kernel
theorem dX1_aspect_24 : decode cX1_aspect 24 = .ok (.aload_n 0, 1) := by decide +kernel
theorem dX1_aspect_25 : decode cX1_aspect 25 = .ok (.getfield 9, 3) := by decide +kernel
theorem dX1_aspect_28 : decode cX1_aspect 28 = .ok (.iload_n 1, 1) := by decide +kernel
theorem dX1_aspect_29 : decode cX1_aspect 29 = .ok (.iconst 5, 1) := by decide +kernel
theorem dX1_aspect_30 : decode cX1_aspect 30 = .ok (.imul, 1) := by decide +kernel
theorem dX1_aspect_31 : decode cX1_aspect 31 = .ok (.iload_n 2, 1) := by decide +kernel
theorem dX1_aspect_32 : decode cX1_aspect 32 = .ok (.iadd, 1) := by decide +kernel
theorem dX1_aspect_33 : decode cX1_aspect 33 = .ok (.iaload, 1) := by decide +kernel
theorem dX1_aspect_34 : decode cX1_aspect 34 = .ok (.ireturn, 1) := by decide +kernel
theorem dX1_forgetAll_0 : decode cX1_forgetAll 0 = .ok (.aload_n 0, 1) := by decide +kernel
theorem dX1_forgetAll_1 : decode cX1_forgetAll 1 = .ok (.iconst 0, 1) := by decide +kernel
theorem dX1_forgetAll_2 : decode cX1_forgetAll 2 = .ok (.putfield 15, 3) := by decide +kernel
theorem dX1_forgetAll_5 : decode cX1_forgetAll 5 = .ok (.return_, 1) := by decide +kernel
theorem dX2_init_0 : decode cX2_init 0 = .ok (.aload_n 0, 1) := by decide +kernel
theorem dX2_init_1 : decode cX2_init 1 = .ok (.invokespecial 3, 3) := by decide +kernel
theorem dX2_init_4 : decode cX2_init 4 = .ok (.aload_n 0, 1) := by decide +kernel
theorem dX2_init_5 : decode cX2_init 5 = .ok (.new 9, 3) := by decide +kernel
theorem dX2_init_8 : decode cX2_init 8 = .ok (.dup, 1) := by decide +kernel
theorem dX2_init_9 : decode cX2_init 9 = .ok (.bipush 64, 2) := by decide +kernel
theorem dX2_init_11 : decode cX2_init 11 = .ok (.invokespecial 11, 3) := by decide +kernel
theorem dX2_init_14 : decode cX2_init 14 = .ok (.putfield 14, 3) := by decide +kernel
theorem dX2_init_17 : decode cX2_init 17 = .ok (.return_, 1) := by decide +kernel
theorem dX2_startBecomes_0 : decode cX2_startBecomes 0 = .ok (.aload_n 0, 1) := by decide +kernel
theorem dX2_startBecomes_1 : decode cX2_startBecomes 1 = .ok (.iload_n 1, 1) := by decide +kernel
theorem dX2_startBecomes_2 : decode cX2_startBecomes 2 = .ok (.putfield 20, 3) := by decide +kernel
theorem dX2_startBecomes_5 : decode cX2_startBecomes 5 = .ok (.aload_n 0, 1) := by decide +kernel
theorem dX2_startBecomes_6 : decode cX2_startBecomes 6 = .ok (.iconst 0, 1) := by decide +kernel
theorem dX2_startBecomes_7 : decode cX2_startBecomes 7 = .ok (.putfield 24, 3) := by decide +kernel
theorem dX2_startBecomes_10 : decode cX2_startBecomes 10 = .ok (.return_, 1) := by decide +kernel
theorem dX2_failToStart_0 : decode cX2_failToStart 0 = .ok (.aload_n 0, 1) := by decide +kernel
theorem dX2_failToStart_1 : decode cX2_failToStart 1 = .ok (.getfield 24, 3) := by decide +kernel
theorem dX2_failToStart_4 : decode cX2_failToStart 4 = .ok (.ifCond .eq 8, 3) := by decide +kernel
theorem dX2_failToStart_7 : decode cX2_failToStart 7 = .ok (.bipush (-32), 2) := by decide +kernel
theorem dX2_failToStart_9 : decode cX2_failToStart 9 = .ok (.goto 5, 3) := by decide +kernel
theorem dX2_failToStart_12 : decode cX2_failToStart 12 = .ok (.bipush (-31), 2) := by decide +kernel
theorem dX2_failToStart_14 : decode cX2_failToStart 14 = .ok (.istore_n 1, 1) := by decide +kernel
theorem dX2_failToStart_15 : decode cX2_failToStart 15 = .ok (.aload_n 0, 1) := by decide +kernel
theorem dX2_failToStart_16 : decode cX2_failToStart 16 = .ok (.iconst 1, 1) := by decide +kernel
theorem dX2_failToStart_17 : decode cX2_failToStart 17 = .ok (.putfield 24, 3) := by decide +kernel
theorem dX2_failToStart_20 : decode cX2_failToStart 20 = .ok (.iload_n 1, 1) := by decide +kernel
theorem dX2_failToStart_21 : decode cX2_failToStart 21 = .ok (.ireturn, 1) := by decide +kernel
theorem dX3_init_0 : decode cX3_init 0 = .ok (.aload_n 0, 1) := by decide +kernel
theorem dX3_init_1 : decode cX3_init 1 = .ok (.invokespecial 3, 3) := by decide +kernel
theorem dX3_init_4 : decode cX3_init 4 = .ok (.aload_n 0, 1) := by decide +kernel
theorem dX3_init_5 : decode cX3_init 5 = .ok (.bipush 48, 2) := by decide +kernel
theorem dX3_init_7 : decode cX3_init 7 = .ok (.newarray .int, 2) := by decide +kernel
theorem dX3_init_9 : decode cX3_init 9 = .ok (.putfield 9, 3) := by decide +kernel
theorem dX3_init_12 : decode cX3_init 12 = .ok (.return_, 1) := by decide +kernel
theorem dX3_become_0 : decode cX3_become 0 = .ok (.aload_n 0, 1) := by decide +kernel
theorem dX3_become_1 : decode cX3_become 1 = .ok (.iload_n 1, 1) := by decide +kernel
theorem dX3_become_2 : decode cX3_become 2 = .ok (.putfield 15, 3) := by decide +kernel
theorem dX3_become_5 : decode cX3_become 5 = .ok (.aload_n 0, 1) := by decide +kernel
theorem dX3_become_6 : decode cX3_become 6 = .ok (.aload_n 2, 1) := by decide +kernel
theorem dX3_become_7 : decode cX3_become 7 = .ok (.iconst 2, 1) := by decide +kernel
theorem dX3_become_8 : decode cX3_become 8 = .ok (.invokevirtual 19, 3) := by decide +kernel
theorem dX3_become_11 : decode cX3_become 11 = .ok (.bipush 12, 2) := by decide +kernel
theorem dX3_become_13 : decode cX3_become 13 = .ok (.invokestatic 25, 3) := by decide +kernel
theorem dX3_become_16 : decode cX3_become 16 = .ok (.putfield 31, 3) := by decide +kernel
theorem dX3_become_19 : decode cX3_become 19 = .ok (.iconst 0, 1) := by decide +kernel
theorem dX3_become_20 : decode cX3_become 20 = .ok (.istore_n 3, 1) := by decide +kernel
theorem dX3_become_21 : decode cX3_become 21 = .ok (.iload_n 3, 1) := by decide +kernel
theorem dX3_become_22 : decode cX3_become 22 = .ok (.aload_n 0, 1) := by decide +kernel
theorem dX3_become_23 : decode cX3_become 23 = .ok (.getfield 9, 3) := by decide +kernel
theorem dX3_become_26 : decode cX3_become 26 = .ok (.arraylength, 1) := by decide +kernel
theorem dX3_become_27 : decode cX3_become 27 = .ok (.if_icmp .ge 22, 3) := by decide +kernel
theorem dX3_become_30 : decode cX3_become 30 = .ok (.aload_n 0, 1) := by decide +kernel
theorem dX3_become_31 : decode cX3_become 31 = .ok (.getfield 9, 3) := by decide +kernel
theorem dX3_become_34 : decode cX3_become 34 = .ok (.iload_n 3, 1) := by decide +kernel
theorem dX3_become_35 : decode cX3_become 35 = .ok (.aload_n 2, 1) := by decide +kernel
theorem dX3_become_36 : decode cX3_become 36 = .ok (.iconst 3, 1) := by decide +kernel
theorem dX3_become_37 : decode cX3_become 37 = .ok (.iload_n 3, 1) := by decide +kernel
theorem dX3_become_38 : decode cX3_become 38 = .ok (.iadd, 1) := by decide +kernel
theorem dX3_become_39 : decode cX3_become 39 = .ok (.invokevirtual 19, 3) := by decide +kernel
theorem dX3_become_42 : decode cX3_become 42 = .ok (.iastore, 1) := by decide +kernel
theorem dX3_become_43 : decode cX3_become 43 = .ok (.iinc 3 1, 3) := by decide +kernel
theorem dX3_become_46 : decode cX3_become 46 = .ok (.goto (-25), 3) := by decide +kernel
theorem dX3_become_49 : decode cX3_become 49 = .ok (.aload_n 0, 1) := by decide +kernel
theorem dX3_become_50 : decode cX3_become 50 = .ok (.iconst 0, 1) := by decide +kernel
theorem dX3_become_51 : decode cX3_become 51 = .ok (.putfield 34, 3) := by decide +kernel
theorem dX3_become_54 : decode cX3_become 54 = .ok (.aload_n 0, 1) := by decide +kernel
theorem dX3_become_55 : decode cX3_become 55 = .ok (.iconst 0, 1) := by decide +kernel
theorem dX3_become_56 : decode cX3_become 56 = .ok (.putfield 37, 3) := by decide +kernel
theorem dX3_become_59 : decode cX3_become 59 = .ok (.aload_n 0, 1) := by decide +kernel
theorem dX3_become_60 : decode cX3_become 60 = .ok (.iconst 0, 1) := by decide +kernel
theorem dX3_become_61 : decode cX3_become 61 = .ok (.putfield 41, 3) := by decide +kernel
theorem dX3_become_64 : decode cX3_become 64 = .ok (.return_, 1) := by decide +kernel
theorem dX3_markOf_0 : decode cX3_markOf 0 = .ok (.aload_n 0, 1) := by decide +kernel
theorem dX3_markOf_1 : decode cX3_markOf 1 = .ok (.iconst 4, 1) := by decide +kernel
theorem dX3_markOf_2 : decode cX3_markOf 2 = .ok (.iload_n 1, 1) := by decide +kernel
theorem dX3_markOf_3 : decode cX3_markOf 3 = .ok (.imul, 1) := by decide +kernel
theorem dX3_markOf_4 : decode cX3_markOf 4 = .ok (.invokevirtual 44, 3) := by decide +kernel
theorem dX3_markOf_7 : decode cX3_markOf 7 = .ok (.ireturn, 1) := by decide +kernel
theorem dX3_actOf_0 : decode cX3_actOf 0 = .ok (.aload_n 0, 1) := by decide +kernel
theorem dX3_actOf_1 : decode cX3_actOf 1 = .ok (.iconst 4, 1) := by decide +kernel
theorem dX3_actOf_2 : decode cX3_actOf 2 = .ok (.iload_n 1, 1) := by decide +kernel
theorem dX3_actOf_3 : decode cX3_actOf 3 = .ok (.imul, 1) := by decide +kernel
theorem dX3_actOf_4 : decode cX3_actOf 4 = .ok (.iconst 1, 1) := by decide +kernel
theorem dX3_actOf_5 : decode cX3_actOf 5 = .ok (.iadd, 1) := by decide +kernel
theorem dX3_actOf_6 : decode cX3_actOf 6 = .ok (.invokevirtual 44, 3) := by decide +kernel
theorem dX3_actOf_9 : decode cX3_actOf 9 = .ok (.ireturn, 1) := by decide +kernel
theorem dX3_aOf_0 : decode cX3_aOf 0 = .ok (.aload_n 0, 1) := by decide +kernel
theorem dX3_aOf_1 : decode cX3_aOf 1 = .ok (.iconst 4, 1) := by decide +kernel
theorem dX3_aOf_2 : decode cX3_aOf 2 = .ok (.iload_n 1, 1) := by decide +kernel
theorem dX3_aOf_3 : decode cX3_aOf 3 = .ok (.imul, 1) := by decide +kernel
theorem dX3_aOf_4 : decode cX3_aOf 4 = .ok (.iconst 2, 1) := by decide +kernel
theorem dX3_aOf_5 : decode cX3_aOf 5 = .ok (.iadd, 1) := by decide +kernel
theorem dX3_aOf_6 : decode cX3_aOf 6 = .ok (.invokevirtual 44, 3) := by decide +kernel
theorem dX3_aOf_9 : decode cX3_aOf 9 = .ok (.ireturn, 1) := by decide +kernel
theorem dX3_bOf_0 : decode cX3_bOf 0 = .ok (.aload_n 0, 1) := by decide +kernel
theorem dX3_bOf_1 : decode cX3_bOf 1 = .ok (.iconst 4, 1) := by decide +kernel
theorem dX3_bOf_2 : decode cX3_bOf 2 = .ok (.iload_n 1, 1) := by decide +kernel
theorem dX3_bOf_3 : decode cX3_bOf 3 = .ok (.imul, 1) := by decide +kernel
theorem dX3_bOf_4 : decode cX3_bOf 4 = .ok (.iconst 3, 1) := by decide +kernel
theorem dX3_bOf_5 : decode cX3_bOf 5 = .ok (.iadd, 1) := by decide +kernel
theorem dX3_bOf_6 : decode cX3_bOf 6 = .ok (.invokevirtual 44, 3) := by decide +kernel
theorem dX3_bOf_9 : decode cX3_bOf 9 = .ok (.ireturn, 1) := by decide +kernel
theorem dX3_part_0 : decode cX3_part 0 = .ok (.iload_n 1, 1) := by decide +kernel
theorem dX3_part_1 : decode cX3_part 1 = .ok (.ifCond .lt 21, 3) := by decide +kernel
theorem dX3_part_4 : decode cX3_part 4 = .ok (.iload_n 1, 1) := by decide +kernel
theorem dX3_part_5 : decode cX3_part 5 = .ok (.aload_n 0, 1) := by decide +kernel
theorem dX3_part_6 : decode cX3_part 6 = .ok (.getfield 9, 3) := by decide +kernel
theorem dX3_part_9 : decode cX3_part 9 = .ok (.arraylength, 1) := by decide +kernel
theorem dX3_part_10 : decode cX3_part 10 = .ok (.if_icmp .ge 12, 3) := by decide +kernel
theorem dX3_part_13 : decode cX3_part 13 = .ok (.aload_n 0, 1) := by decide +kernel
theorem dX3_part_14 : decode cX3_part 14 = .ok (.getfield 9, 3) := by decide +kernel
theorem dX3_part_17 : decode cX3_part 17 = .ok (.iload_n 1, 1) := by decide +kernel
theorem dX3_part_18 : decode cX3_part 18 = .ok (.iaload, 1) := by decide +kernel
theorem dX3_part_19 : decode cX3_part 19 = .ok (.goto 4, 3) := by decide +kernel
theorem dX3_part_22 : decode cX3_part 22 = .ok (.iconst 0, 1) := by decide +kernel
theorem dX3_part_23 : decode cX3_part 23 = .ok (.ireturn, 1) := by decide +kernel
theorem dX3_beginRun_0 : decode cX3_beginRun 0 = .ok (.aload_n 0, 1) := by decide +kernel
theorem dX3_beginRun_1 : decode cX3_beginRun 1 = .ok (.aload_n 0, 1) := by decide +kernel
theorem dX3_beginRun_2 : decode cX3_beginRun 2 = .ok (.getfield 34, 3) := by decide +kernel
theorem dX3_beginRun_5 : decode cX3_beginRun 5 = .ok (.putfield 47, 3) := by decide +kernel
theorem dX3_beginRun_8 : decode cX3_beginRun 8 = .ok (.aload_n 0, 1) := by decide +kernel
theorem dX3_beginRun_9 : decode cX3_beginRun 9 = .ok (.iconst 0, 1) := by decide +kernel
theorem dX3_beginRun_10 : decode cX3_beginRun 10 = .ok (.putfield 37, 3) := by decide +kernel
theorem dX3_beginRun_13 : decode cX3_beginRun 13 = .ok (.aload_n 0, 1) := by decide +kernel
theorem dX3_beginRun_14 : decode cX3_beginRun 14 = .ok (.iconst 0, 1) := by decide +kernel
theorem dX3_beginRun_15 : decode cX3_beginRun 15 = .ok (.putfield 41, 3) := by decide +kernel
theorem dX3_beginRun_18 : decode cX3_beginRun 18 = .ok (.return_, 1) := by decide +kernel
theorem dX3_goBack_0 : decode cX3_goBack 0 = .ok (.aload_n 0, 1) := by decide +kernel
theorem dX3_goBack_1 : decode cX3_goBack 1 = .ok (.aload_n 0, 1) := by decide +kernel
theorem dX3_goBack_2 : decode cX3_goBack 2 = .ok (.getfield 47, 3) := by decide +kernel
theorem dX3_goBack_5 : decode cX3_goBack 5 = .ok (.putfield 34, 3) := by decide +kernel
theorem dX3_goBack_8 : decode cX3_goBack 8 = .ok (.return_, 1) := by decide +kernel
theorem dX3_aspect_0 : decode cX3_aspect 0 = .ok (.iload_n 1, 1) := by decide +kernel
theorem dX3_aspect_1 : decode cX3_aspect 1 = .ok (.tableswitch 45 0 2 #[27, 32, 37], 27) := by decide +kernel
theorem dX3_aspect_28 : decode cX3_aspect 28 = .ok (.aload_n 0, 1) := by decide +kernel
theorem dX3_aspect_29 : decode cX3_aspect 29 = .ok (.getfield 15, 3) := by decide +kernel
theorem dX3_aspect_32 : decode cX3_aspect 32 = .ok (.ireturn, 1) := by decide +kernel
theorem dX3_aspect_33 : decode cX3_aspect 33 = .ok (.aload_n 0, 1) := by decide +kernel
theorem dX3_aspect_34 : decode cX3_aspect 34 = .ok (.getfield 31, 3) := by decide +kernel
theorem dX3_aspect_37 : decode cX3_aspect 37 = .ok (.ireturn, 1) := by decide +kernel
theorem dX3_aspect_38 : decode cX3_aspect 38 = .ok (.aload_n 0, 1) := by decide +kernel
theorem dX3_aspect_39 : decode cX3_aspect 39 = .ok (.getfield 37, 3) := by decide +kernel
theorem dX3_aspect_42 : decode cX3_aspect 42 = .ok (.invokestatic 50, 3) := by decide +kernel
theorem dX3_aspect_45 : decode cX3_aspect 45 = .ok (.ireturn, 1) := by decide +kernel
theorem dX3_aspect_46 : decode cX3_aspect 46 = .ok (.aload_n 0, 1) := by decide +kernel
theorem dX3_aspect_47 : decode cX3_aspect 47 = .ok (.getfield 41, 3) := by decide +kernel
theorem dX3_aspect_50 : decode cX3_aspect 50 = .ok (.ireturn, 1) := by decide +kernel
theorem dX4_init_0 : decode cX4_init 0 = .ok (.aload_n 0, 1) := by decide +kernel
theorem dX4_init_1 : decode cX4_init 1 = .ok (.invokespecial 3, 3) := by decide +kernel
theorem dX4_init_4 : decode cX4_init 4 = .ok (.aload_n 0, 1) := by decide +kernel
theorem dX4_init_5 : decode cX4_init 5 = .ok (.bipush 6, 2) := by decide +kernel
theorem dX4_init_7 : decode cX4_init 7 = .ok (.anewarray 9, 3) := by decide +kernel
theorem dX4_init_10 : decode cX4_init 10 = .ok (.putfield 11, 3) := by decide +kernel
theorem dX4_init_13 : decode cX4_init 13 = .ok (.iconst 0, 1) := by decide +kernel
theorem dX4_init_14 : decode cX4_init 14 = .ok (.istore_n 1, 1) := by decide +kernel
theorem dX4_init_15 : decode cX4_init 15 = .ok (.iload_n 1, 1) := by decide +kernel
theorem dX4_init_16 : decode cX4_init 16 = .ok (.aload_n 0, 1) := by decide +kernel
theorem dX4_init_17 : decode cX4_init 17 = .ok (.getfield 11, 3) := by decide +kernel
theorem dX4_init_20 : decode cX4_init 20 = .ok (.arraylength, 1) := by decide +kernel
theorem dX4_init_21 : decode cX4_init 21 = .ok (.if_icmp .ge 22, 3) := by decide +kernel
theorem dX4_init_24 : decode cX4_init 24 = .ok (.aload_n 0, 1) := by decide +kernel
theorem dX4_init_25 : decode cX4_init 25 = .ok (.getfield 11, 3) := by decide +kernel
theorem dX4_init_28 : decode cX4_init 28 = .ok (.iload_n 1, 1) := by decide +kernel
theorem dX4_init_29 : decode cX4_init 29 = .ok (.new 9, 3) := by decide +kernel
theorem dX4_init_32 : decode cX4_init 32 = .ok (.dup, 1) := by decide +kernel
theorem dX4_init_33 : decode cX4_init 33 = .ok (.invokespecial 17, 3) := by decide +kernel
theorem dX4_init_36 : decode cX4_init 36 = .ok (.aastore, 1) := by decide +kernel
theorem dX4_init_37 : decode cX4_init 37 = .ok (.iinc 1 1, 3) := by decide +kernel
theorem dX4_init_40 : decode cX4_init 40 = .ok (.goto (-25), 3) := by decide +kernel
theorem dX4_init_43 : decode cX4_init 43 = .ok (.return_, 1) := by decide +kernel
theorem dX4_size_0 : decode cX4_size 0 = .ok (.aload_n 0, 1) := by decide +kernel
theorem dX4_size_1 : decode cX4_size 1 = .ok (.getfield 18, 3) := by decide +kernel
theorem dX4_size_4 : decode cX4_size 4 = .ok (.ireturn, 1) := by decide +kernel
theorem dX4_isFull_0 : decode cX4_isFull 0 = .ok (.aload_n 0, 1) := by decide +kernel
theorem dX4_isFull_1 : decode cX4_isFull 1 = .ok (.getfield 18, 3) := by decide +kernel
theorem dX4_isFull_4 : decode cX4_isFull 4 = .ok (.aload_n 0, 1) := by decide +kernel
theorem dX4_isFull_5 : decode cX4_isFull 5 = .ok (.getfield 11, 3) := by decide +kernel
theorem dX4_isFull_8 : decode cX4_isFull 8 = .ok (.arraylength, 1) := by decide +kernel
theorem dX4_isFull_9 : decode cX4_isFull 9 = .ok (.if_icmp .lt 7, 3) := by decide +kernel
theorem dX4_isFull_12 : decode cX4_isFull 12 = .ok (.iconst 1, 1) := by decide +kernel
theorem dX4_isFull_13 : decode cX4_isFull 13 = .ok (.goto 4, 3) := by decide +kernel
theorem dX4_isFull_16 : decode cX4_isFull 16 = .ok (.iconst 0, 1) := by decide +kernel
theorem dX4_isFull_17 : decode cX4_isFull 17 = .ok (.ireturn, 1) := by decide +kernel
theorem dX4_at_0 : decode cX4_at 0 = .ok (.iload_n 1, 1) := by decide +kernel
theorem dX4_at_1 : decode cX4_at 1 = .ok (.ifCond .lt 29, 3) := by decide +kernel
theorem dX4_at_4 : decode cX4_at 4 = .ok (.iload_n 1, 1) := by decide +kernel
theorem dX4_at_5 : decode cX4_at 5 = .ok (.aload_n 0, 1) := by decide +kernel
theorem dX4_at_6 : decode cX4_at 6 = .ok (.getfield 18, 3) := by decide +kernel
theorem dX4_at_9 : decode cX4_at 9 = .ok (.if_icmp .ge 21, 3) := by decide +kernel
theorem dX4_at_12 : decode cX4_at 12 = .ok (.iload_n 1, 1) := by decide +kernel
theorem dX4_at_13 : decode cX4_at 13 = .ok (.aload_n 0, 1) := by decide +kernel
theorem dX4_at_14 : decode cX4_at 14 = .ok (.getfield 11, 3) := by decide +kernel
theorem dX4_at_17 : decode cX4_at 17 = .ok (.arraylength, 1) := by decide +kernel
theorem dX4_at_18 : decode cX4_at 18 = .ok (.if_icmp .ge 12, 3) := by decide +kernel
theorem dX4_at_21 : decode cX4_at 21 = .ok (.aload_n 0, 1) := by decide +kernel
theorem dX4_at_22 : decode cX4_at 22 = .ok (.getfield 11, 3) := by decide +kernel
theorem dX4_at_25 : decode cX4_at 25 = .ok (.iload_n 1, 1) := by decide +kernel
theorem dX4_at_26 : decode cX4_at 26 = .ok (.aaload, 1) := by decide +kernel
theorem dX4_at_27 : decode cX4_at 27 = .ok (.goto 4, 3) := by decide +kernel
theorem dX4_at_30 : decode cX4_at 30 = .ok (.aconst_null, 1) := by decide +kernel
theorem dX4_at_31 : decode cX4_at 31 = .ok (.areturn, 1) := by decide +kernel
theorem dX4_enlist_0 : decode cX4_enlist 0 = .ok (.aload_n 0, 1) := by decide +kernel
theorem dX4_enlist_1 : decode cX4_enlist 1 = .ok (.getfield 18, 3) := by decide +kernel
theorem dX4_enlist_4 : decode cX4_enlist 4 = .ok (.aload_n 0, 1) := by decide +kernel
theorem dX4_enlist_5 : decode cX4_enlist 5 = .ok (.getfield 11, 3) := by decide +kernel
theorem dX4_enlist_8 : decode cX4_enlist 8 = .ok (.arraylength, 1) := by decide +kernel
theorem dX4_enlist_9 : decode cX4_enlist 9 = .ok (.if_icmp .ge 15, 3) := by decide +kernel
theorem dX4_enlist_12 : decode cX4_enlist 12 = .ok (.aload_n 0, 1) := by decide +kernel
theorem dX4_enlist_13 : decode cX4_enlist 13 = .ok (.getfield 11, 3) := by decide +kernel
theorem dX4_enlist_16 : decode cX4_enlist 16 = .ok (.aload_n 0, 1) := by decide +kernel
theorem dX4_enlist_17 : decode cX4_enlist 17 = .ok (.getfield 18, 3) := by decide +kernel
theorem dX4_enlist_20 : decode cX4_enlist 20 = .ok (.aaload, 1) := by decide +kernel
theorem dX4_enlist_21 : decode cX4_enlist 21 = .ok (.goto 4, 3) := by decide +kernel
theorem dX4_enlist_24 : decode cX4_enlist 24 = .ok (.aconst_null, 1) := by decide +kernel
theorem dX4_enlist_25 : decode cX4_enlist 25 = .ok (.astore_n 3, 1) := by decide +kernel
theorem dX4_enlist_26 : decode cX4_enlist 26 = .ok (.aload_n 3, 1) := by decide +kernel
theorem dX4_enlist_27 : decode cX4_enlist 27 = .ok (.ifnonnull 6, 3) := by decide +kernel
theorem dX4_enlist_30 : decode cX4_enlist 30 = .ok (.bipush (-104), 2) := by decide +kernel
theorem dX4_enlist_32 : decode cX4_enlist 32 = .ok (.ireturn, 1) := by decide +kernel
theorem dX4_enlist_33 : decode cX4_enlist 33 = .ok (.aload_n 3, 1) := by decide +kernel
theorem dX4_enlist_34 : decode cX4_enlist 34 = .ok (.iload_n 1, 1) := by decide +kernel
theorem dX4_enlist_35 : decode cX4_enlist 35 = .ok (.aload_n 2, 1) := by decide +kernel
theorem dX4_enlist_36 : decode cX4_enlist 36 = .ok (.invokevirtual 22, 3) := by decide +kernel
theorem dX4_enlist_39 : decode cX4_enlist 39 = .ok (.aload_n 0, 1) := by decide +kernel
theorem dX4_enlist_40 : decode cX4_enlist 40 = .ok (.dup, 1) := by decide +kernel
theorem dX4_enlist_41 : decode cX4_enlist 41 = .ok (.getfield 18, 3) := by decide +kernel
theorem dX4_enlist_44 : decode cX4_enlist 44 = .ok (.iconst 1, 1) := by decide +kernel
theorem dX4_enlist_45 : decode cX4_enlist 45 = .ok (.iadd, 1) := by decide +kernel
theorem dX4_enlist_46 : decode cX4_enlist 46 = .ok (.putfield 18, 3) := by decide +kernel
theorem dX4_enlist_49 : decode cX4_enlist 49 = .ok (.aload_n 0, 1) := by decide +kernel
theorem dX4_enlist_50 : decode cX4_enlist 50 = .ok (.getfield 18, 3) := by decide +kernel
theorem dX4_enlist_53 : decode cX4_enlist 53 = .ok (.iconst 1, 1) := by decide +kernel
theorem dX4_enlist_54 : decode cX4_enlist 54 = .ok (.isub, 1) := by decide +kernel
theorem dX4_enlist_55 : decode cX4_enlist 55 = .ok (.ireturn, 1) := by decide +kernel
theorem dX4_dismissAll_0 : decode cX4_dismissAll 0 = .ok (.aload_n 0, 1) := by decide +kernel
theorem dX4_dismissAll_1 : decode cX4_dismissAll 1 = .ok (.iconst 0, 1) := by decide +kernel
theorem dX4_dismissAll_2 : decode cX4_dismissAll 2 = .ok (.putfield 18, 3) := by decide +kernel
theorem dX4_dismissAll_5 : decode cX4_dismissAll 5 = .ok (.return_, 1) := by decide +kernel
theorem dX4_beginRun_0 : decode cX4_beginRun 0 = .ok (.iconst 0, 1) := by decide +kernel
theorem dX4_beginRun_1 : decode cX4_beginRun 1 = .ok (.istore_n 1, 1) := by decide +kernel
theorem dX4_beginRun_2 : decode cX4_beginRun 2 = .ok (.iload_n 1, 1) := by decide +kernel
theorem dX4_beginRun_3 : decode cX4_beginRun 3 = .ok (.aload_n 0, 1) := by decide +kernel
theorem dX4_beginRun_4 : decode cX4_beginRun 4 = .ok (.getfield 18, 3) := by decide +kernel
theorem dX4_beginRun_7 : decode cX4_beginRun 7 = .ok (.if_icmp .ge 23, 3) := by decide +kernel
theorem dX4_beginRun_10 : decode cX4_beginRun 10 = .ok (.aload_n 0, 1) := by decide +kernel
theorem dX4_beginRun_11 : decode cX4_beginRun 11 = .ok (.iload_n 1, 1) := by decide +kernel
theorem dX4_beginRun_12 : decode cX4_beginRun 12 = .ok (.invokevirtual 26, 3) := by decide +kernel
theorem dX4_beginRun_15 : decode cX4_beginRun 15 = .ok (.astore_n 2, 1) := by decide +kernel
theorem dX4_beginRun_16 : decode cX4_beginRun 16 = .ok (.aload_n 2, 1) := by decide +kernel
theorem dX4_beginRun_17 : decode cX4_beginRun 17 = .ok (.ifnull 7, 3) := by decide +kernel
theorem dX4_beginRun_20 : decode cX4_beginRun 20 = .ok (.aload_n 2, 1) := by decide +kernel
theorem dX4_beginRun_21 : decode cX4_beginRun 21 = .ok (.invokevirtual 30, 3) := by decide +kernel
theorem dX4_beginRun_24 : decode cX4_beginRun 24 = .ok (.iinc 1 1, 3) := by decide +kernel
theorem dX4_beginRun_27 : decode cX4_beginRun 27 = .ok (.goto (-25), 3) := by decide +kernel
theorem dX4_beginRun_30 : decode cX4_beginRun 30 = .ok (.return_, 1) := by decide +kernel
theorem dX4_goBack_0 : decode cX4_goBack 0 = .ok (.iconst 0, 1) := by decide +kernel
theorem dX4_goBack_1 : decode cX4_goBack 1 = .ok (.istore_n 1, 1) := by decide +kernel
theorem dX4_goBack_2 : decode cX4_goBack 2 = .ok (.iload_n 1, 1) := by decide +kernel
theorem dX4_goBack_3 : decode cX4_goBack 3 = .ok (.aload_n 0, 1) := by decide +kernel
theorem dX4_goBack_4 : decode cX4_goBack 4 = .ok (.getfield 18, 3) := by decide +kernel
theorem dX4_goBack_7 : decode cX4_goBack 7 = .ok (.if_icmp .ge 23, 3) := by decide +kernel
theorem dX4_goBack_10 : decode cX4_goBack 10 = .ok (.aload_n 0, 1) := by decide +kernel
theorem dX4_goBack_11 : decode cX4_goBack 11 = .ok (.iload_n 1, 1) := by decide +kernel
theorem dX4_goBack_12 : decode cX4_goBack 12 = .ok (.invokevirtual 26, 3) := by decide +kernel
theorem dX4_goBack_15 : decode cX4_goBack 15 = .ok (.astore_n 2, 1) := by decide +kernel
theorem dX4_goBack_16 : decode cX4_goBack 16 = .ok (.aload_n 2, 1) := by decide +kernel
theorem dX4_goBack_17 : decode cX4_goBack 17 = .ok (.ifnull 7, 3) := by decide +kernel
theorem dX4_goBack_20 : decode cX4_goBack 20 = .ok (.aload_n 2, 1) := by decide +kernel
theorem dX4_goBack_21 : decode cX4_goBack 21 = .ok (.invokevirtual 33, 3) := by decide +kernel
theorem dX4_goBack_24 : decode cX4_goBack 24 = .ok (.iinc 1 1, 3) := by decide +kernel
theorem dX4_goBack_27 : decode cX4_goBack 27 = .ok (.goto (-25), 3) := by decide +kernel
theorem dX4_goBack_30 : decode cX4_goBack 30 = .ok (.return_, 1) := by decide +kernel
theorem dX5_init_0 : decode cX5_init 0 = .ok (.aload_n 0, 1) := by decide +kernel
theorem dX5_init_1 : decode cX5_init 1 = .ok (.invokespecial 3, 3) := by decide +kernel
theorem dX5_init_4 : decode cX5_init 4 = .ok (.aload_n 0, 1) := by decide +kernel
theorem dX5_init_5 : decode cX5_init 5 = .ok (.iconst 4, 1) := by decide +kernel
theorem dX5_init_6 : decode cX5_init 6 = .ok (.anewarray 9, 3) := by decide +kernel
theorem dX5_init_9 : decode cX5_init 9 = .ok (.putfield 11, 3) := by decide +kernel
theorem dX5_init_12 : decode cX5_init 12 = .ok (.iconst 0, 1) := by decide +kernel
theorem dX5_init_13 : decode cX5_init 13 = .ok (.istore_n 1, 1) := by decide +kernel
theorem dX5_init_14 : decode cX5_init 14 = .ok (.iload_n 1, 1) := by decide +kernel
theorem dX5_init_15 : decode cX5_init 15 = .ok (.aload_n 0, 1) := by decide +kernel
theorem dX5_init_16 : decode cX5_init 16 = .ok (.getfield 11, 3) := by decide +kernel
theorem dX5_init_19 : decode cX5_init 19 = .ok (.arraylength, 1) := by decide +kernel
theorem dX5_init_20 : decode cX5_init 20 = .ok (.if_icmp .ge 24, 3) := by decide +kernel
theorem dX5_init_23 : decode cX5_init 23 = .ok (.aload_n 0, 1) := by decide +kernel
theorem dX5_init_24 : decode cX5_init 24 = .ok (.getfield 11, 3) := by decide +kernel
theorem dX5_init_27 : decode cX5_init 27 = .ok (.iload_n 1, 1) := by decide +kernel
theorem dX5_init_28 : decode cX5_init 28 = .ok (.new 9, 3) := by decide +kernel
theorem dX5_init_31 : decode cX5_init 31 = .ok (.dup, 1) := by decide +kernel
theorem dX5_init_32 : decode cX5_init 32 = .ok (.bipush 100, 2) := by decide +kernel
theorem dX5_init_34 : decode cX5_init 34 = .ok (.invokespecial 17, 3) := by decide +kernel
theorem dX5_init_37 : decode cX5_init 37 = .ok (.aastore, 1) := by decide +kernel
theorem dX5_init_38 : decode cX5_init 38 = .ok (.iinc 1 1, 3) := by decide +kernel
theorem dX5_init_41 : decode cX5_init 41 = .ok (.goto (-27), 3) := by decide +kernel
theorem dX5_init_44 : decode cX5_init 44 = .ok (.return_, 1) := by decide +kernel
theorem dX5_at_0 : decode cX5_at 0 = .ok (.iload_n 1, 1) := by decide +kernel
theorem dX5_at_1 : decode cX5_at 1 = .ok (.ifCond .lt 21, 3) := by decide +kernel
theorem dX5_at_4 : decode cX5_at 4 = .ok (.iload_n 1, 1) := by decide +kernel
theorem dX5_at_5 : decode cX5_at 5 = .ok (.aload_n 0, 1) := by decide +kernel
theorem dX5_at_6 : decode cX5_at 6 = .ok (.getfield 11, 3) := by decide +kernel
theorem dX5_at_9 : decode cX5_at 9 = .ok (.arraylength, 1) := by decide +kernel
theorem dX5_at_10 : decode cX5_at 10 = .ok (.if_icmp .ge 12, 3) := by decide +kernel
theorem dX5_at_13 : decode cX5_at 13 = .ok (.aload_n 0, 1) := by decide +kernel
theorem dX5_at_14 : decode cX5_at 14 = .ok (.getfield 11, 3) := by decide +kernel
theorem dX5_at_17 : decode cX5_at 17 = .ok (.iload_n 1, 1) := by decide +kernel
theorem dX5_at_18 : decode cX5_at 18 = .ok (.aaload, 1) := by decide +kernel
theorem dX5_at_19 : decode cX5_at 19 = .ok (.goto 4, 3) := by decide +kernel
theorem dX5_at_22 : decode cX5_at 22 = .ok (.aconst_null, 1) := by decide +kernel
theorem dX5_at_23 : decode cX5_at 23 = .ok (.areturn, 1) := by decide +kernel
theorem dX5_emptyAll_0 : decode cX5_emptyAll 0 = .ok (.aload_n 0, 1) := by decide +kernel
theorem dX5_emptyAll_1 : decode cX5_emptyAll 1 = .ok (.getfield 11, 3) := by decide +kernel
theorem dX5_emptyAll_4 : decode cX5_emptyAll 4 = .ok (.astore_n 1, 1) := by decide +kernel
theorem dX5_emptyAll_5 : decode cX5_emptyAll 5 = .ok (.aload_n 1, 1) := by decide +kernel
theorem dX5_emptyAll_6 : decode cX5_emptyAll 6 = .ok (.arraylength, 1) := by decide +kernel
theorem dX5_emptyAll_7 : decode cX5_emptyAll 7 = .ok (.istore_n 2, 1) := by decide +kernel
theorem dX5_emptyAll_8 : decode cX5_emptyAll 8 = .ok (.iconst 0, 1) := by decide +kernel
theorem dX5_emptyAll_9 : decode cX5_emptyAll 9 = .ok (.istore_n 3, 1) := by decide +kernel
theorem dX5_emptyAll_10 : decode cX5_emptyAll 10 = .ok (.iload_n 3, 1) := by decide +kernel
theorem dX5_emptyAll_11 : decode cX5_emptyAll 11 = .ok (.iload_n 2, 1) := by decide +kernel
theorem dX5_emptyAll_12 : decode cX5_emptyAll 12 = .ok (.if_icmp .ge 24, 3) := by decide +kernel
theorem dX5_emptyAll_15 : decode cX5_emptyAll 15 = .ok (.aload_n 1, 1) := by decide +kernel
theorem dX5_emptyAll_16 : decode cX5_emptyAll 16 = .ok (.iload_n 3, 1) := by decide +kernel
theorem dX5_emptyAll_17 : decode cX5_emptyAll 17 = .ok (.aaload, 1) := by decide +kernel
theorem dX5_emptyAll_18 : decode cX5_emptyAll 18 = .ok (.astore 4, 2) := by decide +kernel
theorem dX5_emptyAll_20 : decode cX5_emptyAll 20 = .ok (.aload 4, 2) := by decide +kernel
theorem dX5_emptyAll_22 : decode cX5_emptyAll 22 = .ok (.ifnull 8, 3) := by decide +kernel
theorem dX5_emptyAll_25 : decode cX5_emptyAll 25 = .ok (.aload 4, 2) := by decide +kernel
theorem dX5_emptyAll_27 : decode cX5_emptyAll 27 = .ok (.invokevirtual 20, 3) := by decide +kernel
theorem dX5_emptyAll_30 : decode cX5_emptyAll 30 = .ok (.iinc 3 1, 3) := by decide +kernel
theorem dX5_emptyAll_33 : decode cX5_emptyAll 33 = .ok (.goto (-23), 3) := by decide +kernel
theorem dX5_emptyAll_36 : decode cX5_emptyAll 36 = .ok (.return_, 1) := by decide +kernel
theorem dX5_keep_0 : decode cX5_keep 0 = .ok (.aload_n 0, 1) := by decide +kernel
theorem dX5_keep_1 : decode cX5_keep 1 = .ok (.getfield 11, 3) := by decide +kernel
theorem dX5_keep_4 : decode cX5_keep 4 = .ok (.astore_n 1, 1) := by decide +kernel
theorem dX5_keep_5 : decode cX5_keep 5 = .ok (.aload_n 1, 1) := by decide +kernel
theorem dX5_keep_6 : decode cX5_keep 6 = .ok (.arraylength, 1) := by decide +kernel
theorem dX5_keep_7 : decode cX5_keep 7 = .ok (.istore_n 2, 1) := by decide +kernel
theorem dX5_keep_8 : decode cX5_keep 8 = .ok (.iconst 0, 1) := by decide +kernel
theorem dX5_keep_9 : decode cX5_keep 9 = .ok (.istore_n 3, 1) := by decide +kernel
theorem dX5_keep_10 : decode cX5_keep 10 = .ok (.iload_n 3, 1) := by decide +kernel
theorem dX5_keep_11 : decode cX5_keep 11 = .ok (.iload_n 2, 1) := by decide +kernel
theorem dX5_keep_12 : decode cX5_keep 12 = .ok (.if_icmp .ge 24, 3) := by decide +kernel
theorem dX5_keep_15 : decode cX5_keep 15 = .ok (.aload_n 1, 1) := by decide +kernel
theorem dX5_keep_16 : decode cX5_keep 16 = .ok (.iload_n 3, 1) := by decide +kernel
theorem dX5_keep_17 : decode cX5_keep 17 = .ok (.aaload, 1) := by decide +kernel
theorem dX5_keep_18 : decode cX5_keep 18 = .ok (.astore 4, 2) := by decide +kernel
theorem dX5_keep_20 : decode cX5_keep 20 = .ok (.aload 4, 2) := by decide +kernel
theorem dX5_keep_22 : decode cX5_keep 22 = .ok (.ifnull 8, 3) := by decide +kernel
theorem dX5_keep_25 : decode cX5_keep 25 = .ok (.aload 4, 2) := by decide +kernel
theorem dX5_keep_27 : decode cX5_keep 27 = .ok (.invokevirtual 23, 3) := by decide +kernel
theorem dX5_keep_30 : decode cX5_keep 30 = .ok (.iinc 3 1, 3) := by decide +kernel
theorem dX5_keep_33 : decode cX5_keep 33 = .ok (.goto (-23), 3) := by decide +kernel
theorem dX5_keep_36 : decode cX5_keep 36 = .ok (.return_, 1) := by decide +kernel
theorem dX5_goBack_0 : decode cX5_goBack 0 = .ok (.aload_n 0, 1) := by decide +kernel
theorem dX5_goBack_1 : decode cX5_goBack 1 = .ok (.getfield 11, 3) := by decide +kernel
theorem dX5_goBack_4 : decode cX5_goBack 4 = .ok (.astore_n 1, 1) := by decide +kernel
theorem dX5_goBack_5 : decode cX5_goBack 5 = .ok (.aload_n 1, 1) := by decide +kernel
theorem dX5_goBack_6 : decode cX5_goBack 6 = .ok (.arraylength, 1) := by decide +kernel
theorem dX5_goBack_7 : decode cX5_goBack 7 = .ok (.istore_n 2, 1) := by decide +kernel
theorem dX5_goBack_8 : decode cX5_goBack 8 = .ok (.iconst 0, 1) := by decide +kernel
theorem dX5_goBack_9 : decode cX5_goBack 9 = .ok (.istore_n 3, 1) := by decide +kernel
theorem dX5_goBack_10 : decode cX5_goBack 10 = .ok (.iload_n 3, 1) := by decide +kernel
theorem dX5_goBack_11 : decode cX5_goBack 11 = .ok (.iload_n 2, 1) := by decide +kernel
theorem dX5_goBack_12 : decode cX5_goBack 12 = .ok (.if_icmp .ge 24, 3) := by decide +kernel
theorem dX5_goBack_15 : decode cX5_goBack 15 = .ok (.aload_n 1, 1) := by decide +kernel
theorem dX5_goBack_16 : decode cX5_goBack 16 = .ok (.iload_n 3, 1) := by decide +kernel
theorem dX5_goBack_17 : decode cX5_goBack 17 = .ok (.aaload, 1) := by decide +kernel
theorem dX5_goBack_18 : decode cX5_goBack 18 = .ok (.astore 4, 2) := by decide +kernel
theorem dX5_goBack_20 : decode cX5_goBack 20 = .ok (.aload 4, 2) := by decide +kernel
theorem dX5_goBack_22 : decode cX5_goBack 22 = .ok (.ifnull 8, 3) := by decide +kernel
theorem dX5_goBack_25 : decode cX5_goBack 25 = .ok (.aload 4, 2) := by decide +kernel
theorem dX5_goBack_27 : decode cX5_goBack 27 = .ok (.invokevirtual 26, 3) := by decide +kernel
theorem dX5_goBack_30 : decode cX5_goBack 30 = .ok (.iinc 3 1, 3) := by decide +kernel
theorem dX5_goBack_33 : decode cX5_goBack 33 = .ok (.goto (-23), 3) := by decide +kernel
theorem dX5_goBack_36 : decode cX5_goBack 36 = .ok (.return_, 1) := by decide +kernel
theorem dX6_init_0 : decode cX6_init 0 = .ok (.aload_n 0, 1) := by decide +kernel
theorem dX6_init_1 : decode cX6_init 1 = .ok (.invokespecial 3, 3) := by decide +kernel
theorem dX6_init_4 : decode cX6_init 4 = .ok (.aload_n 0, 1) := by decide +kernel
theorem dX6_init_5 : decode cX6_init 5 = .ok (.iload_n 1, 1) := by decide +kernel
theorem dX6_init_6 : decode cX6_init 6 = .ok (.iconst 0, 1) := by decide +kernel
theorem dX6_init_7 : decode cX6_init 7 = .ok (.invokestatic 9, 3) := by decide +kernel
theorem dX6_init_10 : decode cX6_init 10 = .ok (.newarray .int, 2) := by decide +kernel
theorem dX6_init_12 : decode cX6_init 12 = .ok (.putfield 15, 3) := by decide +kernel
theorem dX6_init_15 : decode cX6_init 15 = .ok (.return_, 1) := by decide +kernel
theorem dX6_size_0 : decode cX6_size 0 = .ok (.aload_n 0, 1) := by decide +kernel
theorem dX6_size_1 : decode cX6_size 1 = .ok (.getfield 21, 3) := by decide +kernel
theorem dX6_size_4 : decode cX6_size 4 = .ok (.ireturn, 1) := by decide +kernel
theorem dX6_room_0 : decode cX6_room 0 = .ok (.aload_n 0, 1) := by decide +kernel
theorem dX6_room_1 : decode cX6_room 1 = .ok (.getfield 15, 3) := by decide +kernel
theorem dX6_room_4 : decode cX6_room 4 = .ok (.arraylength, 1) := by decide +kernel
theorem dX6_room_5 : decode cX6_room 5 = .ok (.aload_n 0, 1) := by decide +kernel
theorem dX6_room_6 : decode cX6_room 6 = .ok (.getfield 21, 3) := by decide +kernel
theorem dX6_room_9 : decode cX6_room 9 = .ok (.isub, 1) := by decide +kernel
theorem dX6_room_10 : decode cX6_room 10 = .ok (.ireturn, 1) := by decide +kernel
theorem dX6_has_0 : decode cX6_has 0 = .ok (.iload_n 1, 1) := by decide +kernel
theorem dX6_has_1 : decode cX6_has 1 = .ok (.ifCond .lt 15, 3) := by decide +kernel
theorem dX6_has_4 : decode cX6_has 4 = .ok (.iload_n 1, 1) := by decide +kernel
theorem dX6_has_5 : decode cX6_has 5 = .ok (.aload_n 0, 1) := by decide +kernel
theorem dX6_has_6 : decode cX6_has 6 = .ok (.getfield 21, 3) := by decide +kernel
theorem dX6_has_9 : decode cX6_has 9 = .ok (.if_icmp .ge 7, 3) := by decide +kernel
theorem dX6_has_12 : decode cX6_has 12 = .ok (.iconst 1, 1) := by decide +kernel
theorem dX6_has_13 : decode cX6_has 13 = .ok (.goto 4, 3) := by decide +kernel
theorem dX6_has_16 : decode cX6_has 16 = .ok (.iconst 0, 1) := by decide +kernel
theorem dX6_has_17 : decode cX6_has 17 = .ok (.ireturn, 1) := by decide +kernel
theorem dX6_at_0 : decode cX6_at 0 = .ok (.iload_n 1, 1) := by decide +kernel
theorem dX6_at_1 : decode cX6_at 1 = .ok (.ifCond .lt 20, 3) := by decide +kernel
theorem dX6_at_4 : decode cX6_at 4 = .ok (.iload_n 1, 1) := by decide +kernel
theorem dX6_at_5 : decode cX6_at 5 = .ok (.aload_n 0, 1) := by decide +kernel
theorem dX6_at_6 : decode cX6_at 6 = .ok (.getfield 21, 3) := by decide +kernel
theorem dX6_at_9 : decode cX6_at 9 = .ok (.if_icmp .ge 12, 3) := by decide +kernel
theorem dX6_at_12 : decode cX6_at 12 = .ok (.aload_n 0, 1) := by decide +kernel
theorem dX6_at_13 : decode cX6_at 13 = .ok (.getfield 15, 3) := by decide +kernel
theorem dX6_at_16 : decode cX6_at 16 = .ok (.iload_n 1, 1) := by decide +kernel
theorem dX6_at_17 : decode cX6_at 17 = .ok (.iaload, 1) := by decide +kernel
theorem dX6_at_18 : decode cX6_at 18 = .ok (.goto 4, 3) := by decide +kernel
theorem dX6_at_21 : decode cX6_at 21 = .ok (.iconst 0, 1) := by decide +kernel
theorem dX6_at_22 : decode cX6_at 22 = .ok (.ireturn, 1) := by decide +kernel
theorem dX6_put_0 : decode cX6_put 0 = .ok (.iload_n 1, 1) := by decide +kernel
theorem dX6_put_1 : decode cX6_put 1 = .ok (.ifCond .lt 22, 3) := by decide +kernel
theorem dX6_put_4 : decode cX6_put 4 = .ok (.iload_n 1, 1) := by decide +kernel
theorem dX6_put_5 : decode cX6_put 5 = .ok (.aload_n 0, 1) := by decide +kernel
theorem dX6_put_6 : decode cX6_put 6 = .ok (.getfield 21, 3) := by decide +kernel
theorem dX6_put_9 : decode cX6_put 9 = .ok (.if_icmp .ge 14, 3) := by decide +kernel
theorem dX6_put_12 : decode cX6_put 12 = .ok (.aload_n 0, 1) := by decide +kernel
theorem dX6_put_13 : decode cX6_put 13 = .ok (.getfield 15, 3) := by decide +kernel
theorem dX6_put_16 : decode cX6_put 16 = .ok (.iload_n 1, 1) := by decide +kernel
theorem dX6_put_17 : decode cX6_put 17 = .ok (.iload_n 2, 1) := by decide +kernel
theorem dX6_put_18 : decode cX6_put 18 = .ok (.sipush 255, 3) := by decide +kernel
theorem dX6_put_21 : decode cX6_put 21 = .ok (.iand, 1) := by decide +kernel
theorem dX6_put_22 : decode cX6_put 22 = .ok (.iastore, 1) := by decide +kernel
theorem dX6_put_23 : decode cX6_put 23 = .ok (.return_, 1) := by decide +kernel
theorem dX6_append_0 : decode cX6_append 0 = .ok (.aload_n 0, 1) := by decide +kernel
theorem dX6_append_1 : decode cX6_append 1 = .ok (.getfield 21, 3) := by decide +kernel
theorem dX6_append_4 : decode cX6_append 4 = .ok (.aload_n 0, 1) := by decide +kernel
theorem dX6_append_5 : decode cX6_append 5 = .ok (.getfield 15, 3) := by decide +kernel
theorem dX6_append_8 : decode cX6_append 8 = .ok (.arraylength, 1) := by decide +kernel
theorem dX6_append_9 : decode cX6_append 9 = .ok (.if_icmp .lt 5, 3) := by decide +kernel
theorem dX6_append_12 : decode cX6_append 12 = .ok (.iconst 0, 1) := by decide +kernel
theorem dX6_append_13 : decode cX6_append 13 = .ok (.ireturn, 1) := by decide +kernel
theorem dX6_append_14 : decode cX6_append 14 = .ok (.aload_n 0, 1) := by decide +kernel
theorem dX6_append_15 : decode cX6_append 15 = .ok (.getfield 15, 3) := by decide +kernel
theorem dX6_append_18 : decode cX6_append 18 = .ok (.aload_n 0, 1) := by decide +kernel
theorem dX6_append_19 : decode cX6_append 19 = .ok (.getfield 21, 3) := by decide +kernel
theorem dX6_append_22 : decode cX6_append 22 = .ok (.iload_n 1, 1) := by decide +kernel
theorem dX6_append_23 : decode cX6_append 23 = .ok (.sipush 255, 3) := by decide +kernel
theorem dX6_append_26 : decode cX6_append 26 = .ok (.iand, 1) := by decide +kernel
theorem dX6_append_27 : decode cX6_append 27 = .ok (.iastore, 1) := by decide +kernel
theorem dX6_append_28 : decode cX6_append 28 = .ok (.aload_n 0, 1) := by decide +kernel
theorem dX6_append_29 : decode cX6_append 29 = .ok (.dup, 1) := by decide +kernel
theorem dX6_append_30 : decode cX6_append 30 = .ok (.getfield 21, 3) := by decide +kernel
theorem dX6_append_33 : decode cX6_append 33 = .ok (.iconst 1, 1) := by decide +kernel
theorem dX6_append_34 : decode cX6_append 34 = .ok (.iadd, 1) := by decide +kernel
theorem dX6_append_35 : decode cX6_append 35 = .ok (.putfield 21, 3) := by decide +kernel
theorem dX6_append_38 : decode cX6_append 38 = .ok (.iconst 1, 1) := by decide +kernel
theorem dX6_append_39 : decode cX6_append 39 = .ok (.ireturn, 1) := by decide +kernel
theorem dX6_empty_0 : decode cX6_empty 0 = .ok (.aload_n 0, 1) := by decide +kernel
theorem dX6_empty_1 : decode cX6_empty 1 = .ok (.iconst 0, 1) := by decide +kernel
theorem dX6_empty_2 : decode cX6_empty 2 = .ok (.putfield 21, 3) := by decide +kernel
theorem dX6_empty_5 : decode cX6_empty 5 = .ok (.return_, 1) := by decide +kernel
theorem dX6_become_0 : decode cX6_become 0 = .ok (.aload_n 0, 1) := by decide +kernel
theorem dX6_become_1 : decode cX6_become 1 = .ok (.invokevirtual 25, 3) := by decide +kernel
theorem dX6_become_4 : decode cX6_become 4 = .ok (.iconst 0, 1) := by decide +kernel
theorem dX6_become_5 : decode cX6_become 5 = .ok (.istore_n 2, 1) := by decide +kernel
theorem dX6_become_6 : decode cX6_become 6 = .ok (.iload_n 2, 1) := by decide +kernel
theorem dX6_become_7 : decode cX6_become 7 = .ok (.aload_n 1, 1) := by decide +kernel
theorem dX6_become_8 : decode cX6_become 8 = .ok (.invokevirtual 28, 3) := by decide +kernel
theorem dX6_become_11 : decode cX6_become 11 = .ok (.if_icmp .ge 19, 3) := by decide +kernel
theorem dX6_become_14 : decode cX6_become 14 = .ok (.aload_n 0, 1) := by decide +kernel
theorem dX6_become_15 : decode cX6_become 15 = .ok (.aload_n 1, 1) := by decide +kernel
theorem dX6_become_16 : decode cX6_become 16 = .ok (.iload_n 2, 1) := by decide +kernel
theorem dX6_become_17 : decode cX6_become 17 = .ok (.invokevirtual 32, 3) := by decide +kernel
theorem dX6_become_20 : decode cX6_become 20 = .ok (.invokevirtual 36, 3) := by decide +kernel
theorem dX6_become_23 : decode cX6_become 23 = .ok (.pop, 1) := by decide +kernel
theorem dX6_become_24 : decode cX6_become 24 = .ok (.iinc 2 1, 3) := by decide +kernel
theorem dX6_become_27 : decode cX6_become 27 = .ok (.goto (-21), 3) := by decide +kernel
theorem dX6_become_30 : decode cX6_become 30 = .ok (.return_, 1) := by decide +kernel
theorem dX6_keep_0 : decode cX6_keep 0 = .ok (.aload_n 0, 1) := by decide +kernel
theorem dX6_keep_1 : decode cX6_keep 1 = .ok (.aload_n 0, 1) := by decide +kernel
theorem dX6_keep_2 : decode cX6_keep 2 = .ok (.getfield 21, 3) := by decide +kernel
theorem dX6_keep_5 : decode cX6_keep 5 = .ok (.putfield 40, 3) := by decide +kernel
theorem dX6_keep_8 : decode cX6_keep 8 = .ok (.return_, 1) := by decide +kernel
theorem dX6_goBack_0 : decode cX6_goBack 0 = .ok (.aload_n 0, 1) := by decide +kernel
theorem dX6_goBack_1 : decode cX6_goBack 1 = .ok (.aload_n 0, 1) := by decide +kernel
theorem dX6_goBack_2 : decode cX6_goBack 2 = .ok (.getfield 40, 3) := by decide +kernel
theorem dX6_goBack_5 : decode cX6_goBack 5 = .ok (.aload_n 0, 1) := by decide +kernel
theorem dX6_goBack_6 : decode cX6_goBack 6 = .ok (.getfield 21, 3) := by decide +kernel
theorem dX6_goBack_9 : decode cX6_goBack 9 = .ok (.invokestatic 43, 3) := by decide +kernel
theorem dX6_goBack_12 : decode cX6_goBack 12 = .ok (.putfield 21, 3) := by decide +kernel
theorem dX6_goBack_15 : decode cX6_goBack 15 = .ok (.return_, 1) := by decide +kernel
theorem dX7_init_0 : decode cX7_init 0 = .ok (.aload_n 0, 1) := by decide +kernel
theorem dX7_init_1 : decode cX7_init 1 = .ok (.invokespecial 3, 3) := by decide +kernel
theorem dX7_init_4 : decode cX7_init 4 = .ok (.aload_n 0, 1) := by decide +kernel
theorem dX7_init_5 : decode cX7_init 5 = .ok (.new 9, 3) := by decide +kernel
theorem dX7_init_8 : decode cX7_init 8 = .ok (.dup, 1) := by decide +kernel
theorem dX7_init_9 : decode cX7_init 9 = .ok (.invokespecial 11, 3) := by decide +kernel
theorem dX7_init_12 : decode cX7_init 12 = .ok (.putfield 12, 3) := by decide +kernel
theorem dX7_init_15 : decode cX7_init 15 = .ok (.aload_n 0, 1) := by decide +kernel
theorem dX7_init_16 : decode cX7_init 16 = .ok (.new 18, 3) := by decide +kernel
theorem dX7_init_19 : decode cX7_init 19 = .ok (.dup, 1) := by decide +kernel
theorem dX7_init_20 : decode cX7_init 20 = .ok (.invokespecial 20, 3) := by decide +kernel
theorem dX7_init_23 : decode cX7_init 23 = .ok (.putfield 21, 3) := by decide +kernel
theorem dX7_init_26 : decode cX7_init 26 = .ok (.aload_n 0, 1) := by decide +kernel
theorem dX7_init_27 : decode cX7_init 27 = .ok (.new 25, 3) := by decide +kernel
theorem dX7_init_30 : decode cX7_init 30 = .ok (.dup, 1) := by decide +kernel
theorem dX7_init_31 : decode cX7_init 31 = .ok (.invokespecial 27, 3) := by decide +kernel
theorem dX7_init_34 : decode cX7_init 34 = .ok (.putfield 28, 3) := by decide +kernel
theorem dX7_init_37 : decode cX7_init 37 = .ok (.aload_n 0, 1) := by decide +kernel
theorem dX7_init_38 : decode cX7_init 38 = .ok (.new 32, 3) := by decide +kernel
theorem dX7_init_41 : decode cX7_init 41 = .ok (.dup, 1) := by decide +kernel
theorem dX7_init_42 : decode cX7_init 42 = .ok (.invokespecial 34, 3) := by decide +kernel
theorem dX7_init_45 : decode cX7_init 45 = .ok (.putfield 35, 3) := by decide +kernel
theorem dX7_init_48 : decode cX7_init 48 = .ok (.aload_n 0, 1) := by decide +kernel
theorem dX7_init_49 : decode cX7_init 49 = .ok (.iconst 4, 1) := by decide +kernel
theorem dX7_init_50 : decode cX7_init 50 = .ok (.newarray .int, 2) := by decide +kernel
theorem dX7_init_52 : decode cX7_init 52 = .ok (.putfield 39, 3) := by decide +kernel
theorem dX7_init_55 : decode cX7_init 55 = .ok (.aload_n 0, 1) := by decide +kernel
theorem dX7_init_56 : decode cX7_init 56 = .ok (.bipush 8, 2) := by decide +kernel
theorem dX7_init_58 : decode cX7_init 58 = .ok (.newarray .int, 2) := by decide +kernel
theorem dX7_init_60 : decode cX7_init 60 = .ok (.putfield 43, 3) := by decide +kernel
theorem dX7_init_63 : decode cX7_init 63 = .ok (.return_, 1) := by decide +kernel
theorem dX7_go_0 : decode cX7_go 0 = .ok (.aload_n 0, 1) := by decide +kernel
theorem dX7_go_1 : decode cX7_go 1 = .ok (.iload_n 1, 1) := by decide +kernel
theorem dX7_go_2 : decode cX7_go 2 = .ok (.iload_n 2, 1) := by decide +kernel
theorem dX7_go_3 : decode cX7_go 3 = .ok (.invokevirtual 46, 3) := by decide +kernel
theorem dX7_go_6 : decode cX7_go 6 = .ok (.aload_n 0, 1) := by decide +kernel
theorem dX7_go_7 : decode cX7_go 7 = .ok (.getfield 21, 3) := by decide +kernel
theorem dX7_go_10 : decode cX7_go 10 = .ok (.invokevirtual 50, 3) := by decide +kernel
theorem dX7_go_13 : decode cX7_go 13 = .ok (.istore_n 3, 1) := by decide +kernel
theorem dX7_go_14 : decode cX7_go 14 = .ok (.iconst 0, 1) := by decide +kernel
theorem dX7_go_15 : decode cX7_go 15 = .ok (.istore 4, 2) := by decide +kernel
theorem dX7_go_17 : decode cX7_go 17 = .ok (.aload_n 0, 1) := by decide +kernel
theorem dX7_go_18 : decode cX7_go 18 = .ok (.getfield 21, 3) := by decide +kernel
theorem dX7_go_21 : decode cX7_go 21 = .ok (.invokevirtual 54, 3) := by decide +kernel
theorem dX7_go_24 : decode cX7_go 24 = .ok (.ifCond .le 7, 3) := by decide +kernel
theorem dX7_go_27 : decode cX7_go 27 = .ok (.iload_n 3, 1) := by decide +kernel
theorem dX7_go_28 : decode cX7_go 28 = .ok (.goto 4, 3) := by decide +kernel
theorem dX7_go_31 : decode cX7_go 31 = .ok (.iconst 0, 1) := by decide +kernel
theorem dX7_go_32 : decode cX7_go 32 = .ok (.istore 5, 2) := by decide +kernel
theorem dX7_go_34 : decode cX7_go 34 = .ok (.iconst 0, 1) := by decide +kernel
theorem dX7_go_35 : decode cX7_go 35 = .ok (.istore 6, 2) := by decide +kernel
theorem dX7_go_37 : decode cX7_go 37 = .ok (.iload 6, 2) := by decide +kernel
theorem dX7_go_39 : decode cX7_go 39 = .ok (.bipush 40, 2) := by decide +kernel
theorem dX7_go_41 : decode cX7_go 41 = .ok (.if_icmp .ge 44, 3) := by decide +kernel
theorem dX7_go_44 : decode cX7_go 44 = .ok (.aload_n 0, 1) := by decide +kernel
theorem dX7_go_45 : decode cX7_go 45 = .ok (.getfield 57, 3) := by decide +kernel
theorem dX7_go_48 : decode cX7_go 48 = .ok (.ifCond .ne 37, 3) := by decide +kernel
theorem dX7_go_51 : decode cX7_go 51 = .ok (.iload 4, 2) := by decide +kernel
theorem dX7_go_53 : decode cX7_go 53 = .ok (.iload 5, 2) := by decide +kernel
theorem dX7_go_55 : decode cX7_go 55 = .ok (.if_icmp .ge 30, 3) := by decide +kernel
theorem dX7_go_58 : decode cX7_go 58 = .ok (.aload_n 0, 1) := by decide +kernel
theorem dX7_go_59 : decode cX7_go 59 = .ok (.iload 4, 2) := by decide +kernel
theorem dX7_go_61 : decode cX7_go 61 = .ok (.iload 5, 2) := by decide +kernel
theorem dX7_go_63 : decode cX7_go 63 = .ok (.invokevirtual 61, 3) := by decide +kernel
theorem dX7_go_66 : decode cX7_go 66 = .ok (.iload 5, 2) := by decide +kernel
theorem dX7_go_68 : decode cX7_go 68 = .ok (.istore 4, 2) := by decide +kernel
theorem dX7_go_70 : decode cX7_go 70 = .ok (.aload_n 0, 1) := by decide +kernel
theorem dX7_go_71 : decode cX7_go 71 = .ok (.getfield 21, 3) := by decide +kernel
theorem dX7_go_74 : decode cX7_go 74 = .ok (.invokevirtual 50, 3) := by decide +kernel
theorem dX7_go_77 : decode cX7_go 77 = .ok (.istore 5, 2) := by decide +kernel
theorem dX7_go_79 : decode cX7_go 79 = .ok (.iinc 6 1, 3) := by decide +kernel
theorem dX7_go_82 : decode cX7_go 82 = .ok (.goto (-45), 3) := by decide +kernel
theorem dX7_go_85 : decode cX7_go 85 = .ok (.aload_n 0, 1) := by decide +kernel
theorem dX7_go_86 : decode cX7_go 86 = .ok (.getfield 21, 3) := by decide +kernel
theorem dX7_go_89 : decode cX7_go 89 = .ok (.invokevirtual 50, 3) := by decide +kernel
theorem dX7_go_92 : decode cX7_go 92 = .ok (.istore 6, 2) := by decide +kernel
theorem dX7_go_94 : decode cX7_go 94 = .ok (.aload_n 0, 1) := by decide +kernel
theorem dX7_go_95 : decode cX7_go 95 = .ok (.getfield 57, 3) := by decide +kernel
theorem dX7_go_98 : decode cX7_go 98 = .ok (.ifCond .ne 14, 3) := by decide +kernel
theorem dX7_go_101 : decode cX7_go 101 = .ok (.aload_n 0, 1) := by decide +kernel
theorem dX7_go_102 : decode cX7_go 102 = .ok (.getfield 65, 3) := by decide +kernel
theorem dX7_go_105 : decode cX7_go 105 = .ok (.ifCond .le 7, 3) := by decide +kernel
theorem dX7_go_108 : decode cX7_go 108 = .ok (.aload_n 0, 1) := by decide +kernel
theorem dX7_go_109 : decode cX7_go 109 = .ok (.invokevirtual 68, 3) := by decide +kernel
theorem dX7_go_112 : decode cX7_go 112 = .ok (.aload_n 0, 1) := by decide +kernel
theorem dX7_go_113 : decode cX7_go 113 = .ok (.getfield 57, 3) := by decide +kernel
theorem dX7_go_116 : decode cX7_go 116 = .ok (.ifCond .eq 13, 3) := by decide +kernel
theorem dX7_go_119 : decode cX7_go 119 = .ok (.aload_n 0, 1) := by decide +kernel
theorem dX7_go_120 : decode cX7_go 120 = .ok (.iload_n 3, 1) := by decide +kernel
theorem dX7_go_121 : decode cX7_go 121 = .ok (.invokevirtual 71, 3) := by decide +kernel
theorem dX7_go_124 : decode cX7_go 124 = .ok (.aload_n 0, 1) := by decide +kernel
theorem dX7_go_125 : decode cX7_go 125 = .ok (.getfield 57, 3) := by decide +kernel
theorem dX7_go_128 : decode cX7_go 128 = .ok (.ireturn, 1) := by decide +kernel
theorem dX7_go_129 : decode cX7_go 129 = .ok (.aload_n 0, 1) := by decide +kernel
theorem dX7_go_130 : decode cX7_go 130 = .ok (.getfield 21, 3) := by decide +kernel
theorem dX7_go_133 : decode cX7_go 133 = .ok (.iload 6, 2) := by decide +kernel
theorem dX7_go_135 : decode cX7_go 135 = .ok (.invokevirtual 75, 3) := by decide +kernel
theorem dX7_go_138 : decode cX7_go 138 = .ok (.aload_n 0, 1) := by decide +kernel
theorem dX7_go_139 : decode cX7_go 139 = .ok (.aload_n 0, 1) := by decide +kernel
theorem dX7_go_140 : decode cX7_go 140 = .ok (.getfield 21, 3) := by decide +kernel
theorem dX7_go_143 : decode cX7_go 143 = .ok (.invokevirtual 50, 3) := by decide +kernel
theorem dX7_go_146 : decode cX7_go 146 = .ok (.iload_n 3, 1) := by decide +kernel
theorem dX7_go_147 : decode cX7_go 147 = .ok (.isub, 1) := by decide +kernel
theorem dX7_go_148 : decode cX7_go 148 = .ok (.putfield 78, 3) := by decide +kernel
theorem dX7_go_151 : decode cX7_go 151 = .ok (.aload_n 0, 1) := by decide +kernel
theorem dX7_go_152 : decode cX7_go 152 = .ok (.getfield 65, 3) := by decide +kernel
theorem dX7_go_155 : decode cX7_go 155 = .ok (.ireturn, 1) := by decide +kernel
theorem dX7_begin_0 : decode cX7_begin 0 = .ok (.aload_n 0, 1) := by decide +kernel
theorem dX7_begin_1 : decode cX7_begin 1 = .ok (.iload_n 1, 1) := by decide +kernel
theorem dX7_begin_2 : decode cX7_begin 2 = .ok (.putfield 81, 3) := by decide +kernel
theorem dX7_begin_5 : decode cX7_begin 5 = .ok (.aload_n 0, 1) := by decide +kernel
theorem dX7_begin_6 : decode cX7_begin 6 = .ok (.iload_n 2, 1) := by decide +kernel
theorem dX7_begin_7 : decode cX7_begin 7 = .ok (.putfield 84, 3) := by decide +kernel
theorem dX7_begin_10 : decode cX7_begin 10 = .ok (.aload_n 0, 1) := by decide +kernel
theorem dX7_begin_11 : decode cX7_begin 11 = .ok (.iconst 0, 1) := by decide +kernel
theorem dX7_begin_12 : decode cX7_begin 12 = .ok (.putfield 57, 3) := by decide +kernel
theorem dX7_begin_15 : decode cX7_begin 15 = .ok (.aload_n 0, 1) := by decide +kernel
theorem dX7_begin_16 : decode cX7_begin 16 = .ok (.iconst 0, 1) := by decide +kernel
theorem dX7_begin_17 : decode cX7_begin 17 = .ok (.putfield 88, 3) := by decide +kernel
theorem dX7_begin_20 : decode cX7_begin 20 = .ok (.aload_n 0, 1) := by decide +kernel
theorem dX7_begin_21 : decode cX7_begin 21 = .ok (.iconst 0, 1) := by decide +kernel
theorem dX7_begin_22 : decode cX7_begin 22 = .ok (.putfield 65, 3) := by decide +kernel
theorem dX7_begin_25 : decode cX7_begin 25 = .ok (.aload_n 0, 1) := by decide +kernel
theorem dX7_begin_26 : decode cX7_begin 26 = .ok (.iconst 0, 1) := by decide +kernel
theorem dX7_begin_27 : decode cX7_begin 27 = .ok (.putfield 78, 3) := by decide +kernel
theorem dX7_begin_30 : decode cX7_begin 30 = .ok (.aload_n 0, 1) := by decide +kernel
theorem dX7_begin_31 : decode cX7_begin 31 = .ok (.getfield 12, 3) := by decide +kernel
theorem dX7_begin_34 : decode cX7_begin 34 = .ok (.invokevirtual 91, 3) := by decide +kernel
theorem dX7_begin_37 : decode cX7_begin 37 = .ok (.aload_n 0, 1) := by decide +kernel
theorem dX7_begin_38 : decode cX7_begin 38 = .ok (.getfield 35, 3) := by decide +kernel
theorem dX7_begin_41 : decode cX7_begin 41 = .ok (.invokevirtual 94, 3) := by decide +kernel
theorem dX7_begin_44 : decode cX7_begin 44 = .ok (.return_, 1) := by decide +kernel
theorem dX7_goBack_0 : decode cX7_goBack 0 = .ok (.aload_n 0, 1) := by decide +kernel
theorem dX7_goBack_1 : decode cX7_goBack 1 = .ok (.getfield 21, 3) := by decide +kernel
theorem dX7_goBack_4 : decode cX7_goBack 4 = .ok (.iload_n 1, 1) := by decide +kernel
theorem dX7_goBack_5 : decode cX7_goBack 5 = .ok (.invokevirtual 97, 3) := by decide +kernel
theorem dX7_goBack_8 : decode cX7_goBack 8 = .ok (.aload_n 0, 1) := by decide +kernel
theorem dX7_goBack_9 : decode cX7_goBack 9 = .ok (.getfield 12, 3) := by decide +kernel
theorem dX7_goBack_12 : decode cX7_goBack 12 = .ok (.invokevirtual 100, 3) := by decide +kernel
theorem dX7_goBack_15 : decode cX7_goBack 15 = .ok (.aload_n 0, 1) := by decide +kernel
theorem dX7_goBack_16 : decode cX7_goBack 16 = .ok (.getfield 35, 3) := by decide +kernel
theorem dX7_goBack_19 : decode cX7_goBack 19 = .ok (.invokevirtual 102, 3) := by decide +kernel
theorem dX7_goBack_22 : decode cX7_goBack 22 = .ok (.return_, 1) := by decide +kernel
theorem dX7_makeRound_0 : decode cX7_makeRound 0 = .ok (.aload_n 0, 1) := by decide +kernel
theorem dX7_makeRound_1 : decode cX7_makeRound 1 = .ok (.dup, 1) := by decide +kernel
theorem dX7_makeRound_2 : decode cX7_makeRound 2 = .ok (.getfield 65, 3) := by decide +kernel
theorem dX7_makeRound_5 : decode cX7_makeRound 5 = .ok (.iconst 1, 1) := by decide +kernel
theorem dX7_makeRound_6 : decode cX7_makeRound 6 = .ok (.iadd, 1) := by decide +kernel
theorem dX7_makeRound_7 : decode cX7_makeRound 7 = .ok (.putfield 65, 3) := by decide +kernel
theorem dX7_makeRound_10 : decode cX7_makeRound 10 = .ok (.aload_n 0, 1) := by decide +kernel
theorem dX7_makeRound_11 : decode cX7_makeRound 11 = .ok (.aload_n 0, 1) := by decide +kernel
theorem dX7_makeRound_12 : decode cX7_makeRound 12 = .ok (.getfield 65, 3) := by decide +kernel
theorem dX7_makeRound_15 : decode cX7_makeRound 15 = .ok (.putfield 103, 3) := by decide +kernel
theorem dX7_makeRound_18 : decode cX7_makeRound 18 = .ok (.iconst 0, 1) := by decide +kernel
theorem dX7_makeRound_19 : decode cX7_makeRound 19 = .ok (.istore_n 3, 1) := by decide +kernel
theorem dX7_makeRound_20 : decode cX7_makeRound 20 = .ok (.iload_n 3, 1) := by decide +kernel
theorem dX7_makeRound_21 : decode cX7_makeRound 21 = .ok (.aload_n 0, 1) := by decide +kernel
theorem dX7_makeRound_22 : decode cX7_makeRound 22 = .ok (.getfield 43, 3) := by decide +kernel
theorem dX7_makeRound_25 : decode cX7_makeRound 25 = .ok (.arraylength, 1) := by decide +kernel
theorem dX7_makeRound_26 : decode cX7_makeRound 26 = .ok (.if_icmp .ge 16, 3) := by decide +kernel
theorem dX7_makeRound_29 : decode cX7_makeRound 29 = .ok (.aload_n 0, 1) := by decide +kernel
theorem dX7_makeRound_30 : decode cX7_makeRound 30 = .ok (.getfield 43, 3) := by decide +kernel
theorem dX7_makeRound_33 : decode cX7_makeRound 33 = .ok (.iload_n 3, 1) := by decide +kernel
theorem dX7_makeRound_34 : decode cX7_makeRound 34 = .ok (.iconst (-1), 1) := by decide +kernel
theorem dX7_makeRound_35 : decode cX7_makeRound 35 = .ok (.iastore, 1) := by decide +kernel
theorem dX7_makeRound_36 : decode cX7_makeRound 36 = .ok (.iinc 3 1, 3) := by decide +kernel
theorem dX7_makeRound_39 : decode cX7_makeRound 39 = .ok (.goto (-19), 3) := by decide +kernel
theorem dX7_makeRound_42 : decode cX7_makeRound 42 = .ok (.iconst 0, 1) := by decide +kernel
theorem dX7_makeRound_43 : decode cX7_makeRound 43 = .ok (.istore_n 3, 1) := by decide +kernel
theorem dX7_makeRound_44 : decode cX7_makeRound 44 = .ok (.iload_n 3, 1) := by decide +kernel
theorem dX7_makeRound_45 : decode cX7_makeRound 45 = .ok (.aload_n 0, 1) := by decide +kernel
theorem dX7_makeRound_46 : decode cX7_makeRound 46 = .ok (.getfield 12, 3) := by decide +kernel
theorem dX7_makeRound_49 : decode cX7_makeRound 49 = .ok (.invokevirtual 106, 3) := by decide +kernel
theorem dX7_makeRound_52 : decode cX7_makeRound 52 = .ok (.if_icmp .ge 43, 3) := by decide +kernel
theorem dX7_makeRound_55 : decode cX7_makeRound 55 = .ok (.iload_n 1, 1) := by decide +kernel
theorem dX7_makeRound_56 : decode cX7_makeRound 56 = .ok (.istore 4, 2) := by decide +kernel
theorem dX7_makeRound_58 : decode cX7_makeRound 58 = .ok (.iload 4, 2) := by decide +kernel
theorem dX7_makeRound_60 : decode cX7_makeRound 60 = .ok (.iload_n 2, 1) := by decide +kernel
theorem dX7_makeRound_61 : decode cX7_makeRound 61 = .ok (.if_icmp .ge 28, 3) := by decide +kernel
theorem dX7_makeRound_64 : decode cX7_makeRound 64 = .ok (.aload_n 0, 1) := by decide +kernel
theorem dX7_makeRound_65 : decode cX7_makeRound 65 = .ok (.getfield 21, 3) := by decide +kernel
theorem dX7_makeRound_68 : decode cX7_makeRound 68 = .ok (.iload 4, 2) := by decide +kernel
theorem dX7_makeRound_70 : decode cX7_makeRound 70 = .ok (.invokevirtual 107, 3) := by decide +kernel
theorem dX7_makeRound_73 : decode cX7_makeRound 73 = .ok (.ifCond .eq 10, 3) := by decide +kernel
theorem dX7_makeRound_76 : decode cX7_makeRound 76 = .ok (.aload_n 0, 1) := by decide +kernel
theorem dX7_makeRound_77 : decode cX7_makeRound 77 = .ok (.iload_n 3, 1) := by decide +kernel
theorem dX7_makeRound_78 : decode cX7_makeRound 78 = .ok (.iload 4, 2) := by decide +kernel
theorem dX7_makeRound_80 : decode cX7_makeRound 80 = .ok (.invokevirtual 111, 3) := by decide +kernel
theorem dX7_makeRound_83 : decode cX7_makeRound 83 = .ok (.iinc 4 1, 3) := by decide +kernel
theorem dX7_makeRound_86 : decode cX7_makeRound 86 = .ok (.goto (-28), 3) := by decide +kernel
theorem dX7_makeRound_89 : decode cX7_makeRound 89 = .ok (.iinc 3 1, 3) := by decide +kernel
theorem dX7_makeRound_92 : decode cX7_makeRound 92 = .ok (.goto (-48), 3) := by decide +kernel
theorem dX7_makeRound_95 : decode cX7_makeRound 95 = .ok (.return_, 1) := by decide +kernel
theorem dX7_makeEnd_0 : decode cX7_makeEnd 0 = .ok (.aload_n 0, 1) := by decide +kernel
theorem dX7_makeEnd_1 : decode cX7_makeEnd 1 = .ok (.aload_n 0, 1) := by decide +kernel
theorem dX7_makeEnd_2 : decode cX7_makeEnd 2 = .ok (.getfield 65, 3) := by decide +kernel
theorem dX7_makeEnd_5 : decode cX7_makeEnd 5 = .ok (.iconst 1, 1) := by decide +kernel
theorem dX7_makeEnd_6 : decode cX7_makeEnd 6 = .ok (.iadd, 1) := by decide +kernel
theorem dX7_makeEnd_7 : decode cX7_makeEnd 7 = .ok (.putfield 103, 3) := by decide +kernel
theorem dX7_makeEnd_10 : decode cX7_makeEnd 10 = .ok (.iconst 0, 1) := by decide +kernel
theorem dX7_makeEnd_11 : decode cX7_makeEnd 11 = .ok (.istore_n 1, 1) := by decide +kernel
theorem dX7_makeEnd_12 : decode cX7_makeEnd 12 = .ok (.iload_n 1, 1) := by decide +kernel
theorem dX7_makeEnd_13 : decode cX7_makeEnd 13 = .ok (.aload_n 0, 1) := by decide +kernel
theorem dX7_makeEnd_14 : decode cX7_makeEnd 14 = .ok (.getfield 12, 3) := by decide +kernel
theorem dX7_makeEnd_17 : decode cX7_makeEnd 17 = .ok (.invokevirtual 106, 3) := by decide +kernel
theorem dX7_makeEnd_20 : decode cX7_makeEnd 20 = .ok (.if_icmp .ge 15, 3) := by decide +kernel
theorem dX7_makeEnd_23 : decode cX7_makeEnd 23 = .ok (.aload_n 0, 1) := by decide +kernel
theorem dX7_makeEnd_24 : decode cX7_makeEnd 24 = .ok (.iload_n 1, 1) := by decide +kernel
theorem dX7_makeEnd_25 : decode cX7_makeEnd 25 = .ok (.iconst (-1), 1) := by decide +kernel
theorem dX7_makeEnd_26 : decode cX7_makeEnd 26 = .ok (.invokevirtual 111, 3) := by decide +kernel
theorem dX7_makeEnd_29 : decode cX7_makeEnd 29 = .ok (.iinc 1 1, 3) := by decide +kernel
theorem dX7_makeEnd_32 : decode cX7_makeEnd 32 = .ok (.goto (-20), 3) := by decide +kernel
theorem dX7_makeEnd_35 : decode cX7_makeEnd 35 = .ok (.return_, 1) := by decide +kernel
theorem dX7_doRules_0 : decode cX7_doRules 0 = .ok (.aload_n 0, 1) := by decide +kernel
theorem dX7_doRules_1 : decode cX7_doRules 1 = .ok (.getfield 12, 3) := by decide +kernel
theorem dX7_doRules_4 : decode cX7_doRules 4 = .ok (.iload_n 1, 1) := by decide +kernel
theorem dX7_doRules_5 : decode cX7_doRules 5 = .ok (.invokevirtual 114, 3) := by decide +kernel
theorem dX7_doRules_8 : decode cX7_doRules 8 = .ok (.astore_n 3, 1) := by decide +kernel
theorem dX7_doRules_9 : decode cX7_doRules 9 = .ok (.aload_n 3, 1) := by decide +kernel
theorem dX7_doRules_10 : decode cX7_doRules 10 = .ok (.ifnonnull 4, 3) := by decide +kernel
theorem dX7_doRules_13 : decode cX7_doRules 13 = .ok (.return_, 1) := by decide +kernel
theorem dX7_doRules_14 : decode cX7_doRules 14 = .ok (.aload_n 0, 1) := by decide +kernel
theorem dX7_doRules_15 : decode cX7_doRules 15 = .ok (.iload_n 1, 1) := by decide +kernel
theorem dX7_doRules_16 : decode cX7_doRules 16 = .ok (.putfield 118, 3) := by decide +kernel
theorem dX7_doRules_19 : decode cX7_doRules 19 = .ok (.aload_n 0, 1) := by decide +kernel
theorem dX7_doRules_20 : decode cX7_doRules 20 = .ok (.iload_n 2, 1) := by decide +kernel
theorem dX7_doRules_21 : decode cX7_doRules 21 = .ok (.putfield 121, 3) := by decide +kernel
theorem dX7_doRules_24 : decode cX7_doRules 24 = .ok (.iconst 0, 1) := by decide +kernel
theorem dX7_doRules_25 : decode cX7_doRules 25 = .ok (.istore 4, 2) := by decide +kernel
theorem dX7_doRules_27 : decode cX7_doRules 27 = .ok (.iconst 0, 1) := by decide +kernel
theorem dX7_doRules_28 : decode cX7_doRules 28 = .ok (.istore 5, 2) := by decide +kernel
theorem dX7_doRules_30 : decode cX7_doRules 30 = .ok (.iload 5, 2) := by decide +kernel
theorem dX7_doRules_32 : decode cX7_doRules 32 = .ok (.aload_n 3, 1) := by decide +kernel
theorem dX7_doRules_33 : decode cX7_doRules 33 = .ok (.getfield 124, 3) := by decide +kernel
theorem dX7_doRules_36 : decode cX7_doRules 36 = .ok (.if_icmp .ge 57, 3) := by decide +kernel
theorem dX7_doRules_39 : decode cX7_doRules 39 = .ok (.aload_n 0, 1) := by decide +kernel
theorem dX7_doRules_40 : decode cX7_doRules 40 = .ok (.getfield 57, 3) := by decide +kernel
theorem dX7_doRules_43 : decode cX7_doRules 43 = .ok (.ifCond .ne 50, 3) := by decide +kernel
theorem dX7_doRules_46 : decode cX7_doRules 46 = .ok (.aload_n 3, 1) := by decide +kernel
theorem dX7_doRules_47 : decode cX7_doRules 47 = .ok (.getfield 129, 3) := by decide +kernel
theorem dX7_doRules_50 : decode cX7_doRules 50 = .ok (.ifCond .ne 43, 3) := by decide +kernel
theorem dX7_doRules_53 : decode cX7_doRules 53 = .ok (.iload 5, 2) := by decide +kernel
theorem dX7_doRules_55 : decode cX7_doRules 55 = .ok (.iload 4, 2) := by decide +kernel
theorem dX7_doRules_57 : decode cX7_doRules 57 = .ok (.if_icmp .lt 30, 3) := by decide +kernel
theorem dX7_doRules_60 : decode cX7_doRules 60 = .ok (.aload_n 0, 1) := by decide +kernel
theorem dX7_doRules_61 : decode cX7_doRules 61 = .ok (.aload_n 3, 1) := by decide +kernel
theorem dX7_doRules_62 : decode cX7_doRules 62 = .ok (.iload 5, 2) := by decide +kernel
theorem dX7_doRules_64 : decode cX7_doRules 64 = .ok (.invokevirtual 132, 3) := by decide +kernel
theorem dX7_doRules_67 : decode cX7_doRules 67 = .ok (.invokevirtual 136, 3) := by decide +kernel
theorem dX7_doRules_70 : decode cX7_doRules 70 = .ok (.ifCond .eq 17, 3) := by decide +kernel
theorem dX7_doRules_73 : decode cX7_doRules 73 = .ok (.iload 5, 2) := by decide +kernel
theorem dX7_doRules_75 : decode cX7_doRules 75 = .ok (.iconst 1, 1) := by decide +kernel
theorem dX7_doRules_76 : decode cX7_doRules 76 = .ok (.iadd, 1) := by decide +kernel
theorem dX7_doRules_77 : decode cX7_doRules 77 = .ok (.aload_n 0, 1) := by decide +kernel
theorem dX7_doRules_78 : decode cX7_doRules 78 = .ok (.aload_n 3, 1) := by decide +kernel
theorem dX7_doRules_79 : decode cX7_doRules 79 = .ok (.iload 5, 2) := by decide +kernel
theorem dX7_doRules_81 : decode cX7_doRules 81 = .ok (.invokevirtual 139, 3) := by decide +kernel
theorem dX7_doRules_84 : decode cX7_doRules 84 = .ok (.iadd, 1) := by decide +kernel
theorem dX7_doRules_85 : decode cX7_doRules 85 = .ok (.istore 4, 2) := by decide +kernel
theorem dX7_doRules_87 : decode cX7_doRules 87 = .ok (.iinc 5 1, 3) := by decide +kernel
theorem dX7_doRules_90 : decode cX7_doRules 90 = .ok (.goto (-60), 3) := by decide +kernel
theorem dX7_doRules_93 : decode cX7_doRules 93 = .ok (.return_, 1) := by decide +kernel
theorem dX7_isDue_0 : decode cX7_isDue 0 = .ok (.aload_n 0, 1) := by decide +kernel
theorem dX7_isDue_1 : decode cX7_isDue 1 = .ok (.getfield 121, 3) := by decide +kernel
theorem dX7_isDue_4 : decode cX7_isDue 4 = .ok (.iconst (-1), 1) := by decide +kernel
theorem dX7_isDue_5 : decode cX7_isDue 5 = .ok (.if_icmp .ne 15, 3) := by decide +kernel
theorem dX7_isDue_8 : decode cX7_isDue 8 = .ok (.iload_n 1, 1) := by decide +kernel
theorem dX7_isDue_9 : decode cX7_isDue 9 = .ok (.bipush 15, 2) := by decide +kernel
theorem dX7_isDue_11 : decode cX7_isDue 11 = .ok (.if_icmp .ne 7, 3) := by decide +kernel
theorem dX7_isDue_14 : decode cX7_isDue 14 = .ok (.iconst 1, 1) := by decide +kernel
theorem dX7_isDue_15 : decode cX7_isDue 15 = .ok (.goto 4, 3) := by decide +kernel
theorem dX7_isDue_18 : decode cX7_isDue 18 = .ok (.iconst 0, 1) := by decide +kernel
theorem dX7_isDue_19 : decode cX7_isDue 19 = .ok (.ireturn, 1) := by decide +kernel
theorem dX7_isDue_20 : decode cX7_isDue 20 = .ok (.iload_n 1, 1) := by decide +kernel
theorem dX7_isDue_21 : decode cX7_isDue 21 = .ok (.ifCond .lt 12, 3) := by decide +kernel
theorem dX7_isDue_24 : decode cX7_isDue 24 = .ok (.iload_n 1, 1) := by decide +kernel
theorem dX7_isDue_25 : decode cX7_isDue 25 = .ok (.aload_n 0, 1) := by decide +kernel
theorem dX7_isDue_26 : decode cX7_isDue 26 = .ok (.getfield 43, 3) := by decide +kernel
theorem dX7_isDue_29 : decode cX7_isDue 29 = .ok (.arraylength, 1) := by decide +kernel
theorem dX7_isDue_30 : decode cX7_isDue 30 = .ok (.if_icmp .lt 5, 3) := by decide +kernel
theorem dX7_isDue_33 : decode cX7_isDue 33 = .ok (.iconst 0, 1) := by decide +kernel
theorem dX7_isDue_34 : decode cX7_isDue 34 = .ok (.ireturn, 1) := by decide +kernel
theorem dX7_isDue_35 : decode cX7_isDue 35 = .ok (.aload_n 0, 1) := by decide +kernel
theorem dX7_isDue_36 : decode cX7_isDue 36 = .ok (.getfield 43, 3) := by decide +kernel
theorem dX7_isDue_39 : decode cX7_isDue 39 = .ok (.iload_n 1, 1) := by decide +kernel
theorem dX7_isDue_40 : decode cX7_isDue 40 = .ok (.iaload, 1) := by decide +kernel
theorem dX7_isDue_41 : decode cX7_isDue 41 = .ok (.iconst (-1), 1) := by decide +kernel
theorem dX7_isDue_42 : decode cX7_isDue 42 = .ok (.if_icmp .eq 16, 3) := by decide +kernel
theorem dX7_isDue_45 : decode cX7_isDue 45 = .ok (.aload_n 0, 1) := by decide +kernel
theorem dX7_isDue_46 : decode cX7_isDue 46 = .ok (.getfield 43, 3) := by decide +kernel
theorem dX7_isDue_49 : decode cX7_isDue 49 = .ok (.iload_n 1, 1) := by decide +kernel
theorem dX7_isDue_50 : decode cX7_isDue 50 = .ok (.iaload, 1) := by decide +kernel
theorem dX7_isDue_51 : decode cX7_isDue 51 = .ok (.aload_n 0, 1) := by decide +kernel
theorem dX7_isDue_52 : decode cX7_isDue 52 = .ok (.getfield 118, 3) := by decide +kernel
theorem dX7_isDue_55 : decode cX7_isDue 55 = .ok (.if_icmp .ne 7, 3) := by decide +kernel
theorem dX7_isDue_58 : decode cX7_isDue 58 = .ok (.iconst 1, 1) := by decide +kernel
theorem dX7_isDue_59 : decode cX7_isDue 59 = .ok (.goto 4, 3) := by decide +kernel
theorem dX7_isDue_62 : decode cX7_isDue 62 = .ok (.iconst 0, 1) := by decide +kernel
theorem dX7_isDue_63 : decode cX7_isDue 63 = .ok (.istore_n 2, 1) := by decide +kernel
theorem dX7_isDue_64 : decode cX7_isDue 64 = .ok (.iload_n 2, 1) := by decide +kernel
theorem dX7_isDue_65 : decode cX7_isDue 65 = .ok (.ifCond .eq 26, 3) := by decide +kernel
theorem dX7_isDue_68 : decode cX7_isDue 68 = .ok (.aload_n 0, 1) := by decide +kernel
theorem dX7_isDue_69 : decode cX7_isDue 69 = .ok (.getfield 21, 3) := by decide +kernel
theorem dX7_isDue_72 : decode cX7_isDue 72 = .ok (.aload_n 0, 1) := by decide +kernel
theorem dX7_isDue_73 : decode cX7_isDue 73 = .ok (.getfield 121, 3) := by decide +kernel
theorem dX7_isDue_76 : decode cX7_isDue 76 = .ok (.invokevirtual 143, 3) := by decide +kernel
theorem dX7_isDue_79 : decode cX7_isDue 79 = .ok (.iload_n 1, 1) := by decide +kernel
theorem dX7_isDue_80 : decode cX7_isDue 80 = .ok (.ishr, 1) := by decide +kernel
theorem dX7_isDue_81 : decode cX7_isDue 81 = .ok (.iconst 1, 1) := by decide +kernel
theorem dX7_isDue_82 : decode cX7_isDue 82 = .ok (.iand, 1) := by decide +kernel
theorem dX7_isDue_83 : decode cX7_isDue 83 = .ok (.iconst 1, 1) := by decide +kernel
theorem dX7_isDue_84 : decode cX7_isDue 84 = .ok (.if_icmp .ne 7, 3) := by decide +kernel
theorem dX7_isDue_87 : decode cX7_isDue 87 = .ok (.iconst 1, 1) := by decide +kernel
theorem dX7_isDue_88 : decode cX7_isDue 88 = .ok (.goto 4, 3) := by decide +kernel
theorem dX7_isDue_91 : decode cX7_isDue 91 = .ok (.iconst 0, 1) := by decide +kernel
theorem dX7_isDue_92 : decode cX7_isDue 92 = .ok (.ireturn, 1) := by decide +kernel
theorem dX7_doRule_0 : decode cX7_doRule 0 = .ok (.aload_n 0, 1) := by decide +kernel
theorem dX7_doRule_1 : decode cX7_doRule 1 = .ok (.aload_n 1, 1) := by decide +kernel
theorem dX7_doRule_2 : decode cX7_doRule 2 = .ok (.iconst 1, 1) := by decide +kernel
theorem dX7_doRule_3 : decode cX7_doRule 3 = .ok (.invokevirtual 146, 3) := by decide +kernel
theorem dX7_doRule_6 : decode cX7_doRule 6 = .ok (.ifCond .ne 5, 3) := by decide +kernel
theorem dX7_doRule_9 : decode cX7_doRule 9 = .ok (.iconst 0, 1) := by decide +kernel
theorem dX7_doRule_10 : decode cX7_doRule 10 = .ok (.ireturn, 1) := by decide +kernel
theorem dX7_doRule_11 : decode cX7_doRule 11 = .ok (.aload_n 1, 1) := by decide +kernel
theorem dX7_doRule_12 : decode cX7_doRule 12 = .ok (.iload_n 2, 1) := by decide +kernel
theorem dX7_doRule_13 : decode cX7_doRule 13 = .ok (.invokevirtual 150, 3) := by decide +kernel
theorem dX7_doRule_16 : decode cX7_doRule 16 = .ok (.istore_n 3, 1) := by decide +kernel
theorem dX7_doRule_17 : decode cX7_doRule 17 = .ok (.aload_n 1, 1) := by decide +kernel
theorem dX7_doRule_18 : decode cX7_doRule 18 = .ok (.iload_n 2, 1) := by decide +kernel
theorem dX7_doRule_19 : decode cX7_doRule 19 = .ok (.invokevirtual 153, 3) := by decide +kernel
theorem dX7_doRule_22 : decode cX7_doRule 22 = .ok (.istore 4, 2) := by decide +kernel
theorem dX7_doRule_24 : decode cX7_doRule 24 = .ok (.iconst (-1), 1) := by decide +kernel
theorem dX7_doRule_25 : decode cX7_doRule 25 = .ok (.istore 5, 2) := by decide +kernel
theorem dX7_doRule_27 : decode cX7_doRule 27 = .ok (.aload_n 1, 1) := by decide +kernel
theorem dX7_doRule_28 : decode cX7_doRule 28 = .ok (.iload_n 2, 1) := by decide +kernel
theorem dX7_doRule_29 : decode cX7_doRule 29 = .ok (.invokevirtual 156, 3) := by decide +kernel
theorem dX7_doRule_32 : decode cX7_doRule 32 = .ok (.tableswitch 186 0 9 #[56, 68, 80, 87, 116, 127, 140, 147, 159, 174], 56) := by decide +kernel
theorem dX7_doRule_88 : decode cX7_doRule 88 = .ok (.aload_n 0, 1) := by decide +kernel
theorem dX7_doRule_89 : decode cX7_doRule 89 = .ok (.aload_n 1, 1) := by decide +kernel
theorem dX7_doRule_90 : decode cX7_doRule 90 = .ok (.iload_n 2, 1) := by decide +kernel
theorem dX7_doRule_91 : decode cX7_doRule 91 = .ok (.invokevirtual 132, 3) := by decide +kernel
theorem dX7_doRule_94 : decode cX7_doRule 94 = .ok (.invokevirtual 159, 3) := by decide +kernel
theorem dX7_doRule_97 : decode cX7_doRule 97 = .ok (.goto 121, 3) := by decide +kernel
theorem dX7_doRule_100 : decode cX7_doRule 100 = .ok (.aload_n 0, 1) := by decide +kernel
theorem dX7_doRule_101 : decode cX7_doRule 101 = .ok (.iload_n 3, 1) := by decide +kernel
theorem dX7_doRule_102 : decode cX7_doRule 102 = .ok (.iload 4, 2) := by decide +kernel
theorem dX7_doRule_104 : decode cX7_doRule 104 = .ok (.invokevirtual 162, 3) := by decide +kernel
theorem dX7_doRule_107 : decode cX7_doRule 107 = .ok (.istore 5, 2) := by decide +kernel
theorem dX7_doRule_109 : decode cX7_doRule 109 = .ok (.goto 109, 3) := by decide +kernel
theorem dX7_doRule_112 : decode cX7_doRule 112 = .ok (.iload 4, 2) := by decide +kernel
theorem dX7_doRule_114 : decode cX7_doRule 114 = .ok (.istore 5, 2) := by decide +kernel
theorem dX7_doRule_116 : decode cX7_doRule 116 = .ok (.goto 102, 3) := by decide +kernel
theorem dX7_doRule_119 : decode cX7_doRule 119 = .ok (.aload_n 1, 1) := by decide +kernel
theorem dX7_doRule_120 : decode cX7_doRule 120 = .ok (.dup, 1) := by decide +kernel
theorem dX7_doRule_121 : decode cX7_doRule 121 = .ok (.getfield 166, 3) := by decide +kernel
theorem dX7_doRule_124 : decode cX7_doRule 124 = .ok (.iload_n 3, 1) := by decide +kernel
theorem dX7_doRule_125 : decode cX7_doRule 125 = .ok (.bipush 127, 2) := by decide +kernel
theorem dX7_doRule_127 : decode cX7_doRule 127 = .ok (.if_icmp .le 13, 3) := by decide +kernel
theorem dX7_doRule_130 : decode cX7_doRule 130 = .ok (.iload_n 3, 1) := by decide +kernel
theorem dX7_doRule_131 : decode cX7_doRule 131 = .ok (.sipush 255, 3) := by decide +kernel
theorem dX7_doRule_134 : decode cX7_doRule 134 = .ok (.isub, 1) := by decide +kernel
theorem dX7_doRule_135 : decode cX7_doRule 135 = .ok (.iconst 1, 1) := by decide +kernel
theorem dX7_doRule_136 : decode cX7_doRule 136 = .ok (.isub, 1) := by decide +kernel
theorem dX7_doRule_137 : decode cX7_doRule 137 = .ok (.goto 4, 3) := by decide +kernel
theorem dX7_doRule_140 : decode cX7_doRule 140 = .ok (.iload_n 3, 1) := by decide +kernel
theorem dX7_doRule_141 : decode cX7_doRule 141 = .ok (.iadd, 1) := by decide +kernel
theorem dX7_doRule_142 : decode cX7_doRule 142 = .ok (.putfield 166, 3) := by decide +kernel
theorem dX7_doRule_145 : decode cX7_doRule 145 = .ok (.goto 73, 3) := by decide +kernel
theorem dX7_doRule_148 : decode cX7_doRule 148 = .ok (.iconst 5, 1) := by decide +kernel
theorem dX7_doRule_149 : decode cX7_doRule 149 = .ok (.istore 5, 2) := by decide +kernel
theorem dX7_doRule_151 : decode cX7_doRule 151 = .ok (.aload_n 0, 1) := by decide +kernel
theorem dX7_doRule_152 : decode cX7_doRule 152 = .ok (.aload_n 1, 1) := by decide +kernel
theorem dX7_doRule_153 : decode cX7_doRule 153 = .ok (.invokevirtual 169, 3) := by decide +kernel
theorem dX7_doRule_156 : decode cX7_doRule 156 = .ok (.goto 62, 3) := by decide +kernel
theorem dX7_doRule_159 : decode cX7_doRule 159 = .ok (.aload_n 0, 1) := by decide +kernel
theorem dX7_doRule_160 : decode cX7_doRule 160 = .ok (.aload_n 1, 1) := by decide +kernel
theorem dX7_doRule_161 : decode cX7_doRule 161 = .ok (.iload_n 3, 1) := by decide +kernel
theorem dX7_doRule_162 : decode cX7_doRule 162 = .ok (.iload 4, 2) := by decide +kernel
theorem dX7_doRule_164 : decode cX7_doRule 164 = .ok (.imul, 1) := by decide +kernel
theorem dX7_doRule_165 : decode cX7_doRule 165 = .ok (.invokevirtual 146, 3) := by decide +kernel
theorem dX7_doRule_168 : decode cX7_doRule 168 = .ok (.pop, 1) := by decide +kernel
theorem dX7_doRule_169 : decode cX7_doRule 169 = .ok (.goto 49, 3) := by decide +kernel
theorem dX7_doRule_172 : decode cX7_doRule 172 = .ok (.bipush 6, 2) := by decide +kernel
theorem dX7_doRule_174 : decode cX7_doRule 174 = .ok (.istore 5, 2) := by decide +kernel
theorem dX7_doRule_176 : decode cX7_doRule 176 = .ok (.goto 42, 3) := by decide +kernel
theorem dX7_doRule_179 : decode cX7_doRule 179 = .ok (.aload_n 0, 1) := by decide +kernel
theorem dX7_doRule_180 : decode cX7_doRule 180 = .ok (.iload_n 3, 1) := by decide +kernel
theorem dX7_doRule_181 : decode cX7_doRule 181 = .ok (.iload 4, 2) := by decide +kernel
theorem dX7_doRule_183 : decode cX7_doRule 183 = .ok (.invokevirtual 173, 3) := by decide +kernel
theorem dX7_doRule_186 : decode cX7_doRule 186 = .ok (.istore 5, 2) := by decide +kernel
theorem dX7_doRule_188 : decode cX7_doRule 188 = .ok (.goto 30, 3) := by decide +kernel
theorem dX7_doRule_191 : decode cX7_doRule 191 = .ok (.aload_n 1, 1) := by decide +kernel
theorem dX7_doRule_192 : decode cX7_doRule 192 = .ok (.getfield 166, 3) := by decide +kernel
theorem dX7_doRule_195 : decode cX7_doRule 195 = .ok (.iload_n 3, 1) := by decide +kernel
theorem dX7_doRule_196 : decode cX7_doRule 196 = .ok (.if_icmp .lt 8, 3) := by decide +kernel
theorem dX7_doRule_199 : decode cX7_doRule 199 = .ok (.iload 4, 2) := by decide +kernel
theorem dX7_doRule_201 : decode cX7_doRule 201 = .ok (.goto 4, 3) := by decide +kernel
theorem dX7_doRule_204 : decode cX7_doRule 204 = .ok (.iconst 0, 1) := by decide +kernel
theorem dX7_doRule_205 : decode cX7_doRule 205 = .ok (.ireturn, 1) := by decide +kernel
theorem dX7_doRule_206 : decode cX7_doRule 206 = .ok (.aload_n 1, 1) := by decide +kernel
theorem dX7_doRule_207 : decode cX7_doRule 207 = .ok (.aload_n 0, 1) := by decide +kernel
theorem dX7_doRule_208 : decode cX7_doRule 208 = .ok (.iload_n 3, 1) := by decide +kernel
theorem dX7_doRule_209 : decode cX7_doRule 209 = .ok (.invokevirtual 176, 3) := by decide +kernel
theorem dX7_doRule_212 : decode cX7_doRule 212 = .ok (.putfield 166, 3) := by decide +kernel
theorem dX7_doRule_215 : decode cX7_doRule 215 = .ok (.goto 3, 3) := by decide +kernel
theorem dX7_doRule_218 : decode cX7_doRule 218 = .ok (.iload 5, 2) := by decide +kernel
theorem dX7_doRule_220 : decode cX7_doRule 220 = .ok (.iconst (-1), 1) := by decide +kernel
theorem dX7_doRule_221 : decode cX7_doRule 221 = .ok (.if_icmp .eq 32, 3) := by decide +kernel
theorem dX7_doRule_224 : decode cX7_doRule 224 = .ok (.aload_n 0, 1) := by decide +kernel
theorem dX7_doRule_225 : decode cX7_doRule 225 = .ok (.getfield 28, 3) := by decide +kernel
theorem dX7_doRule_228 : decode cX7_doRule 228 = .ok (.iload 5, 2) := by decide +kernel
theorem dX7_doRule_230 : decode cX7_doRule 230 = .ok (.aload_n 0, 1) := by decide +kernel
theorem dX7_doRule_231 : decode cX7_doRule 231 = .ok (.getfield 118, 3) := by decide +kernel
theorem dX7_doRule_234 : decode cX7_doRule 234 = .ok (.aload_n 0, 1) := by decide +kernel
theorem dX7_doRule_235 : decode cX7_doRule 235 = .ok (.getfield 21, 3) := by decide +kernel
theorem dX7_doRule_238 : decode cX7_doRule 238 = .ok (.aload_n 0, 1) := by decide +kernel
theorem dX7_doRule_239 : decode cX7_doRule 239 = .ok (.getfield 121, 3) := by decide +kernel
theorem dX7_doRule_242 : decode cX7_doRule 242 = .ok (.invokevirtual 179, 3) := by decide +kernel
theorem dX7_doRule_245 : decode cX7_doRule 245 = .ok (.iload_n 3, 1) := by decide +kernel
theorem dX7_doRule_246 : decode cX7_doRule 246 = .ok (.aload_n 0, 1) := by decide +kernel
theorem dX7_doRule_247 : decode cX7_doRule 247 = .ok (.getfield 103, 3) := by decide +kernel
theorem dX7_doRule_250 : decode cX7_doRule 250 = .ok (.invokevirtual 182, 3) := by decide +kernel
theorem dX7_doRule_253 : decode cX7_doRule 253 = .ok (.iconst 0, 1) := by decide +kernel
theorem dX7_doRule_254 : decode cX7_doRule 254 = .ok (.ireturn, 1) := by decide +kernel
theorem dX7_takeSteps_0 : decode cX7_takeSteps 0 = .ok (.iload_n 2, 1) := by decide +kernel
theorem dX7_takeSteps_1 : decode cX7_takeSteps 1 = .ok (.aload_n 0, 1) := by decide +kernel
theorem dX7_takeSteps_2 : decode cX7_takeSteps 2 = .ok (.getfield 81, 3) := by decide +kernel
theorem dX7_takeSteps_5 : decode cX7_takeSteps 5 = .ok (.aload_n 0, 1) := by decide +kernel
theorem dX7_takeSteps_6 : decode cX7_takeSteps 6 = .ok (.getfield 88, 3) := by decide +kernel
theorem dX7_takeSteps_9 : decode cX7_takeSteps 9 = .ok (.isub, 1) := by decide +kernel
theorem dX7_takeSteps_10 : decode cX7_takeSteps 10 = .ok (.if_icmp .le 11, 3) := by decide +kernel
theorem dX7_takeSteps_13 : decode cX7_takeSteps 13 = .ok (.aload_n 0, 1) := by decide +kernel
theorem dX7_takeSteps_14 : decode cX7_takeSteps 14 = .ok (.bipush (-11), 2) := by decide +kernel
theorem dX7_takeSteps_16 : decode cX7_takeSteps 16 = .ok (.putfield 57, 3) := by decide +kernel
theorem dX7_takeSteps_19 : decode cX7_takeSteps 19 = .ok (.iconst 0, 1) := by decide +kernel
theorem dX7_takeSteps_20 : decode cX7_takeSteps 20 = .ok (.ireturn, 1) := by decide +kernel
theorem dX7_takeSteps_21 : decode cX7_takeSteps 21 = .ok (.aload_n 0, 1) := by decide +kernel
theorem dX7_takeSteps_22 : decode cX7_takeSteps 22 = .ok (.dup, 1) := by decide +kernel
theorem dX7_takeSteps_23 : decode cX7_takeSteps 23 = .ok (.getfield 88, 3) := by decide +kernel
theorem dX7_takeSteps_26 : decode cX7_takeSteps 26 = .ok (.iload_n 2, 1) := by decide +kernel
theorem dX7_takeSteps_27 : decode cX7_takeSteps 27 = .ok (.iadd, 1) := by decide +kernel
theorem dX7_takeSteps_28 : decode cX7_takeSteps 28 = .ok (.putfield 88, 3) := by decide +kernel
theorem dX7_takeSteps_31 : decode cX7_takeSteps 31 = .ok (.aload_n 1, 1) := by decide +kernel
theorem dX7_takeSteps_32 : decode cX7_takeSteps 32 = .ok (.dup, 1) := by decide +kernel
theorem dX7_takeSteps_33 : decode cX7_takeSteps 33 = .ok (.getfield 186, 3) := by decide +kernel
theorem dX7_takeSteps_36 : decode cX7_takeSteps 36 = .ok (.iload_n 2, 1) := by decide +kernel
theorem dX7_takeSteps_37 : decode cX7_takeSteps 37 = .ok (.iadd, 1) := by decide +kernel
theorem dX7_takeSteps_38 : decode cX7_takeSteps 38 = .ok (.putfield 186, 3) := by decide +kernel
theorem dX7_takeSteps_41 : decode cX7_takeSteps 41 = .ok (.iconst 1, 1) := by decide +kernel
theorem dX7_takeSteps_42 : decode cX7_takeSteps 42 = .ok (.ireturn, 1) := by decide +kernel
theorem dX7_claim_0 : decode cX7_claim 0 = .ok (.iload_n 1, 1) := by decide +kernel
theorem dX7_claim_1 : decode cX7_claim 1 = .ok (.ifCond .lt 22, 3) := by decide +kernel
theorem dX7_claim_4 : decode cX7_claim 4 = .ok (.iload_n 1, 1) := by decide +kernel
theorem dX7_claim_5 : decode cX7_claim 5 = .ok (.aload_n 0, 1) := by decide +kernel
theorem dX7_claim_6 : decode cX7_claim 6 = .ok (.getfield 43, 3) := by decide +kernel
theorem dX7_claim_9 : decode cX7_claim 9 = .ok (.arraylength, 1) := by decide +kernel
theorem dX7_claim_10 : decode cX7_claim 10 = .ok (.if_icmp .ge 13, 3) := by decide +kernel
theorem dX7_claim_13 : decode cX7_claim 13 = .ok (.aload_n 0, 1) := by decide +kernel
theorem dX7_claim_14 : decode cX7_claim 14 = .ok (.getfield 43, 3) := by decide +kernel
theorem dX7_claim_17 : decode cX7_claim 17 = .ok (.iload_n 1, 1) := by decide +kernel
theorem dX7_claim_18 : decode cX7_claim 18 = .ok (.aload_n 0, 1) := by decide +kernel
theorem dX7_claim_19 : decode cX7_claim 19 = .ok (.getfield 118, 3) := by decide +kernel
theorem dX7_claim_22 : decode cX7_claim 22 = .ok (.iastore, 1) := by decide +kernel
theorem dX7_claim_23 : decode cX7_claim 23 = .ok (.return_, 1) := by decide +kernel
theorem dX7_make_0 : decode cX7_make 0 = .ok (.aload_n 0, 1) := by decide +kernel
theorem dX7_make_1 : decode cX7_make 1 = .ok (.getfield 21, 3) := by decide +kernel
theorem dX7_make_4 : decode cX7_make 4 = .ok (.iload_n 1, 1) := by decide +kernel
theorem dX7_make_5 : decode cX7_make 5 = .ok (.invokevirtual 187, 3) := by decide +kernel
theorem dX7_make_8 : decode cX7_make 8 = .ok (.ifCond .eq 5, 3) := by decide +kernel
theorem dX7_make_11 : decode cX7_make 11 = .ok (.iconst 3, 1) := by decide +kernel
theorem dX7_make_12 : decode cX7_make 12 = .ok (.ireturn, 1) := by decide +kernel
theorem dX7_make_13 : decode cX7_make 13 = .ok (.aload_n 0, 1) := by decide +kernel
theorem dX7_make_14 : decode cX7_make 14 = .ok (.getfield 21, 3) := by decide +kernel
theorem dX7_make_17 : decode cX7_make 17 = .ok (.invokevirtual 190, 3) := by decide +kernel
theorem dX7_make_20 : decode cX7_make 20 = .ok (.ifCond .eq 5, 3) := by decide +kernel
theorem dX7_make_23 : decode cX7_make 23 = .ok (.iconst 4, 1) := by decide +kernel
theorem dX7_make_24 : decode cX7_make 24 = .ok (.ireturn, 1) := by decide +kernel
theorem dX7_make_25 : decode cX7_make 25 = .ok (.aload_n 0, 1) := by decide +kernel
theorem dX7_make_26 : decode cX7_make 26 = .ok (.getfield 21, 3) := by decide +kernel
theorem dX7_make_29 : decode cX7_make 29 = .ok (.iload_n 1, 1) := by decide +kernel
theorem dX7_make_30 : decode cX7_make 30 = .ok (.iload_n 2, 1) := by decide +kernel
theorem dX7_make_31 : decode cX7_make 31 = .ok (.aload_n 0, 1) := by decide +kernel
theorem dX7_make_32 : decode cX7_make 32 = .ok (.getfield 118, 3) := by decide +kernel
theorem dX7_make_35 : decode cX7_make 35 = .ok (.aload_n 0, 1) := by decide +kernel
theorem dX7_make_36 : decode cX7_make 36 = .ok (.getfield 103, 3) := by decide +kernel
theorem dX7_make_39 : decode cX7_make 39 = .ok (.invokevirtual 194, 3) := by decide +kernel
theorem dX7_make_42 : decode cX7_make 42 = .ok (.pop, 1) := by decide +kernel
theorem dX7_make_43 : decode cX7_make 43 = .ok (.aload_n 0, 1) := by decide +kernel
theorem dX7_make_44 : decode cX7_make 44 = .ok (.getfield 121, 3) := by decide +kernel
theorem dX7_make_47 : decode cX7_make 47 = .ok (.iconst (-1), 1) := by decide +kernel
theorem dX7_make_48 : decode cX7_make 48 = .ok (.if_icmp .ne 8, 3) := by decide +kernel
theorem dX7_make_51 : decode cX7_make 51 = .ok (.bipush 7, 2) := by decide +kernel
theorem dX7_make_53 : decode cX7_make 53 = .ok (.goto 4, 3) := by decide +kernel
theorem dX7_make_56 : decode cX7_make 56 = .ok (.iconst (-1), 1) := by decide +kernel
theorem dX7_make_57 : decode cX7_make 57 = .ok (.ireturn, 1) := by decide +kernel
theorem dX7_stop_0 : decode cX7_stop 0 = .ok (.aload_n 1, 1) := by decide +kernel
theorem dX7_stop_1 : decode cX7_stop 1 = .ok (.iconst 1, 1) := by decide +kernel
theorem dX7_stop_2 : decode cX7_stop 2 = .ok (.putfield 129, 3) := by decide +kernel
theorem dX7_stop_5 : decode cX7_stop 5 = .ok (.aload_n 0, 1) := by decide +kernel
theorem dX7_stop_6 : decode cX7_stop 6 = .ok (.getfield 84, 3) := by decide +kernel
theorem dX7_stop_9 : decode cX7_stop 9 = .ok (.ifCond .ne 9, 3) := by decide +kernel
theorem dX7_stop_12 : decode cX7_stop 12 = .ok (.aload_n 0, 1) := by decide +kernel
theorem dX7_stop_13 : decode cX7_stop 13 = .ok (.bipush (-12), 2) := by decide +kernel
theorem dX7_stop_15 : decode cX7_stop 15 = .ok (.putfield 57, 3) := by decide +kernel
theorem dX7_stop_18 : decode cX7_stop 18 = .ok (.return_, 1) := by decide +kernel
theorem dX7_write_0 : decode cX7_write 0 = .ok (.aload_n 0, 1) := by decide +kernel
theorem dX7_write_1 : decode cX7_write 1 = .ok (.getfield 35, 3) := by decide +kernel
theorem dX7_write_4 : decode cX7_write 4 = .ok (.iload_n 1, 1) := by decide +kernel
theorem dX7_write_5 : decode cX7_write 5 = .ok (.invokevirtual 198, 3) := by decide +kernel
theorem dX7_write_8 : decode cX7_write 8 = .ok (.astore_n 3, 1) := by decide +kernel
theorem dX7_write_9 : decode cX7_write 9 = .ok (.aload_n 3, 1) := by decide +kernel
theorem dX7_write_10 : decode cX7_write 10 = .ok (.ifnull 15, 3) := by decide +kernel
theorem dX7_write_13 : decode cX7_write 13 = .ok (.aload_n 3, 1) := by decide +kernel
theorem dX7_write_14 : decode cX7_write 14 = .ok (.iload_n 2, 1) := by decide +kernel
theorem dX7_write_15 : decode cX7_write 15 = .ok (.invokevirtual 201, 3) := by decide +kernel
theorem dX7_write_18 : decode cX7_write 18 = .ok (.ifCond .eq 7, 3) := by decide +kernel
theorem dX7_write_21 : decode cX7_write 21 = .ok (.iconst (-1), 1) := by decide +kernel
theorem dX7_write_22 : decode cX7_write 22 = .ok (.goto 4, 3) := by decide +kernel
theorem dX7_write_25 : decode cX7_write 25 = .ok (.iconst 4, 1) := by decide +kernel
theorem dX7_write_26 : decode cX7_write 26 = .ok (.ireturn, 1) := by decide +kernel
theorem dX7_optionAt_0 : decode cX7_optionAt 0 = .ok (.iload_n 1, 1) := by decide +kernel
theorem dX7_optionAt_1 : decode cX7_optionAt 1 = .ok (.ifCond .lt 21, 3) := by decide +kernel
theorem dX7_optionAt_4 : decode cX7_optionAt 4 = .ok (.iload_n 1, 1) := by decide +kernel
theorem dX7_optionAt_5 : decode cX7_optionAt 5 = .ok (.aload_n 0, 1) := by decide +kernel
theorem dX7_optionAt_6 : decode cX7_optionAt 6 = .ok (.getfield 39, 3) := by decide +kernel
theorem dX7_optionAt_9 : decode cX7_optionAt 9 = .ok (.arraylength, 1) := by decide +kernel
theorem dX7_optionAt_10 : decode cX7_optionAt 10 = .ok (.if_icmp .ge 12, 3) := by decide +kernel
theorem dX7_optionAt_13 : decode cX7_optionAt 13 = .ok (.aload_n 0, 1) := by decide +kernel
theorem dX7_optionAt_14 : decode cX7_optionAt 14 = .ok (.getfield 39, 3) := by decide +kernel
theorem dX7_optionAt_17 : decode cX7_optionAt 17 = .ok (.iload_n 1, 1) := by decide +kernel
theorem dX7_optionAt_18 : decode cX7_optionAt 18 = .ok (.iaload, 1) := by decide +kernel
theorem dX7_optionAt_19 : decode cX7_optionAt 19 = .ok (.goto 4, 3) := by decide +kernel
theorem dX7_optionAt_22 : decode cX7_optionAt 22 = .ok (.iconst 0, 1) := by decide +kernel
theorem dX7_optionAt_23 : decode cX7_optionAt 23 = .ok (.ireturn, 1) := by decide +kernel
theorem dX8_init_0 : decode cX8_init 0 = .ok (.aload_n 0, 1) := by decide +kernel
theorem dX8_init_1 : decode cX8_init 1 = .ok (.invokespecial 3, 3) := by decide +kernel
theorem dX8_init_4 : decode cX8_init 4 = .ok (.aload_n 0, 1) := by decide +kernel
theorem dX8_init_5 : decode cX8_init 5 = .ok (.bipush 40, 2) := by decide +kernel
theorem dX8_init_7 : decode cX8_init 7 = .ok (.newarray .int, 2) := by decide +kernel
theorem dX8_init_9 : decode cX8_init 9 = .ok (.putfield 9, 3) := by decide +kernel
theorem dX8_init_12 : decode cX8_init 12 = .ok (.aload_n 0, 1) := by decide +kernel
theorem dX8_init_13 : decode cX8_init 13 = .ok (.bipush 40, 2) := by decide +kernel
theorem dX8_init_15 : decode cX8_init 15 = .ok (.newarray .int, 2) := by decide +kernel
theorem dX8_init_17 : decode cX8_init 17 = .ok (.putfield 15, 3) := by decide +kernel
theorem dX8_init_20 : decode cX8_init 20 = .ok (.aload_n 0, 1) := by decide +kernel
theorem dX8_init_21 : decode cX8_init 21 = .ok (.bipush 40, 2) := by decide +kernel
theorem dX8_init_23 : decode cX8_init 23 = .ok (.newarray .boolean, 2) := by decide +kernel
theorem dX8_init_25 : decode cX8_init 25 = .ok (.putfield 18, 3) := by decide +kernel
theorem dX8_init_28 : decode cX8_init 28 = .ok (.aload_n 0, 1) := by decide +kernel
theorem dX8_init_29 : decode cX8_init 29 = .ok (.bipush 40, 2) := by decide +kernel
theorem dX8_init_31 : decode cX8_init 31 = .ok (.newarray .int, 2) := by decide +kernel
theorem dX8_init_33 : decode cX8_init 33 = .ok (.putfield 22, 3) := by decide +kernel
theorem dX8_init_36 : decode cX8_init 36 = .ok (.aload_n 0, 1) := by decide +kernel
theorem dX8_init_37 : decode cX8_init 37 = .ok (.bipush 40, 2) := by decide +kernel
theorem dX8_init_39 : decode cX8_init 39 = .ok (.newarray .int, 2) := by decide +kernel
theorem dX8_init_41 : decode cX8_init 41 = .ok (.putfield 25, 3) := by decide +kernel
theorem dX8_init_44 : decode cX8_init 44 = .ok (.return_, 1) := by decide +kernel
theorem dX8_size_0 : decode cX8_size 0 = .ok (.aload_n 0, 1) := by decide +kernel
theorem dX8_size_1 : decode cX8_size 1 = .ok (.getfield 28, 3) := by decide +kernel
theorem dX8_size_4 : decode cX8_size 4 = .ok (.ireturn, 1) := by decide +kernel
theorem dX8_isFull_0 : decode cX8_isFull 0 = .ok (.aload_n 0, 1) := by decide +kernel
theorem dX8_isFull_1 : decode cX8_isFull 1 = .ok (.getfield 28, 3) := by decide +kernel
theorem dX8_isFull_4 : decode cX8_isFull 4 = .ok (.bipush 40, 2) := by decide +kernel
theorem dX8_isFull_6 : decode cX8_isFull 6 = .ok (.if_icmp .lt 7, 3) := by decide +kernel
theorem dX8_isFull_9 : decode cX8_isFull 9 = .ok (.iconst 1, 1) := by decide +kernel
theorem dX8_isFull_10 : decode cX8_isFull 10 = .ok (.goto 4, 3) := by decide +kernel
theorem dX8_isFull_13 : decode cX8_isFull 13 = .ok (.iconst 0, 1) := by decide +kernel
theorem dX8_isFull_14 : decode cX8_isFull 14 = .ok (.ireturn, 1) := by decide +kernel
theorem dX8_has_0 : decode cX8_has 0 = .ok (.iload_n 1, 1) := by decide +kernel
theorem dX8_has_1 : decode cX8_has 1 = .ok (.ifCond .lt 15, 3) := by decide +kernel
theorem dX8_has_4 : decode cX8_has 4 = .ok (.iload_n 1, 1) := by decide +kernel
theorem dX8_has_5 : decode cX8_has 5 = .ok (.aload_n 0, 1) := by decide +kernel
theorem dX8_has_6 : decode cX8_has 6 = .ok (.getfield 28, 3) := by decide +kernel
theorem dX8_has_9 : decode cX8_has 9 = .ok (.if_icmp .ge 7, 3) := by decide +kernel
theorem dX8_has_12 : decode cX8_has 12 = .ok (.iconst 1, 1) := by decide +kernel
theorem dX8_has_13 : decode cX8_has 13 = .ok (.goto 4, 3) := by decide +kernel
theorem dX8_has_16 : decode cX8_has 16 = .ok (.iconst 0, 1) := by decide +kernel
theorem dX8_has_17 : decode cX8_has 17 = .ok (.ireturn, 1) := by decide +kernel
theorem dX8_bears_0 : decode cX8_bears 0 = .ok (.iconst 0, 1) := by decide +kernel
theorem dX8_bears_1 : decode cX8_bears 1 = .ok (.istore_n 2, 1) := by decide +kernel
theorem dX8_bears_2 : decode cX8_bears 2 = .ok (.iload_n 2, 1) := by decide +kernel
theorem dX8_bears_3 : decode cX8_bears 3 = .ok (.aload_n 0, 1) := by decide +kernel
theorem dX8_bears_4 : decode cX8_bears 4 = .ok (.getfield 28, 3) := by decide +kernel
theorem dX8_bears_7 : decode cX8_bears 7 = .ok (.if_icmp .ge 21, 3) := by decide +kernel
theorem dX8_bears_10 : decode cX8_bears 10 = .ok (.aload_n 0, 1) := by decide +kernel
theorem dX8_bears_11 : decode cX8_bears 11 = .ok (.getfield 9, 3) := by decide +kernel
theorem dX8_bears_14 : decode cX8_bears 14 = .ok (.iload_n 2, 1) := by decide +kernel
theorem dX8_bears_15 : decode cX8_bears 15 = .ok (.iaload, 1) := by decide +kernel
theorem dX8_bears_16 : decode cX8_bears 16 = .ok (.iload_n 1, 1) := by decide +kernel
theorem dX8_bears_17 : decode cX8_bears 17 = .ok (.if_icmp .ne 5, 3) := by decide +kernel
theorem dX8_bears_20 : decode cX8_bears 20 = .ok (.iconst 1, 1) := by decide +kernel
theorem dX8_bears_21 : decode cX8_bears 21 = .ok (.ireturn, 1) := by decide +kernel
theorem dX8_bears_22 : decode cX8_bears 22 = .ok (.iinc 2 1, 3) := by decide +kernel
theorem dX8_bears_25 : decode cX8_bears 25 = .ok (.goto (-23), 3) := by decide +kernel
theorem dX8_bears_28 : decode cX8_bears 28 = .ok (.iconst 0, 1) := by decide +kernel
theorem dX8_bears_29 : decode cX8_bears 29 = .ok (.ireturn, 1) := by decide +kernel
theorem dX8_enter_0 : decode cX8_enter 0 = .ok (.aload_n 0, 1) := by decide +kernel
theorem dX8_enter_1 : decode cX8_enter 1 = .ok (.getfield 28, 3) := by decide +kernel
theorem dX8_enter_4 : decode cX8_enter 4 = .ok (.bipush 40, 2) := by decide +kernel
theorem dX8_enter_6 : decode cX8_enter 6 = .ok (.if_icmp .lt 6, 3) := by decide +kernel
theorem dX8_enter_9 : decode cX8_enter 9 = .ok (.bipush (-104), 2) := by decide +kernel
theorem dX8_enter_11 : decode cX8_enter 11 = .ok (.ireturn, 1) := by decide +kernel
theorem dX8_enter_12 : decode cX8_enter 12 = .ok (.aload_n 0, 1) := by decide +kernel
theorem dX8_enter_13 : decode cX8_enter 13 = .ok (.getfield 9, 3) := by decide +kernel
theorem dX8_enter_16 : decode cX8_enter 16 = .ok (.aload_n 0, 1) := by decide +kernel
theorem dX8_enter_17 : decode cX8_enter 17 = .ok (.getfield 28, 3) := by decide +kernel
theorem dX8_enter_20 : decode cX8_enter 20 = .ok (.iload_n 1, 1) := by decide +kernel
theorem dX8_enter_21 : decode cX8_enter 21 = .ok (.iastore, 1) := by decide +kernel
theorem dX8_enter_22 : decode cX8_enter 22 = .ok (.aload_n 0, 1) := by decide +kernel
theorem dX8_enter_23 : decode cX8_enter 23 = .ok (.getfield 15, 3) := by decide +kernel
theorem dX8_enter_26 : decode cX8_enter 26 = .ok (.aload_n 0, 1) := by decide +kernel
theorem dX8_enter_27 : decode cX8_enter 27 = .ok (.getfield 28, 3) := by decide +kernel
theorem dX8_enter_30 : decode cX8_enter 30 = .ok (.iload_n 2, 1) := by decide +kernel
theorem dX8_enter_31 : decode cX8_enter 31 = .ok (.iastore, 1) := by decide +kernel
theorem dX8_enter_32 : decode cX8_enter 32 = .ok (.aload_n 0, 1) := by decide +kernel
theorem dX8_enter_33 : decode cX8_enter 33 = .ok (.getfield 18, 3) := by decide +kernel
theorem dX8_enter_36 : decode cX8_enter 36 = .ok (.aload_n 0, 1) := by decide +kernel
theorem dX8_enter_37 : decode cX8_enter 37 = .ok (.getfield 28, 3) := by decide +kernel
theorem dX8_enter_40 : decode cX8_enter 40 = .ok (.iconst 1, 1) := by decide +kernel
theorem dX8_enter_41 : decode cX8_enter 41 = .ok (.bastore, 1) := by decide +kernel
theorem dX8_enter_42 : decode cX8_enter 42 = .ok (.aload_n 0, 1) := by decide +kernel
theorem dX8_enter_43 : decode cX8_enter 43 = .ok (.getfield 22, 3) := by decide +kernel
theorem dX8_enter_46 : decode cX8_enter 46 = .ok (.aload_n 0, 1) := by decide +kernel
theorem dX8_enter_47 : decode cX8_enter 47 = .ok (.getfield 28, 3) := by decide +kernel
theorem dX8_enter_50 : decode cX8_enter 50 = .ok (.iload_n 3, 1) := by decide +kernel
theorem dX8_enter_51 : decode cX8_enter 51 = .ok (.iastore, 1) := by decide +kernel
theorem dX8_enter_52 : decode cX8_enter 52 = .ok (.aload_n 0, 1) := by decide +kernel
theorem dX8_enter_53 : decode cX8_enter 53 = .ok (.getfield 25, 3) := by decide +kernel
theorem dX8_enter_56 : decode cX8_enter 56 = .ok (.aload_n 0, 1) := by decide +kernel
theorem dX8_enter_57 : decode cX8_enter 57 = .ok (.getfield 28, 3) := by decide +kernel
theorem dX8_enter_60 : decode cX8_enter 60 = .ok (.iload 4, 2) := by decide +kernel
theorem dX8_enter_62 : decode cX8_enter 62 = .ok (.iastore, 1) := by decide +kernel
theorem dX8_enter_63 : decode cX8_enter 63 = .ok (.aload_n 0, 1) := by decide +kernel
theorem dX8_enter_64 : decode cX8_enter 64 = .ok (.dup, 1) := by decide +kernel
theorem dX8_enter_65 : decode cX8_enter 65 = .ok (.getfield 28, 3) := by decide +kernel
theorem dX8_enter_68 : decode cX8_enter 68 = .ok (.iconst 1, 1) := by decide +kernel
theorem dX8_enter_69 : decode cX8_enter 69 = .ok (.iadd, 1) := by decide +kernel
theorem dX8_enter_70 : decode cX8_enter 70 = .ok (.putfield 28, 3) := by decide +kernel
theorem dX8_enter_73 : decode cX8_enter 73 = .ok (.aload_n 0, 1) := by decide +kernel
theorem dX8_enter_74 : decode cX8_enter 74 = .ok (.getfield 28, 3) := by decide +kernel
theorem dX8_enter_77 : decode cX8_enter 77 = .ok (.iconst 1, 1) := by decide +kernel
theorem dX8_enter_78 : decode cX8_enter 78 = .ok (.isub, 1) := by decide +kernel
theorem dX8_enter_79 : decode cX8_enter 79 = .ok (.ireturn, 1) := by decide +kernel
theorem dX8_nameOf_0 : decode cX8_nameOf 0 = .ok (.iload_n 1, 1) := by decide +kernel
theorem dX8_nameOf_1 : decode cX8_nameOf 1 = .ok (.ifCond .lt 20, 3) := by decide +kernel
theorem dX8_nameOf_4 : decode cX8_nameOf 4 = .ok (.iload_n 1, 1) := by decide +kernel
theorem dX8_nameOf_5 : decode cX8_nameOf 5 = .ok (.aload_n 0, 1) := by decide +kernel
theorem dX8_nameOf_6 : decode cX8_nameOf 6 = .ok (.getfield 28, 3) := by decide +kernel
theorem dX8_nameOf_9 : decode cX8_nameOf 9 = .ok (.if_icmp .ge 12, 3) := by decide +kernel
theorem dX8_nameOf_12 : decode cX8_nameOf 12 = .ok (.aload_n 0, 1) := by decide +kernel
theorem dX8_nameOf_13 : decode cX8_nameOf 13 = .ok (.getfield 9, 3) := by decide +kernel
theorem dX8_nameOf_16 : decode cX8_nameOf 16 = .ok (.iload_n 1, 1) := by decide +kernel
theorem dX8_nameOf_17 : decode cX8_nameOf 17 = .ok (.iaload, 1) := by decide +kernel
theorem dX8_nameOf_18 : decode cX8_nameOf 18 = .ok (.goto 4, 3) := by decide +kernel
theorem dX8_nameOf_21 : decode cX8_nameOf 21 = .ok (.iconst (-1), 1) := by decide +kernel
theorem dX8_nameOf_22 : decode cX8_nameOf 22 = .ok (.ireturn, 1) := by decide +kernel
theorem dX8_marksOf_0 : decode cX8_marksOf 0 = .ok (.iload_n 1, 1) := by decide +kernel
theorem dX8_marksOf_1 : decode cX8_marksOf 1 = .ok (.ifCond .lt 20, 3) := by decide +kernel
theorem dX8_marksOf_4 : decode cX8_marksOf 4 = .ok (.iload_n 1, 1) := by decide +kernel
theorem dX8_marksOf_5 : decode cX8_marksOf 5 = .ok (.aload_n 0, 1) := by decide +kernel
theorem dX8_marksOf_6 : decode cX8_marksOf 6 = .ok (.getfield 28, 3) := by decide +kernel
theorem dX8_marksOf_9 : decode cX8_marksOf 9 = .ok (.if_icmp .ge 12, 3) := by decide +kernel
theorem dX8_marksOf_12 : decode cX8_marksOf 12 = .ok (.aload_n 0, 1) := by decide +kernel
theorem dX8_marksOf_13 : decode cX8_marksOf 13 = .ok (.getfield 15, 3) := by decide +kernel
theorem dX8_marksOf_16 : decode cX8_marksOf 16 = .ok (.iload_n 1, 1) := by decide +kernel
theorem dX8_marksOf_17 : decode cX8_marksOf 17 = .ok (.iaload, 1) := by decide +kernel
theorem dX8_marksOf_18 : decode cX8_marksOf 18 = .ok (.goto 4, 3) := by decide +kernel
theorem dX8_marksOf_21 : decode cX8_marksOf 21 = .ok (.iconst 0, 1) := by decide +kernel
theorem dX8_marksOf_22 : decode cX8_marksOf 22 = .ok (.ireturn, 1) := by decide +kernel
theorem dX8_isNew_0 : decode cX8_isNew 0 = .ok (.iload_n 1, 1) := by decide +kernel
theorem dX8_isNew_1 : decode cX8_isNew 1 = .ok (.ifCond .lt 24, 3) := by decide +kernel
theorem dX8_isNew_4 : decode cX8_isNew 4 = .ok (.iload_n 1, 1) := by decide +kernel
theorem dX8_isNew_5 : decode cX8_isNew 5 = .ok (.aload_n 0, 1) := by decide +kernel
theorem dX8_isNew_6 : decode cX8_isNew 6 = .ok (.getfield 28, 3) := by decide +kernel
theorem dX8_isNew_9 : decode cX8_isNew 9 = .ok (.if_icmp .ge 16, 3) := by decide +kernel
theorem dX8_isNew_12 : decode cX8_isNew 12 = .ok (.aload_n 0, 1) := by decide +kernel
theorem dX8_isNew_13 : decode cX8_isNew 13 = .ok (.getfield 18, 3) := by decide +kernel
theorem dX8_isNew_16 : decode cX8_isNew 16 = .ok (.iload_n 1, 1) := by decide +kernel
theorem dX8_isNew_17 : decode cX8_isNew 17 = .ok (.baload, 1) := by decide +kernel
theorem dX8_isNew_18 : decode cX8_isNew 18 = .ok (.ifCond .eq 7, 3) := by decide +kernel
theorem dX8_isNew_21 : decode cX8_isNew 21 = .ok (.iconst 1, 1) := by decide +kernel
theorem dX8_isNew_22 : decode cX8_isNew 22 = .ok (.goto 4, 3) := by decide +kernel
theorem dX8_isNew_25 : decode cX8_isNew 25 = .ok (.iconst 0, 1) := by decide +kernel
theorem dX8_isNew_26 : decode cX8_isNew 26 = .ok (.ireturn, 1) := by decide +kernel
theorem dX8_retell_0 : decode cX8_retell 0 = .ok (.iload_n 1, 1) := by decide +kernel
theorem dX8_retell_1 : decode cX8_retell 1 = .ok (.ifCond .lt 25, 3) := by decide +kernel
theorem dX8_retell_4 : decode cX8_retell 4 = .ok (.iload_n 1, 1) := by decide +kernel
theorem dX8_retell_5 : decode cX8_retell 5 = .ok (.aload_n 0, 1) := by decide +kernel
theorem dX8_retell_6 : decode cX8_retell 6 = .ok (.getfield 28, 3) := by decide +kernel
theorem dX8_retell_9 : decode cX8_retell 9 = .ok (.if_icmp .ge 17, 3) := by decide +kernel
theorem dX8_retell_12 : decode cX8_retell 12 = .ok (.aload_n 0, 1) := by decide +kernel
theorem dX8_retell_13 : decode cX8_retell 13 = .ok (.getfield 15, 3) := by decide +kernel
theorem dX8_retell_16 : decode cX8_retell 16 = .ok (.iload_n 1, 1) := by decide +kernel
theorem dX8_retell_17 : decode cX8_retell 17 = .ok (.iload_n 2, 1) := by decide +kernel
theorem dX8_retell_18 : decode cX8_retell 18 = .ok (.iastore, 1) := by decide +kernel
theorem dX8_retell_19 : decode cX8_retell 19 = .ok (.aload_n 0, 1) := by decide +kernel
theorem dX8_retell_20 : decode cX8_retell 20 = .ok (.getfield 18, 3) := by decide +kernel
theorem dX8_retell_23 : decode cX8_retell 23 = .ok (.iload_n 1, 1) := by decide +kernel
theorem dX8_retell_24 : decode cX8_retell 24 = .ok (.iconst 1, 1) := by decide +kernel
theorem dX8_retell_25 : decode cX8_retell 25 = .ok (.bastore, 1) := by decide +kernel
theorem dX8_retell_26 : decode cX8_retell 26 = .ok (.return_, 1) := by decide +kernel
theorem dX8_countNew_0 : decode cX8_countNew 0 = .ok (.iconst 0, 1) := by decide +kernel
theorem dX8_countNew_1 : decode cX8_countNew 1 = .ok (.istore_n 1, 1) := by decide +kernel
theorem dX8_countNew_2 : decode cX8_countNew 2 = .ok (.iconst 0, 1) := by decide +kernel
theorem dX8_countNew_3 : decode cX8_countNew 3 = .ok (.istore_n 2, 1) := by decide +kernel
theorem dX8_countNew_4 : decode cX8_countNew 4 = .ok (.iload_n 2, 1) := by decide +kernel
theorem dX8_countNew_5 : decode cX8_countNew 5 = .ok (.aload_n 0, 1) := by decide +kernel
theorem dX8_countNew_6 : decode cX8_countNew 6 = .ok (.getfield 28, 3) := by decide +kernel
theorem dX8_countNew_9 : decode cX8_countNew 9 = .ok (.if_icmp .ge 21, 3) := by decide +kernel
theorem dX8_countNew_12 : decode cX8_countNew 12 = .ok (.iload_n 1, 1) := by decide +kernel
theorem dX8_countNew_13 : decode cX8_countNew 13 = .ok (.aload_n 0, 1) := by decide +kernel
theorem dX8_countNew_14 : decode cX8_countNew 14 = .ok (.getfield 18, 3) := by decide +kernel
theorem dX8_countNew_17 : decode cX8_countNew 17 = .ok (.iload_n 2, 1) := by decide +kernel
theorem dX8_countNew_18 : decode cX8_countNew 18 = .ok (.baload, 1) := by decide +kernel
theorem dX8_countNew_19 : decode cX8_countNew 19 = .ok (.invokestatic 32, 3) := by decide +kernel
theorem dX8_countNew_22 : decode cX8_countNew 22 = .ok (.iadd, 1) := by decide +kernel
theorem dX8_countNew_23 : decode cX8_countNew 23 = .ok (.istore_n 1, 1) := by decide +kernel
theorem dX8_countNew_24 : decode cX8_countNew 24 = .ok (.iinc 2 1, 3) := by decide +kernel
theorem dX8_countNew_27 : decode cX8_countNew 27 = .ok (.goto (-23), 3) := by decide +kernel
theorem dX8_countNew_30 : decode cX8_countNew 30 = .ok (.iload_n 1, 1) := by decide +kernel
theorem dX8_countNew_31 : decode cX8_countNew 31 = .ok (.ireturn, 1) := by decide +kernel
theorem dX8_makeAllNew_0 : decode cX8_makeAllNew 0 = .ok (.iconst 0, 1) := by decide +kernel
theorem dX8_makeAllNew_1 : decode cX8_makeAllNew 1 = .ok (.istore_n 1, 1) := by decide +kernel
theorem dX8_makeAllNew_2 : decode cX8_makeAllNew 2 = .ok (.iload_n 1, 1) := by decide +kernel
theorem dX8_makeAllNew_3 : decode cX8_makeAllNew 3 = .ok (.aload_n 0, 1) := by decide +kernel
theorem dX8_makeAllNew_4 : decode cX8_makeAllNew 4 = .ok (.getfield 28, 3) := by decide +kernel
theorem dX8_makeAllNew_7 : decode cX8_makeAllNew 7 = .ok (.if_icmp .ge 16, 3) := by decide +kernel
theorem dX8_makeAllNew_10 : decode cX8_makeAllNew 10 = .ok (.aload_n 0, 1) := by decide +kernel
theorem dX8_makeAllNew_11 : decode cX8_makeAllNew 11 = .ok (.getfield 18, 3) := by decide +kernel
theorem dX8_makeAllNew_14 : decode cX8_makeAllNew 14 = .ok (.iload_n 1, 1) := by decide +kernel
theorem dX8_makeAllNew_15 : decode cX8_makeAllNew 15 = .ok (.iconst 1, 1) := by decide +kernel
theorem dX8_makeAllNew_16 : decode cX8_makeAllNew 16 = .ok (.bastore, 1) := by decide +kernel
theorem dX8_makeAllNew_17 : decode cX8_makeAllNew 17 = .ok (.iinc 1 1, 3) := by decide +kernel
theorem dX8_makeAllNew_20 : decode cX8_makeAllNew 20 = .ok (.goto (-18), 3) := by decide +kernel
theorem dX8_makeAllNew_23 : decode cX8_makeAllNew 23 = .ok (.return_, 1) := by decide +kernel
theorem dX8_makeOldAheadOf_0 : decode cX8_makeOldAheadOf 0 = .ok (.iconst 0, 1) := by decide +kernel
theorem dX8_makeOldAheadOf_1 : decode cX8_makeOldAheadOf 1 = .ok (.istore_n 2, 1) := by decide +kernel
theorem dX8_makeOldAheadOf_2 : decode cX8_makeOldAheadOf 2 = .ok (.iload_n 2, 1) := by decide +kernel
theorem dX8_makeOldAheadOf_3 : decode cX8_makeOldAheadOf 3 = .ok (.aload_n 0, 1) := by decide +kernel
theorem dX8_makeOldAheadOf_4 : decode cX8_makeOldAheadOf 4 = .ok (.getfield 28, 3) := by decide +kernel
theorem dX8_makeOldAheadOf_7 : decode cX8_makeOldAheadOf 7 = .ok (.if_icmp .ge 21, 3) := by decide +kernel
theorem dX8_makeOldAheadOf_10 : decode cX8_makeOldAheadOf 10 = .ok (.iload_n 2, 1) := by decide +kernel
theorem dX8_makeOldAheadOf_11 : decode cX8_makeOldAheadOf 11 = .ok (.iload_n 1, 1) := by decide +kernel
theorem dX8_makeOldAheadOf_12 : decode cX8_makeOldAheadOf 12 = .ok (.if_icmp .ge 16, 3) := by decide +kernel
theorem dX8_makeOldAheadOf_15 : decode cX8_makeOldAheadOf 15 = .ok (.aload_n 0, 1) := by decide +kernel
theorem dX8_makeOldAheadOf_16 : decode cX8_makeOldAheadOf 16 = .ok (.getfield 18, 3) := by decide +kernel
theorem dX8_makeOldAheadOf_19 : decode cX8_makeOldAheadOf 19 = .ok (.iload_n 2, 1) := by decide +kernel
theorem dX8_makeOldAheadOf_20 : decode cX8_makeOldAheadOf 20 = .ok (.iconst 0, 1) := by decide +kernel
theorem dX8_makeOldAheadOf_21 : decode cX8_makeOldAheadOf 21 = .ok (.bastore, 1) := by decide +kernel
theorem dX8_makeOldAheadOf_22 : decode cX8_makeOldAheadOf 22 = .ok (.iinc 2 1, 3) := by decide +kernel
theorem dX8_makeOldAheadOf_25 : decode cX8_makeOldAheadOf 25 = .ok (.goto (-23), 3) := by decide +kernel
theorem dX8_makeOldAheadOf_28 : decode cX8_makeOldAheadOf 28 = .ok (.return_, 1) := by decide +kernel
theorem dX8_cutTo_0 : decode cX8_cutTo 0 = .ok (.aload_n 0, 1) := by decide +kernel
theorem dX8_cutTo_1 : decode cX8_cutTo 1 = .ok (.iconst 0, 1) := by decide +kernel
theorem dX8_cutTo_2 : decode cX8_cutTo 2 = .ok (.iload_n 1, 1) := by decide +kernel
theorem dX8_cutTo_3 : decode cX8_cutTo 3 = .ok (.aload_n 0, 1) := by decide +kernel
theorem dX8_cutTo_4 : decode cX8_cutTo 4 = .ok (.getfield 28, 3) := by decide +kernel
theorem dX8_cutTo_7 : decode cX8_cutTo 7 = .ok (.invokestatic 36, 3) := by decide +kernel
theorem dX8_cutTo_10 : decode cX8_cutTo 10 = .ok (.invokestatic 42, 3) := by decide +kernel
theorem dX8_cutTo_13 : decode cX8_cutTo 13 = .ok (.putfield 28, 3) := by decide +kernel
theorem dX8_cutTo_16 : decode cX8_cutTo 16 = .ok (.return_, 1) := by decide +kernel
theorem dX8_aspect_0 : decode cX8_aspect 0 = .ok (.iload_n 1, 1) := by decide +kernel
theorem dX8_aspect_1 : decode cX8_aspect 1 = .ok (.ifCond .lt 11, 3) := by decide +kernel
theorem dX8_aspect_4 : decode cX8_aspect 4 = .ok (.iload_n 1, 1) := by decide +kernel
theorem dX8_aspect_5 : decode cX8_aspect 5 = .ok (.aload_n 0, 1) := by decide +kernel
theorem dX8_aspect_6 : decode cX8_aspect 6 = .ok (.getfield 28, 3) := by decide +kernel
theorem dX8_aspect_9 : decode cX8_aspect 9 = .ok (.if_icmp .lt 6, 3) := by decide +kernel
theorem dX8_aspect_12 : decode cX8_aspect 12 = .ok (.bipush (-101), 2) := by decide +kernel
theorem dX8_aspect_14 : decode cX8_aspect 14 = .ok (.ireturn, 1) := by decide +kernel
theorem dX8_aspect_15 : decode cX8_aspect 15 = .ok (.iload_n 2, 1) := by decide +kernel
theorem dX8_aspect_16 : decode cX8_aspect 16 = .ok (.tableswitch 63 0 3 #[32, 39, 46, 56], 32) := by decide +kernel
theorem dX8_aspect_48 : decode cX8_aspect 48 = .ok (.aload_n 0, 1) := by decide +kernel
theorem dX8_aspect_49 : decode cX8_aspect 49 = .ok (.getfield 9, 3) := by decide +kernel
theorem dX8_aspect_52 : decode cX8_aspect 52 = .ok (.iload_n 1, 1) := by decide +kernel
theorem dX8_aspect_53 : decode cX8_aspect 53 = .ok (.iaload, 1) := by decide +kernel
theorem dX8_aspect_54 : decode cX8_aspect 54 = .ok (.ireturn, 1) := by decide +kernel
theorem dX8_aspect_55 : decode cX8_aspect 55 = .ok (.aload_n 0, 1) := by decide +kernel
theorem dX8_aspect_56 : decode cX8_aspect 56 = .ok (.getfield 15, 3) := by decide +kernel
theorem dX8_aspect_59 : decode cX8_aspect 59 = .ok (.iload_n 1, 1) := by decide +kernel
theorem dX8_aspect_60 : decode cX8_aspect 60 = .ok (.iaload, 1) := by decide +kernel
theorem dX8_aspect_61 : decode cX8_aspect 61 = .ok (.ireturn, 1) := by decide +kernel
theorem dX8_aspect_62 : decode cX8_aspect 62 = .ok (.aload_n 0, 1) := by decide +kernel
theorem dX8_aspect_63 : decode cX8_aspect 63 = .ok (.getfield 18, 3) := by decide +kernel
theorem dX8_aspect_66 : decode cX8_aspect 66 = .ok (.iload_n 1, 1) := by decide +kernel
theorem dX8_aspect_67 : decode cX8_aspect 67 = .ok (.baload, 1) := by decide +kernel
theorem dX8_aspect_68 : decode cX8_aspect 68 = .ok (.invokestatic 32, 3) := by decide +kernel
theorem dX8_aspect_71 : decode cX8_aspect 71 = .ok (.ireturn, 1) := by decide +kernel
theorem dX8_aspect_72 : decode cX8_aspect 72 = .ok (.aload_n 0, 1) := by decide +kernel
theorem dX8_aspect_73 : decode cX8_aspect 73 = .ok (.getfield 22, 3) := by decide +kernel
theorem dX8_aspect_76 : decode cX8_aspect 76 = .ok (.iload_n 1, 1) := by decide +kernel
theorem dX8_aspect_77 : decode cX8_aspect 77 = .ok (.iaload, 1) := by decide +kernel
theorem dX8_aspect_78 : decode cX8_aspect 78 = .ok (.ireturn, 1) := by decide +kernel
theorem dX8_aspect_79 : decode cX8_aspect 79 = .ok (.aload_n 0, 1) := by decide +kernel
theorem dX8_aspect_80 : decode cX8_aspect 80 = .ok (.getfield 25, 3) := by decide +kernel
theorem dX8_aspect_83 : decode cX8_aspect 83 = .ok (.iload_n 1, 1) := by decide +kernel
theorem dX8_aspect_84 : decode cX8_aspect 84 = .ok (.iaload, 1) := by decide +kernel
theorem dX8_aspect_85 : decode cX8_aspect 85 = .ok (.ireturn, 1) := by decide +kernel
theorem dX9_init_0 : decode cX9_init 0 = .ok (.aload_n 0, 1) := by decide +kernel
theorem dX9_init_1 : decode cX9_init 1 = .ok (.invokespecial 1, 3) := by decide +kernel
theorem dX9_init_4 : decode cX9_init 4 = .ok (.aload_n 0, 1) := by decide +kernel
theorem dX9_init_5 : decode cX9_init 5 = .ok (.new 7, 3) := by decide +kernel
theorem dX9_init_8 : decode cX9_init 8 = .ok (.dup, 1) := by decide +kernel
theorem dX9_init_9 : decode cX9_init 9 = .ok (.bipush 64, 2) := by decide +kernel
theorem dX9_init_11 : decode cX9_init 11 = .ok (.invokespecial 11, 3) := by decide +kernel
theorem dX9_init_14 : decode cX9_init 14 = .ok (.putfield 14, 3) := by decide +kernel
theorem dX9_init_17 : decode cX9_init 17 = .ok (.aload_n 0, 1) := by decide +kernel
theorem dX9_init_18 : decode cX9_init 18 = .ok (.bipush 6, 2) := by decide +kernel
theorem dX9_init_20 : decode cX9_init 20 = .ok (.anewarray 18, 3) := by decide +kernel
theorem dX9_init_23 : decode cX9_init 23 = .ok (.putfield 20, 3) := by decide +kernel
theorem dX9_init_26 : decode cX9_init 26 = .ok (.iconst 0, 1) := by decide +kernel
theorem dX9_init_27 : decode cX9_init 27 = .ok (.istore_n 1, 1) := by decide +kernel
theorem dX9_init_28 : decode cX9_init 28 = .ok (.iload_n 1, 1) := by decide +kernel
theorem dX9_init_29 : decode cX9_init 29 = .ok (.aload_n 0, 1) := by decide +kernel
theorem dX9_init_30 : decode cX9_init 30 = .ok (.getfield 20, 3) := by decide +kernel
theorem dX9_init_33 : decode cX9_init 33 = .ok (.arraylength, 1) := by decide +kernel
theorem dX9_init_34 : decode cX9_init 34 = .ok (.if_icmp .ge 22, 3) := by decide +kernel
theorem dX9_init_37 : decode cX9_init 37 = .ok (.aload_n 0, 1) := by decide +kernel
theorem dX9_init_38 : decode cX9_init 38 = .ok (.getfield 20, 3) := by decide +kernel
theorem dX9_init_41 : decode cX9_init 41 = .ok (.iload_n 1, 1) := by decide +kernel
theorem dX9_init_42 : decode cX9_init 42 = .ok (.new 18, 3) := by decide +kernel
theorem dX9_init_45 : decode cX9_init 45 = .ok (.dup, 1) := by decide +kernel
theorem dX9_init_46 : decode cX9_init 46 = .ok (.invokespecial 24, 3) := by decide +kernel
theorem dX9_init_49 : decode cX9_init 49 = .ok (.aastore, 1) := by decide +kernel
theorem dX9_init_50 : decode cX9_init 50 = .ok (.iinc 1 1, 3) := by decide +kernel
theorem dX9_init_53 : decode cX9_init 53 = .ok (.goto (-25), 3) := by decide +kernel
theorem dX9_init_56 : decode cX9_init 56 = .ok (.aload_n 0, 1) := by decide +kernel
theorem dX9_init_57 : decode cX9_init 57 = .ok (.new 25, 3) := by decide +kernel
theorem dX9_init_60 : decode cX9_init 60 = .ok (.dup, 1) := by decide +kernel
theorem dX9_init_61 : decode cX9_init 61 = .ok (.invokespecial 27, 3) := by decide +kernel
theorem dX9_init_64 : decode cX9_init 64 = .ok (.putfield 28, 3) := by decide +kernel
theorem dX9_init_67 : decode cX9_init 67 = .ok (.aload_n 0, 1) := by decide +kernel
theorem dX9_init_68 : decode cX9_init 68 = .ok (.aload_n 0, 1) := by decide +kernel
theorem dX9_init_69 : decode cX9_init 69 = .ok (.getfield 28, 3) := by decide +kernel
theorem dX9_init_72 : decode cX9_init 72 = .ok (.getfield 32, 3) := by decide +kernel
theorem dX9_init_75 : decode cX9_init 75 = .ok (.putfield 36, 3) := by decide +kernel
theorem dX9_init_78 : decode cX9_init 78 = .ok (.aload_n 0, 1) := by decide +kernel
theorem dX9_init_79 : decode cX9_init 79 = .ok (.aload_n 0, 1) := by decide +kernel
theorem dX9_init_80 : decode cX9_init 80 = .ok (.getfield 28, 3) := by decide +kernel
theorem dX9_init_83 : decode cX9_init 83 = .ok (.getfield 37, 3) := by decide +kernel
theorem dX9_init_86 : decode cX9_init 86 = .ok (.putfield 41, 3) := by decide +kernel
theorem dX9_init_89 : decode cX9_init 89 = .ok (.aload_n 0, 1) := by decide +kernel
theorem dX9_init_90 : decode cX9_init 90 = .ok (.aload_n 0, 1) := by decide +kernel
theorem dX9_init_91 : decode cX9_init 91 = .ok (.getfield 28, 3) := by decide +kernel
theorem dX9_init_94 : decode cX9_init 94 = .ok (.getfield 42, 3) := by decide +kernel
theorem dX9_init_97 : decode cX9_init 97 = .ok (.putfield 46, 3) := by decide +kernel
theorem dX9_init_100 : decode cX9_init 100 = .ok (.aload_n 0, 1) := by decide +kernel
theorem dX9_init_101 : decode cX9_init 101 = .ok (.aload_n 0, 1) := by decide +kernel
theorem dX9_init_102 : decode cX9_init 102 = .ok (.getfield 28, 3) := by decide +kernel
theorem dX9_init_105 : decode cX9_init 105 = .ok (.getfield 47, 3) := by decide +kernel
theorem dX9_init_108 : decode cX9_init 108 = .ok (.putfield 51, 3) := by decide +kernel
theorem dX9_init_111 : decode cX9_init 111 = .ok (.aload_n 0, 1) := by decide +kernel
theorem dX9_init_112 : decode cX9_init 112 = .ok (.aload_n 0, 1) := by decide +kernel
theorem dX9_init_113 : decode cX9_init 113 = .ok (.getfield 28, 3) := by decide +kernel
theorem dX9_init_116 : decode cX9_init 116 = .ok (.getfield 52, 3) := by decide +kernel
theorem dX9_init_119 : decode cX9_init 119 = .ok (.putfield 56, 3) := by decide +kernel
theorem dX9_init_122 : decode cX9_init 122 = .ok (.return_, 1) := by decide +kernel
theorem dX9_feed_0 : decode cX9_feed 0 = .ok (.iload_n 1, 1) := by decide +kernel
theorem dX9_feed_1 : decode cX9_feed 1 = .ok (.iconst 1, 1) := by decide +kernel
theorem dX9_feed_2 : decode cX9_feed 2 = .ok (.if_icmp .lt 9, 3) := by decide +kernel
theorem dX9_feed_5 : decode cX9_feed 5 = .ok (.iload_n 1, 1) := by decide +kernel
theorem dX9_feed_6 : decode cX9_feed 6 = .ok (.bipush 8, 2) := by decide +kernel
theorem dX9_feed_8 : decode cX9_feed 8 = .ok (.if_icmp .le 6, 3) := by decide +kernel
theorem dX9_feed_11 : decode cX9_feed 11 = .ok (.bipush (-102), 2) := by decide +kernel
theorem dX9_feed_13 : decode cX9_feed 13 = .ok (.ireturn, 1) := by decide +kernel
theorem dX9_feed_14 : decode cX9_feed 14 = .ok (.iload_n 1, 1) := by decide +kernel
theorem dX9_feed_15 : decode cX9_feed 15 = .ok (.aload_n 0, 1) := by decide +kernel
theorem dX9_feed_16 : decode cX9_feed 16 = .ok (.getfield 14, 3) := by decide +kernel
theorem dX9_feed_19 : decode cX9_feed 19 = .ok (.invokevirtual 57, 3) := by decide +kernel
theorem dX9_feed_22 : decode cX9_feed 22 = .ok (.if_icmp .le 6, 3) := by decide +kernel
theorem dX9_feed_25 : decode cX9_feed 25 = .ok (.bipush (-104), 2) := by decide +kernel
theorem dX9_feed_27 : decode cX9_feed 27 = .ok (.ireturn, 1) := by decide +kernel
theorem dX9_feed_28 : decode cX9_feed 28 = .ok (.iload_n 1, 1) := by decide +kernel
theorem dX9_feed_29 : decode cX9_feed 29 = .ok (.iconst 1, 1) := by decide +kernel
theorem dX9_feed_30 : decode cX9_feed 30 = .ok (.isub, 1) := by decide +kernel
theorem dX9_feed_31 : decode cX9_feed 31 = .ok (.istore 4, 2) := by decide +kernel
theorem dX9_feed_33 : decode cX9_feed 33 = .ok (.iload 4, 2) := by decide +kernel
theorem dX9_feed_35 : decode cX9_feed 35 = .ok (.ifCond .lt 29, 3) := by decide +kernel
theorem dX9_feed_38 : decode cX9_feed 38 = .ok (.aload_n 0, 1) := by decide +kernel
theorem dX9_feed_39 : decode cX9_feed 39 = .ok (.getfield 14, 3) := by decide +kernel
theorem dX9_feed_42 : decode cX9_feed 42 = .ok (.lload_n 2, 1) := by decide +kernel
theorem dX9_feed_43 : decode cX9_feed 43 = .ok (.bipush 8, 2) := by decide +kernel
theorem dX9_feed_45 : decode cX9_feed 45 = .ok (.iload 4, 2) := by decide +kernel
theorem dX9_feed_47 : decode cX9_feed 47 = .ok (.imul, 1) := by decide +kernel
theorem dX9_feed_48 : decode cX9_feed 48 = .ok (.lushr, 1) := by decide +kernel
theorem dX9_feed_49 : decode cX9_feed 49 = .ok (.l2i, 1) := by decide +kernel
theorem dX9_feed_50 : decode cX9_feed 50 = .ok (.sipush 255, 3) := by decide +kernel
theorem dX9_feed_53 : decode cX9_feed 53 = .ok (.iand, 1) := by decide +kernel
theorem dX9_feed_54 : decode cX9_feed 54 = .ok (.invokevirtual 61, 3) := by decide +kernel
theorem dX9_feed_57 : decode cX9_feed 57 = .ok (.pop, 1) := by decide +kernel
theorem dX9_feed_58 : decode cX9_feed 58 = .ok (.iinc 4 (-1), 3) := by decide +kernel
theorem dX9_feed_61 : decode cX9_feed 61 = .ok (.goto (-28), 3) := by decide +kernel
theorem dX9_feed_64 : decode cX9_feed 64 = .ok (.aload_n 0, 1) := by decide +kernel
theorem dX9_feed_65 : decode cX9_feed 65 = .ok (.getfield 14, 3) := by decide +kernel
theorem dX9_feed_68 : decode cX9_feed 68 = .ok (.invokevirtual 65, 3) := by decide +kernel
theorem dX9_feed_71 : decode cX9_feed 71 = .ok (.ireturn, 1) := by decide +kernel
theorem dX9_lay_0 : decode cX9_lay 0 = .ok (.aload_n 0, 1) := by decide +kernel
theorem dX9_lay_1 : decode cX9_lay 1 = .ok (.iload_n 1, 1) := by decide +kernel
theorem dX9_lay_2 : decode cX9_lay 2 = .ok (.invokevirtual 68, 3) := by decide +kernel
theorem dX9_lay_5 : decode cX9_lay 5 = .ok (.astore_n 2, 1) := by decide +kernel
theorem dX9_lay_6 : decode cX9_lay 6 = .ok (.aload_n 2, 1) := by decide +kernel
theorem dX9_lay_7 : decode cX9_lay 7 = .ok (.ifnonnull 6, 3) := by decide +kernel
theorem dX9_lay_10 : decode cX9_lay 10 = .ok (.bipush (-101), 2) := by decide +kernel
theorem dX9_lay_12 : decode cX9_lay 12 = .ok (.ireturn, 1) := by decide +kernel
theorem dX9_lay_13 : decode cX9_lay 13 = .ok (.aload_n 2, 1) := by decide +kernel
theorem dX9_lay_14 : decode cX9_lay 14 = .ok (.getfield 72, 3) := by decide +kernel
theorem dX9_lay_17 : decode cX9_lay 17 = .ok (.aload_n 0, 1) := by decide +kernel
theorem dX9_lay_18 : decode cX9_lay 18 = .ok (.getfield 14, 3) := by decide +kernel
theorem dX9_lay_21 : decode cX9_lay 21 = .ok (.invokevirtual 75, 3) := by decide +kernel
theorem dX9_lay_24 : decode cX9_lay 24 = .ok (.aload_n 2, 1) := by decide +kernel
theorem dX9_lay_25 : decode cX9_lay 25 = .ok (.iconst 0, 1) := by decide +kernel
theorem dX9_lay_26 : decode cX9_lay 26 = .ok (.invokevirtual 79, 3) := by decide +kernel
theorem dX9_lay_29 : decode cX9_lay 29 = .ok (.aload_n 0, 1) := by decide +kernel
theorem dX9_lay_30 : decode cX9_lay 30 = .ok (.getfield 14, 3) := by decide +kernel
theorem dX9_lay_33 : decode cX9_lay 33 = .ok (.invokevirtual 83, 3) := by decide +kernel
theorem dX9_lay_36 : decode cX9_lay 36 = .ok (.aload_n 2, 1) := by decide +kernel
theorem dX9_lay_37 : decode cX9_lay 37 = .ok (.getfield 72, 3) := by decide +kernel
theorem dX9_lay_40 : decode cX9_lay 40 = .ok (.invokevirtual 65, 3) := by decide +kernel
theorem dX9_lay_43 : decode cX9_lay 43 = .ok (.ireturn, 1) := by decide +kernel
theorem dX9_octet_0 : decode cX9_octet 0 = .ok (.aload_n 0, 1) := by decide +kernel
theorem dX9_octet_1 : decode cX9_octet 1 = .ok (.iload_n 1, 1) := by decide +kernel
theorem dX9_octet_2 : decode cX9_octet 2 = .ok (.invokevirtual 68, 3) := by decide +kernel
theorem dX9_octet_5 : decode cX9_octet 5 = .ok (.astore_n 3, 1) := by decide +kernel
theorem dX9_octet_6 : decode cX9_octet 6 = .ok (.aload_n 3, 1) := by decide +kernel
theorem dX9_octet_7 : decode cX9_octet 7 = .ok (.ifnonnull 13, 3) := by decide +kernel
theorem dX9_octet_10 : decode cX9_octet 10 = .ok (.new 86, 3) := by decide +kernel
theorem dX9_octet_13 : decode cX9_octet 13 = .ok (.dup, 1) := by decide +kernel
theorem dX9_octet_14 : decode cX9_octet 14 = .ok (.ldc 88, 2) := by decide +kernel
theorem dX9_octet_16 : decode cX9_octet 16 = .ok (.invokespecial 90, 3) := by decide +kernel
theorem dX9_octet_19 : decode cX9_octet 19 = .ok (.athrow, 1) := by decide +kernel
theorem dX9_octet_20 : decode cX9_octet 20 = .ok (.aload_n 3, 1) := by decide +kernel
theorem dX9_octet_21 : decode cX9_octet 21 = .ok (.getfield 72, 3) := by decide +kernel
theorem dX9_octet_24 : decode cX9_octet 24 = .ok (.iload_n 2, 1) := by decide +kernel
theorem dX9_octet_25 : decode cX9_octet 25 = .ok (.invokevirtual 93, 3) := by decide +kernel
theorem dX9_octet_28 : decode cX9_octet 28 = .ok (.ifCond .ne 13, 3) := by decide +kernel
theorem dX9_octet_31 : decode cX9_octet 31 = .ok (.new 86, 3) := by decide +kernel
theorem dX9_octet_34 : decode cX9_octet 34 = .ok (.dup, 1) := by decide +kernel
theorem dX9_octet_35 : decode cX9_octet 35 = .ok (.ldc 96, 2) := by decide +kernel
theorem dX9_octet_37 : decode cX9_octet 37 = .ok (.invokespecial 90, 3) := by decide +kernel
theorem dX9_octet_40 : decode cX9_octet 40 = .ok (.athrow, 1) := by decide +kernel
theorem dX9_octet_41 : decode cX9_octet 41 = .ok (.aload_n 3, 1) := by decide +kernel
theorem dX9_octet_42 : decode cX9_octet 42 = .ok (.getfield 72, 3) := by decide +kernel
theorem dX9_octet_45 : decode cX9_octet 45 = .ok (.iload_n 2, 1) := by decide +kernel
theorem dX9_octet_46 : decode cX9_octet 46 = .ok (.invokevirtual 98, 3) := by decide +kernel
theorem dX9_octet_49 : decode cX9_octet 49 = .ok (.i2b, 1) := by decide +kernel
theorem dX9_octet_50 : decode cX9_octet 50 = .ok (.ireturn, 1) := by decide +kernel
theorem dX9_plant_0 : decode cX9_plant 0 = .ok (.aload_n 0, 1) := by decide +kernel
theorem dX9_plant_1 : decode cX9_plant 1 = .ok (.iload_n 1, 1) := by decide +kernel
theorem dX9_plant_2 : decode cX9_plant 2 = .ok (.invokevirtual 68, 3) := by decide +kernel
theorem dX9_plant_5 : decode cX9_plant 5 = .ok (.astore 4, 2) := by decide +kernel
theorem dX9_plant_7 : decode cX9_plant 7 = .ok (.aload 4, 2) := by decide +kernel
theorem dX9_plant_9 : decode cX9_plant 9 = .ok (.ifnull 15, 3) := by decide +kernel
theorem dX9_plant_12 : decode cX9_plant 12 = .ok (.aload 4, 2) := by decide +kernel
theorem dX9_plant_14 : decode cX9_plant 14 = .ok (.getfield 72, 3) := by decide +kernel
theorem dX9_plant_17 : decode cX9_plant 17 = .ok (.iload_n 2, 1) := by decide +kernel
theorem dX9_plant_18 : decode cX9_plant 18 = .ok (.invokevirtual 93, 3) := by decide +kernel
theorem dX9_plant_21 : decode cX9_plant 21 = .ok (.ifCond .ne 6, 3) := by decide +kernel
theorem dX9_plant_24 : decode cX9_plant 24 = .ok (.bipush (-101), 2) := by decide +kernel
theorem dX9_plant_26 : decode cX9_plant 26 = .ok (.ireturn, 1) := by decide +kernel
theorem dX9_plant_27 : decode cX9_plant 27 = .ok (.iload_n 3, 1) := by decide +kernel
theorem dX9_plant_28 : decode cX9_plant 28 = .ok (.ifCond .lt 10, 3) := by decide +kernel
theorem dX9_plant_31 : decode cX9_plant 31 = .ok (.iload_n 3, 1) := by decide +kernel
theorem dX9_plant_32 : decode cX9_plant 32 = .ok (.sipush 255, 3) := by decide +kernel
theorem dX9_plant_35 : decode cX9_plant 35 = .ok (.if_icmp .le 6, 3) := by decide +kernel
theorem dX9_plant_38 : decode cX9_plant 38 = .ok (.bipush (-102), 2) := by decide +kernel
theorem dX9_plant_40 : decode cX9_plant 40 = .ok (.ireturn, 1) := by decide +kernel
theorem dX9_plant_41 : decode cX9_plant 41 = .ok (.aload 4, 2) := by decide +kernel
theorem dX9_plant_43 : decode cX9_plant 43 = .ok (.getfield 72, 3) := by decide +kernel
theorem dX9_plant_46 : decode cX9_plant 46 = .ok (.iload_n 2, 1) := by decide +kernel
theorem dX9_plant_47 : decode cX9_plant 47 = .ok (.aload 4, 2) := by decide +kernel
theorem dX9_plant_49 : decode cX9_plant 49 = .ok (.getfield 72, 3) := by decide +kernel
theorem dX9_plant_52 : decode cX9_plant 52 = .ok (.iload_n 2, 1) := by decide +kernel
theorem dX9_plant_53 : decode cX9_plant 53 = .ok (.invokevirtual 98, 3) := by decide +kernel
theorem dX9_plant_56 : decode cX9_plant 56 = .ok (.iload_n 3, 1) := by decide +kernel
theorem dX9_plant_57 : decode cX9_plant 57 = .ok (.ixor, 1) := by decide +kernel
theorem dX9_plant_58 : decode cX9_plant 58 = .ok (.invokevirtual 102, 3) := by decide +kernel
theorem dX9_plant_61 : decode cX9_plant 61 = .ok (.aload 4, 2) := by decide +kernel
theorem dX9_plant_63 : decode cX9_plant 63 = .ok (.getfield 72, 3) := by decide +kernel
theorem dX9_plant_66 : decode cX9_plant 66 = .ok (.iload_n 2, 1) := by decide +kernel
theorem dX9_plant_67 : decode cX9_plant 67 = .ok (.invokevirtual 98, 3) := by decide +kernel
theorem dX9_plant_70 : decode cX9_plant 70 = .ok (.ireturn, 1) := by decide +kernel
theorem dX9_fails_0 : decode cX9_fails 0 = .ok (.aload_n 0, 1) := by decide +kernel
theorem dX9_fails_1 : decode cX9_fails 1 = .ok (.iload_n 1, 1) := by decide +kernel
theorem dX9_fails_2 : decode cX9_fails 2 = .ok (.invokevirtual 68, 3) := by decide +kernel
theorem dX9_fails_5 : decode cX9_fails 5 = .ok (.astore_n 3, 1) := by decide +kernel
theorem dX9_fails_6 : decode cX9_fails 6 = .ok (.aload_n 3, 1) := by decide +kernel
theorem dX9_fails_7 : decode cX9_fails 7 = .ok (.ifnonnull 6, 3) := by decide +kernel
theorem dX9_fails_10 : decode cX9_fails 10 = .ok (.bipush (-101), 2) := by decide +kernel
theorem dX9_fails_12 : decode cX9_fails 12 = .ok (.ireturn, 1) := by decide +kernel
theorem dX9_fails_13 : decode cX9_fails 13 = .ok (.aload_n 3, 1) := by decide +kernel
theorem dX9_fails_14 : decode cX9_fails 14 = .ok (.getfield 106, 3) := by decide +kernel
theorem dX9_fails_17 : decode cX9_fails 17 = .ok (.invokestatic 110, 3) := by decide +kernel
theorem dX9_fails_20 : decode cX9_fails 20 = .ok (.istore 4, 2) := by decide +kernel
theorem dX9_fails_22 : decode cX9_fails 22 = .ok (.aload_n 3, 1) := by decide +kernel
theorem dX9_fails_23 : decode cX9_fails 23 = .ok (.iload_n 2, 1) := by decide +kernel
theorem dX9_fails_24 : decode cX9_fails 24 = .ok (.invokevirtual 79, 3) := by decide +kernel
theorem dX9_fails_27 : decode cX9_fails 27 = .ok (.iload 4, 2) := by decide +kernel
theorem dX9_fails_29 : decode cX9_fails 29 = .ok (.ireturn, 1) := by decide +kernel
theorem dX9_judge_0 : decode cX9_judge 0 = .ok (.aload_n 0, 1) := by decide +kernel
theorem dX9_judge_1 : decode cX9_judge 1 = .ok (.iload_n 1, 1) := by decide +kernel
theorem dX9_judge_2 : decode cX9_judge 2 = .ok (.invokevirtual 68, 3) := by decide +kernel
theorem dX9_judge_5 : decode cX9_judge 5 = .ok (.astore_n 2, 1) := by decide +kernel
theorem dX9_judge_6 : decode cX9_judge 6 = .ok (.aload_n 2, 1) := by decide +kernel
theorem dX9_judge_7 : decode cX9_judge 7 = .ok (.ifnonnull 8, 3) := by decide +kernel
theorem dX9_judge_10 : decode cX9_judge 10 = .ok (.bipush (-101), 2) := by decide +kernel
theorem dX9_judge_12 : decode cX9_judge 12 = .ok (.goto 10, 3) := by decide +kernel
theorem dX9_judge_15 : decode cX9_judge 15 = .ok (.aload_n 2, 1) := by decide +kernel
theorem dX9_judge_16 : decode cX9_judge 16 = .ok (.getfield 72, 3) := by decide +kernel
theorem dX9_judge_19 : decode cX9_judge 19 = .ok (.invokestatic 114, 3) := by decide +kernel
theorem dX9_judge_22 : decode cX9_judge 22 = .ok (.ireturn, 1) := by decide +kernel
theorem dX9_define_0 : decode cX9_define 0 = .ok (.aload_n 0, 1) := by decide +kernel
theorem dX9_define_1 : decode cX9_define 1 = .ok (.iload_n 1, 1) := by decide +kernel
theorem dX9_define_2 : decode cX9_define 2 = .ok (.invokevirtual 68, 3) := by decide +kernel
theorem dX9_define_5 : decode cX9_define 5 = .ok (.astore_n 2, 1) := by decide +kernel
theorem dX9_define_6 : decode cX9_define 6 = .ok (.aload_n 2, 1) := by decide +kernel
theorem dX9_define_7 : decode cX9_define 7 = .ok (.ifnonnull 6, 3) := by decide +kernel
theorem dX9_define_10 : decode cX9_define 10 = .ok (.bipush (-101), 2) := by decide +kernel
theorem dX9_define_12 : decode cX9_define 12 = .ok (.ireturn, 1) := by decide +kernel
theorem dX9_define_13 : decode cX9_define 13 = .ok (.aload_n 2, 1) := by decide +kernel
theorem dX9_define_14 : decode cX9_define 14 = .ok (.getfield 72, 3) := by decide +kernel
theorem dX9_define_17 : decode cX9_define 17 = .ok (.invokestatic 114, 3) := by decide +kernel
theorem dX9_define_20 : decode cX9_define 20 = .ok (.istore_n 3, 1) := by decide +kernel
theorem dX9_define_21 : decode cX9_define 21 = .ok (.iload_n 3, 1) := by decide +kernel
theorem dX9_define_22 : decode cX9_define 22 = .ok (.ifCond .eq 8, 3) := by decide +kernel
theorem dX9_define_25 : decode cX9_define 25 = .ok (.bipush (-10), 2) := by decide +kernel
theorem dX9_define_27 : decode cX9_define 27 = .ok (.iload_n 3, 1) := by decide +kernel
theorem dX9_define_28 : decode cX9_define 28 = .ok (.isub, 1) := by decide +kernel
theorem dX9_define_29 : decode cX9_define 29 = .ok (.ireturn, 1) := by decide +kernel
theorem dX9_define_30 : decode cX9_define 30 = .ok (.aload_n 0, 1) := by decide +kernel
theorem dX9_define_31 : decode cX9_define 31 = .ok (.getfield 41, 3) := by decide +kernel
theorem dX9_define_34 : decode cX9_define 34 = .ok (.invokevirtual 120, 3) := by decide +kernel
theorem dX9_define_37 : decode cX9_define 37 = .ok (.ifCond .eq 6, 3) := by decide +kernel
theorem dX9_define_40 : decode cX9_define 40 = .ok (.bipush (-104), 2) := by decide +kernel
theorem dX9_define_42 : decode cX9_define 42 = .ok (.ireturn, 1) := by decide +kernel
theorem dX9_define_43 : decode cX9_define 43 = .ok (.aload_n 2, 1) := by decide +kernel
theorem dX9_define_44 : decode cX9_define 44 = .ok (.getfield 106, 3) := by decide +kernel
theorem dX9_define_47 : decode cX9_define 47 = .ok (.ifCond .eq 8, 3) := by decide +kernel
theorem dX9_define_50 : decode cX9_define 50 = .ok (.aload_n 2, 1) := by decide +kernel
theorem dX9_define_51 : decode cX9_define 51 = .ok (.invokevirtual 126, 3) := by decide +kernel
theorem dX9_define_54 : decode cX9_define 54 = .ok (.ireturn, 1) := by decide +kernel
theorem dX9_define_55 : decode cX9_define 55 = .ok (.aload_n 0, 1) := by decide +kernel
theorem dX9_define_56 : decode cX9_define 56 = .ok (.getfield 41, 3) := by decide +kernel
theorem dX9_define_59 : decode cX9_define 59 = .ok (.iload_n 1, 1) := by decide +kernel
theorem dX9_define_60 : decode cX9_define 60 = .ok (.aload_n 2, 1) := by decide +kernel
theorem dX9_define_61 : decode cX9_define 61 = .ok (.getfield 72, 3) := by decide +kernel
theorem dX9_define_64 : decode cX9_define 64 = .ok (.invokevirtual 129, 3) := by decide +kernel
theorem dX9_define_67 : decode cX9_define 67 = .ok (.ireturn, 1) := by decide +kernel
theorem dX9_unit_0 : decode cX9_unit 0 = .ok (.iload_n 1, 1) := by decide +kernel
theorem dX9_unit_1 : decode cX9_unit 1 = .ok (.ifCond .lt 16, 3) := by decide +kernel
theorem dX9_unit_4 : decode cX9_unit 4 = .ok (.iload_n 1, 1) := by decide +kernel
theorem dX9_unit_5 : decode cX9_unit 5 = .ok (.bipush 64, 2) := by decide +kernel
theorem dX9_unit_7 : decode cX9_unit 7 = .ok (.if_icmp .ge 10, 3) := by decide +kernel
theorem dX9_unit_10 : decode cX9_unit 10 = .ok (.iload_n 2, 1) := by decide +kernel
theorem dX9_unit_11 : decode cX9_unit 11 = .ok (.invokestatic 133, 3) := by decide +kernel
theorem dX9_unit_14 : decode cX9_unit 14 = .ok (.ifCond .ne 6, 3) := by decide +kernel
theorem dX9_unit_17 : decode cX9_unit 17 = .ok (.bipush (-102), 2) := by decide +kernel
theorem dX9_unit_19 : decode cX9_unit 19 = .ok (.ireturn, 1) := by decide +kernel
theorem dX9_unit_20 : decode cX9_unit 20 = .ok (.aload_n 0, 1) := by decide +kernel
theorem dX9_unit_21 : decode cX9_unit 21 = .ok (.getfield 46, 3) := by decide +kernel
theorem dX9_unit_24 : decode cX9_unit 24 = .ok (.iload_n 1, 1) := by decide +kernel
theorem dX9_unit_25 : decode cX9_unit 25 = .ok (.invokevirtual 136, 3) := by decide +kernel
theorem dX9_unit_28 : decode cX9_unit 28 = .ok (.ifCond .eq 6, 3) := by decide +kernel
theorem dX9_unit_31 : decode cX9_unit 31 = .ok (.bipush (-103), 2) := by decide +kernel
theorem dX9_unit_33 : decode cX9_unit 33 = .ok (.ireturn, 1) := by decide +kernel
theorem dX9_unit_34 : decode cX9_unit 34 = .ok (.aload_n 0, 1) := by decide +kernel
theorem dX9_unit_35 : decode cX9_unit 35 = .ok (.getfield 46, 3) := by decide +kernel
theorem dX9_unit_38 : decode cX9_unit 38 = .ok (.invokevirtual 141, 3) := by decide +kernel
theorem dX9_unit_41 : decode cX9_unit 41 = .ok (.ifCond .eq 6, 3) := by decide +kernel
theorem dX9_unit_44 : decode cX9_unit 44 = .ok (.bipush (-104), 2) := by decide +kernel
theorem dX9_unit_46 : decode cX9_unit 46 = .ok (.ireturn, 1) := by decide +kernel
theorem dX9_unit_47 : decode cX9_unit 47 = .ok (.aload_n 0, 1) := by decide +kernel
theorem dX9_unit_48 : decode cX9_unit 48 = .ok (.getfield 46, 3) := by decide +kernel
theorem dX9_unit_51 : decode cX9_unit 51 = .ok (.iload_n 1, 1) := by decide +kernel
theorem dX9_unit_52 : decode cX9_unit 52 = .ok (.iload_n 2, 1) := by decide +kernel
theorem dX9_unit_53 : decode cX9_unit 53 = .ok (.iconst (-1), 1) := by decide +kernel
theorem dX9_unit_54 : decode cX9_unit 54 = .ok (.iconst 0, 1) := by decide +kernel
theorem dX9_unit_55 : decode cX9_unit 55 = .ok (.invokevirtual 142, 3) := by decide +kernel
theorem dX9_unit_58 : decode cX9_unit 58 = .ok (.ireturn, 1) := by decide +kernel
theorem dX9_marks_0 : decode cX9_marks 0 = .ok (.aload_n 0, 1) := by decide +kernel
theorem dX9_marks_1 : decode cX9_marks 1 = .ok (.getfield 46, 3) := by decide +kernel
theorem dX9_marks_4 : decode cX9_marks 4 = .ok (.iload_n 1, 1) := by decide +kernel
theorem dX9_marks_5 : decode cX9_marks 5 = .ok (.invokevirtual 146, 3) := by decide +kernel
theorem dX9_marks_8 : decode cX9_marks 8 = .ok (.ifCond .ne 6, 3) := by decide +kernel
theorem dX9_marks_11 : decode cX9_marks 11 = .ok (.bipush (-101), 2) := by decide +kernel
theorem dX9_marks_13 : decode cX9_marks 13 = .ok (.ireturn, 1) := by decide +kernel
theorem dX9_marks_14 : decode cX9_marks 14 = .ok (.iload_n 2, 1) := by decide +kernel
theorem dX9_marks_15 : decode cX9_marks 15 = .ok (.invokestatic 133, 3) := by decide +kernel
theorem dX9_marks_18 : decode cX9_marks 18 = .ok (.ifCond .ne 6, 3) := by decide +kernel
theorem dX9_marks_21 : decode cX9_marks 21 = .ok (.bipush (-102), 2) := by decide +kernel
theorem dX9_marks_23 : decode cX9_marks 23 = .ok (.ireturn, 1) := by decide +kernel
theorem dX9_marks_24 : decode cX9_marks 24 = .ok (.aload_n 0, 1) := by decide +kernel
theorem dX9_marks_25 : decode cX9_marks 25 = .ok (.getfield 46, 3) := by decide +kernel
theorem dX9_marks_28 : decode cX9_marks 28 = .ok (.iload_n 1, 1) := by decide +kernel
theorem dX9_marks_29 : decode cX9_marks 29 = .ok (.invokevirtual 147, 3) := by decide +kernel
theorem dX9_marks_32 : decode cX9_marks 32 = .ok (.istore_n 3, 1) := by decide +kernel
theorem dX9_marks_33 : decode cX9_marks 33 = .ok (.aload_n 0, 1) := by decide +kernel
theorem dX9_marks_34 : decode cX9_marks 34 = .ok (.getfield 46, 3) := by decide +kernel
theorem dX9_marks_37 : decode cX9_marks 37 = .ok (.iload_n 1, 1) := by decide +kernel
theorem dX9_marks_38 : decode cX9_marks 38 = .ok (.iload_n 2, 1) := by decide +kernel
theorem dX9_marks_39 : decode cX9_marks 39 = .ok (.invokevirtual 150, 3) := by decide +kernel
theorem dX9_marks_42 : decode cX9_marks 42 = .ok (.iload_n 3, 1) := by decide +kernel
theorem dX9_marks_43 : decode cX9_marks 43 = .ok (.ireturn, 1) := by decide +kernel
theorem dX9_anew_0 : decode cX9_anew 0 = .ok (.aload_n 0, 1) := by decide +kernel
theorem dX9_anew_1 : decode cX9_anew 1 = .ok (.getfield 46, 3) := by decide +kernel
theorem dX9_anew_4 : decode cX9_anew 4 = .ok (.invokevirtual 153, 3) := by decide +kernel
theorem dX9_anew_7 : decode cX9_anew 7 = .ok (.aload_n 0, 1) := by decide +kernel
theorem dX9_anew_8 : decode cX9_anew 8 = .ok (.getfield 46, 3) := by decide +kernel
theorem dX9_anew_11 : decode cX9_anew 11 = .ok (.invokevirtual 154, 3) := by decide +kernel
theorem dX9_anew_14 : decode cX9_anew 14 = .ok (.isub, 1) := by decide +kernel
theorem dX9_anew_15 : decode cX9_anew 15 = .ok (.istore_n 1, 1) := by decide +kernel
theorem dX9_anew_16 : decode cX9_anew 16 = .ok (.aload_n 0, 1) := by decide +kernel
theorem dX9_anew_17 : decode cX9_anew 17 = .ok (.getfield 46, 3) := by decide +kernel
theorem dX9_anew_20 : decode cX9_anew 20 = .ok (.invokevirtual 157, 3) := by decide +kernel
theorem dX9_anew_23 : decode cX9_anew 23 = .ok (.iload_n 1, 1) := by decide +kernel
theorem dX9_anew_24 : decode cX9_anew 24 = .ok (.ireturn, 1) := by decide +kernel
theorem dX9_option_0 : decode cX9_option 0 = .ok (.iload_n 1, 1) := by decide +kernel
theorem dX9_option_1 : decode cX9_option 1 = .ok (.ifCond .lt 12, 3) := by decide +kernel
theorem dX9_option_4 : decode cX9_option 4 = .ok (.iload_n 1, 1) := by decide +kernel
theorem dX9_option_5 : decode cX9_option 5 = .ok (.aload_n 0, 1) := by decide +kernel
theorem dX9_option_6 : decode cX9_option 6 = .ok (.getfield 36, 3) := by decide +kernel
theorem dX9_option_9 : decode cX9_option 9 = .ok (.arraylength, 1) := by decide +kernel
theorem dX9_option_10 : decode cX9_option 10 = .ok (.if_icmp .lt 6, 3) := by decide +kernel
theorem dX9_option_13 : decode cX9_option 13 = .ok (.bipush (-102), 2) := by decide +kernel
theorem dX9_option_15 : decode cX9_option 15 = .ok (.ireturn, 1) := by decide +kernel
theorem dX9_option_16 : decode cX9_option 16 = .ok (.aload_n 0, 1) := by decide +kernel
theorem dX9_option_17 : decode cX9_option 17 = .ok (.getfield 36, 3) := by decide +kernel
theorem dX9_option_20 : decode cX9_option 20 = .ok (.iload_n 1, 1) := by decide +kernel
theorem dX9_option_21 : decode cX9_option 21 = .ok (.iaload, 1) := by decide +kernel
theorem dX9_option_22 : decode cX9_option 22 = .ok (.istore_n 3, 1) := by decide +kernel
theorem dX9_option_23 : decode cX9_option 23 = .ok (.aload_n 0, 1) := by decide +kernel
theorem dX9_option_24 : decode cX9_option 24 = .ok (.getfield 36, 3) := by decide +kernel
theorem dX9_option_27 : decode cX9_option 27 = .ok (.iload_n 1, 1) := by decide +kernel
theorem dX9_option_28 : decode cX9_option 28 = .ok (.iload_n 2, 1) := by decide +kernel
theorem dX9_option_29 : decode cX9_option 29 = .ok (.iastore, 1) := by decide +kernel
theorem dX9_option_30 : decode cX9_option 30 = .ok (.iload_n 3, 1) := by decide +kernel
theorem dX9_option_31 : decode cX9_option 31 = .ok (.ireturn, 1) := by decide +kernel
theorem dX9_pass_0 : decode cX9_pass 0 = .ok (.aload_n 0, 1) := by decide +kernel
theorem dX9_pass_1 : decode cX9_pass 1 = .ok (.getfield 160, 3) := by decide +kernel
theorem dX9_pass_4 : decode cX9_pass 4 = .ok (.invokestatic 110, 3) := by decide +kernel
theorem dX9_pass_7 : decode cX9_pass 7 = .ok (.istore_n 2, 1) := by decide +kernel
theorem dX9_pass_8 : decode cX9_pass 8 = .ok (.aload_n 0, 1) := by decide +kernel
theorem dX9_pass_9 : decode cX9_pass 9 = .ok (.iload_n 1, 1) := by decide +kernel
theorem dX9_pass_10 : decode cX9_pass 10 = .ok (.putfield 160, 3) := by decide +kernel
theorem dX9_pass_13 : decode cX9_pass 13 = .ok (.iload_n 2, 1) := by decide +kernel
theorem dX9_pass_14 : decode cX9_pass 14 = .ok (.ireturn, 1) := by decide +kernel
theorem dX9_run_0 : decode cX9_run 0 = .ok (.iload_n 1, 1) := by decide +kernel
theorem dX9_run_1 : decode cX9_run 1 = .ok (.ifCond .lt 9, 3) := by decide +kernel
theorem dX9_run_4 : decode cX9_run 4 = .ok (.iload_n 1, 1) := by decide +kernel
theorem dX9_run_5 : decode cX9_run 5 = .ok (.ldc 163, 2) := by decide +kernel
theorem dX9_run_7 : decode cX9_run 7 = .ok (.if_icmp .le 6, 3) := by decide +kernel
theorem dX9_run_10 : decode cX9_run 10 = .ok (.bipush (-102), 2) := by decide +kernel
theorem dX9_run_12 : decode cX9_run 12 = .ok (.ireturn, 1) := by decide +kernel
theorem dX9_run_13 : decode cX9_run 13 = .ok (.aload_n 0, 1) := by decide +kernel
theorem dX9_run_14 : decode cX9_run 14 = .ok (.getfield 28, 3) := by decide +kernel
theorem dX9_run_17 : decode cX9_run 17 = .ok (.iload_n 1, 1) := by decide +kernel
theorem dX9_run_18 : decode cX9_run 18 = .ok (.aload_n 0, 1) := by decide +kernel
theorem dX9_run_19 : decode cX9_run 19 = .ok (.getfield 160, 3) := by decide +kernel
theorem dX9_run_22 : decode cX9_run 22 = .ok (.invokevirtual 164, 3) := by decide +kernel
theorem dX9_run_25 : decode cX9_run 25 = .ok (.ireturn, 1) := by decide +kernel
theorem dX9_mirror_0 : decode cX9_mirror 0 = .ok (.aload_n 0, 1) := by decide +kernel
theorem dX9_mirror_1 : decode cX9_mirror 1 = .ok (.getfield 46, 3) := by decide +kernel
theorem dX9_mirror_4 : decode cX9_mirror 4 = .ok (.iload_n 1, 1) := by decide +kernel
theorem dX9_mirror_5 : decode cX9_mirror 5 = .ok (.invokevirtual 146, 3) := by decide +kernel
theorem dX9_mirror_8 : decode cX9_mirror 8 = .ok (.ifCond .ne 6, 3) := by decide +kernel
theorem dX9_mirror_11 : decode cX9_mirror 11 = .ok (.bipush (-101), 2) := by decide +kernel
theorem dX9_mirror_13 : decode cX9_mirror 13 = .ok (.ireturn, 1) := by decide +kernel
theorem dX9_mirror_14 : decode cX9_mirror 14 = .ok (.iload_n 2, 1) := by decide +kernel
theorem dX9_mirror_15 : decode cX9_mirror 15 = .ok (.ifCond .lt 8, 3) := by decide +kernel
theorem dX9_mirror_18 : decode cX9_mirror 18 = .ok (.iload_n 2, 1) := by decide +kernel
theorem dX9_mirror_19 : decode cX9_mirror 19 = .ok (.iconst 5, 1) := by decide +kernel
theorem dX9_mirror_20 : decode cX9_mirror 20 = .ok (.if_icmp .lt 6, 3) := by decide +kernel
theorem dX9_mirror_23 : decode cX9_mirror 23 = .ok (.bipush (-102), 2) := by decide +kernel
theorem dX9_mirror_25 : decode cX9_mirror 25 = .ok (.ireturn, 1) := by decide +kernel
theorem dX9_mirror_26 : decode cX9_mirror 26 = .ok (.aload_n 0, 1) := by decide +kernel
theorem dX9_mirror_27 : decode cX9_mirror 27 = .ok (.getfield 46, 3) := by decide +kernel
theorem dX9_mirror_30 : decode cX9_mirror 30 = .ok (.iload_n 1, 1) := by decide +kernel
theorem dX9_mirror_31 : decode cX9_mirror 31 = .ok (.iload_n 2, 1) := by decide +kernel
theorem dX9_mirror_32 : decode cX9_mirror 32 = .ok (.invokevirtual 168, 3) := by decide +kernel
theorem dX9_mirror_35 : decode cX9_mirror 35 = .ok (.ireturn, 1) := by decide +kernel
theorem dX9_message_0 : decode cX9_message 0 = .ok (.aload_n 0, 1) := by decide +kernel
theorem dX9_message_1 : decode cX9_message 1 = .ok (.getfield 51, 3) := by decide +kernel
theorem dX9_message_4 : decode cX9_message 4 = .ok (.iload_n 1, 1) := by decide +kernel
theorem dX9_message_5 : decode cX9_message 5 = .ok (.invokevirtual 172, 3) := by decide +kernel
theorem dX9_message_8 : decode cX9_message 8 = .ok (.ifCond .ne 6, 3) := by decide +kernel
theorem dX9_message_11 : decode cX9_message 11 = .ok (.bipush (-101), 2) := by decide +kernel
theorem dX9_message_13 : decode cX9_message 13 = .ok (.ireturn, 1) := by decide +kernel
theorem dX9_message_14 : decode cX9_message 14 = .ok (.iload_n 2, 1) := by decide +kernel
theorem dX9_message_15 : decode cX9_message 15 = .ok (.ifCond .lt 8, 3) := by decide +kernel
theorem dX9_message_18 : decode cX9_message 18 = .ok (.iload_n 2, 1) := by decide +kernel
theorem dX9_message_19 : decode cX9_message 19 = .ok (.iconst 5, 1) := by decide +kernel
theorem dX9_message_20 : decode cX9_message 20 = .ok (.if_icmp .lt 6, 3) := by decide +kernel
theorem dX9_message_23 : decode cX9_message 23 = .ok (.bipush (-102), 2) := by decide +kernel
theorem dX9_message_25 : decode cX9_message 25 = .ok (.ireturn, 1) := by decide +kernel
theorem dX9_message_26 : decode cX9_message 26 = .ok (.aload_n 0, 1) := by decide +kernel
theorem dX9_message_27 : decode cX9_message 27 = .ok (.getfield 51, 3) := by decide +kernel
theorem dX9_message_30 : decode cX9_message 30 = .ok (.iload_n 1, 1) := by decide +kernel
theorem dX9_message_31 : decode cX9_message 31 = .ok (.iload_n 2, 1) := by decide +kernel
theorem dX9_message_32 : decode cX9_message 32 = .ok (.invokevirtual 175, 3) := by decide +kernel
theorem dX9_message_35 : decode cX9_message 35 = .ok (.ireturn, 1) := by decide +kernel
theorem dX9_told_0 : decode cX9_told 0 = .ok (.aload_n 0, 1) := by decide +kernel
theorem dX9_told_1 : decode cX9_told 1 = .ok (.getfield 41, 3) := by decide +kernel
theorem dX9_told_4 : decode cX9_told 4 = .ok (.iload_n 1, 1) := by decide +kernel
theorem dX9_told_5 : decode cX9_told 5 = .ok (.invokevirtual 176, 3) := by decide +kernel
theorem dX9_told_8 : decode cX9_told 8 = .ok (.astore_n 3, 1) := by decide +kernel
theorem dX9_told_9 : decode cX9_told 9 = .ok (.aload_n 3, 1) := by decide +kernel
theorem dX9_told_10 : decode cX9_told 10 = .ok (.ifnonnull 6, 3) := by decide +kernel
theorem dX9_told_13 : decode cX9_told 13 = .ok (.bipush (-101), 2) := by decide +kernel
theorem dX9_told_15 : decode cX9_told 15 = .ok (.ireturn, 1) := by decide +kernel
theorem dX9_told_16 : decode cX9_told 16 = .ok (.iload_n 2, 1) := by decide +kernel
theorem dX9_told_17 : decode cX9_told 17 = .ok (.ifCond .lt 8, 3) := by decide +kernel
theorem dX9_told_20 : decode cX9_told 20 = .ok (.iload_n 2, 1) := by decide +kernel
theorem dX9_told_21 : decode cX9_told 21 = .ok (.iconst 4, 1) := by decide +kernel
theorem dX9_told_22 : decode cX9_told 22 = .ok (.if_icmp .lt 6, 3) := by decide +kernel
theorem dX9_told_25 : decode cX9_told 25 = .ok (.bipush (-102), 2) := by decide +kernel
theorem dX9_told_27 : decode cX9_told 27 = .ok (.ireturn, 1) := by decide +kernel
theorem dX9_told_28 : decode cX9_told 28 = .ok (.aload_n 3, 1) := by decide +kernel
theorem dX9_told_29 : decode cX9_told 29 = .ok (.iload_n 2, 1) := by decide +kernel
theorem dX9_told_30 : decode cX9_told 30 = .ok (.invokevirtual 179, 3) := by decide +kernel
theorem dX9_told_33 : decode cX9_told 33 = .ok (.ireturn, 1) := by decide +kernel
theorem dX9_cell_0 : decode cX9_cell 0 = .ok (.iload_n 1, 1) := by decide +kernel
theorem dX9_cell_1 : decode cX9_cell 1 = .ok (.ifCond .lt 9, 3) := by decide +kernel
theorem dX9_cell_4 : decode cX9_cell 4 = .ok (.iload_n 1, 1) := by decide +kernel
theorem dX9_cell_5 : decode cX9_cell 5 = .ok (.bipush 6, 2) := by decide +kernel
theorem dX9_cell_7 : decode cX9_cell 7 = .ok (.if_icmp .lt 13, 3) := by decide +kernel
theorem dX9_cell_10 : decode cX9_cell 10 = .ok (.new 86, 3) := by decide +kernel
theorem dX9_cell_13 : decode cX9_cell 13 = .ok (.dup, 1) := by decide +kernel
theorem dX9_cell_14 : decode cX9_cell 14 = .ok (.ldc 183, 2) := by decide +kernel
theorem dX9_cell_16 : decode cX9_cell 16 = .ok (.invokespecial 90, 3) := by decide +kernel
theorem dX9_cell_19 : decode cX9_cell 19 = .ok (.athrow, 1) := by decide +kernel
theorem dX9_cell_20 : decode cX9_cell 20 = .ok (.aload_n 0, 1) := by decide +kernel
theorem dX9_cell_21 : decode cX9_cell 21 = .ok (.getfield 41, 3) := by decide +kernel
theorem dX9_cell_24 : decode cX9_cell 24 = .ok (.iload_n 1, 1) := by decide +kernel
theorem dX9_cell_25 : decode cX9_cell 25 = .ok (.invokevirtual 176, 3) := by decide +kernel
theorem dX9_cell_28 : decode cX9_cell 28 = .ok (.astore_n 2, 1) := by decide +kernel
theorem dX9_cell_29 : decode cX9_cell 29 = .ok (.aload_n 2, 1) := by decide +kernel
theorem dX9_cell_30 : decode cX9_cell 30 = .ok (.ifnonnull 13, 3) := by decide +kernel
theorem dX9_cell_33 : decode cX9_cell 33 = .ok (.new 185, 3) := by decide +kernel
theorem dX9_cell_36 : decode cX9_cell 36 = .ok (.dup, 1) := by decide +kernel
theorem dX9_cell_37 : decode cX9_cell 37 = .ok (.ldc 187, 2) := by decide +kernel
theorem dX9_cell_39 : decode cX9_cell 39 = .ok (.invokespecial 189, 3) := by decide +kernel
theorem dX9_cell_42 : decode cX9_cell 42 = .ok (.athrow, 1) := by decide +kernel
theorem dX9_cell_43 : decode cX9_cell 43 = .ok (.aload_n 2, 1) := by decide +kernel
theorem dX9_cell_44 : decode cX9_cell 44 = .ok (.getfield 190, 3) := by decide +kernel
theorem dX9_cell_47 : decode cX9_cell 47 = .ok (.ireturn, 1) := by decide +kernel
theorem dX9_resource_0 : decode cX9_resource 0 = .ok (.aload_n 0, 1) := by decide +kernel
theorem dX9_resource_1 : decode cX9_resource 1 = .ok (.getfield 56, 3) := by decide +kernel
theorem dX9_resource_4 : decode cX9_resource 4 = .ok (.iload_n 1, 1) := by decide +kernel
theorem dX9_resource_5 : decode cX9_resource 5 = .ok (.invokevirtual 194, 3) := by decide +kernel
theorem dX9_resource_8 : decode cX9_resource 8 = .ok (.astore_n 3, 1) := by decide +kernel
theorem dX9_resource_9 : decode cX9_resource 9 = .ok (.aload_n 3, 1) := by decide +kernel
theorem dX9_resource_10 : decode cX9_resource 10 = .ok (.ifnonnull 13, 3) := by decide +kernel
theorem dX9_resource_13 : decode cX9_resource 13 = .ok (.new 86, 3) := by decide +kernel
theorem dX9_resource_16 : decode cX9_resource 16 = .ok (.dup, 1) := by decide +kernel
theorem dX9_resource_17 : decode cX9_resource 17 = .ok (.ldc 199, 2) := by decide +kernel
theorem dX9_resource_19 : decode cX9_resource 19 = .ok (.invokespecial 90, 3) := by decide +kernel
theorem dX9_resource_22 : decode cX9_resource 22 = .ok (.athrow, 1) := by decide +kernel
theorem dX9_resource_23 : decode cX9_resource 23 = .ok (.aload_n 3, 1) := by decide +kernel
theorem dX9_resource_24 : decode cX9_resource 24 = .ok (.iload_n 2, 1) := by decide +kernel
theorem dX9_resource_25 : decode cX9_resource 25 = .ok (.invokevirtual 93, 3) := by decide +kernel
theorem dX9_resource_28 : decode cX9_resource 28 = .ok (.ifCond .ne 13, 3) := by decide +kernel
theorem dX9_resource_31 : decode cX9_resource 31 = .ok (.new 86, 3) := by decide +kernel
theorem dX9_resource_34 : decode cX9_resource 34 = .ok (.dup, 1) := by decide +kernel
theorem dX9_resource_35 : decode cX9_resource 35 = .ok (.ldc 96, 2) := by decide +kernel
theorem dX9_resource_37 : decode cX9_resource 37 = .ok (.invokespecial 90, 3) := by decide +kernel
theorem dX9_resource_40 : decode cX9_resource 40 = .ok (.athrow, 1) := by decide +kernel
theorem dX9_resource_41 : decode cX9_resource 41 = .ok (.aload_n 3, 1) := by decide +kernel
theorem dX9_resource_42 : decode cX9_resource 42 = .ok (.iload_n 2, 1) := by decide +kernel
theorem dX9_resource_43 : decode cX9_resource 43 = .ok (.invokevirtual 98, 3) := by decide +kernel
theorem dX9_resource_46 : decode cX9_resource 46 = .ok (.ireturn, 1) := by decide +kernel
theorem dX9_about_0 : decode cX9_about 0 = .ok (.iload_n 1, 1) := by decide +kernel
theorem dX9_about_1 : decode cX9_about 1 = .ok (.tableswitch 99 0 6 #[43, 51, 59, 67, 75, 83, 91], 43) := by decide +kernel
theorem dX9_about_44 : decode cX9_about 44 = .ok (.aload_n 0, 1) := by decide +kernel
theorem dX9_about_45 : decode cX9_about 45 = .ok (.getfield 46, 3) := by decide +kernel
theorem dX9_about_48 : decode cX9_about 48 = .ok (.invokevirtual 153, 3) := by decide +kernel
theorem dX9_about_51 : decode cX9_about 51 = .ok (.ireturn, 1) := by decide +kernel
theorem dX9_about_52 : decode cX9_about 52 = .ok (.aload_n 0, 1) := by decide +kernel
theorem dX9_about_53 : decode cX9_about 53 = .ok (.getfield 41, 3) := by decide +kernel
theorem dX9_about_56 : decode cX9_about 56 = .ok (.invokevirtual 201, 3) := by decide +kernel
theorem dX9_about_59 : decode cX9_about 59 = .ok (.ireturn, 1) := by decide +kernel
theorem dX9_about_60 : decode cX9_about 60 = .ok (.aload_n 0, 1) := by decide +kernel
theorem dX9_about_61 : decode cX9_about 61 = .ok (.getfield 51, 3) := by decide +kernel
theorem dX9_about_64 : decode cX9_about 64 = .ok (.invokevirtual 202, 3) := by decide +kernel
theorem dX9_about_67 : decode cX9_about 67 = .ok (.ireturn, 1) := by decide +kernel
theorem dX9_about_68 : decode cX9_about 68 = .ok (.aload_n 0, 1) := by decide +kernel
theorem dX9_about_69 : decode cX9_about 69 = .ok (.getfield 46, 3) := by decide +kernel
theorem dX9_about_72 : decode cX9_about 72 = .ok (.invokevirtual 154, 3) := by decide +kernel
theorem dX9_about_75 : decode cX9_about 75 = .ok (.ireturn, 1) := by decide +kernel
theorem dX9_about_76 : decode cX9_about 76 = .ok (.aload_n 0, 1) := by decide +kernel
theorem dX9_about_77 : decode cX9_about 77 = .ok (.getfield 28, 3) := by decide +kernel
theorem dX9_about_80 : decode cX9_about 80 = .ok (.getfield 203, 3) := by decide +kernel
theorem dX9_about_83 : decode cX9_about 83 = .ok (.ireturn, 1) := by decide +kernel
theorem dX9_about_84 : decode cX9_about 84 = .ok (.aload_n 0, 1) := by decide +kernel
theorem dX9_about_85 : decode cX9_about 85 = .ok (.getfield 28, 3) := by decide +kernel
theorem dX9_about_88 : decode cX9_about 88 = .ok (.getfield 206, 3) := by decide +kernel
theorem dX9_about_91 : decode cX9_about 91 = .ok (.ireturn, 1) := by decide +kernel
theorem dX9_about_92 : decode cX9_about 92 = .ok (.aload_n 0, 1) := by decide +kernel
theorem dX9_about_93 : decode cX9_about 93 = .ok (.getfield 28, 3) := by decide +kernel
theorem dX9_about_96 : decode cX9_about 96 = .ok (.getfield 209, 3) := by decide +kernel
theorem dX9_about_99 : decode cX9_about 99 = .ok (.ireturn, 1) := by decide +kernel
theorem dX9_about_100 : decode cX9_about 100 = .ok (.aload_n 0, 1) := by decide +kernel
theorem dX9_about_101 : decode cX9_about 101 = .ok (.iload_n 1, 1) := by decide +kernel
theorem dX9_about_102 : decode cX9_about 102 = .ok (.bipush 10, 2) := by decide +kernel
theorem dX9_about_104 : decode cX9_about 104 = .ok (.isub, 1) := by decide +kernel
theorem dX9_about_105 : decode cX9_about 105 = .ok (.invokevirtual 212, 3) := by decide +kernel
theorem dX9_about_108 : decode cX9_about 108 = .ok (.ireturn, 1) := by decide +kernel
theorem dX9_clear_0 : decode cX9_clear 0 = .ok (.aload_n 0, 1) := by decide +kernel
theorem dX9_clear_1 : decode cX9_clear 1 = .ok (.getfield 46, 3) := by decide +kernel
theorem dX9_clear_4 : decode cX9_clear 4 = .ok (.invokevirtual 153, 3) := by decide +kernel
theorem dX9_clear_7 : decode cX9_clear 7 = .ok (.istore_n 1, 1) := by decide +kernel
theorem dX9_clear_8 : decode cX9_clear 8 = .ok (.aload_n 0, 1) := by decide +kernel
theorem dX9_clear_9 : decode cX9_clear 9 = .ok (.getfield 46, 3) := by decide +kernel
theorem dX9_clear_12 : decode cX9_clear 12 = .ok (.iconst 0, 1) := by decide +kernel
theorem dX9_clear_13 : decode cX9_clear 13 = .ok (.invokevirtual 215, 3) := by decide +kernel
theorem dX9_clear_16 : decode cX9_clear 16 = .ok (.aload_n 0, 1) := by decide +kernel
theorem dX9_clear_17 : decode cX9_clear 17 = .ok (.getfield 41, 3) := by decide +kernel
theorem dX9_clear_20 : decode cX9_clear 20 = .ok (.invokevirtual 218, 3) := by decide +kernel
theorem dX9_clear_23 : decode cX9_clear 23 = .ok (.aload_n 0, 1) := by decide +kernel
theorem dX9_clear_24 : decode cX9_clear 24 = .ok (.getfield 51, 3) := by decide +kernel
theorem dX9_clear_27 : decode cX9_clear 27 = .ok (.invokevirtual 221, 3) := by decide +kernel
theorem dX9_clear_30 : decode cX9_clear 30 = .ok (.aload_n 0, 1) := by decide +kernel
theorem dX9_clear_31 : decode cX9_clear 31 = .ok (.getfield 56, 3) := by decide +kernel
theorem dX9_clear_34 : decode cX9_clear 34 = .ok (.invokevirtual 224, 3) := by decide +kernel
theorem dX9_clear_37 : decode cX9_clear 37 = .ok (.iload_n 1, 1) := by decide +kernel
theorem dX9_clear_38 : decode cX9_clear 38 = .ok (.ireturn, 1) := by decide +kernel
theorem dX9_fileAt_0 : decode cX9_fileAt 0 = .ok (.iload_n 1, 1) := by decide +kernel
theorem dX9_fileAt_1 : decode cX9_fileAt 1 = .ok (.ifCond .lt 21, 3) := by decide +kernel
theorem dX9_fileAt_4 : decode cX9_fileAt 4 = .ok (.iload_n 1, 1) := by decide +kernel
theorem dX9_fileAt_5 : decode cX9_fileAt 5 = .ok (.aload_n 0, 1) := by decide +kernel
theorem dX9_fileAt_6 : decode cX9_fileAt 6 = .ok (.getfield 20, 3) := by decide +kernel
theorem dX9_fileAt_9 : decode cX9_fileAt 9 = .ok (.arraylength, 1) := by decide +kernel
theorem dX9_fileAt_10 : decode cX9_fileAt 10 = .ok (.if_icmp .ge 12, 3) := by decide +kernel
theorem dX9_fileAt_13 : decode cX9_fileAt 13 = .ok (.aload_n 0, 1) := by decide +kernel
theorem dX9_fileAt_14 : decode cX9_fileAt 14 = .ok (.getfield 20, 3) := by decide +kernel
theorem dX9_fileAt_17 : decode cX9_fileAt 17 = .ok (.iload_n 1, 1) := by decide +kernel
theorem dX9_fileAt_18 : decode cX9_fileAt 18 = .ok (.aaload, 1) := by decide +kernel
theorem dX9_fileAt_19 : decode cX9_fileAt 19 = .ok (.goto 4, 3) := by decide +kernel
theorem dX9_fileAt_22 : decode cX9_fileAt 22 = .ok (.aconst_null, 1) := by decide +kernel
theorem dX9_fileAt_23 : decode cX9_fileAt 23 = .ok (.areturn, 1) := by decide +kernel
theorem dX9_bytesOfResource_0 : decode cX9_bytesOfResource 0 = .ok (.aload_n 0, 1) := by decide +kernel
theorem dX9_bytesOfResource_1 : decode cX9_bytesOfResource 1 = .ok (.getfield 56, 3) := by decide +kernel
theorem dX9_bytesOfResource_4 : decode cX9_bytesOfResource 4 = .ok (.iload_n 1, 1) := by decide +kernel
theorem dX9_bytesOfResource_5 : decode cX9_bytesOfResource 5 = .ok (.invokevirtual 194, 3) := by decide +kernel
theorem dX9_bytesOfResource_8 : decode cX9_bytesOfResource 8 = .ok (.astore_n 2, 1) := by decide +kernel
theorem dX9_bytesOfResource_9 : decode cX9_bytesOfResource 9 = .ok (.aload_n 2, 1) := by decide +kernel
theorem dX9_bytesOfResource_10 : decode cX9_bytesOfResource 10 = .ok (.ifnonnull 8, 3) := by decide +kernel
theorem dX9_bytesOfResource_13 : decode cX9_bytesOfResource 13 = .ok (.bipush (-102), 2) := by decide +kernel
theorem dX9_bytesOfResource_15 : decode cX9_bytesOfResource 15 = .ok (.goto 7, 3) := by decide +kernel
theorem dX9_bytesOfResource_18 : decode cX9_bytesOfResource 18 = .ok (.aload_n 2, 1) := by decide +kernel
theorem dX9_bytesOfResource_19 : decode cX9_bytesOfResource 19 = .ok (.invokevirtual 65, 3) := by decide +kernel
theorem dX9_bytesOfResource_22 : decode cX9_bytesOfResource 22 = .ok (.ireturn, 1) := by decide +kernel
theorem dX9_areMarks_0 : decode cX9_areMarks 0 = .ok (.iload_n 0, 1) := by decide +kernel
theorem dX9_areMarks_1 : decode cX9_areMarks 1 = .ok (.ifCond .lt 14, 3) := by decide +kernel
theorem dX9_areMarks_4 : decode cX9_areMarks 4 = .ok (.iload_n 0, 1) := by decide +kernel
theorem dX9_areMarks_5 : decode cX9_areMarks 5 = .ok (.sipush 256, 3) := by decide +kernel
theorem dX9_areMarks_8 : decode cX9_areMarks 8 = .ok (.if_icmp .ge 7, 3) := by decide +kernel
theorem dX9_areMarks_11 : decode cX9_areMarks 11 = .ok (.iconst 1, 1) := by decide +kernel
theorem dX9_areMarks_12 : decode cX9_areMarks 12 = .ok (.goto 4, 3) := by decide +kernel
theorem dX9_areMarks_15 : decode cX9_areMarks 15 = .ok (.iconst 0, 1) := by decide +kernel
theorem dX9_areMarks_16 : decode cX9_areMarks 16 = .ok (.ireturn, 1) := by decide +kernel
theorem dX9_oneIf_0 : decode cX9_oneIf 0 = .ok (.iload_n 0, 1) := by decide +kernel
theorem dX9_oneIf_1 : decode cX9_oneIf 1 = .ok (.ifCond .eq 7, 3) := by decide +kernel
theorem dX9_oneIf_4 : decode cX9_oneIf 4 = .ok (.iconst 1, 1) := by decide +kernel
theorem dX9_oneIf_5 : decode cX9_oneIf 5 = .ok (.goto 4, 3) := by decide +kernel
theorem dX9_oneIf_8 : decode cX9_oneIf 8 = .ok (.iconst 0, 1) := by decide +kernel
theorem dX9_oneIf_9 : decode cX9_oneIf 9 = .ok (.ireturn, 1) := by decide +kernel
