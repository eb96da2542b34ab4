theorem dM_init_0 : decode bM_init 0 = .ok (.aload_n 0, 1) := by decide +kernel
theorem dM_init_1 : decode bM_init 1 = .ok (.invokespecial 1, 3) := by decide +kernel
theorem dM_init_4 : decode bM_init 4 = .ok (.aload_n 0, 1) := by decide +kernel
theorem dM_init_5 : decode bM_init 5 = .ok (.bipush 8, 2) := by decide +kernel
theorem dM_init_7 : decode bM_init 7 = .ok (.newarray .int, 2) := by decide +kernel
theorem dM_init_9 : decode bM_init 9 = .ok (.putfield 7, 3) := by decide +kernel
theorem dM_init_12 : decode bM_init 12 = .ok (.aload_n 0, 1) := by decide +kernel
theorem dM_init_13 : decode bM_init 13 = .ok (.bipush 8, 2) := by decide +kernel
theorem dM_init_15 : decode bM_init 15 = .ok (.newarray .int, 2) := by decide +kernel
theorem dM_init_17 : decode bM_init 17 = .ok (.putfield 13, 3) := by decide +kernel
theorem dM_init_20 : decode bM_init 20 = .ok (.aload_n 0, 1) := by decide +kernel
theorem dM_init_21 : decode bM_init 21 = .ok (.bipush 32, 2) := by decide +kernel
theorem dM_init_23 : decode bM_init 23 = .ok (.newarray .int, 2) := by decide +kernel
theorem dM_init_25 : decode bM_init 25 = .ok (.putfield 16, 3) := by decide +kernel
theorem dM_init_28 : decode bM_init 28 = .ok (.aload_n 0, 1) := by decide +kernel
theorem dM_init_29 : decode bM_init 29 = .ok (.bipush 9, 2) := by decide +kernel
theorem dM_init_31 : decode bM_init 31 = .ok (.newarray .int, 2) := by decide +kernel
theorem dM_init_33 : decode bM_init 33 = .ok (.putfield 19, 3) := by decide +kernel
theorem dM_init_36 : decode bM_init 36 = .ok (.aload_n 0, 1) := by decide +kernel
theorem dM_init_37 : decode bM_init 37 = .ok (.sipush 3240, 3) := by decide +kernel
theorem dM_init_40 : decode bM_init 40 = .ok (.newarray .boolean, 2) := by decide +kernel
theorem dM_init_42 : decode bM_init 42 = .ok (.putfield 22, 3) := by decide +kernel
theorem dM_init_45 : decode bM_init 45 = .ok (.aload_n 0, 1) := by decide +kernel
theorem dM_init_46 : decode bM_init 46 = .ok (.sipush 486, 3) := by decide +kernel
theorem dM_init_49 : decode bM_init 49 = .ok (.newarray .int, 2) := by decide +kernel
theorem dM_init_51 : decode bM_init 51 = .ok (.putfield 26, 3) := by decide +kernel
theorem dM_init_54 : decode bM_init 54 = .ok (.aload_n 0, 1) := by decide +kernel
theorem dM_init_55 : decode bM_init 55 = .ok (.bipush 45, 2) := by decide +kernel
theorem dM_init_57 : decode bM_init 57 = .ok (.newarray .int, 2) := by decide +kernel
theorem dM_init_59 : decode bM_init 59 = .ok (.putfield 29, 3) := by decide +kernel
theorem dM_init_62 : decode bM_init 62 = .ok (.aload_n 0, 1) := by decide +kernel
theorem dM_init_63 : decode bM_init 63 = .ok (.sipush 8000, 3) := by decide +kernel
theorem dM_init_66 : decode bM_init 66 = .ok (.newarray .int, 2) := by decide +kernel
theorem dM_init_68 : decode bM_init 68 = .ok (.putfield 32, 3) := by decide +kernel
theorem dM_init_71 : decode bM_init 71 = .ok (.aload_n 0, 1) := by decide +kernel
theorem dM_init_72 : decode bM_init 72 = .ok (.sipush 1000, 3) := by decide +kernel
theorem dM_init_75 : decode bM_init 75 = .ok (.newarray .int, 2) := by decide +kernel
theorem dM_init_77 : decode bM_init 77 = .ok (.putfield 35, 3) := by decide +kernel
theorem dM_init_80 : decode bM_init 80 = .ok (.aload_n 0, 1) := by decide +kernel
theorem dM_init_81 : decode bM_init 81 = .ok (.iload_n 1, 1) := by decide +kernel
theorem dM_init_82 : decode bM_init 82 = .ok (.iconst 1, 1) := by decide +kernel
theorem dM_init_83 : decode bM_init 83 = .ok (.if_icmp .lt 13, 3) := by decide +kernel
theorem dM_init_86 : decode bM_init 86 = .ok (.iload_n 1, 1) := by decide +kernel
theorem dM_init_87 : decode bM_init 87 = .ok (.bipush 6, 2) := by decide +kernel
theorem dM_init_89 : decode bM_init 89 = .ok (.if_icmp .gt 7, 3) := by decide +kernel
theorem dM_init_92 : decode bM_init 92 = .ok (.iload_n 1, 1) := by decide +kernel
theorem dM_init_93 : decode bM_init 93 = .ok (.goto 4, 3) := by decide +kernel
theorem dM_init_96 : decode bM_init 96 = .ok (.iconst 4, 1) := by decide +kernel
theorem dM_init_97 : decode bM_init 97 = .ok (.putfield 38, 3) := by decide +kernel
theorem dM_init_100 : decode bM_init 100 = .ok (.aload_n 0, 1) := by decide +kernel
theorem dM_init_101 : decode bM_init 101 = .ok (.iload_n 2, 1) := by decide +kernel
theorem dM_init_102 : decode bM_init 102 = .ok (.iconst 1, 1) := by decide +kernel
theorem dM_init_103 : decode bM_init 103 = .ok (.if_icmp .lt 13, 3) := by decide +kernel
theorem dM_init_106 : decode bM_init 106 = .ok (.iload_n 2, 1) := by decide +kernel
theorem dM_init_107 : decode bM_init 107 = .ok (.bipush 6, 2) := by decide +kernel
theorem dM_init_109 : decode bM_init 109 = .ok (.if_icmp .gt 7, 3) := by decide +kernel
theorem dM_init_112 : decode bM_init 112 = .ok (.iload_n 2, 1) := by decide +kernel
theorem dM_init_113 : decode bM_init 113 = .ok (.goto 4, 3) := by decide +kernel
theorem dM_init_116 : decode bM_init 116 = .ok (.iconst 4, 1) := by decide +kernel
theorem dM_init_117 : decode bM_init 117 = .ok (.putfield 42, 3) := by decide +kernel
theorem dM_init_120 : decode bM_init 120 = .ok (.return_, 1) := by decide +kernel
theorem dM_thrown_0 : decode bM_thrown 0 = .ok (.aload_n 0, 1) := by decide +kernel
theorem dM_thrown_1 : decode bM_thrown 1 = .ok (.getfield 45, 3) := by decide +kernel
theorem dM_thrown_4 : decode bM_thrown 4 = .ok (.ireturn, 1) := by decide +kernel
theorem dM_addProd_0 : decode bM_addProd 0 = .ok (.aload_n 0, 1) := by decide +kernel
theorem dM_addProd_1 : decode bM_addProd 1 = .ok (.aload_n 0, 1) := by decide +kernel
theorem dM_addProd_2 : decode bM_addProd 2 = .ok (.getfield 62, 3) := by decide +kernel
theorem dM_addProd_5 : decode bM_addProd 5 = .ok (.ifCond .gt 12, 3) := by decide +kernel
theorem dM_addProd_8 : decode bM_addProd 8 = .ok (.aload_n 0, 1) := by decide +kernel
theorem dM_addProd_9 : decode bM_addProd 9 = .ok (.getfield 48, 3) := by decide +kernel
theorem dM_addProd_12 : decode bM_addProd 12 = .ok (.bipush 8, 2) := by decide +kernel
theorem dM_addProd_14 : decode bM_addProd 14 = .ok (.if_icmp .lt 7, 3) := by decide +kernel
theorem dM_addProd_17 : decode bM_addProd 17 = .ok (.iconst 1, 1) := by decide +kernel
theorem dM_addProd_18 : decode bM_addProd 18 = .ok (.goto 16, 3) := by decide +kernel
theorem dM_addProd_21 : decode bM_addProd 21 = .ok (.aload_n 0, 1) := by decide +kernel
theorem dM_addProd_22 : decode bM_addProd 22 = .ok (.iload_n 1, 1) := by decide +kernel
theorem dM_addProd_23 : decode bM_addProd 23 = .ok (.invokevirtual 65, 3) := by decide +kernel
theorem dM_addProd_26 : decode bM_addProd 26 = .ok (.ifCond .ne 7, 3) := by decide +kernel
theorem dM_addProd_29 : decode bM_addProd 29 = .ok (.iconst 2, 1) := by decide +kernel
theorem dM_addProd_30 : decode bM_addProd 30 = .ok (.goto 4, 3) := by decide +kernel
theorem dM_addProd_33 : decode bM_addProd 33 = .ok (.iconst 0, 1) := by decide +kernel
theorem dM_addProd_34 : decode bM_addProd 34 = .ok (.invokevirtual 69, 3) := by decide +kernel
theorem dM_addProd_37 : decode bM_addProd 37 = .ok (.ifCond .eq 5, 3) := by decide +kernel
theorem dM_addProd_40 : decode bM_addProd 40 = .ok (.iconst 0, 1) := by decide +kernel
theorem dM_addProd_41 : decode bM_addProd 41 = .ok (.ireturn, 1) := by decide +kernel
theorem dM_addProd_42 : decode bM_addProd 42 = .ok (.aload_n 0, 1) := by decide +kernel
theorem dM_addProd_43 : decode bM_addProd 43 = .ok (.getfield 7, 3) := by decide +kernel
theorem dM_addProd_46 : decode bM_addProd 46 = .ok (.aload_n 0, 1) := by decide +kernel
theorem dM_addProd_47 : decode bM_addProd 47 = .ok (.getfield 48, 3) := by decide +kernel
theorem dM_addProd_50 : decode bM_addProd 50 = .ok (.iload_n 1, 1) := by decide +kernel
theorem dM_addProd_51 : decode bM_addProd 51 = .ok (.iastore, 1) := by decide +kernel
theorem dM_addProd_52 : decode bM_addProd 52 = .ok (.aload_n 0, 1) := by decide +kernel
theorem dM_addProd_53 : decode bM_addProd 53 = .ok (.getfield 13, 3) := by decide +kernel
theorem dM_addProd_56 : decode bM_addProd 56 = .ok (.aload_n 0, 1) := by decide +kernel
theorem dM_addProd_57 : decode bM_addProd 57 = .ok (.getfield 48, 3) := by decide +kernel
theorem dM_addProd_60 : decode bM_addProd 60 = .ok (.iconst 0, 1) := by decide +kernel
theorem dM_addProd_61 : decode bM_addProd 61 = .ok (.iastore, 1) := by decide +kernel
theorem dM_addProd_62 : decode bM_addProd 62 = .ok (.aload_n 0, 1) := by decide +kernel
theorem dM_addProd_63 : decode bM_addProd 63 = .ok (.aload_n 0, 1) := by decide +kernel
theorem dM_addProd_64 : decode bM_addProd 64 = .ok (.getfield 48, 3) := by decide +kernel
theorem dM_addProd_67 : decode bM_addProd 67 = .ok (.iconst 1, 1) := by decide +kernel
theorem dM_addProd_68 : decode bM_addProd 68 = .ok (.iadd, 1) := by decide +kernel
theorem dM_addProd_69 : decode bM_addProd 69 = .ok (.putfield 48, 3) := by decide +kernel
theorem dM_addProd_72 : decode bM_addProd 72 = .ok (.aload_n 0, 1) := by decide +kernel
theorem dM_addProd_73 : decode bM_addProd 73 = .ok (.invokevirtual 72, 3) := by decide +kernel
theorem dM_addProd_76 : decode bM_addProd 76 = .ok (.aload_n 0, 1) := by decide +kernel
theorem dM_addProd_77 : decode bM_addProd 77 = .ok (.getfield 48, 3) := by decide +kernel
theorem dM_addProd_80 : decode bM_addProd 80 = .ok (.iconst 1, 1) := by decide +kernel
theorem dM_addProd_81 : decode bM_addProd 81 = .ok (.isub, 1) := by decide +kernel
theorem dM_addProd_82 : decode bM_addProd 82 = .ok (.ireturn, 1) := by decide +kernel
theorem dM_isVariable_0 : decode bM_isVariable 0 = .ok (.iload_n 1, 1) := by decide +kernel
theorem dM_isVariable_1 : decode bM_isVariable 1 = .ok (.ifCond .lt 15, 3) := by decide +kernel
theorem dM_isVariable_4 : decode bM_isVariable 4 = .ok (.iload_n 1, 1) := by decide +kernel
theorem dM_isVariable_5 : decode bM_isVariable 5 = .ok (.aload_n 0, 1) := by decide +kernel
theorem dM_isVariable_6 : decode bM_isVariable 6 = .ok (.getfield 38, 3) := by decide +kernel
theorem dM_isVariable_9 : decode bM_isVariable 9 = .ok (.if_icmp .ge 7, 3) := by decide +kernel
theorem dM_isVariable_12 : decode bM_isVariable 12 = .ok (.iconst 1, 1) := by decide +kernel
theorem dM_isVariable_13 : decode bM_isVariable 13 = .ok (.goto 4, 3) := by decide +kernel
theorem dM_isVariable_16 : decode bM_isVariable 16 = .ok (.iconst 0, 1) := by decide +kernel
theorem dM_isVariable_17 : decode bM_isVariable 17 = .ok (.ireturn, 1) := by decide +kernel
theorem dM_throwsBy_0 : decode bM_throwsBy 0 = .ok (.aload_n 0, 1) := by decide +kernel
theorem dM_throwsBy_1 : decode bM_throwsBy 1 = .ok (.iload_n 1, 1) := by decide +kernel
theorem dM_throwsBy_2 : decode bM_throwsBy 2 = .ok (.putfield 45, 3) := by decide +kernel
theorem dM_throwsBy_5 : decode bM_throwsBy 5 = .ok (.iload_n 1, 1) := by decide +kernel
theorem dM_throwsBy_6 : decode bM_throwsBy 6 = .ok (.ifCond .le 7, 3) := by decide +kernel
theorem dM_throwsBy_9 : decode bM_throwsBy 9 = .ok (.iconst 1, 1) := by decide +kernel
theorem dM_throwsBy_10 : decode bM_throwsBy 10 = .ok (.goto 4, 3) := by decide +kernel
theorem dM_throwsBy_13 : decode bM_throwsBy 13 = .ok (.iconst 0, 1) := by decide +kernel
theorem dM_throwsBy_14 : decode bM_throwsBy 14 = .ok (.ireturn, 1) := by decide +kernel
theorem dM_grammarChanged_0 : decode bM_grammarChanged 0 = .ok (.aload_n 0, 1) := by decide +kernel
theorem dM_grammarChanged_1 : decode bM_grammarChanged 1 = .ok (.iconst 0, 1) := by decide +kernel
theorem dM_grammarChanged_2 : decode bM_grammarChanged 2 = .ok (.putfield 51, 3) := by decide +kernel
theorem dM_grammarChanged_5 : decode bM_grammarChanged 5 = .ok (.aload_n 0, 1) := by decide +kernel
theorem dM_grammarChanged_6 : decode bM_grammarChanged 6 = .ok (.iconst 0, 1) := by decide +kernel
theorem dM_grammarChanged_7 : decode bM_grammarChanged 7 = .ok (.putfield 54, 3) := by decide +kernel
theorem dM_grammarChanged_10 : decode bM_grammarChanged 10 = .ok (.aload_n 0, 1) := by decide +kernel
theorem dM_grammarChanged_11 : decode bM_grammarChanged 11 = .ok (.iconst 0, 1) := by decide +kernel
theorem dM_grammarChanged_12 : decode bM_grammarChanged 12 = .ok (.invokevirtual 58, 3) := by decide +kernel
theorem dM_grammarChanged_15 : decode bM_grammarChanged 15 = .ok (.return_, 1) := by decide +kernel
theorem dM_fill_0 : decode bM_fill 0 = .ok (.iconst 0, 1) := by decide +kernel
theorem dM_fill_1 : decode bM_fill 1 = .ok (.istore_n 2, 1) := by decide +kernel
theorem dM_fill_2 : decode bM_fill 2 = .ok (.iload_n 2, 1) := by decide +kernel
theorem dM_fill_3 : decode bM_fill 3 = .ok (.sipush 360, 3) := by decide +kernel
theorem dM_fill_6 : decode bM_fill 6 = .ok (.if_icmp .ge 22, 3) := by decide +kernel
theorem dM_fill_9 : decode bM_fill 9 = .ok (.aload_n 0, 1) := by decide +kernel
theorem dM_fill_10 : decode bM_fill 10 = .ok (.getfield 22, 3) := by decide +kernel
theorem dM_fill_13 : decode bM_fill 13 = .ok (.sipush 360, 3) := by decide +kernel
theorem dM_fill_16 : decode bM_fill 16 = .ok (.iload_n 1, 1) := by decide +kernel
theorem dM_fill_17 : decode bM_fill 17 = .ok (.imul, 1) := by decide +kernel
theorem dM_fill_18 : decode bM_fill 18 = .ok (.iload_n 2, 1) := by decide +kernel
theorem dM_fill_19 : decode bM_fill 19 = .ok (.iadd, 1) := by decide +kernel
theorem dM_fill_20 : decode bM_fill 20 = .ok (.iconst 0, 1) := by decide +kernel
theorem dM_fill_21 : decode bM_fill 21 = .ok (.bastore, 1) := by decide +kernel
theorem dM_fill_22 : decode bM_fill 22 = .ok (.iinc 2 1, 3) := by decide +kernel
theorem dM_fill_25 : decode bM_fill 25 = .ok (.goto (-23), 3) := by decide +kernel
theorem dM_fill_28 : decode bM_fill 28 = .ok (.iconst 0, 1) := by decide +kernel
theorem dM_fill_29 : decode bM_fill 29 = .ok (.istore_n 2, 1) := by decide +kernel
theorem dM_fill_30 : decode bM_fill 30 = .ok (.iload_n 2, 1) := by decide +kernel
theorem dM_fill_31 : decode bM_fill 31 = .ok (.aload_n 0, 1) := by decide +kernel
theorem dM_fill_32 : decode bM_fill 32 = .ok (.getfield 48, 3) := by decide +kernel
theorem dM_fill_35 : decode bM_fill 35 = .ok (.if_icmp .ge 109, 3) := by decide +kernel
theorem dM_fill_38 : decode bM_fill 38 = .ok (.iload_n 1, 1) := by decide +kernel
theorem dM_fill_39 : decode bM_fill 39 = .ok (.ifCond .ne 26, 3) := by decide +kernel
theorem dM_fill_42 : decode bM_fill 42 = .ok (.aload_n 0, 1) := by decide +kernel
theorem dM_fill_43 : decode bM_fill 43 = .ok (.getfield 7, 3) := by decide +kernel
theorem dM_fill_46 : decode bM_fill 46 = .ok (.iload_n 2, 1) := by decide +kernel
theorem dM_fill_47 : decode bM_fill 47 = .ok (.iaload, 1) := by decide +kernel
theorem dM_fill_48 : decode bM_fill 48 = .ok (.aload_n 0, 1) := by decide +kernel
theorem dM_fill_49 : decode bM_fill 49 = .ok (.getfield 7, 3) := by decide +kernel
theorem dM_fill_52 : decode bM_fill 52 = .ok (.iconst 0, 1) := by decide +kernel
theorem dM_fill_53 : decode bM_fill 53 = .ok (.iaload, 1) := by decide +kernel
theorem dM_fill_54 : decode bM_fill 54 = .ok (.if_icmp .ne 11, 3) := by decide +kernel
theorem dM_fill_57 : decode bM_fill 57 = .ok (.aload_n 0, 1) := by decide +kernel
theorem dM_fill_58 : decode bM_fill 58 = .ok (.iconst 0, 1) := by decide +kernel
theorem dM_fill_59 : decode bM_fill 59 = .ok (.iload_n 2, 1) := by decide +kernel
theorem dM_fill_60 : decode bM_fill 60 = .ok (.iconst 0, 1) := by decide +kernel
theorem dM_fill_61 : decode bM_fill 61 = .ok (.iconst 0, 1) := by decide +kernel
theorem dM_fill_62 : decode bM_fill 62 = .ok (.invokevirtual 89, 3) := by decide +kernel
theorem dM_fill_65 : decode bM_fill 65 = .ok (.iconst 0, 1) := by decide +kernel
theorem dM_fill_66 : decode bM_fill 66 = .ok (.istore_n 3, 1) := by decide +kernel
theorem dM_fill_67 : decode bM_fill 67 = .ok (.iload_n 3, 1) := by decide +kernel
theorem dM_fill_68 : decode bM_fill 68 = .ok (.aload_n 0, 1) := by decide +kernel
theorem dM_fill_69 : decode bM_fill 69 = .ok (.getfield 13, 3) := by decide +kernel
theorem dM_fill_72 : decode bM_fill 72 = .ok (.iload_n 2, 1) := by decide +kernel
theorem dM_fill_73 : decode bM_fill 73 = .ok (.iaload, 1) := by decide +kernel
theorem dM_fill_74 : decode bM_fill 74 = .ok (.if_icmp .ge 64, 3) := by decide +kernel
theorem dM_fill_77 : decode bM_fill 77 = .ok (.iconst 0, 1) := by decide +kernel
theorem dM_fill_78 : decode bM_fill 78 = .ok (.istore 4, 2) := by decide +kernel
theorem dM_fill_80 : decode bM_fill 80 = .ok (.iload 4, 2) := by decide +kernel
theorem dM_fill_82 : decode bM_fill 82 = .ok (.iload_n 1, 1) := by decide +kernel
theorem dM_fill_83 : decode bM_fill 83 = .ok (.if_icmp .ge 49, 3) := by decide +kernel
theorem dM_fill_86 : decode bM_fill 86 = .ok (.aload_n 0, 1) := by decide +kernel
theorem dM_fill_87 : decode bM_fill 87 = .ok (.iload_n 2, 1) := by decide +kernel
theorem dM_fill_88 : decode bM_fill 88 = .ok (.iload_n 3, 1) := by decide +kernel
theorem dM_fill_89 : decode bM_fill 89 = .ok (.invokevirtual 85, 3) := by decide +kernel
theorem dM_fill_92 : decode bM_fill 92 = .ok (.aload_n 0, 1) := by decide +kernel
theorem dM_fill_93 : decode bM_fill 93 = .ok (.getfield 19, 3) := by decide +kernel
theorem dM_fill_96 : decode bM_fill 96 = .ok (.iload_n 1, 1) := by decide +kernel
theorem dM_fill_97 : decode bM_fill 97 = .ok (.iaload, 1) := by decide +kernel
theorem dM_fill_98 : decode bM_fill 98 = .ok (.if_icmp .ne 34, 3) := by decide +kernel
theorem dM_fill_101 : decode bM_fill 101 = .ok (.aload_n 0, 1) := by decide +kernel
theorem dM_fill_102 : decode bM_fill 102 = .ok (.iload_n 1, 1) := by decide +kernel
theorem dM_fill_103 : decode bM_fill 103 = .ok (.iconst 1, 1) := by decide +kernel
theorem dM_fill_104 : decode bM_fill 104 = .ok (.isub, 1) := by decide +kernel
theorem dM_fill_105 : decode bM_fill 105 = .ok (.iload_n 2, 1) := by decide +kernel
theorem dM_fill_106 : decode bM_fill 106 = .ok (.iload_n 3, 1) := by decide +kernel
theorem dM_fill_107 : decode bM_fill 107 = .ok (.iload 4, 2) := by decide +kernel
theorem dM_fill_109 : decode bM_fill 109 = .ok (.invokevirtual 93, 3) := by decide +kernel
theorem dM_fill_112 : decode bM_fill 112 = .ok (.ifCond .eq 14, 3) := by decide +kernel
theorem dM_fill_115 : decode bM_fill 115 = .ok (.aload_n 0, 1) := by decide +kernel
theorem dM_fill_116 : decode bM_fill 116 = .ok (.iload_n 1, 1) := by decide +kernel
theorem dM_fill_117 : decode bM_fill 117 = .ok (.iload_n 2, 1) := by decide +kernel
theorem dM_fill_118 : decode bM_fill 118 = .ok (.iload_n 3, 1) := by decide +kernel
theorem dM_fill_119 : decode bM_fill 119 = .ok (.iconst 1, 1) := by decide +kernel
theorem dM_fill_120 : decode bM_fill 120 = .ok (.iadd, 1) := by decide +kernel
theorem dM_fill_121 : decode bM_fill 121 = .ok (.iload 4, 2) := by decide +kernel
theorem dM_fill_123 : decode bM_fill 123 = .ok (.invokevirtual 89, 3) := by decide +kernel
theorem dM_fill_126 : decode bM_fill 126 = .ok (.iinc 4 1, 3) := by decide +kernel
theorem dM_fill_129 : decode bM_fill 129 = .ok (.goto (-49), 3) := by decide +kernel
theorem dM_fill_132 : decode bM_fill 132 = .ok (.iinc 3 1, 3) := by decide +kernel
theorem dM_fill_135 : decode bM_fill 135 = .ok (.goto (-68), 3) := by decide +kernel
theorem dM_fill_138 : decode bM_fill 138 = .ok (.iinc 2 1, 3) := by decide +kernel
theorem dM_fill_141 : decode bM_fill 141 = .ok (.goto (-111), 3) := by decide +kernel
theorem dM_fill_144 : decode bM_fill 144 = .ok (.aload_n 0, 1) := by decide +kernel
theorem dM_fill_145 : decode bM_fill 145 = .ok (.iconst 1, 1) := by decide +kernel
theorem dM_fill_146 : decode bM_fill 146 = .ok (.putfield 82, 3) := by decide +kernel
theorem dM_fill_149 : decode bM_fill 149 = .ok (.aload_n 0, 1) := by decide +kernel
theorem dM_fill_150 : decode bM_fill 150 = .ok (.getfield 82, 3) := by decide +kernel
theorem dM_fill_153 : decode bM_fill 153 = .ok (.ifCond .eq 60, 3) := by decide +kernel
theorem dM_fill_156 : decode bM_fill 156 = .ok (.aload_n 0, 1) := by decide +kernel
theorem dM_fill_157 : decode bM_fill 157 = .ok (.iconst 0, 1) := by decide +kernel
theorem dM_fill_158 : decode bM_fill 158 = .ok (.putfield 82, 3) := by decide +kernel
theorem dM_fill_161 : decode bM_fill 161 = .ok (.iconst 0, 1) := by decide +kernel
theorem dM_fill_162 : decode bM_fill 162 = .ok (.istore_n 2, 1) := by decide +kernel
theorem dM_fill_163 : decode bM_fill 163 = .ok (.iload_n 2, 1) := by decide +kernel
theorem dM_fill_164 : decode bM_fill 164 = .ok (.sipush 360, 3) := by decide +kernel
theorem dM_fill_167 : decode bM_fill 167 = .ok (.if_icmp .ge 43, 3) := by decide +kernel
theorem dM_fill_170 : decode bM_fill 170 = .ok (.aload_n 0, 1) := by decide +kernel
theorem dM_fill_171 : decode bM_fill 171 = .ok (.getfield 22, 3) := by decide +kernel
theorem dM_fill_174 : decode bM_fill 174 = .ok (.sipush 360, 3) := by decide +kernel
theorem dM_fill_177 : decode bM_fill 177 = .ok (.iload_n 1, 1) := by decide +kernel
theorem dM_fill_178 : decode bM_fill 178 = .ok (.imul, 1) := by decide +kernel
theorem dM_fill_179 : decode bM_fill 179 = .ok (.iload_n 2, 1) := by decide +kernel
theorem dM_fill_180 : decode bM_fill 180 = .ok (.iadd, 1) := by decide +kernel
theorem dM_fill_181 : decode bM_fill 181 = .ok (.baload, 1) := by decide +kernel
theorem dM_fill_182 : decode bM_fill 182 = .ok (.ifCond .eq 22, 3) := by decide +kernel
theorem dM_fill_185 : decode bM_fill 185 = .ok (.aload_n 0, 1) := by decide +kernel
theorem dM_fill_186 : decode bM_fill 186 = .ok (.iload_n 1, 1) := by decide +kernel
theorem dM_fill_187 : decode bM_fill 187 = .ok (.iload_n 2, 1) := by decide +kernel
theorem dM_fill_188 : decode bM_fill 188 = .ok (.bipush 45, 2) := by decide +kernel
theorem dM_fill_190 : decode bM_fill 190 = .ok (.idiv, 1) := by decide +kernel
theorem dM_fill_191 : decode bM_fill 191 = .ok (.iload_n 2, 1) := by decide +kernel
theorem dM_fill_192 : decode bM_fill 192 = .ok (.bipush 9, 2) := by decide +kernel
theorem dM_fill_194 : decode bM_fill 194 = .ok (.idiv, 1) := by decide +kernel
theorem dM_fill_195 : decode bM_fill 195 = .ok (.iconst 5, 1) := by decide +kernel
theorem dM_fill_196 : decode bM_fill 196 = .ok (.irem, 1) := by decide +kernel
theorem dM_fill_197 : decode bM_fill 197 = .ok (.iload_n 2, 1) := by decide +kernel
theorem dM_fill_198 : decode bM_fill 198 = .ok (.bipush 9, 2) := by decide +kernel
theorem dM_fill_200 : decode bM_fill 200 = .ok (.irem, 1) := by decide +kernel
theorem dM_fill_201 : decode bM_fill 201 = .ok (.invokevirtual 97, 3) := by decide +kernel
theorem dM_fill_204 : decode bM_fill 204 = .ok (.iinc 2 1, 3) := by decide +kernel
theorem dM_fill_207 : decode bM_fill 207 = .ok (.goto (-44), 3) := by decide +kernel
theorem dM_fill_210 : decode bM_fill 210 = .ok (.goto (-61), 3) := by decide +kernel
theorem dM_fill_213 : decode bM_fill 213 = .ok (.return_, 1) := by decide +kernel
theorem dM_put_0 : decode bM_put 0 = .ok (.sipush 360, 3) := by decide +kernel
theorem dM_put_3 : decode bM_put 3 = .ok (.iload_n 1, 1) := by decide +kernel
theorem dM_put_4 : decode bM_put 4 = .ok (.imul, 1) := by decide +kernel
theorem dM_put_5 : decode bM_put 5 = .ok (.bipush 45, 2) := by decide +kernel
theorem dM_put_7 : decode bM_put 7 = .ok (.iload_n 2, 1) := by decide +kernel
theorem dM_put_8 : decode bM_put 8 = .ok (.imul, 1) := by decide +kernel
theorem dM_put_9 : decode bM_put 9 = .ok (.iadd, 1) := by decide +kernel
theorem dM_put_10 : decode bM_put 10 = .ok (.bipush 9, 2) := by decide +kernel
theorem dM_put_12 : decode bM_put 12 = .ok (.iload_n 3, 1) := by decide +kernel
theorem dM_put_13 : decode bM_put 13 = .ok (.imul, 1) := by decide +kernel
theorem dM_put_14 : decode bM_put 14 = .ok (.iadd, 1) := by decide +kernel
theorem dM_put_15 : decode bM_put 15 = .ok (.iload 4, 2) := by decide +kernel
theorem dM_put_17 : decode bM_put 17 = .ok (.iadd, 1) := by decide +kernel
theorem dM_put_18 : decode bM_put 18 = .ok (.istore 5, 2) := by decide +kernel
theorem dM_put_20 : decode bM_put 20 = .ok (.aload_n 0, 1) := by decide +kernel
theorem dM_put_21 : decode bM_put 21 = .ok (.aload_n 0, 1) := by decide +kernel
theorem dM_put_22 : decode bM_put 22 = .ok (.getfield 82, 3) := by decide +kernel
theorem dM_put_25 : decode bM_put 25 = .ok (.ifCond .ne 13, 3) := by decide +kernel
theorem dM_put_28 : decode bM_put 28 = .ok (.aload_n 0, 1) := by decide +kernel
theorem dM_put_29 : decode bM_put 29 = .ok (.getfield 22, 3) := by decide +kernel
theorem dM_put_32 : decode bM_put 32 = .ok (.iload 5, 2) := by decide +kernel
theorem dM_put_34 : decode bM_put 34 = .ok (.baload, 1) := by decide +kernel
theorem dM_put_35 : decode bM_put 35 = .ok (.ifCond .ne 7, 3) := by decide +kernel
theorem dM_put_38 : decode bM_put 38 = .ok (.iconst 1, 1) := by decide +kernel
theorem dM_put_39 : decode bM_put 39 = .ok (.goto 4, 3) := by decide +kernel
theorem dM_put_42 : decode bM_put 42 = .ok (.iconst 0, 1) := by decide +kernel
theorem dM_put_43 : decode bM_put 43 = .ok (.putfield 82, 3) := by decide +kernel
theorem dM_put_46 : decode bM_put 46 = .ok (.aload_n 0, 1) := by decide +kernel
theorem dM_put_47 : decode bM_put 47 = .ok (.getfield 22, 3) := by decide +kernel
theorem dM_put_50 : decode bM_put 50 = .ok (.iload 5, 2) := by decide +kernel
theorem dM_put_52 : decode bM_put 52 = .ok (.iconst 1, 1) := by decide +kernel
theorem dM_put_53 : decode bM_put 53 = .ok (.bastore, 1) := by decide +kernel
theorem dM_put_54 : decode bM_put 54 = .ok (.return_, 1) := by decide +kernel
theorem dM_behind_0 : decode bM_behind 0 = .ok (.iload_n 2, 1) := by decide +kernel
theorem dM_behind_1 : decode bM_behind 1 = .ok (.aload_n 0, 1) := by decide +kernel
theorem dM_behind_2 : decode bM_behind 2 = .ok (.getfield 13, 3) := by decide +kernel
theorem dM_behind_5 : decode bM_behind 5 = .ok (.iload_n 1, 1) := by decide +kernel
theorem dM_behind_6 : decode bM_behind 6 = .ok (.iaload, 1) := by decide +kernel
theorem dM_behind_7 : decode bM_behind 7 = .ok (.if_icmp .ge 16, 3) := by decide +kernel
theorem dM_behind_10 : decode bM_behind 10 = .ok (.aload_n 0, 1) := by decide +kernel
theorem dM_behind_11 : decode bM_behind 11 = .ok (.getfield 16, 3) := by decide +kernel
theorem dM_behind_14 : decode bM_behind 14 = .ok (.iconst 4, 1) := by decide +kernel
theorem dM_behind_15 : decode bM_behind 15 = .ok (.iload_n 1, 1) := by decide +kernel
theorem dM_behind_16 : decode bM_behind 16 = .ok (.imul, 1) := by decide +kernel
theorem dM_behind_17 : decode bM_behind 17 = .ok (.iload_n 2, 1) := by decide +kernel
theorem dM_behind_18 : decode bM_behind 18 = .ok (.iadd, 1) := by decide +kernel
theorem dM_behind_19 : decode bM_behind 19 = .ok (.iaload, 1) := by decide +kernel
theorem dM_behind_20 : decode bM_behind 20 = .ok (.goto 4, 3) := by decide +kernel
theorem dM_behind_23 : decode bM_behind 23 = .ok (.iconst (-1), 1) := by decide +kernel
theorem dM_behind_24 : decode bM_behind 24 = .ok (.ireturn, 1) := by decide +kernel
theorem dM_isIn_0 : decode bM_isIn 0 = .ok (.aload_n 0, 1) := by decide +kernel
theorem dM_isIn_1 : decode bM_isIn 1 = .ok (.getfield 22, 3) := by decide +kernel
theorem dM_isIn_4 : decode bM_isIn 4 = .ok (.sipush 360, 3) := by decide +kernel
theorem dM_isIn_7 : decode bM_isIn 7 = .ok (.iload_n 1, 1) := by decide +kernel
theorem dM_isIn_8 : decode bM_isIn 8 = .ok (.imul, 1) := by decide +kernel
theorem dM_isIn_9 : decode bM_isIn 9 = .ok (.bipush 45, 2) := by decide +kernel
theorem dM_isIn_11 : decode bM_isIn 11 = .ok (.iload_n 2, 1) := by decide +kernel
theorem dM_isIn_12 : decode bM_isIn 12 = .ok (.imul, 1) := by decide +kernel
theorem dM_isIn_13 : decode bM_isIn 13 = .ok (.iadd, 1) := by decide +kernel
theorem dM_isIn_14 : decode bM_isIn 14 = .ok (.bipush 9, 2) := by decide +kernel
theorem dM_isIn_16 : decode bM_isIn 16 = .ok (.iload_n 3, 1) := by decide +kernel
theorem dM_isIn_17 : decode bM_isIn 17 = .ok (.imul, 1) := by decide +kernel
theorem dM_isIn_18 : decode bM_isIn 18 = .ok (.iadd, 1) := by decide +kernel
theorem dM_isIn_19 : decode bM_isIn 19 = .ok (.iload 4, 2) := by decide +kernel
theorem dM_isIn_21 : decode bM_isIn 21 = .ok (.iadd, 1) := by decide +kernel
theorem dM_isIn_22 : decode bM_isIn 22 = .ok (.baload, 1) := by decide +kernel
theorem dM_isIn_23 : decode bM_isIn 23 = .ok (.ireturn, 1) := by decide +kernel
theorem dM_bring_0 : decode bM_bring 0 = .ok (.aload_n 0, 1) := by decide +kernel
theorem dM_bring_1 : decode bM_bring 1 = .ok (.iload_n 2, 1) := by decide +kernel
theorem dM_bring_2 : decode bM_bring 2 = .ok (.iload_n 3, 1) := by decide +kernel
theorem dM_bring_3 : decode bM_bring 3 = .ok (.invokevirtual 85, 3) := by decide +kernel
theorem dM_bring_6 : decode bM_bring 6 = .ok (.istore 5, 2) := by decide +kernel
theorem dM_bring_8 : decode bM_bring 8 = .ok (.iload 5, 2) := by decide +kernel
theorem dM_bring_10 : decode bM_bring 10 = .ok (.ifCond .lt 49, 3) := by decide +kernel
theorem dM_bring_13 : decode bM_bring 13 = .ok (.iload 5, 2) := by decide +kernel
theorem dM_bring_15 : decode bM_bring 15 = .ok (.bipush 100, 2) := by decide +kernel
theorem dM_bring_17 : decode bM_bring 17 = .ok (.if_icmp .ge 42, 3) := by decide +kernel
theorem dM_bring_20 : decode bM_bring 20 = .ok (.iconst 0, 1) := by decide +kernel
theorem dM_bring_21 : decode bM_bring 21 = .ok (.istore 6, 2) := by decide +kernel
theorem dM_bring_23 : decode bM_bring 23 = .ok (.iload 6, 2) := by decide +kernel
theorem dM_bring_25 : decode bM_bring 25 = .ok (.aload_n 0, 1) := by decide +kernel
theorem dM_bring_26 : decode bM_bring 26 = .ok (.getfield 48, 3) := by decide +kernel
theorem dM_bring_29 : decode bM_bring 29 = .ok (.if_icmp .ge 30, 3) := by decide +kernel
theorem dM_bring_32 : decode bM_bring 32 = .ok (.aload_n 0, 1) := by decide +kernel
theorem dM_bring_33 : decode bM_bring 33 = .ok (.getfield 7, 3) := by decide +kernel
theorem dM_bring_36 : decode bM_bring 36 = .ok (.iload 6, 2) := by decide +kernel
theorem dM_bring_38 : decode bM_bring 38 = .ok (.iaload, 1) := by decide +kernel
theorem dM_bring_39 : decode bM_bring 39 = .ok (.iload 5, 2) := by decide +kernel
theorem dM_bring_41 : decode bM_bring 41 = .ok (.if_icmp .ne 12, 3) := by decide +kernel
theorem dM_bring_44 : decode bM_bring 44 = .ok (.aload_n 0, 1) := by decide +kernel
theorem dM_bring_45 : decode bM_bring 45 = .ok (.iload_n 1, 1) := by decide +kernel
theorem dM_bring_46 : decode bM_bring 46 = .ok (.iload 6, 2) := by decide +kernel
theorem dM_bring_48 : decode bM_bring 48 = .ok (.iconst 0, 1) := by decide +kernel
theorem dM_bring_49 : decode bM_bring 49 = .ok (.iload_n 1, 1) := by decide +kernel
theorem dM_bring_50 : decode bM_bring 50 = .ok (.invokevirtual 89, 3) := by decide +kernel
theorem dM_bring_53 : decode bM_bring 53 = .ok (.iinc 6 1, 3) := by decide +kernel
theorem dM_bring_56 : decode bM_bring 56 = .ok (.goto (-33), 3) := by decide +kernel
theorem dM_bring_59 : decode bM_bring 59 = .ok (.iload 5, 2) := by decide +kernel
theorem dM_bring_61 : decode bM_bring 61 = .ok (.ifCond .lt 4, 3) := by decide +kernel
theorem dM_bring_64 : decode bM_bring 64 = .ok (.return_, 1) := by decide +kernel
theorem dM_bring_65 : decode bM_bring 65 = .ok (.iconst 0, 1) := by decide +kernel
theorem dM_bring_66 : decode bM_bring 66 = .ok (.istore 6, 2) := by decide +kernel
theorem dM_bring_68 : decode bM_bring 68 = .ok (.iload 6, 2) := by decide +kernel
theorem dM_bring_70 : decode bM_bring 70 = .ok (.aload_n 0, 1) := by decide +kernel
theorem dM_bring_71 : decode bM_bring 71 = .ok (.getfield 48, 3) := by decide +kernel
theorem dM_bring_74 : decode bM_bring 74 = .ok (.if_icmp .ge 91, 3) := by decide +kernel
theorem dM_bring_77 : decode bM_bring 77 = .ok (.iconst 0, 1) := by decide +kernel
theorem dM_bring_78 : decode bM_bring 78 = .ok (.istore 7, 2) := by decide +kernel
theorem dM_bring_80 : decode bM_bring 80 = .ok (.iload 7, 2) := by decide +kernel
theorem dM_bring_82 : decode bM_bring 82 = .ok (.aload_n 0, 1) := by decide +kernel
theorem dM_bring_83 : decode bM_bring 83 = .ok (.getfield 13, 3) := by decide +kernel
theorem dM_bring_86 : decode bM_bring 86 = .ok (.iload 6, 2) := by decide +kernel
theorem dM_bring_88 : decode bM_bring 88 = .ok (.iaload, 1) := by decide +kernel
theorem dM_bring_89 : decode bM_bring 89 = .ok (.if_icmp .ge 70, 3) := by decide +kernel
theorem dM_bring_92 : decode bM_bring 92 = .ok (.iconst 0, 1) := by decide +kernel
theorem dM_bring_93 : decode bM_bring 93 = .ok (.istore 8, 2) := by decide +kernel
theorem dM_bring_95 : decode bM_bring 95 = .ok (.iload 8, 2) := by decide +kernel
theorem dM_bring_97 : decode bM_bring 97 = .ok (.iload 4, 2) := by decide +kernel
theorem dM_bring_99 : decode bM_bring 99 = .ok (.if_icmp .gt 54, 3) := by decide +kernel
theorem dM_bring_102 : decode bM_bring 102 = .ok (.aload_n 0, 1) := by decide +kernel
theorem dM_bring_103 : decode bM_bring 103 = .ok (.iload 6, 2) := by decide +kernel
theorem dM_bring_105 : decode bM_bring 105 = .ok (.iload 7, 2) := by decide +kernel
theorem dM_bring_107 : decode bM_bring 107 = .ok (.invokevirtual 85, 3) := by decide +kernel
theorem dM_bring_110 : decode bM_bring 110 = .ok (.aload_n 0, 1) := by decide +kernel
theorem dM_bring_111 : decode bM_bring 111 = .ok (.getfield 7, 3) := by decide +kernel
theorem dM_bring_114 : decode bM_bring 114 = .ok (.iload_n 2, 1) := by decide +kernel
theorem dM_bring_115 : decode bM_bring 115 = .ok (.iaload, 1) := by decide +kernel
theorem dM_bring_116 : decode bM_bring 116 = .ok (.if_icmp .ne 37, 3) := by decide +kernel
theorem dM_bring_119 : decode bM_bring 119 = .ok (.aload_n 0, 1) := by decide +kernel
theorem dM_bring_120 : decode bM_bring 120 = .ok (.iload 4, 2) := by decide +kernel
theorem dM_bring_122 : decode bM_bring 122 = .ok (.iload 6, 2) := by decide +kernel
theorem dM_bring_124 : decode bM_bring 124 = .ok (.iload 7, 2) := by decide +kernel
theorem dM_bring_126 : decode bM_bring 126 = .ok (.iload 8, 2) := by decide +kernel
theorem dM_bring_128 : decode bM_bring 128 = .ok (.invokevirtual 93, 3) := by decide +kernel
theorem dM_bring_131 : decode bM_bring 131 = .ok (.ifCond .eq 16, 3) := by decide +kernel
theorem dM_bring_134 : decode bM_bring 134 = .ok (.aload_n 0, 1) := by decide +kernel
theorem dM_bring_135 : decode bM_bring 135 = .ok (.iload_n 1, 1) := by decide +kernel
theorem dM_bring_136 : decode bM_bring 136 = .ok (.iload 6, 2) := by decide +kernel
theorem dM_bring_138 : decode bM_bring 138 = .ok (.iload 7, 2) := by decide +kernel
theorem dM_bring_140 : decode bM_bring 140 = .ok (.iconst 1, 1) := by decide +kernel
theorem dM_bring_141 : decode bM_bring 141 = .ok (.iadd, 1) := by decide +kernel
theorem dM_bring_142 : decode bM_bring 142 = .ok (.iload 8, 2) := by decide +kernel
theorem dM_bring_144 : decode bM_bring 144 = .ok (.invokevirtual 89, 3) := by decide +kernel
theorem dM_bring_147 : decode bM_bring 147 = .ok (.iinc 8 1, 3) := by decide +kernel
theorem dM_bring_150 : decode bM_bring 150 = .ok (.goto (-55), 3) := by decide +kernel
theorem dM_bring_153 : decode bM_bring 153 = .ok (.iinc 7 1, 3) := by decide +kernel
theorem dM_bring_156 : decode bM_bring 156 = .ok (.goto (-76), 3) := by decide +kernel
theorem dM_bring_159 : decode bM_bring 159 = .ok (.iinc 6 1, 3) := by decide +kernel
theorem dM_bring_162 : decode bM_bring 162 = .ok (.goto (-94), 3) := by decide +kernel
theorem dM_bring_165 : decode bM_bring 165 = .ok (.return_, 1) := by decide +kernel
theorem dM_addRhs_0 : decode bM_addRhs 0 = .ok (.aload_n 0, 1) := by decide +kernel
theorem dM_addRhs_1 : decode bM_addRhs 1 = .ok (.getfield 48, 3) := by decide +kernel
theorem dM_addRhs_4 : decode bM_addRhs 4 = .ok (.iconst 1, 1) := by decide +kernel
theorem dM_addRhs_5 : decode bM_addRhs 5 = .ok (.isub, 1) := by decide +kernel
theorem dM_addRhs_6 : decode bM_addRhs 6 = .ok (.istore_n 2, 1) := by decide +kernel
theorem dM_addRhs_7 : decode bM_addRhs 7 = .ok (.aload_n 0, 1) := by decide +kernel
theorem dM_addRhs_8 : decode bM_addRhs 8 = .ok (.getfield 62, 3) := by decide +kernel
theorem dM_addRhs_11 : decode bM_addRhs 11 = .ok (.ifCond .gt 26, 3) := by decide +kernel
theorem dM_addRhs_14 : decode bM_addRhs 14 = .ok (.iload_n 2, 1) := by decide +kernel
theorem dM_addRhs_15 : decode bM_addRhs 15 = .ok (.ifCond .lt 22, 3) := by decide +kernel
theorem dM_addRhs_18 : decode bM_addRhs 18 = .ok (.aload_n 0, 1) := by decide +kernel
theorem dM_addRhs_19 : decode bM_addRhs 19 = .ok (.getfield 13, 3) := by decide +kernel
theorem dM_addRhs_22 : decode bM_addRhs 22 = .ok (.iload_n 2, 1) := by decide +kernel
theorem dM_addRhs_23 : decode bM_addRhs 23 = .ok (.iaload, 1) := by decide +kernel
theorem dM_addRhs_24 : decode bM_addRhs 24 = .ok (.iconst 4, 1) := by decide +kernel
theorem dM_addRhs_25 : decode bM_addRhs 25 = .ok (.if_icmp .ge 12, 3) := by decide +kernel
theorem dM_addRhs_28 : decode bM_addRhs 28 = .ok (.aload_n 0, 1) := by decide +kernel
theorem dM_addRhs_29 : decode bM_addRhs 29 = .ok (.invokevirtual 75, 3) := by decide +kernel
theorem dM_addRhs_32 : decode bM_addRhs 32 = .ok (.bipush 16, 2) := by decide +kernel
theorem dM_addRhs_34 : decode bM_addRhs 34 = .ok (.if_icmp .lt 7, 3) := by decide +kernel
theorem dM_addRhs_37 : decode bM_addRhs 37 = .ok (.iconst 1, 1) := by decide +kernel
theorem dM_addRhs_38 : decode bM_addRhs 38 = .ok (.goto 4, 3) := by decide +kernel
theorem dM_addRhs_41 : decode bM_addRhs 41 = .ok (.iconst 0, 1) := by decide +kernel
theorem dM_addRhs_42 : decode bM_addRhs 42 = .ok (.istore_n 3, 1) := by decide +kernel
theorem dM_addRhs_43 : decode bM_addRhs 43 = .ok (.aload_n 0, 1) := by decide +kernel
theorem dM_addRhs_44 : decode bM_addRhs 44 = .ok (.iload_n 3, 1) := by decide +kernel
theorem dM_addRhs_45 : decode bM_addRhs 45 = .ok (.ifCond .eq 7, 3) := by decide +kernel
theorem dM_addRhs_48 : decode bM_addRhs 48 = .ok (.iconst 1, 1) := by decide +kernel
theorem dM_addRhs_49 : decode bM_addRhs 49 = .ok (.goto 24, 3) := by decide +kernel
theorem dM_addRhs_52 : decode bM_addRhs 52 = .ok (.aload_n 0, 1) := by decide +kernel
theorem dM_addRhs_53 : decode bM_addRhs 53 = .ok (.iload_n 1, 1) := by decide +kernel
theorem dM_addRhs_54 : decode bM_addRhs 54 = .ok (.invokevirtual 65, 3) := by decide +kernel
theorem dM_addRhs_57 : decode bM_addRhs 57 = .ok (.ifCond .ne 15, 3) := by decide +kernel
theorem dM_addRhs_60 : decode bM_addRhs 60 = .ok (.aload_n 0, 1) := by decide +kernel
theorem dM_addRhs_61 : decode bM_addRhs 61 = .ok (.iload_n 1, 1) := by decide +kernel
theorem dM_addRhs_62 : decode bM_addRhs 62 = .ok (.invokevirtual 79, 3) := by decide +kernel
theorem dM_addRhs_65 : decode bM_addRhs 65 = .ok (.ifCond .ne 7, 3) := by decide +kernel
theorem dM_addRhs_68 : decode bM_addRhs 68 = .ok (.iconst 2, 1) := by decide +kernel
theorem dM_addRhs_69 : decode bM_addRhs 69 = .ok (.goto 4, 3) := by decide +kernel
theorem dM_addRhs_72 : decode bM_addRhs 72 = .ok (.iconst 0, 1) := by decide +kernel
theorem dM_addRhs_73 : decode bM_addRhs 73 = .ok (.invokevirtual 69, 3) := by decide +kernel
theorem dM_addRhs_76 : decode bM_addRhs 76 = .ok (.ifCond .eq 5, 3) := by decide +kernel
theorem dM_addRhs_79 : decode bM_addRhs 79 = .ok (.iconst 0, 1) := by decide +kernel
theorem dM_addRhs_80 : decode bM_addRhs 80 = .ok (.ireturn, 1) := by decide +kernel
theorem dM_addRhs_81 : decode bM_addRhs 81 = .ok (.aload_n 0, 1) := by decide +kernel
theorem dM_addRhs_82 : decode bM_addRhs 82 = .ok (.getfield 16, 3) := by decide +kernel
theorem dM_addRhs_85 : decode bM_addRhs 85 = .ok (.iconst 4, 1) := by decide +kernel
theorem dM_addRhs_86 : decode bM_addRhs 86 = .ok (.iload_n 2, 1) := by decide +kernel
theorem dM_addRhs_87 : decode bM_addRhs 87 = .ok (.imul, 1) := by decide +kernel
theorem dM_addRhs_88 : decode bM_addRhs 88 = .ok (.aload_n 0, 1) := by decide +kernel
theorem dM_addRhs_89 : decode bM_addRhs 89 = .ok (.getfield 13, 3) := by decide +kernel
theorem dM_addRhs_92 : decode bM_addRhs 92 = .ok (.iload_n 2, 1) := by decide +kernel
theorem dM_addRhs_93 : decode bM_addRhs 93 = .ok (.iaload, 1) := by decide +kernel
theorem dM_addRhs_94 : decode bM_addRhs 94 = .ok (.iadd, 1) := by decide +kernel
theorem dM_addRhs_95 : decode bM_addRhs 95 = .ok (.iload_n 1, 1) := by decide +kernel
theorem dM_addRhs_96 : decode bM_addRhs 96 = .ok (.iastore, 1) := by decide +kernel
theorem dM_addRhs_97 : decode bM_addRhs 97 = .ok (.aload_n 0, 1) := by decide +kernel
theorem dM_addRhs_98 : decode bM_addRhs 98 = .ok (.getfield 13, 3) := by decide +kernel
theorem dM_addRhs_101 : decode bM_addRhs 101 = .ok (.iload_n 2, 1) := by decide +kernel
theorem dM_addRhs_102 : decode bM_addRhs 102 = .ok (.aload_n 0, 1) := by decide +kernel
theorem dM_addRhs_103 : decode bM_addRhs 103 = .ok (.getfield 13, 3) := by decide +kernel
theorem dM_addRhs_106 : decode bM_addRhs 106 = .ok (.iload_n 2, 1) := by decide +kernel
theorem dM_addRhs_107 : decode bM_addRhs 107 = .ok (.iaload, 1) := by decide +kernel
theorem dM_addRhs_108 : decode bM_addRhs 108 = .ok (.iconst 1, 1) := by decide +kernel
theorem dM_addRhs_109 : decode bM_addRhs 109 = .ok (.iadd, 1) := by decide +kernel
theorem dM_addRhs_110 : decode bM_addRhs 110 = .ok (.iastore, 1) := by decide +kernel
theorem dM_addRhs_111 : decode bM_addRhs 111 = .ok (.aload_n 0, 1) := by decide +kernel
theorem dM_addRhs_112 : decode bM_addRhs 112 = .ok (.invokevirtual 72, 3) := by decide +kernel
theorem dM_addRhs_115 : decode bM_addRhs 115 = .ok (.aload_n 0, 1) := by decide +kernel
theorem dM_addRhs_116 : decode bM_addRhs 116 = .ok (.getfield 13, 3) := by decide +kernel
theorem dM_addRhs_119 : decode bM_addRhs 119 = .ok (.iload_n 2, 1) := by decide +kernel
theorem dM_addRhs_120 : decode bM_addRhs 120 = .ok (.iaload, 1) := by decide +kernel
theorem dM_addRhs_121 : decode bM_addRhs 121 = .ok (.ireturn, 1) := by decide +kernel
theorem dM_allLengths_0 : decode bM_allLengths 0 = .ok (.iconst 0, 1) := by decide +kernel
theorem dM_allLengths_1 : decode bM_allLengths 1 = .ok (.istore_n 1, 1) := by decide +kernel
theorem dM_allLengths_2 : decode bM_allLengths 2 = .ok (.iconst 0, 1) := by decide +kernel
theorem dM_allLengths_3 : decode bM_allLengths 3 = .ok (.istore_n 2, 1) := by decide +kernel
theorem dM_allLengths_4 : decode bM_allLengths 4 = .ok (.iload_n 2, 1) := by decide +kernel
theorem dM_allLengths_5 : decode bM_allLengths 5 = .ok (.aload_n 0, 1) := by decide +kernel
theorem dM_allLengths_6 : decode bM_allLengths 6 = .ok (.getfield 48, 3) := by decide +kernel
theorem dM_allLengths_9 : decode bM_allLengths 9 = .ok (.if_icmp .ge 18, 3) := by decide +kernel
theorem dM_allLengths_12 : decode bM_allLengths 12 = .ok (.iload_n 1, 1) := by decide +kernel
theorem dM_allLengths_13 : decode bM_allLengths 13 = .ok (.aload_n 0, 1) := by decide +kernel
theorem dM_allLengths_14 : decode bM_allLengths 14 = .ok (.getfield 13, 3) := by decide +kernel
theorem dM_allLengths_17 : decode bM_allLengths 17 = .ok (.iload_n 2, 1) := by decide +kernel
theorem dM_allLengths_18 : decode bM_allLengths 18 = .ok (.iaload, 1) := by decide +kernel
theorem dM_allLengths_19 : decode bM_allLengths 19 = .ok (.iadd, 1) := by decide +kernel
theorem dM_allLengths_20 : decode bM_allLengths 20 = .ok (.istore_n 1, 1) := by decide +kernel
theorem dM_allLengths_21 : decode bM_allLengths 21 = .ok (.iinc 2 1, 3) := by decide +kernel
theorem dM_allLengths_24 : decode bM_allLengths 24 = .ok (.goto (-20), 3) := by decide +kernel
theorem dM_allLengths_27 : decode bM_allLengths 27 = .ok (.iload_n 1, 1) := by decide +kernel
theorem dM_allLengths_28 : decode bM_allLengths 28 = .ok (.ireturn, 1) := by decide +kernel
theorem dM_isToken_0 : decode bM_isToken 0 = .ok (.iload_n 1, 1) := by decide +kernel
theorem dM_isToken_1 : decode bM_isToken 1 = .ok (.bipush 100, 2) := by decide +kernel
theorem dM_isToken_3 : decode bM_isToken 3 = .ok (.if_icmp .lt 18, 3) := by decide +kernel
theorem dM_isToken_6 : decode bM_isToken 6 = .ok (.iload_n 1, 1) := by decide +kernel
theorem dM_isToken_7 : decode bM_isToken 7 = .ok (.bipush 100, 2) := by decide +kernel
theorem dM_isToken_9 : decode bM_isToken 9 = .ok (.aload_n 0, 1) := by decide +kernel
theorem dM_isToken_10 : decode bM_isToken 10 = .ok (.getfield 42, 3) := by decide +kernel
theorem dM_isToken_13 : decode bM_isToken 13 = .ok (.iadd, 1) := by decide +kernel
theorem dM_isToken_14 : decode bM_isToken 14 = .ok (.if_icmp .ge 7, 3) := by decide +kernel
theorem dM_isToken_17 : decode bM_isToken 17 = .ok (.iconst 1, 1) := by decide +kernel
theorem dM_isToken_18 : decode bM_isToken 18 = .ok (.goto 4, 3) := by decide +kernel
theorem dM_isToken_21 : decode bM_isToken 21 = .ok (.iconst 0, 1) := by decide +kernel
theorem dM_isToken_22 : decode bM_isToken 22 = .ok (.ireturn, 1) := by decide +kernel
theorem dM_feed_0 : decode bM_feed 0 = .ok (.aload_n 0, 1) := by decide +kernel
theorem dM_feed_1 : decode bM_feed 1 = .ok (.aload_n 0, 1) := by decide +kernel
theorem dM_feed_2 : decode bM_feed 2 = .ok (.getfield 48, 3) := by decide +kernel
theorem dM_feed_5 : decode bM_feed 5 = .ok (.ifCond .eq 12, 3) := by decide +kernel
theorem dM_feed_8 : decode bM_feed 8 = .ok (.aload_n 0, 1) := by decide +kernel
theorem dM_feed_9 : decode bM_feed 9 = .ok (.getfield 62, 3) := by decide +kernel
theorem dM_feed_12 : decode bM_feed 12 = .ok (.bipush 8, 2) := by decide +kernel
theorem dM_feed_14 : decode bM_feed 14 = .ok (.if_icmp .lt 7, 3) := by decide +kernel
theorem dM_feed_17 : decode bM_feed 17 = .ok (.iconst 1, 1) := by decide +kernel
theorem dM_feed_18 : decode bM_feed 18 = .ok (.goto 16, 3) := by decide +kernel
theorem dM_feed_21 : decode bM_feed 21 = .ok (.aload_n 0, 1) := by decide +kernel
theorem dM_feed_22 : decode bM_feed 22 = .ok (.iload_n 1, 1) := by decide +kernel
theorem dM_feed_23 : decode bM_feed 23 = .ok (.invokevirtual 79, 3) := by decide +kernel
theorem dM_feed_26 : decode bM_feed 26 = .ok (.ifCond .ne 7, 3) := by decide +kernel
theorem dM_feed_29 : decode bM_feed 29 = .ok (.iconst 2, 1) := by decide +kernel
theorem dM_feed_30 : decode bM_feed 30 = .ok (.goto 4, 3) := by decide +kernel
theorem dM_feed_33 : decode bM_feed 33 = .ok (.iconst 0, 1) := by decide +kernel
theorem dM_feed_34 : decode bM_feed 34 = .ok (.invokevirtual 69, 3) := by decide +kernel
theorem dM_feed_37 : decode bM_feed 37 = .ok (.ifCond .eq 5, 3) := by decide +kernel
theorem dM_feed_40 : decode bM_feed 40 = .ok (.iconst 0, 1) := by decide +kernel
theorem dM_feed_41 : decode bM_feed 41 = .ok (.ireturn, 1) := by decide +kernel
theorem dM_feed_42 : decode bM_feed 42 = .ok (.aload_n 0, 1) := by decide +kernel
theorem dM_feed_43 : decode bM_feed 43 = .ok (.aload_n 0, 1) := by decide +kernel
theorem dM_feed_44 : decode bM_feed 44 = .ok (.getfield 62, 3) := by decide +kernel
theorem dM_feed_47 : decode bM_feed 47 = .ok (.iconst 1, 1) := by decide +kernel
theorem dM_feed_48 : decode bM_feed 48 = .ok (.iadd, 1) := by decide +kernel
theorem dM_feed_49 : decode bM_feed 49 = .ok (.putfield 62, 3) := by decide +kernel
theorem dM_feed_52 : decode bM_feed 52 = .ok (.aload_n 0, 1) := by decide +kernel
theorem dM_feed_53 : decode bM_feed 53 = .ok (.getfield 19, 3) := by decide +kernel
theorem dM_feed_56 : decode bM_feed 56 = .ok (.aload_n 0, 1) := by decide +kernel
theorem dM_feed_57 : decode bM_feed 57 = .ok (.getfield 62, 3) := by decide +kernel
theorem dM_feed_60 : decode bM_feed 60 = .ok (.iload_n 1, 1) := by decide +kernel
theorem dM_feed_61 : decode bM_feed 61 = .ok (.iastore, 1) := by decide +kernel
theorem dM_feed_62 : decode bM_feed 62 = .ok (.aload_n 0, 1) := by decide +kernel
theorem dM_feed_63 : decode bM_feed 63 = .ok (.iconst 0, 1) := by decide +kernel
theorem dM_feed_64 : decode bM_feed 64 = .ok (.putfield 51, 3) := by decide +kernel
theorem dM_feed_67 : decode bM_feed 67 = .ok (.aload_n 0, 1) := by decide +kernel
theorem dM_feed_68 : decode bM_feed 68 = .ok (.iconst 0, 1) := by decide +kernel
theorem dM_feed_69 : decode bM_feed 69 = .ok (.putfield 54, 3) := by decide +kernel
theorem dM_feed_72 : decode bM_feed 72 = .ok (.aload_n 0, 1) := by decide +kernel
theorem dM_feed_73 : decode bM_feed 73 = .ok (.aload_n 0, 1) := by decide +kernel
theorem dM_feed_74 : decode bM_feed 74 = .ok (.getfield 62, 3) := by decide +kernel
theorem dM_feed_77 : decode bM_feed 77 = .ok (.invokevirtual 58, 3) := by decide +kernel
theorem dM_feed_80 : decode bM_feed 80 = .ok (.aload_n 0, 1) := by decide +kernel
theorem dM_feed_81 : decode bM_feed 81 = .ok (.aload_n 0, 1) := by decide +kernel
theorem dM_feed_82 : decode bM_feed 82 = .ok (.getfield 62, 3) := by decide +kernel
theorem dM_feed_85 : decode bM_feed 85 = .ok (.invokevirtual 100, 3) := by decide +kernel
theorem dM_feed_88 : decode bM_feed 88 = .ok (.ireturn, 1) := by decide +kernel
theorem dM_sizeOf_0 : decode bM_sizeOf 0 = .ok (.iconst 0, 1) := by decide +kernel
theorem dM_sizeOf_1 : decode bM_sizeOf 1 = .ok (.istore_n 2, 1) := by decide +kernel
theorem dM_sizeOf_2 : decode bM_sizeOf 2 = .ok (.iconst 0, 1) := by decide +kernel
theorem dM_sizeOf_3 : decode bM_sizeOf 3 = .ok (.istore_n 3, 1) := by decide +kernel
theorem dM_sizeOf_4 : decode bM_sizeOf 4 = .ok (.iload_n 3, 1) := by decide +kernel
theorem dM_sizeOf_5 : decode bM_sizeOf 5 = .ok (.sipush 360, 3) := by decide +kernel
theorem dM_sizeOf_8 : decode bM_sizeOf 8 = .ok (.if_icmp .ge 32, 3) := by decide +kernel
theorem dM_sizeOf_11 : decode bM_sizeOf 11 = .ok (.aload_n 0, 1) := by decide +kernel
theorem dM_sizeOf_12 : decode bM_sizeOf 12 = .ok (.getfield 22, 3) := by decide +kernel
theorem dM_sizeOf_15 : decode bM_sizeOf 15 = .ok (.sipush 360, 3) := by decide +kernel
theorem dM_sizeOf_18 : decode bM_sizeOf 18 = .ok (.iload_n 1, 1) := by decide +kernel
theorem dM_sizeOf_19 : decode bM_sizeOf 19 = .ok (.imul, 1) := by decide +kernel
theorem dM_sizeOf_20 : decode bM_sizeOf 20 = .ok (.iload_n 3, 1) := by decide +kernel
theorem dM_sizeOf_21 : decode bM_sizeOf 21 = .ok (.iadd, 1) := by decide +kernel
theorem dM_sizeOf_22 : decode bM_sizeOf 22 = .ok (.baload, 1) := by decide +kernel
theorem dM_sizeOf_23 : decode bM_sizeOf 23 = .ok (.ifCond .eq 9, 3) := by decide +kernel
theorem dM_sizeOf_26 : decode bM_sizeOf 26 = .ok (.iload_n 2, 1) := by decide +kernel
theorem dM_sizeOf_27 : decode bM_sizeOf 27 = .ok (.iconst 1, 1) := by decide +kernel
theorem dM_sizeOf_28 : decode bM_sizeOf 28 = .ok (.iadd, 1) := by decide +kernel
theorem dM_sizeOf_29 : decode bM_sizeOf 29 = .ok (.goto 4, 3) := by decide +kernel
theorem dM_sizeOf_32 : decode bM_sizeOf 32 = .ok (.iload_n 2, 1) := by decide +kernel
theorem dM_sizeOf_33 : decode bM_sizeOf 33 = .ok (.istore_n 2, 1) := by decide +kernel
theorem dM_sizeOf_34 : decode bM_sizeOf 34 = .ok (.iinc 3 1, 3) := by decide +kernel
theorem dM_sizeOf_37 : decode bM_sizeOf 37 = .ok (.goto (-33), 3) := by decide +kernel
theorem dM_sizeOf_40 : decode bM_sizeOf 40 = .ok (.iload_n 2, 1) := by decide +kernel
theorem dM_sizeOf_41 : decode bM_sizeOf 41 = .ok (.ireturn, 1) := by decide +kernel
theorem dM_alive_0 : decode bM_alive 0 = .ok (.aload_n 0, 1) := by decide +kernel
theorem dM_alive_1 : decode bM_alive 1 = .ok (.iconst 0, 1) := by decide +kernel
theorem dM_alive_2 : decode bM_alive 2 = .ok (.putfield 45, 3) := by decide +kernel
theorem dM_alive_5 : decode bM_alive 5 = .ok (.aload_n 0, 1) := by decide +kernel
theorem dM_alive_6 : decode bM_alive 6 = .ok (.aload_n 0, 1) := by decide +kernel
theorem dM_alive_7 : decode bM_alive 7 = .ok (.getfield 62, 3) := by decide +kernel
theorem dM_alive_10 : decode bM_alive 10 = .ok (.invokevirtual 100, 3) := by decide +kernel
theorem dM_alive_13 : decode bM_alive 13 = .ok (.ifCond .le 7, 3) := by decide +kernel
theorem dM_alive_16 : decode bM_alive 16 = .ok (.iconst 1, 1) := by decide +kernel
theorem dM_alive_17 : decode bM_alive 17 = .ok (.goto 4, 3) := by decide +kernel
theorem dM_alive_20 : decode bM_alive 20 = .ok (.iconst 0, 1) := by decide +kernel
theorem dM_alive_21 : decode bM_alive 21 = .ok (.ireturn, 1) := by decide +kernel
theorem dM_accepts_0 : decode bM_accepts 0 = .ok (.aload_n 0, 1) := by decide +kernel
theorem dM_accepts_1 : decode bM_accepts 1 = .ok (.iconst 0, 1) := by decide +kernel
theorem dM_accepts_2 : decode bM_accepts 2 = .ok (.putfield 45, 3) := by decide +kernel
theorem dM_accepts_5 : decode bM_accepts 5 = .ok (.aload_n 0, 1) := by decide +kernel
theorem dM_accepts_6 : decode bM_accepts 6 = .ok (.invokevirtual 104, 3) := by decide +kernel
theorem dM_accepts_9 : decode bM_accepts 9 = .ok (.ireturn, 1) := by decide +kernel
theorem dM_isAccepted_0 : decode bM_isAccepted 0 = .ok (.iconst 0, 1) := by decide +kernel
theorem dM_isAccepted_1 : decode bM_isAccepted 1 = .ok (.istore_n 1, 1) := by decide +kernel
theorem dM_isAccepted_2 : decode bM_isAccepted 2 = .ok (.iconst 0, 1) := by decide +kernel
theorem dM_isAccepted_3 : decode bM_isAccepted 3 = .ok (.istore_n 2, 1) := by decide +kernel
theorem dM_isAccepted_4 : decode bM_isAccepted 4 = .ok (.iload_n 2, 1) := by decide +kernel
theorem dM_isAccepted_5 : decode bM_isAccepted 5 = .ok (.aload_n 0, 1) := by decide +kernel
theorem dM_isAccepted_6 : decode bM_isAccepted 6 = .ok (.getfield 48, 3) := by decide +kernel
theorem dM_isAccepted_9 : decode bM_isAccepted 9 = .ok (.if_icmp .ge 53, 3) := by decide +kernel
theorem dM_isAccepted_12 : decode bM_isAccepted 12 = .ok (.iload_n 1, 1) := by decide +kernel
theorem dM_isAccepted_13 : decode bM_isAccepted 13 = .ok (.ifCond .ne 37, 3) := by decide +kernel
theorem dM_isAccepted_16 : decode bM_isAccepted 16 = .ok (.aload_n 0, 1) := by decide +kernel
theorem dM_isAccepted_17 : decode bM_isAccepted 17 = .ok (.getfield 7, 3) := by decide +kernel
theorem dM_isAccepted_20 : decode bM_isAccepted 20 = .ok (.iload_n 2, 1) := by decide +kernel
theorem dM_isAccepted_21 : decode bM_isAccepted 21 = .ok (.iaload, 1) := by decide +kernel
theorem dM_isAccepted_22 : decode bM_isAccepted 22 = .ok (.aload_n 0, 1) := by decide +kernel
theorem dM_isAccepted_23 : decode bM_isAccepted 23 = .ok (.getfield 7, 3) := by decide +kernel
theorem dM_isAccepted_26 : decode bM_isAccepted 26 = .ok (.iconst 0, 1) := by decide +kernel
theorem dM_isAccepted_27 : decode bM_isAccepted 27 = .ok (.iaload, 1) := by decide +kernel
theorem dM_isAccepted_28 : decode bM_isAccepted 28 = .ok (.if_icmp .ne 26, 3) := by decide +kernel
theorem dM_isAccepted_31 : decode bM_isAccepted 31 = .ok (.aload_n 0, 1) := by decide +kernel
theorem dM_isAccepted_32 : decode bM_isAccepted 32 = .ok (.aload_n 0, 1) := by decide +kernel
theorem dM_isAccepted_33 : decode bM_isAccepted 33 = .ok (.getfield 62, 3) := by decide +kernel
theorem dM_isAccepted_36 : decode bM_isAccepted 36 = .ok (.iload_n 2, 1) := by decide +kernel
theorem dM_isAccepted_37 : decode bM_isAccepted 37 = .ok (.aload_n 0, 1) := by decide +kernel
theorem dM_isAccepted_38 : decode bM_isAccepted 38 = .ok (.getfield 13, 3) := by decide +kernel
theorem dM_isAccepted_41 : decode bM_isAccepted 41 = .ok (.iload_n 2, 1) := by decide +kernel
theorem dM_isAccepted_42 : decode bM_isAccepted 42 = .ok (.iaload, 1) := by decide +kernel
theorem dM_isAccepted_43 : decode bM_isAccepted 43 = .ok (.iconst 0, 1) := by decide +kernel
theorem dM_isAccepted_44 : decode bM_isAccepted 44 = .ok (.invokevirtual 93, 3) := by decide +kernel
theorem dM_isAccepted_47 : decode bM_isAccepted 47 = .ok (.ifCond .eq 7, 3) := by decide +kernel
theorem dM_isAccepted_50 : decode bM_isAccepted 50 = .ok (.iconst 1, 1) := by decide +kernel
theorem dM_isAccepted_51 : decode bM_isAccepted 51 = .ok (.goto 4, 3) := by decide +kernel
theorem dM_isAccepted_54 : decode bM_isAccepted 54 = .ok (.iconst 0, 1) := by decide +kernel
theorem dM_isAccepted_55 : decode bM_isAccepted 55 = .ok (.istore_n 1, 1) := by decide +kernel
theorem dM_isAccepted_56 : decode bM_isAccepted 56 = .ok (.iinc 2 1, 3) := by decide +kernel
theorem dM_isAccepted_59 : decode bM_isAccepted 59 = .ok (.goto (-55), 3) := by decide +kernel
theorem dM_isAccepted_62 : decode bM_isAccepted 62 = .ok (.iload_n 1, 1) := by decide +kernel
theorem dM_isAccepted_63 : decode bM_isAccepted 63 = .ok (.ireturn, 1) := by decide +kernel
theorem dM_steps_0 : decode bM_steps 0 = .ok (.aload_n 0, 1) := by decide +kernel
theorem dM_steps_1 : decode bM_steps 1 = .ok (.iload_n 1, 1) := by decide +kernel
theorem dM_steps_2 : decode bM_steps 2 = .ok (.invokevirtual 65, 3) := by decide +kernel
theorem dM_steps_5 : decode bM_steps 5 = .ok (.ifCond .ne 11, 3) := by decide +kernel
theorem dM_steps_8 : decode bM_steps 8 = .ok (.aload_n 0, 1) := by decide +kernel
theorem dM_steps_9 : decode bM_steps 9 = .ok (.iload_n 1, 1) := by decide +kernel
theorem dM_steps_10 : decode bM_steps 10 = .ok (.invokevirtual 79, 3) := by decide +kernel
theorem dM_steps_13 : decode bM_steps 13 = .ok (.ifCond .eq 7, 3) := by decide +kernel
theorem dM_steps_16 : decode bM_steps 16 = .ok (.iconst 1, 1) := by decide +kernel
theorem dM_steps_17 : decode bM_steps 17 = .ok (.goto 4, 3) := by decide +kernel
theorem dM_steps_20 : decode bM_steps 20 = .ok (.iconst 0, 1) := by decide +kernel
theorem dM_steps_21 : decode bM_steps 21 = .ok (.istore 4, 2) := by decide +kernel
theorem dM_steps_23 : decode bM_steps 23 = .ok (.aload_n 0, 1) := by decide +kernel
theorem dM_steps_24 : decode bM_steps 24 = .ok (.iload 4, 2) := by decide +kernel
theorem dM_steps_26 : decode bM_steps 26 = .ok (.ifCond .ne 7, 3) := by decide +kernel
theorem dM_steps_29 : decode bM_steps 29 = .ok (.iconst 1, 1) := by decide +kernel
theorem dM_steps_30 : decode bM_steps 30 = .ok (.goto 25, 3) := by decide +kernel
theorem dM_steps_33 : decode bM_steps 33 = .ok (.iload_n 2, 1) := by decide +kernel
theorem dM_steps_34 : decode bM_steps 34 = .ok (.ifCond .lt 16, 3) := by decide +kernel
theorem dM_steps_37 : decode bM_steps 37 = .ok (.iload_n 3, 1) := by decide +kernel
theorem dM_steps_38 : decode bM_steps 38 = .ok (.iload_n 2, 1) := by decide +kernel
theorem dM_steps_39 : decode bM_steps 39 = .ok (.if_icmp .lt 11, 3) := by decide +kernel
theorem dM_steps_42 : decode bM_steps 42 = .ok (.iload_n 3, 1) := by decide +kernel
theorem dM_steps_43 : decode bM_steps 43 = .ok (.aload_n 0, 1) := by decide +kernel
theorem dM_steps_44 : decode bM_steps 44 = .ok (.getfield 62, 3) := by decide +kernel
theorem dM_steps_47 : decode bM_steps 47 = .ok (.if_icmp .le 7, 3) := by decide +kernel
theorem dM_steps_50 : decode bM_steps 50 = .ok (.iconst 2, 1) := by decide +kernel
theorem dM_steps_51 : decode bM_steps 51 = .ok (.goto 4, 3) := by decide +kernel
theorem dM_steps_54 : decode bM_steps 54 = .ok (.iconst 0, 1) := by decide +kernel
theorem dM_steps_55 : decode bM_steps 55 = .ok (.invokevirtual 69, 3) := by decide +kernel
theorem dM_steps_58 : decode bM_steps 58 = .ok (.ifCond .eq 5, 3) := by decide +kernel
theorem dM_steps_61 : decode bM_steps 61 = .ok (.iconst 0, 1) := by decide +kernel
theorem dM_steps_62 : decode bM_steps 62 = .ok (.ireturn, 1) := by decide +kernel
theorem dM_steps_63 : decode bM_steps 63 = .ok (.aload_n 0, 1) := by decide +kernel
theorem dM_steps_64 : decode bM_steps 64 = .ok (.invokevirtual 117, 3) := by decide +kernel
theorem dM_steps_67 : decode bM_steps 67 = .ok (.aload_n 0, 1) := by decide +kernel
theorem dM_steps_68 : decode bM_steps 68 = .ok (.iload_n 1, 1) := by decide +kernel
theorem dM_steps_69 : decode bM_steps 69 = .ok (.iload_n 2, 1) := by decide +kernel
theorem dM_steps_70 : decode bM_steps 70 = .ok (.iload_n 3, 1) := by decide +kernel
theorem dM_steps_71 : decode bM_steps 71 = .ok (.invokevirtual 109, 3) := by decide +kernel
theorem dM_steps_74 : decode bM_steps 74 = .ok (.istore 5, 2) := by decide +kernel
theorem dM_steps_76 : decode bM_steps 76 = .ok (.iload 5, 2) := by decide +kernel
theorem dM_steps_78 : decode bM_steps 78 = .ok (.ldc 108, 2) := by decide +kernel
theorem dM_steps_80 : decode bM_steps 80 = .ok (.if_icmp .lt 7, 3) := by decide +kernel
theorem dM_steps_83 : decode bM_steps 83 = .ok (.iconst (-1), 1) := by decide +kernel
theorem dM_steps_84 : decode bM_steps 84 = .ok (.goto 5, 3) := by decide +kernel
theorem dM_steps_87 : decode bM_steps 87 = .ok (.iload 5, 2) := by decide +kernel
theorem dM_steps_89 : decode bM_steps 89 = .ok (.ireturn, 1) := by decide +kernel
theorem dM_work_0 : decode bM_work 0 = .ok (.aload_n 0, 1) := by decide +kernel
theorem dM_work_1 : decode bM_work 1 = .ok (.getfield 54, 3) := by decide +kernel
theorem dM_work_4 : decode bM_work 4 = .ok (.ifCond .eq 4, 3) := by decide +kernel
theorem dM_work_7 : decode bM_work 7 = .ok (.return_, 1) := by decide +kernel
theorem dM_work_8 : decode bM_work 8 = .ok (.aload_n 0, 1) := by decide +kernel
theorem dM_work_9 : decode bM_work 9 = .ok (.iconst 1, 1) := by decide +kernel
theorem dM_work_10 : decode bM_work 10 = .ok (.putfield 54, 3) := by decide +kernel
theorem dM_work_13 : decode bM_work 13 = .ok (.iconst 0, 1) := by decide +kernel
theorem dM_work_14 : decode bM_work 14 = .ok (.istore_n 1, 1) := by decide +kernel
theorem dM_work_15 : decode bM_work 15 = .ok (.iload_n 1, 1) := by decide +kernel
theorem dM_work_16 : decode bM_work 16 = .ok (.sipush 486, 3) := by decide +kernel
theorem dM_work_19 : decode bM_work 19 = .ok (.if_icmp .ge 17, 3) := by decide +kernel
theorem dM_work_22 : decode bM_work 22 = .ok (.aload_n 0, 1) := by decide +kernel
theorem dM_work_23 : decode bM_work 23 = .ok (.getfield 26, 3) := by decide +kernel
theorem dM_work_26 : decode bM_work 26 = .ok (.iload_n 1, 1) := by decide +kernel
theorem dM_work_27 : decode bM_work 27 = .ok (.ldc 108, 2) := by decide +kernel
theorem dM_work_29 : decode bM_work 29 = .ok (.iastore, 1) := by decide +kernel
theorem dM_work_30 : decode bM_work 30 = .ok (.iinc 1 1, 3) := by decide +kernel
theorem dM_work_33 : decode bM_work 33 = .ok (.goto (-18), 3) := by decide +kernel
theorem dM_work_36 : decode bM_work 36 = .ok (.iconst 1, 1) := by decide +kernel
theorem dM_work_37 : decode bM_work 37 = .ok (.istore_n 1, 1) := by decide +kernel
theorem dM_work_38 : decode bM_work 38 = .ok (.iload_n 1, 1) := by decide +kernel
theorem dM_work_39 : decode bM_work 39 = .ok (.ifCond .eq 144, 3) := by decide +kernel
theorem dM_work_42 : decode bM_work 42 = .ok (.iconst 0, 1) := by decide +kernel
theorem dM_work_43 : decode bM_work 43 = .ok (.istore_n 1, 1) := by decide +kernel
theorem dM_work_44 : decode bM_work 44 = .ok (.iconst 0, 1) := by decide +kernel
theorem dM_work_45 : decode bM_work 45 = .ok (.istore_n 2, 1) := by decide +kernel
theorem dM_work_46 : decode bM_work 46 = .ok (.iload_n 2, 1) := by decide +kernel
theorem dM_work_47 : decode bM_work 47 = .ok (.aload_n 0, 1) := by decide +kernel
theorem dM_work_48 : decode bM_work 48 = .ok (.getfield 48, 3) := by decide +kernel
theorem dM_work_51 : decode bM_work 51 = .ok (.if_icmp .ge 129, 3) := by decide +kernel
theorem dM_work_54 : decode bM_work 54 = .ok (.iconst 0, 1) := by decide +kernel
theorem dM_work_55 : decode bM_work 55 = .ok (.istore_n 3, 1) := by decide +kernel
theorem dM_work_56 : decode bM_work 56 = .ok (.iload_n 3, 1) := by decide +kernel
theorem dM_work_57 : decode bM_work 57 = .ok (.aload_n 0, 1) := by decide +kernel
theorem dM_work_58 : decode bM_work 58 = .ok (.getfield 62, 3) := by decide +kernel
theorem dM_work_61 : decode bM_work 61 = .ok (.if_icmp .gt 113, 3) := by decide +kernel
theorem dM_work_64 : decode bM_work 64 = .ok (.aload_n 0, 1) := by decide +kernel
theorem dM_work_65 : decode bM_work 65 = .ok (.iload_n 2, 1) := by decide +kernel
theorem dM_work_66 : decode bM_work 66 = .ok (.iload_n 3, 1) := by decide +kernel
theorem dM_work_67 : decode bM_work 67 = .ok (.invokevirtual 113, 3) := by decide +kernel
theorem dM_work_70 : decode bM_work 70 = .ok (.iconst 0, 1) := by decide +kernel
theorem dM_work_71 : decode bM_work 71 = .ok (.istore 4, 2) := by decide +kernel
theorem dM_work_73 : decode bM_work 73 = .ok (.iload 4, 2) := by decide +kernel
theorem dM_work_75 : decode bM_work 75 = .ok (.iload_n 3, 1) := by decide +kernel
theorem dM_work_76 : decode bM_work 76 = .ok (.if_icmp .gt 92, 3) := by decide +kernel
theorem dM_work_79 : decode bM_work 79 = .ok (.bipush 81, 2) := by decide +kernel
theorem dM_work_81 : decode bM_work 81 = .ok (.aload_n 0, 1) := by decide +kernel
theorem dM_work_82 : decode bM_work 82 = .ok (.getfield 7, 3) := by decide +kernel
theorem dM_work_85 : decode bM_work 85 = .ok (.iload_n 2, 1) := by decide +kernel
theorem dM_work_86 : decode bM_work 86 = .ok (.iaload, 1) := by decide +kernel
theorem dM_work_87 : decode bM_work 87 = .ok (.imul, 1) := by decide +kernel
theorem dM_work_88 : decode bM_work 88 = .ok (.bipush 9, 2) := by decide +kernel
theorem dM_work_90 : decode bM_work 90 = .ok (.iload 4, 2) := by decide +kernel
theorem dM_work_92 : decode bM_work 92 = .ok (.imul, 1) := by decide +kernel
theorem dM_work_93 : decode bM_work 93 = .ok (.iadd, 1) := by decide +kernel
theorem dM_work_94 : decode bM_work 94 = .ok (.iload_n 3, 1) := by decide +kernel
theorem dM_work_95 : decode bM_work 95 = .ok (.iadd, 1) := by decide +kernel
theorem dM_work_96 : decode bM_work 96 = .ok (.istore 5, 2) := by decide +kernel
theorem dM_work_98 : decode bM_work 98 = .ok (.aload_n 0, 1) := by decide +kernel
theorem dM_work_99 : decode bM_work 99 = .ok (.getfield 29, 3) := by decide +kernel
theorem dM_work_102 : decode bM_work 102 = .ok (.iload 4, 2) := by decide +kernel
theorem dM_work_104 : decode bM_work 104 = .ok (.iaload, 1) := by decide +kernel
theorem dM_work_105 : decode bM_work 105 = .ok (.iconst 1, 1) := by decide +kernel
theorem dM_work_106 : decode bM_work 106 = .ok (.iadd, 1) := by decide +kernel
theorem dM_work_107 : decode bM_work 107 = .ok (.istore 6, 2) := by decide +kernel
theorem dM_work_109 : decode bM_work 109 = .ok (.iload_n 1, 1) := by decide +kernel
theorem dM_work_110 : decode bM_work 110 = .ok (.ifCond .ne 15, 3) := by decide +kernel
theorem dM_work_113 : decode bM_work 113 = .ok (.iload 6, 2) := by decide +kernel
theorem dM_work_115 : decode bM_work 115 = .ok (.aload_n 0, 1) := by decide +kernel
theorem dM_work_116 : decode bM_work 116 = .ok (.getfield 26, 3) := by decide +kernel
theorem dM_work_119 : decode bM_work 119 = .ok (.iload 5, 2) := by decide +kernel
theorem dM_work_121 : decode bM_work 121 = .ok (.iaload, 1) := by decide +kernel
theorem dM_work_122 : decode bM_work 122 = .ok (.if_icmp .ge 7, 3) := by decide +kernel
theorem dM_work_125 : decode bM_work 125 = .ok (.iconst 1, 1) := by decide +kernel
theorem dM_work_126 : decode bM_work 126 = .ok (.goto 4, 3) := by decide +kernel
theorem dM_work_129 : decode bM_work 129 = .ok (.iconst 0, 1) := by decide +kernel
theorem dM_work_130 : decode bM_work 130 = .ok (.istore_n 1, 1) := by decide +kernel
theorem dM_work_131 : decode bM_work 131 = .ok (.aload_n 0, 1) := by decide +kernel
theorem dM_work_132 : decode bM_work 132 = .ok (.getfield 26, 3) := by decide +kernel
theorem dM_work_135 : decode bM_work 135 = .ok (.iload 5, 2) := by decide +kernel
theorem dM_work_137 : decode bM_work 137 = .ok (.iload 6, 2) := by decide +kernel
theorem dM_work_139 : decode bM_work 139 = .ok (.aload_n 0, 1) := by decide +kernel
theorem dM_work_140 : decode bM_work 140 = .ok (.getfield 26, 3) := by decide +kernel
theorem dM_work_143 : decode bM_work 143 = .ok (.iload 5, 2) := by decide +kernel
theorem dM_work_145 : decode bM_work 145 = .ok (.iaload, 1) := by decide +kernel
theorem dM_work_146 : decode bM_work 146 = .ok (.if_icmp .ge 8, 3) := by decide +kernel
theorem dM_work_149 : decode bM_work 149 = .ok (.iload 6, 2) := by decide +kernel
theorem dM_work_151 : decode bM_work 151 = .ok (.goto 10, 3) := by decide +kernel
theorem dM_work_154 : decode bM_work 154 = .ok (.aload_n 0, 1) := by decide +kernel
theorem dM_work_155 : decode bM_work 155 = .ok (.getfield 26, 3) := by decide +kernel
theorem dM_work_158 : decode bM_work 158 = .ok (.iload 5, 2) := by decide +kernel
theorem dM_work_160 : decode bM_work 160 = .ok (.iaload, 1) := by decide +kernel
theorem dM_work_161 : decode bM_work 161 = .ok (.iastore, 1) := by decide +kernel
theorem dM_work_162 : decode bM_work 162 = .ok (.iinc 4 1, 3) := by decide +kernel
theorem dM_work_165 : decode bM_work 165 = .ok (.goto (-92), 3) := by decide +kernel
theorem dM_work_168 : decode bM_work 168 = .ok (.iinc 3 1, 3) := by decide +kernel
theorem dM_work_171 : decode bM_work 171 = .ok (.goto (-115), 3) := by decide +kernel
theorem dM_work_174 : decode bM_work 174 = .ok (.iinc 2 1, 3) := by decide +kernel
theorem dM_work_177 : decode bM_work 177 = .ok (.goto (-131), 3) := by decide +kernel
theorem dM_work_180 : decode bM_work 180 = .ok (.goto (-142), 3) := by decide +kernel
theorem dM_work_183 : decode bM_work 183 = .ok (.return_, 1) := by decide +kernel
theorem dM_row_0 : decode bM_row 0 = .ok (.iconst 0, 1) := by decide +kernel
theorem dM_row_1 : decode bM_row 1 = .ok (.istore_n 3, 1) := by decide +kernel
theorem dM_row_2 : decode bM_row 2 = .ok (.iload_n 3, 1) := by decide +kernel
theorem dM_row_3 : decode bM_row 3 = .ok (.iload_n 2, 1) := by decide +kernel
theorem dM_row_4 : decode bM_row 4 = .ok (.if_icmp .gt 36, 3) := by decide +kernel
theorem dM_row_7 : decode bM_row 7 = .ok (.aload_n 0, 1) := by decide +kernel
theorem dM_row_8 : decode bM_row 8 = .ok (.getfield 29, 3) := by decide +kernel
theorem dM_row_11 : decode bM_row 11 = .ok (.bipush 9, 2) := by decide +kernel
theorem dM_row_13 : decode bM_row 13 = .ok (.aload_n 0, 1) := by decide +kernel
theorem dM_row_14 : decode bM_row 14 = .ok (.getfield 13, 3) := by decide +kernel
theorem dM_row_17 : decode bM_row 17 = .ok (.iload_n 1, 1) := by decide +kernel
theorem dM_row_18 : decode bM_row 18 = .ok (.iaload, 1) := by decide +kernel
theorem dM_row_19 : decode bM_row 19 = .ok (.imul, 1) := by decide +kernel
theorem dM_row_20 : decode bM_row 20 = .ok (.iload_n 3, 1) := by decide +kernel
theorem dM_row_21 : decode bM_row 21 = .ok (.iadd, 1) := by decide +kernel
theorem dM_row_22 : decode bM_row 22 = .ok (.iload_n 3, 1) := by decide +kernel
theorem dM_row_23 : decode bM_row 23 = .ok (.iload_n 2, 1) := by decide +kernel
theorem dM_row_24 : decode bM_row 24 = .ok (.if_icmp .ne 7, 3) := by decide +kernel
theorem dM_row_27 : decode bM_row 27 = .ok (.iconst 0, 1) := by decide +kernel
theorem dM_row_28 : decode bM_row 28 = .ok (.goto 5, 3) := by decide +kernel
theorem dM_row_31 : decode bM_row 31 = .ok (.ldc 108, 2) := by decide +kernel
theorem dM_row_33 : decode bM_row 33 = .ok (.iastore, 1) := by decide +kernel
theorem dM_row_34 : decode bM_row 34 = .ok (.iinc 3 1, 3) := by decide +kernel
theorem dM_row_37 : decode bM_row 37 = .ok (.goto (-35), 3) := by decide +kernel
theorem dM_row_40 : decode bM_row 40 = .ok (.aload_n 0, 1) := by decide +kernel
theorem dM_row_41 : decode bM_row 41 = .ok (.getfield 13, 3) := by decide +kernel
theorem dM_row_44 : decode bM_row 44 = .ok (.iload_n 1, 1) := by decide +kernel
theorem dM_row_45 : decode bM_row 45 = .ok (.iaload, 1) := by decide +kernel
theorem dM_row_46 : decode bM_row 46 = .ok (.iconst 1, 1) := by decide +kernel
theorem dM_row_47 : decode bM_row 47 = .ok (.isub, 1) := by decide +kernel
theorem dM_row_48 : decode bM_row 48 = .ok (.istore_n 3, 1) := by decide +kernel
theorem dM_row_49 : decode bM_row 49 = .ok (.iload_n 3, 1) := by decide +kernel
theorem dM_row_50 : decode bM_row 50 = .ok (.ifCond .lt 109, 3) := by decide +kernel
theorem dM_row_53 : decode bM_row 53 = .ok (.iconst 0, 1) := by decide +kernel
theorem dM_row_54 : decode bM_row 54 = .ok (.istore 4, 2) := by decide +kernel
theorem dM_row_56 : decode bM_row 56 = .ok (.iload 4, 2) := by decide +kernel
theorem dM_row_58 : decode bM_row 58 = .ok (.iload_n 2, 1) := by decide +kernel
theorem dM_row_59 : decode bM_row 59 = .ok (.if_icmp .gt 94, 3) := by decide +kernel
theorem dM_row_62 : decode bM_row 62 = .ok (.ldc 108, 2) := by decide +kernel
theorem dM_row_64 : decode bM_row 64 = .ok (.istore 5, 2) := by decide +kernel
theorem dM_row_66 : decode bM_row 66 = .ok (.iload 4, 2) := by decide +kernel
theorem dM_row_68 : decode bM_row 68 = .ok (.istore 6, 2) := by decide +kernel
theorem dM_row_70 : decode bM_row 70 = .ok (.iload 6, 2) := by decide +kernel
theorem dM_row_72 : decode bM_row 72 = .ok (.iload_n 2, 1) := by decide +kernel
theorem dM_row_73 : decode bM_row 73 = .ok (.if_icmp .gt 60, 3) := by decide +kernel
theorem dM_row_76 : decode bM_row 76 = .ok (.aload_n 0, 1) := by decide +kernel
theorem dM_row_77 : decode bM_row 77 = .ok (.aload_n 0, 1) := by decide +kernel
theorem dM_row_78 : decode bM_row 78 = .ok (.getfield 16, 3) := by decide +kernel
theorem dM_row_81 : decode bM_row 81 = .ok (.iconst 4, 1) := by decide +kernel
theorem dM_row_82 : decode bM_row 82 = .ok (.iload_n 1, 1) := by decide +kernel
theorem dM_row_83 : decode bM_row 83 = .ok (.imul, 1) := by decide +kernel
theorem dM_row_84 : decode bM_row 84 = .ok (.iload_n 3, 1) := by decide +kernel
theorem dM_row_85 : decode bM_row 85 = .ok (.iadd, 1) := by decide +kernel
theorem dM_row_86 : decode bM_row 86 = .ok (.iaload, 1) := by decide +kernel
theorem dM_row_87 : decode bM_row 87 = .ok (.iload 4, 2) := by decide +kernel
theorem dM_row_89 : decode bM_row 89 = .ok (.iload 6, 2) := by decide +kernel
theorem dM_row_91 : decode bM_row 91 = .ok (.invokevirtual 109, 3) := by decide +kernel
theorem dM_row_94 : decode bM_row 94 = .ok (.aload_n 0, 1) := by decide +kernel
theorem dM_row_95 : decode bM_row 95 = .ok (.getfield 29, 3) := by decide +kernel
theorem dM_row_98 : decode bM_row 98 = .ok (.bipush 9, 2) := by decide +kernel
theorem dM_row_100 : decode bM_row 100 = .ok (.iload_n 3, 1) := by decide +kernel
theorem dM_row_101 : decode bM_row 101 = .ok (.iconst 1, 1) := by decide +kernel
theorem dM_row_102 : decode bM_row 102 = .ok (.iadd, 1) := by decide +kernel
theorem dM_row_103 : decode bM_row 103 = .ok (.imul, 1) := by decide +kernel
theorem dM_row_104 : decode bM_row 104 = .ok (.iload 6, 2) := by decide +kernel
theorem dM_row_106 : decode bM_row 106 = .ok (.iadd, 1) := by decide +kernel
theorem dM_row_107 : decode bM_row 107 = .ok (.iaload, 1) := by decide +kernel
theorem dM_row_108 : decode bM_row 108 = .ok (.iadd, 1) := by decide +kernel
theorem dM_row_109 : decode bM_row 109 = .ok (.istore 7, 2) := by decide +kernel
theorem dM_row_111 : decode bM_row 111 = .ok (.iload 7, 2) := by decide +kernel
theorem dM_row_113 : decode bM_row 113 = .ok (.iload 5, 2) := by decide +kernel
theorem dM_row_115 : decode bM_row 115 = .ok (.if_icmp .ge 8, 3) := by decide +kernel
theorem dM_row_118 : decode bM_row 118 = .ok (.iload 7, 2) := by decide +kernel
theorem dM_row_120 : decode bM_row 120 = .ok (.goto 5, 3) := by decide +kernel
theorem dM_row_123 : decode bM_row 123 = .ok (.iload 5, 2) := by decide +kernel
theorem dM_row_125 : decode bM_row 125 = .ok (.istore 5, 2) := by decide +kernel
theorem dM_row_127 : decode bM_row 127 = .ok (.iinc 6 1, 3) := by decide +kernel
theorem dM_row_130 : decode bM_row 130 = .ok (.goto (-60), 3) := by decide +kernel
theorem dM_row_133 : decode bM_row 133 = .ok (.aload_n 0, 1) := by decide +kernel
theorem dM_row_134 : decode bM_row 134 = .ok (.getfield 29, 3) := by decide +kernel
theorem dM_row_137 : decode bM_row 137 = .ok (.bipush 9, 2) := by decide +kernel
theorem dM_row_139 : decode bM_row 139 = .ok (.iload_n 3, 1) := by decide +kernel
theorem dM_row_140 : decode bM_row 140 = .ok (.imul, 1) := by decide +kernel
theorem dM_row_141 : decode bM_row 141 = .ok (.iload 4, 2) := by decide +kernel
theorem dM_row_143 : decode bM_row 143 = .ok (.iadd, 1) := by decide +kernel
theorem dM_row_144 : decode bM_row 144 = .ok (.iload 5, 2) := by decide +kernel
theorem dM_row_146 : decode bM_row 146 = .ok (.iastore, 1) := by decide +kernel
theorem dM_row_147 : decode bM_row 147 = .ok (.iinc 4 1, 3) := by decide +kernel
theorem dM_row_150 : decode bM_row 150 = .ok (.goto (-94), 3) := by decide +kernel
theorem dM_row_153 : decode bM_row 153 = .ok (.iinc 3 (-1), 3) := by decide +kernel
theorem dM_row_156 : decode bM_row 156 = .ok (.goto (-107), 3) := by decide +kernel
theorem dM_row_159 : decode bM_row 159 = .ok (.return_, 1) := by decide +kernel
theorem dM_stepsOf_0 : decode bM_stepsOf 0 = .ok (.iload_n 1, 1) := by decide +kernel
theorem dM_stepsOf_1 : decode bM_stepsOf 1 = .ok (.bipush 100, 2) := by decide +kernel
theorem dM_stepsOf_3 : decode bM_stepsOf 3 = .ok (.if_icmp .lt 27, 3) := by decide +kernel
theorem dM_stepsOf_6 : decode bM_stepsOf 6 = .ok (.iload_n 3, 1) := by decide +kernel
theorem dM_stepsOf_7 : decode bM_stepsOf 7 = .ok (.iload_n 2, 1) := by decide +kernel
theorem dM_stepsOf_8 : decode bM_stepsOf 8 = .ok (.iconst 1, 1) := by decide +kernel
theorem dM_stepsOf_9 : decode bM_stepsOf 9 = .ok (.iadd, 1) := by decide +kernel
theorem dM_stepsOf_10 : decode bM_stepsOf 10 = .ok (.if_icmp .ne 17, 3) := by decide +kernel
theorem dM_stepsOf_13 : decode bM_stepsOf 13 = .ok (.aload_n 0, 1) := by decide +kernel
theorem dM_stepsOf_14 : decode bM_stepsOf 14 = .ok (.getfield 19, 3) := by decide +kernel
theorem dM_stepsOf_17 : decode bM_stepsOf 17 = .ok (.iload_n 3, 1) := by decide +kernel
theorem dM_stepsOf_18 : decode bM_stepsOf 18 = .ok (.iaload, 1) := by decide +kernel
theorem dM_stepsOf_19 : decode bM_stepsOf 19 = .ok (.iload_n 1, 1) := by decide +kernel
theorem dM_stepsOf_20 : decode bM_stepsOf 20 = .ok (.if_icmp .ne 7, 3) := by decide +kernel
theorem dM_stepsOf_23 : decode bM_stepsOf 23 = .ok (.iconst 0, 1) := by decide +kernel
theorem dM_stepsOf_24 : decode bM_stepsOf 24 = .ok (.goto 5, 3) := by decide +kernel
theorem dM_stepsOf_27 : decode bM_stepsOf 27 = .ok (.ldc 108, 2) := by decide +kernel
theorem dM_stepsOf_29 : decode bM_stepsOf 29 = .ok (.ireturn, 1) := by decide +kernel
theorem dM_stepsOf_30 : decode bM_stepsOf 30 = .ok (.aload_n 0, 1) := by decide +kernel
theorem dM_stepsOf_31 : decode bM_stepsOf 31 = .ok (.getfield 26, 3) := by decide +kernel
theorem dM_stepsOf_34 : decode bM_stepsOf 34 = .ok (.bipush 81, 2) := by decide +kernel
theorem dM_stepsOf_36 : decode bM_stepsOf 36 = .ok (.iload_n 1, 1) := by decide +kernel
theorem dM_stepsOf_37 : decode bM_stepsOf 37 = .ok (.imul, 1) := by decide +kernel
theorem dM_stepsOf_38 : decode bM_stepsOf 38 = .ok (.bipush 9, 2) := by decide +kernel
theorem dM_stepsOf_40 : decode bM_stepsOf 40 = .ok (.iload_n 2, 1) := by decide +kernel
theorem dM_stepsOf_41 : decode bM_stepsOf 41 = .ok (.imul, 1) := by decide +kernel
theorem dM_stepsOf_42 : decode bM_stepsOf 42 = .ok (.iadd, 1) := by decide +kernel
theorem dM_stepsOf_43 : decode bM_stepsOf 43 = .ok (.iload_n 3, 1) := by decide +kernel
theorem dM_stepsOf_44 : decode bM_stepsOf 44 = .ok (.iadd, 1) := by decide +kernel
theorem dM_stepsOf_45 : decode bM_stepsOf 45 = .ok (.iaload, 1) := by decide +kernel
theorem dM_stepsOf_46 : decode bM_stepsOf 46 = .ok (.ireturn, 1) := by decide +kernel
theorem dM_nullable_0 : decode bM_nullable 0 = .ok (.aload_n 0, 1) := by decide +kernel
theorem dM_nullable_1 : decode bM_nullable 1 = .ok (.aload_n 0, 1) := by decide +kernel
theorem dM_nullable_2 : decode bM_nullable 2 = .ok (.iload_n 1, 1) := by decide +kernel
theorem dM_nullable_3 : decode bM_nullable 3 = .ok (.invokevirtual 65, 3) := by decide +kernel
theorem dM_nullable_6 : decode bM_nullable 6 = .ok (.ifCond .eq 7, 3) := by decide +kernel
theorem dM_nullable_9 : decode bM_nullable 9 = .ok (.iconst 0, 1) := by decide +kernel
theorem dM_nullable_10 : decode bM_nullable 10 = .ok (.goto 4, 3) := by decide +kernel
theorem dM_nullable_13 : decode bM_nullable 13 = .ok (.iconst 1, 1) := by decide +kernel
theorem dM_nullable_14 : decode bM_nullable 14 = .ok (.invokevirtual 69, 3) := by decide +kernel
theorem dM_nullable_17 : decode bM_nullable 17 = .ok (.ifCond .eq 5, 3) := by decide +kernel
theorem dM_nullable_20 : decode bM_nullable 20 = .ok (.iconst 0, 1) := by decide +kernel
theorem dM_nullable_21 : decode bM_nullable 21 = .ok (.ireturn, 1) := by decide +kernel
theorem dM_nullable_22 : decode bM_nullable 22 = .ok (.aload_n 0, 1) := by decide +kernel
theorem dM_nullable_23 : decode bM_nullable 23 = .ok (.invokevirtual 117, 3) := by decide +kernel
theorem dM_nullable_26 : decode bM_nullable 26 = .ok (.aload_n 0, 1) := by decide +kernel
theorem dM_nullable_27 : decode bM_nullable 27 = .ok (.iload_n 1, 1) := by decide +kernel
theorem dM_nullable_28 : decode bM_nullable 28 = .ok (.iconst 0, 1) := by decide +kernel
theorem dM_nullable_29 : decode bM_nullable 29 = .ok (.iconst 0, 1) := by decide +kernel
theorem dM_nullable_30 : decode bM_nullable 30 = .ok (.invokevirtual 109, 3) := by decide +kernel
theorem dM_nullable_33 : decode bM_nullable 33 = .ok (.ldc 108, 2) := by decide +kernel
theorem dM_nullable_35 : decode bM_nullable 35 = .ok (.if_icmp .ge 7, 3) := by decide +kernel
theorem dM_nullable_38 : decode bM_nullable 38 = .ok (.iconst 1, 1) := by decide +kernel
theorem dM_nullable_39 : decode bM_nullable 39 = .ok (.goto 4, 3) := by decide +kernel
theorem dM_nullable_42 : decode bM_nullable 42 = .ok (.iconst 0, 1) := by decide +kernel
theorem dM_nullable_43 : decode bM_nullable 43 = .ok (.ireturn, 1) := by decide +kernel
theorem dM_extract_0 : decode bM_extract 0 = .ok (.aload_n 0, 1) := by decide +kernel
theorem dM_extract_1 : decode bM_extract 1 = .ok (.aload_n 0, 1) := by decide +kernel
theorem dM_extract_2 : decode bM_extract 2 = .ok (.invokevirtual 104, 3) := by decide +kernel
theorem dM_extract_5 : decode bM_extract 5 = .ok (.ifCond .eq 7, 3) := by decide +kernel
theorem dM_extract_8 : decode bM_extract 8 = .ok (.iconst 0, 1) := by decide +kernel
theorem dM_extract_9 : decode bM_extract 9 = .ok (.goto 4, 3) := by decide +kernel
theorem dM_extract_12 : decode bM_extract 12 = .ok (.iconst 1, 1) := by decide +kernel
theorem dM_extract_13 : decode bM_extract 13 = .ok (.invokevirtual 69, 3) := by decide +kernel
theorem dM_extract_16 : decode bM_extract 16 = .ok (.ifCond .eq 5, 3) := by decide +kernel
theorem dM_extract_19 : decode bM_extract 19 = .ok (.iconst 0, 1) := by decide +kernel
theorem dM_extract_20 : decode bM_extract 20 = .ok (.ireturn, 1) := by decide +kernel
theorem dM_extract_21 : decode bM_extract 21 = .ok (.aload_n 0, 1) := by decide +kernel
theorem dM_extract_22 : decode bM_extract 22 = .ok (.invokevirtual 117, 3) := by decide +kernel
theorem dM_extract_25 : decode bM_extract 25 = .ok (.aload_n 0, 1) := by decide +kernel
theorem dM_extract_26 : decode bM_extract 26 = .ok (.iconst 0, 1) := by decide +kernel
theorem dM_extract_27 : decode bM_extract 27 = .ok (.putfield 51, 3) := by decide +kernel
theorem dM_extract_30 : decode bM_extract 30 = .ok (.iconst 1, 1) := by decide +kernel
theorem dM_extract_31 : decode bM_extract 31 = .ok (.istore_n 1, 1) := by decide +kernel
theorem dM_extract_32 : decode bM_extract 32 = .ok (.aload_n 0, 1) := by decide +kernel
theorem dM_extract_33 : decode bM_extract 33 = .ok (.getfield 35, 3) := by decide +kernel
theorem dM_extract_36 : decode bM_extract 36 = .ok (.iconst 0, 1) := by decide +kernel
theorem dM_extract_37 : decode bM_extract 37 = .ok (.bipush 100, 2) := by decide +kernel
theorem dM_extract_39 : decode bM_extract 39 = .ok (.aload_n 0, 1) := by decide +kernel
theorem dM_extract_40 : decode bM_extract 40 = .ok (.getfield 7, 3) := by decide +kernel
theorem dM_extract_43 : decode bM_extract 43 = .ok (.iconst 0, 1) := by decide +kernel
theorem dM_extract_44 : decode bM_extract 44 = .ok (.iaload, 1) := by decide +kernel
theorem dM_extract_45 : decode bM_extract 45 = .ok (.imul, 1) := by decide +kernel
theorem dM_extract_46 : decode bM_extract 46 = .ok (.aload_n 0, 1) := by decide +kernel
theorem dM_extract_47 : decode bM_extract 47 = .ok (.getfield 62, 3) := by decide +kernel
theorem dM_extract_50 : decode bM_extract 50 = .ok (.iadd, 1) := by decide +kernel
theorem dM_extract_51 : decode bM_extract 51 = .ok (.iastore, 1) := by decide +kernel
theorem dM_extract_52 : decode bM_extract 52 = .ok (.iload_n 1, 1) := by decide +kernel
theorem dM_extract_53 : decode bM_extract 53 = .ok (.ifCond .le 310, 3) := by decide +kernel
theorem dM_extract_56 : decode bM_extract 56 = .ok (.aload_n 0, 1) := by decide +kernel
theorem dM_extract_57 : decode bM_extract 57 = .ok (.getfield 51, 3) := by decide +kernel
theorem dM_extract_60 : decode bM_extract 60 = .ok (.sipush 8000, 3) := by decide +kernel
theorem dM_extract_63 : decode bM_extract 63 = .ok (.if_icmp .ge 300, 3) := by decide +kernel
theorem dM_extract_66 : decode bM_extract 66 = .ok (.iload_n 1, 1) := by decide +kernel
theorem dM_extract_67 : decode bM_extract 67 = .ok (.iconst 1, 1) := by decide +kernel
theorem dM_extract_68 : decode bM_extract 68 = .ok (.isub, 1) := by decide +kernel
theorem dM_extract_69 : decode bM_extract 69 = .ok (.istore_n 1, 1) := by decide +kernel
theorem dM_extract_70 : decode bM_extract 70 = .ok (.aload_n 0, 1) := by decide +kernel
theorem dM_extract_71 : decode bM_extract 71 = .ok (.getfield 35, 3) := by decide +kernel
theorem dM_extract_74 : decode bM_extract 74 = .ok (.iload_n 1, 1) := by decide +kernel
theorem dM_extract_75 : decode bM_extract 75 = .ok (.iaload, 1) := by decide +kernel
theorem dM_extract_76 : decode bM_extract 76 = .ok (.bipush 100, 2) := by decide +kernel
theorem dM_extract_78 : decode bM_extract 78 = .ok (.idiv, 1) := by decide +kernel
theorem dM_extract_79 : decode bM_extract 79 = .ok (.istore_n 2, 1) := by decide +kernel
theorem dM_extract_80 : decode bM_extract 80 = .ok (.aload_n 0, 1) := by decide +kernel
theorem dM_extract_81 : decode bM_extract 81 = .ok (.getfield 35, 3) := by decide +kernel
theorem dM_extract_84 : decode bM_extract 84 = .ok (.iload_n 1, 1) := by decide +kernel
theorem dM_extract_85 : decode bM_extract 85 = .ok (.iaload, 1) := by decide +kernel
theorem dM_extract_86 : decode bM_extract 86 = .ok (.bipush 10, 2) := by decide +kernel
theorem dM_extract_88 : decode bM_extract 88 = .ok (.idiv, 1) := by decide +kernel
theorem dM_extract_89 : decode bM_extract 89 = .ok (.bipush 10, 2) := by decide +kernel
theorem dM_extract_91 : decode bM_extract 91 = .ok (.irem, 1) := by decide +kernel
theorem dM_extract_92 : decode bM_extract 92 = .ok (.istore_n 3, 1) := by decide +kernel
theorem dM_extract_93 : decode bM_extract 93 = .ok (.aload_n 0, 1) := by decide +kernel
theorem dM_extract_94 : decode bM_extract 94 = .ok (.getfield 35, 3) := by decide +kernel
theorem dM_extract_97 : decode bM_extract 97 = .ok (.iload_n 1, 1) := by decide +kernel
theorem dM_extract_98 : decode bM_extract 98 = .ok (.iaload, 1) := by decide +kernel
theorem dM_extract_99 : decode bM_extract 99 = .ok (.bipush 10, 2) := by decide +kernel
theorem dM_extract_101 : decode bM_extract 101 = .ok (.irem, 1) := by decide +kernel
theorem dM_extract_102 : decode bM_extract 102 = .ok (.istore 4, 2) := by decide +kernel
theorem dM_extract_104 : decode bM_extract 104 = .ok (.aload_n 0, 1) := by decide +kernel
theorem dM_extract_105 : decode bM_extract 105 = .ok (.iload_n 2, 1) := by decide +kernel
theorem dM_extract_106 : decode bM_extract 106 = .ok (.iload_n 3, 1) := by decide +kernel
theorem dM_extract_107 : decode bM_extract 107 = .ok (.iload 4, 2) := by decide +kernel
theorem dM_extract_109 : decode bM_extract 109 = .ok (.invokevirtual 120, 3) := by decide +kernel
theorem dM_extract_112 : decode bM_extract 112 = .ok (.istore 5, 2) := by decide +kernel
theorem dM_extract_114 : decode bM_extract 114 = .ok (.aload_n 0, 1) := by decide +kernel
theorem dM_extract_115 : decode bM_extract 115 = .ok (.getfield 32, 3) := by decide +kernel
theorem dM_extract_118 : decode bM_extract 118 = .ok (.aload_n 0, 1) := by decide +kernel
theorem dM_extract_119 : decode bM_extract 119 = .ok (.getfield 51, 3) := by decide +kernel
theorem dM_extract_122 : decode bM_extract 122 = .ok (.iload 5, 2) := by decide +kernel
theorem dM_extract_124 : decode bM_extract 124 = .ok (.iastore, 1) := by decide +kernel
theorem dM_extract_125 : decode bM_extract 125 = .ok (.aload_n 0, 1) := by decide +kernel
theorem dM_extract_126 : decode bM_extract 126 = .ok (.aload_n 0, 1) := by decide +kernel
theorem dM_extract_127 : decode bM_extract 127 = .ok (.getfield 51, 3) := by decide +kernel
theorem dM_extract_130 : decode bM_extract 130 = .ok (.iconst 1, 1) := by decide +kernel
theorem dM_extract_131 : decode bM_extract 131 = .ok (.iadd, 1) := by decide +kernel
theorem dM_extract_132 : decode bM_extract 132 = .ok (.putfield 51, 3) := by decide +kernel
theorem dM_extract_135 : decode bM_extract 135 = .ok (.iconst 0, 1) := by decide +kernel
theorem dM_extract_136 : decode bM_extract 136 = .ok (.istore 6, 2) := by decide +kernel
theorem dM_extract_138 : decode bM_extract 138 = .ok (.iload_n 3, 1) := by decide +kernel
theorem dM_extract_139 : decode bM_extract 139 = .ok (.istore 7, 2) := by decide +kernel
theorem dM_extract_141 : decode bM_extract 141 = .ok (.iconst 0, 1) := by decide +kernel
theorem dM_extract_142 : decode bM_extract 142 = .ok (.istore 8, 2) := by decide +kernel
theorem dM_extract_144 : decode bM_extract 144 = .ok (.iload 8, 2) := by decide +kernel
theorem dM_extract_146 : decode bM_extract 146 = .ok (.aload_n 0, 1) := by decide +kernel
theorem dM_extract_147 : decode bM_extract 147 = .ok (.getfield 13, 3) := by decide +kernel
theorem dM_extract_150 : decode bM_extract 150 = .ok (.iload 5, 2) := by decide +kernel
theorem dM_extract_152 : decode bM_extract 152 = .ok (.iaload, 1) := by decide +kernel
theorem dM_extract_153 : decode bM_extract 153 = .ok (.if_icmp .ge 134, 3) := by decide +kernel
theorem dM_extract_156 : decode bM_extract 156 = .ok (.iload 7, 2) := by decide +kernel
theorem dM_extract_158 : decode bM_extract 158 = .ok (.istore 9, 2) := by decide +kernel
theorem dM_extract_160 : decode bM_extract 160 = .ok (.aload_n 0, 1) := by decide +kernel
theorem dM_extract_161 : decode bM_extract 161 = .ok (.aload_n 0, 1) := by decide +kernel
theorem dM_extract_162 : decode bM_extract 162 = .ok (.getfield 16, 3) := by decide +kernel
theorem dM_extract_165 : decode bM_extract 165 = .ok (.iconst 4, 1) := by decide +kernel
theorem dM_extract_166 : decode bM_extract 166 = .ok (.iload 5, 2) := by decide +kernel
theorem dM_extract_168 : decode bM_extract 168 = .ok (.imul, 1) := by decide +kernel
theorem dM_extract_169 : decode bM_extract 169 = .ok (.iload 8, 2) := by decide +kernel
theorem dM_extract_171 : decode bM_extract 171 = .ok (.iadd, 1) := by decide +kernel
theorem dM_extract_172 : decode bM_extract 172 = .ok (.iaload, 1) := by decide +kernel
theorem dM_extract_173 : decode bM_extract 173 = .ok (.iload 7, 2) := by decide +kernel
theorem dM_extract_175 : decode bM_extract 175 = .ok (.iload 9, 2) := by decide +kernel
theorem dM_extract_177 : decode bM_extract 177 = .ok (.invokevirtual 109, 3) := by decide +kernel
theorem dM_extract_180 : decode bM_extract 180 = .ok (.aload_n 0, 1) := by decide +kernel
theorem dM_extract_181 : decode bM_extract 181 = .ok (.getfield 29, 3) := by decide +kernel
theorem dM_extract_184 : decode bM_extract 184 = .ok (.bipush 9, 2) := by decide +kernel
theorem dM_extract_186 : decode bM_extract 186 = .ok (.iload 8, 2) := by decide +kernel
theorem dM_extract_188 : decode bM_extract 188 = .ok (.iconst 1, 1) := by decide +kernel
theorem dM_extract_189 : decode bM_extract 189 = .ok (.iadd, 1) := by decide +kernel
theorem dM_extract_190 : decode bM_extract 190 = .ok (.imul, 1) := by decide +kernel
theorem dM_extract_191 : decode bM_extract 191 = .ok (.iload 9, 2) := by decide +kernel
theorem dM_extract_193 : decode bM_extract 193 = .ok (.iadd, 1) := by decide +kernel
theorem dM_extract_194 : decode bM_extract 194 = .ok (.iaload, 1) := by decide +kernel
theorem dM_extract_195 : decode bM_extract 195 = .ok (.iadd, 1) := by decide +kernel
theorem dM_extract_196 : decode bM_extract 196 = .ok (.aload_n 0, 1) := by decide +kernel
theorem dM_extract_197 : decode bM_extract 197 = .ok (.getfield 29, 3) := by decide +kernel
theorem dM_extract_200 : decode bM_extract 200 = .ok (.bipush 9, 2) := by decide +kernel
theorem dM_extract_202 : decode bM_extract 202 = .ok (.iload 8, 2) := by decide +kernel
theorem dM_extract_204 : decode bM_extract 204 = .ok (.imul, 1) := by decide +kernel
theorem dM_extract_205 : decode bM_extract 205 = .ok (.iload 7, 2) := by decide +kernel
theorem dM_extract_207 : decode bM_extract 207 = .ok (.iadd, 1) := by decide +kernel
theorem dM_extract_208 : decode bM_extract 208 = .ok (.iaload, 1) := by decide +kernel
theorem dM_extract_209 : decode bM_extract 209 = .ok (.if_icmp .eq 12, 3) := by decide +kernel
theorem dM_extract_212 : decode bM_extract 212 = .ok (.iload 9, 2) := by decide +kernel
theorem dM_extract_214 : decode bM_extract 214 = .ok (.iconst 1, 1) := by decide +kernel
theorem dM_extract_215 : decode bM_extract 215 = .ok (.iadd, 1) := by decide +kernel
theorem dM_extract_216 : decode bM_extract 216 = .ok (.istore 9, 2) := by decide +kernel
theorem dM_extract_218 : decode bM_extract 218 = .ok (.goto (-58), 3) := by decide +kernel
theorem dM_extract_221 : decode bM_extract 221 = .ok (.aload_n 0, 1) := by decide +kernel
theorem dM_extract_222 : decode bM_extract 222 = .ok (.getfield 16, 3) := by decide +kernel
theorem dM_extract_225 : decode bM_extract 225 = .ok (.iconst 4, 1) := by decide +kernel
theorem dM_extract_226 : decode bM_extract 226 = .ok (.iload 5, 2) := by decide +kernel
theorem dM_extract_228 : decode bM_extract 228 = .ok (.imul, 1) := by decide +kernel
theorem dM_extract_229 : decode bM_extract 229 = .ok (.iload 8, 2) := by decide +kernel
theorem dM_extract_231 : decode bM_extract 231 = .ok (.iadd, 1) := by decide +kernel
theorem dM_extract_232 : decode bM_extract 232 = .ok (.iaload, 1) := by decide +kernel
theorem dM_extract_233 : decode bM_extract 233 = .ok (.bipush 100, 2) := by decide +kernel
theorem dM_extract_235 : decode bM_extract 235 = .ok (.if_icmp .ge 42, 3) := by decide +kernel
theorem dM_extract_238 : decode bM_extract 238 = .ok (.aload_n 0, 1) := by decide +kernel
theorem dM_extract_239 : decode bM_extract 239 = .ok (.getfield 35, 3) := by decide +kernel
theorem dM_extract_242 : decode bM_extract 242 = .ok (.iload_n 1, 1) := by decide +kernel
theorem dM_extract_243 : decode bM_extract 243 = .ok (.iload 6, 2) := by decide +kernel
theorem dM_extract_245 : decode bM_extract 245 = .ok (.iadd, 1) := by decide +kernel
theorem dM_extract_246 : decode bM_extract 246 = .ok (.bipush 100, 2) := by decide +kernel
theorem dM_extract_248 : decode bM_extract 248 = .ok (.aload_n 0, 1) := by decide +kernel
theorem dM_extract_249 : decode bM_extract 249 = .ok (.getfield 16, 3) := by decide +kernel
theorem dM_extract_252 : decode bM_extract 252 = .ok (.iconst 4, 1) := by decide +kernel
theorem dM_extract_253 : decode bM_extract 253 = .ok (.iload 5, 2) := by decide +kernel
theorem dM_extract_255 : decode bM_extract 255 = .ok (.imul, 1) := by decide +kernel
theorem dM_extract_256 : decode bM_extract 256 = .ok (.iload 8, 2) := by decide +kernel
theorem dM_extract_258 : decode bM_extract 258 = .ok (.iadd, 1) := by decide +kernel
theorem dM_extract_259 : decode bM_extract 259 = .ok (.iaload, 1) := by decide +kernel
theorem dM_extract_260 : decode bM_extract 260 = .ok (.imul, 1) := by decide +kernel
theorem dM_extract_261 : decode bM_extract 261 = .ok (.bipush 10, 2) := by decide +kernel
theorem dM_extract_263 : decode bM_extract 263 = .ok (.iload 7, 2) := by decide +kernel
theorem dM_extract_265 : decode bM_extract 265 = .ok (.imul, 1) := by decide +kernel
theorem dM_extract_266 : decode bM_extract 266 = .ok (.iadd, 1) := by decide +kernel
theorem dM_extract_267 : decode bM_extract 267 = .ok (.iload 9, 2) := by decide +kernel
theorem dM_extract_269 : decode bM_extract 269 = .ok (.iadd, 1) := by decide +kernel
theorem dM_extract_270 : decode bM_extract 270 = .ok (.iastore, 1) := by decide +kernel
theorem dM_extract_271 : decode bM_extract 271 = .ok (.iload 6, 2) := by decide +kernel
theorem dM_extract_273 : decode bM_extract 273 = .ok (.iconst 1, 1) := by decide +kernel
theorem dM_extract_274 : decode bM_extract 274 = .ok (.iadd, 1) := by decide +kernel
theorem dM_extract_275 : decode bM_extract 275 = .ok (.istore 6, 2) := by decide +kernel
theorem dM_extract_277 : decode bM_extract 277 = .ok (.iload 9, 2) := by decide +kernel
theorem dM_extract_279 : decode bM_extract 279 = .ok (.istore 7, 2) := by decide +kernel
theorem dM_extract_281 : decode bM_extract 281 = .ok (.iinc 8 1, 3) := by decide +kernel
theorem dM_extract_284 : decode bM_extract 284 = .ok (.goto (-140), 3) := by decide +kernel
theorem dM_extract_287 : decode bM_extract 287 = .ok (.iconst 0, 1) := by decide +kernel
theorem dM_extract_288 : decode bM_extract 288 = .ok (.istore 8, 2) := by decide +kernel
theorem dM_extract_290 : decode bM_extract 290 = .ok (.iload 8, 2) := by decide +kernel
theorem dM_extract_292 : decode bM_extract 292 = .ok (.iload 6, 2) := by decide +kernel
theorem dM_extract_294 : decode bM_extract 294 = .ok (.iconst 2, 1) := by decide +kernel
theorem dM_extract_295 : decode bM_extract 295 = .ok (.idiv, 1) := by decide +kernel
theorem dM_extract_296 : decode bM_extract 296 = .ok (.if_icmp .ge 59, 3) := by decide +kernel
theorem dM_extract_299 : decode bM_extract 299 = .ok (.aload_n 0, 1) := by decide +kernel
theorem dM_extract_300 : decode bM_extract 300 = .ok (.getfield 35, 3) := by decide +kernel
theorem dM_extract_303 : decode bM_extract 303 = .ok (.iload_n 1, 1) := by decide +kernel
theorem dM_extract_304 : decode bM_extract 304 = .ok (.iload 6, 2) := by decide +kernel
theorem dM_extract_306 : decode bM_extract 306 = .ok (.iadd, 1) := by decide +kernel
theorem dM_extract_307 : decode bM_extract 307 = .ok (.iconst 1, 1) := by decide +kernel
theorem dM_extract_308 : decode bM_extract 308 = .ok (.isub, 1) := by decide +kernel
theorem dM_extract_309 : decode bM_extract 309 = .ok (.iload 8, 2) := by decide +kernel
theorem dM_extract_311 : decode bM_extract 311 = .ok (.isub, 1) := by decide +kernel
theorem dM_extract_312 : decode bM_extract 312 = .ok (.iaload, 1) := by decide +kernel
theorem dM_extract_313 : decode bM_extract 313 = .ok (.istore 9, 2) := by decide +kernel
theorem dM_extract_315 : decode bM_extract 315 = .ok (.aload_n 0, 1) := by decide +kernel
theorem dM_extract_316 : decode bM_extract 316 = .ok (.getfield 35, 3) := by decide +kernel
theorem dM_extract_319 : decode bM_extract 319 = .ok (.iload_n 1, 1) := by decide +kernel
theorem dM_extract_320 : decode bM_extract 320 = .ok (.iload 6, 2) := by decide +kernel
theorem dM_extract_322 : decode bM_extract 322 = .ok (.iadd, 1) := by decide +kernel
theorem dM_extract_323 : decode bM_extract 323 = .ok (.iconst 1, 1) := by decide +kernel
theorem dM_extract_324 : decode bM_extract 324 = .ok (.isub, 1) := by decide +kernel
theorem dM_extract_325 : decode bM_extract 325 = .ok (.iload 8, 2) := by decide +kernel
theorem dM_extract_327 : decode bM_extract 327 = .ok (.isub, 1) := by decide +kernel
theorem dM_extract_328 : decode bM_extract 328 = .ok (.aload_n 0, 1) := by decide +kernel
theorem dM_extract_329 : decode bM_extract 329 = .ok (.getfield 35, 3) := by decide +kernel
theorem dM_extract_332 : decode bM_extract 332 = .ok (.iload_n 1, 1) := by decide +kernel
theorem dM_extract_333 : decode bM_extract 333 = .ok (.iload 8, 2) := by decide +kernel
theorem dM_extract_335 : decode bM_extract 335 = .ok (.iadd, 1) := by decide +kernel
theorem dM_extract_336 : decode bM_extract 336 = .ok (.iaload, 1) := by decide +kernel
theorem dM_extract_337 : decode bM_extract 337 = .ok (.iastore, 1) := by decide +kernel
theorem dM_extract_338 : decode bM_extract 338 = .ok (.aload_n 0, 1) := by decide +kernel
theorem dM_extract_339 : decode bM_extract 339 = .ok (.getfield 35, 3) := by decide +kernel
theorem dM_extract_342 : decode bM_extract 342 = .ok (.iload_n 1, 1) := by decide +kernel
theorem dM_extract_343 : decode bM_extract 343 = .ok (.iload 8, 2) := by decide +kernel
theorem dM_extract_345 : decode bM_extract 345 = .ok (.iadd, 1) := by decide +kernel
theorem dM_extract_346 : decode bM_extract 346 = .ok (.iload 9, 2) := by decide +kernel
theorem dM_extract_348 : decode bM_extract 348 = .ok (.iastore, 1) := by decide +kernel
theorem dM_extract_349 : decode bM_extract 349 = .ok (.iinc 8 1, 3) := by decide +kernel
theorem dM_extract_352 : decode bM_extract 352 = .ok (.goto (-62), 3) := by decide +kernel
theorem dM_extract_355 : decode bM_extract 355 = .ok (.iload_n 1, 1) := by decide +kernel
theorem dM_extract_356 : decode bM_extract 356 = .ok (.iload 6, 2) := by decide +kernel
theorem dM_extract_358 : decode bM_extract 358 = .ok (.iadd, 1) := by decide +kernel
theorem dM_extract_359 : decode bM_extract 359 = .ok (.istore_n 1, 1) := by decide +kernel
theorem dM_extract_360 : decode bM_extract 360 = .ok (.goto (-308), 3) := by decide +kernel
theorem dM_extract_363 : decode bM_extract 363 = .ok (.aload_n 0, 1) := by decide +kernel
theorem dM_extract_364 : decode bM_extract 364 = .ok (.getfield 51, 3) := by decide +kernel
theorem dM_extract_367 : decode bM_extract 367 = .ok (.ireturn, 1) := by decide +kernel
theorem dM_choose_0 : decode bM_choose 0 = .ok (.aload_n 0, 1) := by decide +kernel
theorem dM_choose_1 : decode bM_choose 1 = .ok (.iload_n 1, 1) := by decide +kernel
theorem dM_choose_2 : decode bM_choose 2 = .ok (.iload_n 2, 1) := by decide +kernel
theorem dM_choose_3 : decode bM_choose 3 = .ok (.iload_n 3, 1) := by decide +kernel
theorem dM_choose_4 : decode bM_choose 4 = .ok (.invokevirtual 109, 3) := by decide +kernel
theorem dM_choose_7 : decode bM_choose 7 = .ok (.istore 4, 2) := by decide +kernel
theorem dM_choose_9 : decode bM_choose 9 = .ok (.iconst 0, 1) := by decide +kernel
theorem dM_choose_10 : decode bM_choose 10 = .ok (.istore 5, 2) := by decide +kernel
theorem dM_choose_12 : decode bM_choose 12 = .ok (.iload 5, 2) := by decide +kernel
theorem dM_choose_14 : decode bM_choose 14 = .ok (.aload_n 0, 1) := by decide +kernel
theorem dM_choose_15 : decode bM_choose 15 = .ok (.getfield 48, 3) := by decide +kernel
theorem dM_choose_18 : decode bM_choose 18 = .ok (.if_icmp .ge 43, 3) := by decide +kernel
theorem dM_choose_21 : decode bM_choose 21 = .ok (.aload_n 0, 1) := by decide +kernel
theorem dM_choose_22 : decode bM_choose 22 = .ok (.getfield 7, 3) := by decide +kernel
theorem dM_choose_25 : decode bM_choose 25 = .ok (.iload 5, 2) := by decide +kernel
theorem dM_choose_27 : decode bM_choose 27 = .ok (.iaload, 1) := by decide +kernel
theorem dM_choose_28 : decode bM_choose 28 = .ok (.iload_n 1, 1) := by decide +kernel
theorem dM_choose_29 : decode bM_choose 29 = .ok (.if_icmp .ne 26, 3) := by decide +kernel
theorem dM_choose_32 : decode bM_choose 32 = .ok (.aload_n 0, 1) := by decide +kernel
theorem dM_choose_33 : decode bM_choose 33 = .ok (.iload 5, 2) := by decide +kernel
theorem dM_choose_35 : decode bM_choose 35 = .ok (.iload_n 3, 1) := by decide +kernel
theorem dM_choose_36 : decode bM_choose 36 = .ok (.invokevirtual 113, 3) := by decide +kernel
theorem dM_choose_39 : decode bM_choose 39 = .ok (.aload_n 0, 1) := by decide +kernel
theorem dM_choose_40 : decode bM_choose 40 = .ok (.getfield 29, 3) := by decide +kernel
theorem dM_choose_43 : decode bM_choose 43 = .ok (.iload_n 2, 1) := by decide +kernel
theorem dM_choose_44 : decode bM_choose 44 = .ok (.iaload, 1) := by decide +kernel
theorem dM_choose_45 : decode bM_choose 45 = .ok (.iload 4, 2) := by decide +kernel
theorem dM_choose_47 : decode bM_choose 47 = .ok (.iconst 1, 1) := by decide +kernel
theorem dM_choose_48 : decode bM_choose 48 = .ok (.isub, 1) := by decide +kernel
theorem dM_choose_49 : decode bM_choose 49 = .ok (.if_icmp .ne 6, 3) := by decide +kernel
theorem dM_choose_52 : decode bM_choose 52 = .ok (.iload 5, 2) := by decide +kernel
theorem dM_choose_54 : decode bM_choose 54 = .ok (.ireturn, 1) := by decide +kernel
theorem dM_choose_55 : decode bM_choose 55 = .ok (.iinc 5 1, 3) := by decide +kernel
theorem dM_choose_58 : decode bM_choose 58 = .ok (.goto (-46), 3) := by decide +kernel
theorem dM_choose_61 : decode bM_choose 61 = .ok (.iconst (-1), 1) := by decide +kernel
theorem dM_choose_62 : decode bM_choose 62 = .ok (.ireturn, 1) := by decide +kernel
theorem dM_witCount_0 : decode bM_witCount 0 = .ok (.aload_n 0, 1) := by decide +kernel
theorem dM_witCount_1 : decode bM_witCount 1 = .ok (.iconst 0, 1) := by decide +kernel
theorem dM_witCount_2 : decode bM_witCount 2 = .ok (.putfield 45, 3) := by decide +kernel
theorem dM_witCount_5 : decode bM_witCount 5 = .ok (.aload_n 0, 1) := by decide +kernel
theorem dM_witCount_6 : decode bM_witCount 6 = .ok (.getfield 51, 3) := by decide +kernel
theorem dM_witCount_9 : decode bM_witCount 9 = .ok (.ireturn, 1) := by decide +kernel
theorem dM_wit_0 : decode bM_wit 0 = .ok (.aload_n 0, 1) := by decide +kernel
theorem dM_wit_1 : decode bM_wit 1 = .ok (.iload_n 1, 1) := by decide +kernel
theorem dM_wit_2 : decode bM_wit 2 = .ok (.ifCond .lt 11, 3) := by decide +kernel
theorem dM_wit_5 : decode bM_wit 5 = .ok (.iload_n 1, 1) := by decide +kernel
theorem dM_wit_6 : decode bM_wit 6 = .ok (.aload_n 0, 1) := by decide +kernel
theorem dM_wit_7 : decode bM_wit 7 = .ok (.getfield 51, 3) := by decide +kernel
theorem dM_wit_10 : decode bM_wit 10 = .ok (.if_icmp .lt 7, 3) := by decide +kernel
theorem dM_wit_13 : decode bM_wit 13 = .ok (.iconst 1, 1) := by decide +kernel
theorem dM_wit_14 : decode bM_wit 14 = .ok (.goto 4, 3) := by decide +kernel
theorem dM_wit_17 : decode bM_wit 17 = .ok (.iconst 0, 1) := by decide +kernel
theorem dM_wit_18 : decode bM_wit 18 = .ok (.invokevirtual 69, 3) := by decide +kernel
theorem dM_wit_21 : decode bM_wit 21 = .ok (.ifCond .eq 7, 3) := by decide +kernel
theorem dM_wit_24 : decode bM_wit 24 = .ok (.iconst 0, 1) := by decide +kernel
theorem dM_wit_25 : decode bM_wit 25 = .ok (.goto 9, 3) := by decide +kernel
theorem dM_wit_28 : decode bM_wit 28 = .ok (.aload_n 0, 1) := by decide +kernel
theorem dM_wit_29 : decode bM_wit 29 = .ok (.getfield 32, 3) := by decide +kernel
theorem dM_wit_32 : decode bM_wit 32 = .ok (.iload_n 1, 1) := by decide +kernel
theorem dM_wit_33 : decode bM_wit 33 = .ok (.iaload, 1) := by decide +kernel
theorem dM_wit_34 : decode bM_wit 34 = .ok (.ireturn, 1) := by decide +kernel
theorem dM_clear_0 : decode bM_clear 0 = .ok (.aload_n 0, 1) := by decide +kernel
theorem dM_clear_1 : decode bM_clear 1 = .ok (.iconst 0, 1) := by decide +kernel
theorem dM_clear_2 : decode bM_clear 2 = .ok (.putfield 45, 3) := by decide +kernel
theorem dM_clear_5 : decode bM_clear 5 = .ok (.aload_n 0, 1) := by decide +kernel
theorem dM_clear_6 : decode bM_clear 6 = .ok (.getfield 62, 3) := by decide +kernel
theorem dM_clear_9 : decode bM_clear 9 = .ok (.istore_n 1, 1) := by decide +kernel
theorem dM_clear_10 : decode bM_clear 10 = .ok (.aload_n 0, 1) := by decide +kernel
theorem dM_clear_11 : decode bM_clear 11 = .ok (.iconst 0, 1) := by decide +kernel
theorem dM_clear_12 : decode bM_clear 12 = .ok (.putfield 62, 3) := by decide +kernel
theorem dM_clear_15 : decode bM_clear 15 = .ok (.aload_n 0, 1) := by decide +kernel
theorem dM_clear_16 : decode bM_clear 16 = .ok (.iconst 0, 1) := by decide +kernel
theorem dM_clear_17 : decode bM_clear 17 = .ok (.putfield 51, 3) := by decide +kernel
theorem dM_clear_20 : decode bM_clear 20 = .ok (.aload_n 0, 1) := by decide +kernel
theorem dM_clear_21 : decode bM_clear 21 = .ok (.iconst 0, 1) := by decide +kernel
theorem dM_clear_22 : decode bM_clear 22 = .ok (.putfield 54, 3) := by decide +kernel
theorem dM_clear_25 : decode bM_clear 25 = .ok (.iload_n 1, 1) := by decide +kernel
theorem dM_clear_26 : decode bM_clear 26 = .ok (.ireturn, 1) := by decide +kernel
theorem dM_erase_0 : decode bM_erase 0 = .ok (.aload_n 0, 1) := by decide +kernel
theorem dM_erase_1 : decode bM_erase 1 = .ok (.iconst 0, 1) := by decide +kernel
theorem dM_erase_2 : decode bM_erase 2 = .ok (.putfield 45, 3) := by decide +kernel
theorem dM_erase_5 : decode bM_erase 5 = .ok (.aload_n 0, 1) := by decide +kernel
theorem dM_erase_6 : decode bM_erase 6 = .ok (.getfield 48, 3) := by decide +kernel
theorem dM_erase_9 : decode bM_erase 9 = .ok (.istore_n 1, 1) := by decide +kernel
theorem dM_erase_10 : decode bM_erase 10 = .ok (.aload_n 0, 1) := by decide +kernel
theorem dM_erase_11 : decode bM_erase 11 = .ok (.iconst 0, 1) := by decide +kernel
theorem dM_erase_12 : decode bM_erase 12 = .ok (.putfield 62, 3) := by decide +kernel
theorem dM_erase_15 : decode bM_erase 15 = .ok (.aload_n 0, 1) := by decide +kernel
theorem dM_erase_16 : decode bM_erase 16 = .ok (.iconst 0, 1) := by decide +kernel
theorem dM_erase_17 : decode bM_erase 17 = .ok (.putfield 48, 3) := by decide +kernel
theorem dM_erase_20 : decode bM_erase 20 = .ok (.aload_n 0, 1) := by decide +kernel
theorem dM_erase_21 : decode bM_erase 21 = .ok (.invokevirtual 72, 3) := by decide +kernel
theorem dM_erase_24 : decode bM_erase 24 = .ok (.iload_n 1, 1) := by decide +kernel
theorem dM_erase_25 : decode bM_erase 25 = .ok (.ireturn, 1) := by decide +kernel
theorem dM_items_0 : decode bM_items 0 = .ok (.aload_n 0, 1) := by decide +kernel
theorem dM_items_1 : decode bM_items 1 = .ok (.iload_n 1, 1) := by decide +kernel
theorem dM_items_2 : decode bM_items 2 = .ok (.ifCond .lt 11, 3) := by decide +kernel
theorem dM_items_5 : decode bM_items 5 = .ok (.iload_n 1, 1) := by decide +kernel
theorem dM_items_6 : decode bM_items 6 = .ok (.aload_n 0, 1) := by decide +kernel
theorem dM_items_7 : decode bM_items 7 = .ok (.getfield 62, 3) := by decide +kernel
theorem dM_items_10 : decode bM_items 10 = .ok (.if_icmp .le 7, 3) := by decide +kernel
theorem dM_items_13 : decode bM_items 13 = .ok (.iconst 1, 1) := by decide +kernel
theorem dM_items_14 : decode bM_items 14 = .ok (.goto 4, 3) := by decide +kernel
theorem dM_items_17 : decode bM_items 17 = .ok (.iconst 0, 1) := by decide +kernel
theorem dM_items_18 : decode bM_items 18 = .ok (.invokevirtual 69, 3) := by decide +kernel
theorem dM_items_21 : decode bM_items 21 = .ok (.ifCond .eq 7, 3) := by decide +kernel
theorem dM_items_24 : decode bM_items 24 = .ok (.iconst 0, 1) := by decide +kernel
theorem dM_items_25 : decode bM_items 25 = .ok (.goto 8, 3) := by decide +kernel
theorem dM_items_28 : decode bM_items 28 = .ok (.aload_n 0, 1) := by decide +kernel
theorem dM_items_29 : decode bM_items 29 = .ok (.iload_n 1, 1) := by decide +kernel
theorem dM_items_30 : decode bM_items 30 = .ok (.invokevirtual 100, 3) := by decide +kernel
theorem dM_items_33 : decode bM_items 33 = .ok (.ireturn, 1) := by decide +kernel
theorem dM_item_0 : decode bM_item 0 = .ok (.iload_n 1, 1) := by decide +kernel
theorem dM_item_1 : decode bM_item 1 = .ok (.ifCond .lt 28, 3) := by decide +kernel
theorem dM_item_4 : decode bM_item 4 = .ok (.iload_n 1, 1) := by decide +kernel
theorem dM_item_5 : decode bM_item 5 = .ok (.aload_n 0, 1) := by decide +kernel
theorem dM_item_6 : decode bM_item 6 = .ok (.getfield 62, 3) := by decide +kernel
theorem dM_item_9 : decode bM_item 9 = .ok (.if_icmp .gt 20, 3) := by decide +kernel
theorem dM_item_12 : decode bM_item 12 = .ok (.iload_n 2, 1) := by decide +kernel
theorem dM_item_13 : decode bM_item 13 = .ok (.ifCond .lt 16, 3) := by decide +kernel
theorem dM_item_16 : decode bM_item 16 = .ok (.iload_n 2, 1) := by decide +kernel
theorem dM_item_17 : decode bM_item 17 = .ok (.aload_n 0, 1) := by decide +kernel
theorem dM_item_18 : decode bM_item 18 = .ok (.iload_n 1, 1) := by decide +kernel
theorem dM_item_19 : decode bM_item 19 = .ok (.invokevirtual 100, 3) := by decide +kernel
theorem dM_item_22 : decode bM_item 22 = .ok (.if_icmp .ge 7, 3) := by decide +kernel
theorem dM_item_25 : decode bM_item 25 = .ok (.iconst 1, 1) := by decide +kernel
theorem dM_item_26 : decode bM_item 26 = .ok (.goto 4, 3) := by decide +kernel
theorem dM_item_29 : decode bM_item 29 = .ok (.iconst 0, 1) := by decide +kernel
theorem dM_item_30 : decode bM_item 30 = .ok (.istore_n 3, 1) := by decide +kernel
theorem dM_item_31 : decode bM_item 31 = .ok (.aload_n 0, 1) := by decide +kernel
theorem dM_item_32 : decode bM_item 32 = .ok (.iload_n 3, 1) := by decide +kernel
theorem dM_item_33 : decode bM_item 33 = .ok (.ifCond .eq 7, 3) := by decide +kernel
theorem dM_item_36 : decode bM_item 36 = .ok (.iconst 0, 1) := by decide +kernel
theorem dM_item_37 : decode bM_item 37 = .ok (.goto 4, 3) := by decide +kernel
theorem dM_item_40 : decode bM_item 40 = .ok (.iconst 1, 1) := by decide +kernel
theorem dM_item_41 : decode bM_item 41 = .ok (.invokevirtual 69, 3) := by decide +kernel
theorem dM_item_44 : decode bM_item 44 = .ok (.ifCond .eq 5, 3) := by decide +kernel
theorem dM_item_47 : decode bM_item 47 = .ok (.iconst 0, 1) := by decide +kernel
theorem dM_item_48 : decode bM_item 48 = .ok (.ireturn, 1) := by decide +kernel
theorem dM_item_49 : decode bM_item 49 = .ok (.iconst (-1), 1) := by decide +kernel
theorem dM_item_50 : decode bM_item 50 = .ok (.istore 4, 2) := by decide +kernel
theorem dM_item_52 : decode bM_item 52 = .ok (.iconst (-1), 1) := by decide +kernel
theorem dM_item_53 : decode bM_item 53 = .ok (.istore 5, 2) := by decide +kernel
theorem dM_item_55 : decode bM_item 55 = .ok (.iload 4, 2) := by decide +kernel
theorem dM_item_57 : decode bM_item 57 = .ok (.iload_n 2, 1) := by decide +kernel
theorem dM_item_58 : decode bM_item 58 = .ok (.if_icmp .ge 39, 3) := by decide +kernel
theorem dM_item_61 : decode bM_item 61 = .ok (.iload 5, 2) := by decide +kernel
theorem dM_item_63 : decode bM_item 63 = .ok (.iconst 1, 1) := by decide +kernel
theorem dM_item_64 : decode bM_item 64 = .ok (.iadd, 1) := by decide +kernel
theorem dM_item_65 : decode bM_item 65 = .ok (.istore 5, 2) := by decide +kernel
theorem dM_item_67 : decode bM_item 67 = .ok (.aload_n 0, 1) := by decide +kernel
theorem dM_item_68 : decode bM_item 68 = .ok (.getfield 22, 3) := by decide +kernel
theorem dM_item_71 : decode bM_item 71 = .ok (.sipush 360, 3) := by decide +kernel
theorem dM_item_74 : decode bM_item 74 = .ok (.iload_n 1, 1) := by decide +kernel
theorem dM_item_75 : decode bM_item 75 = .ok (.imul, 1) := by decide +kernel
theorem dM_item_76 : decode bM_item 76 = .ok (.iload 5, 2) := by decide +kernel
theorem dM_item_78 : decode bM_item 78 = .ok (.iadd, 1) := by decide +kernel
theorem dM_item_79 : decode bM_item 79 = .ok (.baload, 1) := by decide +kernel
theorem dM_item_80 : decode bM_item 80 = .ok (.ifCond .eq 10, 3) := by decide +kernel
theorem dM_item_83 : decode bM_item 83 = .ok (.iload 4, 2) := by decide +kernel
theorem dM_item_85 : decode bM_item 85 = .ok (.iconst 1, 1) := by decide +kernel
theorem dM_item_86 : decode bM_item 86 = .ok (.iadd, 1) := by decide +kernel
theorem dM_item_87 : decode bM_item 87 = .ok (.goto 5, 3) := by decide +kernel
theorem dM_item_90 : decode bM_item 90 = .ok (.iload 4, 2) := by decide +kernel
theorem dM_item_92 : decode bM_item 92 = .ok (.istore 4, 2) := by decide +kernel
theorem dM_item_94 : decode bM_item 94 = .ok (.goto (-39), 3) := by decide +kernel
theorem dM_item_97 : decode bM_item 97 = .ok (.sipush 1000, 3) := by decide +kernel
theorem dM_item_100 : decode bM_item 100 = .ok (.iload 5, 2) := by decide +kernel
theorem dM_item_102 : decode bM_item 102 = .ok (.bipush 45, 2) := by decide +kernel
theorem dM_item_104 : decode bM_item 104 = .ok (.idiv, 1) := by decide +kernel
theorem dM_item_105 : decode bM_item 105 = .ok (.imul, 1) := by decide +kernel
theorem dM_item_106 : decode bM_item 106 = .ok (.bipush 100, 2) := by decide +kernel
theorem dM_item_108 : decode bM_item 108 = .ok (.iload 5, 2) := by decide +kernel
theorem dM_item_110 : decode bM_item 110 = .ok (.bipush 9, 2) := by decide +kernel
theorem dM_item_112 : decode bM_item 112 = .ok (.idiv, 1) := by decide +kernel
theorem dM_item_113 : decode bM_item 113 = .ok (.iconst 5, 1) := by decide +kernel
theorem dM_item_114 : decode bM_item 114 = .ok (.irem, 1) := by decide +kernel
theorem dM_item_115 : decode bM_item 115 = .ok (.imul, 1) := by decide +kernel
theorem dM_item_116 : decode bM_item 116 = .ok (.iadd, 1) := by decide +kernel
theorem dM_item_117 : decode bM_item 117 = .ok (.iload 5, 2) := by decide +kernel
theorem dM_item_119 : decode bM_item 119 = .ok (.bipush 9, 2) := by decide +kernel
theorem dM_item_121 : decode bM_item 121 = .ok (.irem, 1) := by decide +kernel
theorem dM_item_122 : decode bM_item 122 = .ok (.iadd, 1) := by decide +kernel
theorem dM_item_123 : decode bM_item 123 = .ok (.ireturn, 1) := by decide +kernel
theorem dM_fed_0 : decode bM_fed 0 = .ok (.aload_n 0, 1) := by decide +kernel
theorem dM_fed_1 : decode bM_fed 1 = .ok (.iconst 0, 1) := by decide +kernel
theorem dM_fed_2 : decode bM_fed 2 = .ok (.putfield 45, 3) := by decide +kernel
theorem dM_fed_5 : decode bM_fed 5 = .ok (.aload_n 0, 1) := by decide +kernel
theorem dM_fed_6 : decode bM_fed 6 = .ok (.getfield 62, 3) := by decide +kernel
theorem dM_fed_9 : decode bM_fed 9 = .ok (.ireturn, 1) := by decide +kernel
