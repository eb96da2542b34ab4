theorem dE_init_0 : decode bE_init 0 = .ok (.aload_n 0, 1) := by decide +kernel
theorem dE_init_1 : decode bE_init 1 = .ok (.invokespecial 3, 3) := by decide +kernel
theorem dE_init_4 : decode bE_init 4 = .ok (.aload_n 0, 1) := by decide +kernel
theorem dE_init_5 : decode bE_init 5 = .ok (.iload_n 1, 1) := by decide +kernel
theorem dE_init_6 : decode bE_init 6 = .ok (.iconst 1, 1) := by decide +kernel
theorem dE_init_7 : decode bE_init 7 = .ok (.if_icmp .lt 13, 3) := by decide +kernel
theorem dE_init_10 : decode bE_init 10 = .ok (.iload_n 1, 1) := by decide +kernel
theorem dE_init_11 : decode bE_init 11 = .ok (.bipush 6, 2) := by decide +kernel
theorem dE_init_13 : decode bE_init 13 = .ok (.if_icmp .gt 7, 3) := by decide +kernel
theorem dE_init_16 : decode bE_init 16 = .ok (.iload_n 1, 1) := by decide +kernel
theorem dE_init_17 : decode bE_init 17 = .ok (.goto 4, 3) := by decide +kernel
theorem dE_init_20 : decode bE_init 20 = .ok (.iconst 4, 1) := by decide +kernel
theorem dE_init_21 : decode bE_init 21 = .ok (.putfield 9, 3) := by decide +kernel
theorem dE_init_24 : decode bE_init 24 = .ok (.aload_n 0, 1) := by decide +kernel
theorem dE_init_25 : decode bE_init 25 = .ok (.iload_n 2, 1) := by decide +kernel
theorem dE_init_26 : decode bE_init 26 = .ok (.iconst 1, 1) := by decide +kernel
theorem dE_init_27 : decode bE_init 27 = .ok (.if_icmp .lt 13, 3) := by decide +kernel
theorem dE_init_30 : decode bE_init 30 = .ok (.iload_n 2, 1) := by decide +kernel
theorem dE_init_31 : decode bE_init 31 = .ok (.bipush 6, 2) := by decide +kernel
theorem dE_init_33 : decode bE_init 33 = .ok (.if_icmp .gt 7, 3) := by decide +kernel
theorem dE_init_36 : decode bE_init 36 = .ok (.iload_n 2, 1) := by decide +kernel
theorem dE_init_37 : decode bE_init 37 = .ok (.goto 4, 3) := by decide +kernel
theorem dE_init_40 : decode bE_init 40 = .ok (.iconst 4, 1) := by decide +kernel
theorem dE_init_41 : decode bE_init 41 = .ok (.putfield 13, 3) := by decide +kernel
theorem dE_init_44 : decode bE_init 44 = .ok (.new 16, 3) := by decide +kernel
theorem dE_init_47 : decode bE_init 47 = .ok (.dup, 1) := by decide +kernel
theorem dE_init_48 : decode bE_init 48 = .ok (.invokespecial 18, 3) := by decide +kernel
theorem dE_init_51 : decode bE_init 51 = .ok (.astore_n 3, 1) := by decide +kernel
theorem dE_init_52 : decode bE_init 52 = .ok (.new 19, 3) := by decide +kernel
theorem dE_init_55 : decode bE_init 55 = .ok (.dup, 1) := by decide +kernel
theorem dE_init_56 : decode bE_init 56 = .ok (.invokespecial 21, 3) := by decide +kernel
theorem dE_init_59 : decode bE_init 59 = .ok (.astore 4, 2) := by decide +kernel
theorem dE_init_61 : decode bE_init 61 = .ok (.new 22, 3) := by decide +kernel
theorem dE_init_64 : decode bE_init 64 = .ok (.dup, 1) := by decide +kernel
theorem dE_init_65 : decode bE_init 65 = .ok (.aload_n 3, 1) := by decide +kernel
theorem dE_init_66 : decode bE_init 66 = .ok (.aload 4, 2) := by decide +kernel
theorem dE_init_68 : decode bE_init 68 = .ok (.invokespecial 24, 3) := by decide +kernel
theorem dE_init_71 : decode bE_init 71 = .ok (.astore 5, 2) := by decide +kernel
theorem dE_init_73 : decode bE_init 73 = .ok (.aload_n 0, 1) := by decide +kernel
theorem dE_init_74 : decode bE_init 74 = .ok (.aload_n 3, 1) := by decide +kernel
theorem dE_init_75 : decode bE_init 75 = .ok (.putfield 27, 3) := by decide +kernel
theorem dE_init_78 : decode bE_init 78 = .ok (.aload_n 0, 1) := by decide +kernel
theorem dE_init_79 : decode bE_init 79 = .ok (.aload 4, 2) := by decide +kernel
theorem dE_init_81 : decode bE_init 81 = .ok (.putfield 31, 3) := by decide +kernel
theorem dE_init_84 : decode bE_init 84 = .ok (.aload_n 0, 1) := by decide +kernel
theorem dE_init_85 : decode bE_init 85 = .ok (.new 35, 3) := by decide +kernel
theorem dE_init_88 : decode bE_init 88 = .ok (.dup, 1) := by decide +kernel
theorem dE_init_89 : decode bE_init 89 = .ok (.aload_n 3, 1) := by decide +kernel
theorem dE_init_90 : decode bE_init 90 = .ok (.invokespecial 37, 3) := by decide +kernel
theorem dE_init_93 : decode bE_init 93 = .ok (.putfield 40, 3) := by decide +kernel
theorem dE_init_96 : decode bE_init 96 = .ok (.aload_n 0, 1) := by decide +kernel
theorem dE_init_97 : decode bE_init 97 = .ok (.aload 5, 2) := by decide +kernel
theorem dE_init_99 : decode bE_init 99 = .ok (.putfield 44, 3) := by decide +kernel
theorem dE_init_102 : decode bE_init 102 = .ok (.aload_n 0, 1) := by decide +kernel
theorem dE_init_103 : decode bE_init 103 = .ok (.new 48, 3) := by decide +kernel
theorem dE_init_106 : decode bE_init 106 = .ok (.dup, 1) := by decide +kernel
theorem dE_init_107 : decode bE_init 107 = .ok (.aload_n 3, 1) := by decide +kernel
theorem dE_init_108 : decode bE_init 108 = .ok (.aload 5, 2) := by decide +kernel
theorem dE_init_110 : decode bE_init 110 = .ok (.invokespecial 50, 3) := by decide +kernel
theorem dE_init_113 : decode bE_init 113 = .ok (.putfield 53, 3) := by decide +kernel
theorem dE_init_116 : decode bE_init 116 = .ok (.aload_n 0, 1) := by decide +kernel
theorem dE_init_117 : decode bE_init 117 = .ok (.invokevirtual 57, 3) := by decide +kernel
theorem dE_init_120 : decode bE_init 120 = .ok (.return_, 1) := by decide +kernel
theorem dE_grammarChanged_0 : decode bE_grammarChanged 0 = .ok (.aload_n 0, 1) := by decide +kernel
theorem dE_grammarChanged_1 : decode bE_grammarChanged 1 = .ok (.getfield 53, 3) := by decide +kernel
theorem dE_grammarChanged_4 : decode bE_grammarChanged 4 = .ok (.invokevirtual 108, 3) := by decide +kernel
theorem dE_grammarChanged_7 : decode bE_grammarChanged 7 = .ok (.aload_n 0, 1) := by decide +kernel
theorem dE_grammarChanged_8 : decode bE_grammarChanged 8 = .ok (.getfield 40, 3) := by decide +kernel
theorem dE_grammarChanged_11 : decode bE_grammarChanged 11 = .ok (.invokevirtual 169, 3) := by decide +kernel
theorem dE_grammarChanged_14 : decode bE_grammarChanged 14 = .ok (.aload_n 0, 1) := by decide +kernel
theorem dE_grammarChanged_15 : decode bE_grammarChanged 15 = .ok (.getfield 44, 3) := by decide +kernel
theorem dE_grammarChanged_18 : decode bE_grammarChanged 18 = .ok (.iconst 0, 1) := by decide +kernel
theorem dE_grammarChanged_19 : decode bE_grammarChanged 19 = .ok (.iconst 0, 1) := by decide +kernel
theorem dE_grammarChanged_20 : decode bE_grammarChanged 20 = .ok (.invokevirtual 172, 3) := by decide +kernel
theorem dE_grammarChanged_23 : decode bE_grammarChanged 23 = .ok (.return_, 1) := by decide +kernel
theorem dE_isVariable_0 : decode bE_isVariable 0 = .ok (.iload_n 0, 1) := by decide +kernel
theorem dE_isVariable_1 : decode bE_isVariable 1 = .ok (.ifCond .lt 13, 3) := by decide +kernel
theorem dE_isVariable_4 : decode bE_isVariable 4 = .ok (.iload_n 0, 1) := by decide +kernel
theorem dE_isVariable_5 : decode bE_isVariable 5 = .ok (.bipush 6, 2) := by decide +kernel
theorem dE_isVariable_7 : decode bE_isVariable 7 = .ok (.if_icmp .ge 7, 3) := by decide +kernel
theorem dE_isVariable_10 : decode bE_isVariable 10 = .ok (.iconst 1, 1) := by decide +kernel
theorem dE_isVariable_11 : decode bE_isVariable 11 = .ok (.goto 4, 3) := by decide +kernel
theorem dE_isVariable_14 : decode bE_isVariable 14 = .ok (.iconst 0, 1) := by decide +kernel
theorem dE_isVariable_15 : decode bE_isVariable 15 = .ok (.ireturn, 1) := by decide +kernel
theorem dE_alive_0 : decode bE_alive 0 = .ok (.aload_n 0, 1) := by decide +kernel
theorem dE_alive_1 : decode bE_alive 1 = .ok (.getfield 40, 3) := by decide +kernel
theorem dE_alive_4 : decode bE_alive 4 = .ok (.aload_n 0, 1) := by decide +kernel
theorem dE_alive_5 : decode bE_alive 5 = .ok (.getfield 31, 3) := by decide +kernel
theorem dE_alive_8 : decode bE_alive 8 = .ok (.getfield 60, 3) := by decide +kernel
theorem dE_alive_11 : decode bE_alive 11 = .ok (.invokevirtual 121, 3) := by decide +kernel
theorem dE_alive_14 : decode bE_alive 14 = .ok (.ifCond .le 7, 3) := by decide +kernel
theorem dE_alive_17 : decode bE_alive 17 = .ok (.iconst 1, 1) := by decide +kernel
theorem dE_alive_18 : decode bE_alive 18 = .ok (.goto 4, 3) := by decide +kernel
theorem dE_alive_21 : decode bE_alive 21 = .ok (.iconst 0, 1) := by decide +kernel
theorem dE_alive_22 : decode bE_alive 22 = .ok (.ireturn, 1) := by decide +kernel
theorem dE_accepts_0 : decode bE_accepts 0 = .ok (.aload_n 0, 1) := by decide +kernel
theorem dE_accepts_1 : decode bE_accepts 1 = .ok (.getfield 40, 3) := by decide +kernel
theorem dE_accepts_4 : decode bE_accepts 4 = .ok (.aload_n 0, 1) := by decide +kernel
theorem dE_accepts_5 : decode bE_accepts 5 = .ok (.getfield 31, 3) := by decide +kernel
theorem dE_accepts_8 : decode bE_accepts 8 = .ok (.getfield 60, 3) := by decide +kernel
theorem dE_accepts_11 : decode bE_accepts 11 = .ok (.invokevirtual 125, 3) := by decide +kernel
theorem dE_accepts_14 : decode bE_accepts 14 = .ok (.ireturn, 1) := by decide +kernel
theorem dE_witCount_0 : decode bE_witCount 0 = .ok (.aload_n 0, 1) := by decide +kernel
theorem dE_witCount_1 : decode bE_witCount 1 = .ok (.getfield 53, 3) := by decide +kernel
theorem dE_witCount_4 : decode bE_witCount 4 = .ok (.getfield 139, 3) := by decide +kernel
theorem dE_witCount_7 : decode bE_witCount 7 = .ok (.ireturn, 1) := by decide +kernel
theorem dE_clear_0 : decode bE_clear 0 = .ok (.aload_n 0, 1) := by decide +kernel
theorem dE_clear_1 : decode bE_clear 1 = .ok (.getfield 31, 3) := by decide +kernel
theorem dE_clear_4 : decode bE_clear 4 = .ok (.getfield 60, 3) := by decide +kernel
theorem dE_clear_7 : decode bE_clear 7 = .ok (.istore_n 1, 1) := by decide +kernel
theorem dE_clear_8 : decode bE_clear 8 = .ok (.aload_n 0, 1) := by decide +kernel
theorem dE_clear_9 : decode bE_clear 9 = .ok (.getfield 31, 3) := by decide +kernel
theorem dE_clear_12 : decode bE_clear 12 = .ok (.iconst 0, 1) := by decide +kernel
theorem dE_clear_13 : decode bE_clear 13 = .ok (.putfield 60, 3) := by decide +kernel
theorem dE_clear_16 : decode bE_clear 16 = .ok (.aload_n 0, 1) := by decide +kernel
theorem dE_clear_17 : decode bE_clear 17 = .ok (.getfield 53, 3) := by decide +kernel
theorem dE_clear_20 : decode bE_clear 20 = .ok (.invokevirtual 108, 3) := by decide +kernel
theorem dE_clear_23 : decode bE_clear 23 = .ok (.iload_n 1, 1) := by decide +kernel
theorem dE_clear_24 : decode bE_clear 24 = .ok (.ireturn, 1) := by decide +kernel
theorem dE_erase_0 : decode bE_erase 0 = .ok (.aload_n 0, 1) := by decide +kernel
theorem dE_erase_1 : decode bE_erase 1 = .ok (.getfield 27, 3) := by decide +kernel
theorem dE_erase_4 : decode bE_erase 4 = .ok (.getfield 63, 3) := by decide +kernel
theorem dE_erase_7 : decode bE_erase 7 = .ok (.istore_n 1, 1) := by decide +kernel
theorem dE_erase_8 : decode bE_erase 8 = .ok (.aload_n 0, 1) := by decide +kernel
theorem dE_erase_9 : decode bE_erase 9 = .ok (.getfield 31, 3) := by decide +kernel
theorem dE_erase_12 : decode bE_erase 12 = .ok (.iconst 0, 1) := by decide +kernel
theorem dE_erase_13 : decode bE_erase 13 = .ok (.putfield 60, 3) := by decide +kernel
theorem dE_erase_16 : decode bE_erase 16 = .ok (.aload_n 0, 1) := by decide +kernel
theorem dE_erase_17 : decode bE_erase 17 = .ok (.getfield 27, 3) := by decide +kernel
theorem dE_erase_20 : decode bE_erase 20 = .ok (.invokevirtual 151, 3) := by decide +kernel
theorem dE_erase_23 : decode bE_erase 23 = .ok (.aload_n 0, 1) := by decide +kernel
theorem dE_erase_24 : decode bE_erase 24 = .ok (.invokevirtual 57, 3) := by decide +kernel
theorem dE_erase_27 : decode bE_erase 27 = .ok (.iload_n 1, 1) := by decide +kernel
theorem dE_erase_28 : decode bE_erase 28 = .ok (.ireturn, 1) := by decide +kernel
theorem dE_fed_0 : decode bE_fed 0 = .ok (.aload_n 0, 1) := by decide +kernel
theorem dE_fed_1 : decode bE_fed 1 = .ok (.getfield 31, 3) := by decide +kernel
theorem dE_fed_4 : decode bE_fed 4 = .ok (.getfield 60, 3) := by decide +kernel
theorem dE_fed_7 : decode bE_fed 7 = .ok (.ireturn, 1) := by decide +kernel
theorem dE_addProd_0 : decode bE_addProd 0 = .ok (.aload_n 0, 1) := by decide +kernel
theorem dE_addProd_1 : decode bE_addProd 1 = .ok (.getfield 31, 3) := by decide +kernel
theorem dE_addProd_4 : decode bE_addProd 4 = .ok (.getfield 60, 3) := by decide +kernel
theorem dE_addProd_7 : decode bE_addProd 7 = .ok (.ifCond .gt 15, 3) := by decide +kernel
theorem dE_addProd_10 : decode bE_addProd 10 = .ok (.aload_n 0, 1) := by decide +kernel
theorem dE_addProd_11 : decode bE_addProd 11 = .ok (.getfield 27, 3) := by decide +kernel
theorem dE_addProd_14 : decode bE_addProd 14 = .ok (.getfield 63, 3) := by decide +kernel
theorem dE_addProd_17 : decode bE_addProd 17 = .ok (.bipush 8, 2) := by decide +kernel
theorem dE_addProd_19 : decode bE_addProd 19 = .ok (.if_icmp .lt 13, 3) := by decide +kernel
theorem dE_addProd_22 : decode bE_addProd 22 = .ok (.new 66, 3) := by decide +kernel
theorem dE_addProd_25 : decode bE_addProd 25 = .ok (.dup, 1) := by decide +kernel
theorem dE_addProd_26 : decode bE_addProd 26 = .ok (.ldc 68, 2) := by decide +kernel
theorem dE_addProd_28 : decode bE_addProd 28 = .ok (.invokespecial 70, 3) := by decide +kernel
theorem dE_addProd_31 : decode bE_addProd 31 = .ok (.athrow, 1) := by decide +kernel
theorem dE_addProd_32 : decode bE_addProd 32 = .ok (.aload_n 0, 1) := by decide +kernel
theorem dE_addProd_33 : decode bE_addProd 33 = .ok (.iload_n 1, 1) := by decide +kernel
theorem dE_addProd_34 : decode bE_addProd 34 = .ok (.invokevirtual 73, 3) := by decide +kernel
theorem dE_addProd_37 : decode bE_addProd 37 = .ok (.ifCond .ne 13, 3) := by decide +kernel
theorem dE_addProd_40 : decode bE_addProd 40 = .ok (.new 77, 3) := by decide +kernel
theorem dE_addProd_43 : decode bE_addProd 43 = .ok (.dup, 1) := by decide +kernel
theorem dE_addProd_44 : decode bE_addProd 44 = .ok (.ldc 79, 2) := by decide +kernel
theorem dE_addProd_46 : decode bE_addProd 46 = .ok (.invokespecial 81, 3) := by decide +kernel
theorem dE_addProd_49 : decode bE_addProd 49 = .ok (.athrow, 1) := by decide +kernel
theorem dE_addProd_50 : decode bE_addProd 50 = .ok (.aload_n 0, 1) := by decide +kernel
theorem dE_addProd_51 : decode bE_addProd 51 = .ok (.getfield 27, 3) := by decide +kernel
theorem dE_addProd_54 : decode bE_addProd 54 = .ok (.iload_n 1, 1) := by decide +kernel
theorem dE_addProd_55 : decode bE_addProd 55 = .ok (.invokevirtual 82, 3) := by decide +kernel
theorem dE_addProd_58 : decode bE_addProd 58 = .ok (.aload_n 0, 1) := by decide +kernel
theorem dE_addProd_59 : decode bE_addProd 59 = .ok (.invokevirtual 57, 3) := by decide +kernel
theorem dE_addProd_62 : decode bE_addProd 62 = .ok (.aload_n 0, 1) := by decide +kernel
theorem dE_addProd_63 : decode bE_addProd 63 = .ok (.getfield 27, 3) := by decide +kernel
theorem dE_addProd_66 : decode bE_addProd 66 = .ok (.getfield 63, 3) := by decide +kernel
theorem dE_addProd_69 : decode bE_addProd 69 = .ok (.iconst 1, 1) := by decide +kernel
theorem dE_addProd_70 : decode bE_addProd 70 = .ok (.isub, 1) := by decide +kernel
theorem dE_addProd_71 : decode bE_addProd 71 = .ok (.ireturn, 1) := by decide +kernel
theorem dE_hasVariable_0 : decode bE_hasVariable 0 = .ok (.iload_n 1, 1) := by decide +kernel
theorem dE_hasVariable_1 : decode bE_hasVariable 1 = .ok (.ifCond .lt 15, 3) := by decide +kernel
theorem dE_hasVariable_4 : decode bE_hasVariable 4 = .ok (.iload_n 1, 1) := by decide +kernel
theorem dE_hasVariable_5 : decode bE_hasVariable 5 = .ok (.aload_n 0, 1) := by decide +kernel
theorem dE_hasVariable_6 : decode bE_hasVariable 6 = .ok (.getfield 9, 3) := by decide +kernel
theorem dE_hasVariable_9 : decode bE_hasVariable 9 = .ok (.if_icmp .ge 7, 3) := by decide +kernel
theorem dE_hasVariable_12 : decode bE_hasVariable 12 = .ok (.iconst 1, 1) := by decide +kernel
theorem dE_hasVariable_13 : decode bE_hasVariable 13 = .ok (.goto 4, 3) := by decide +kernel
theorem dE_hasVariable_16 : decode bE_hasVariable 16 = .ok (.iconst 0, 1) := by decide +kernel
theorem dE_hasVariable_17 : decode bE_hasVariable 17 = .ok (.ireturn, 1) := by decide +kernel
theorem dE_addRhs_0 : decode bE_addRhs 0 = .ok (.aload_n 0, 1) := by decide +kernel
theorem dE_addRhs_1 : decode bE_addRhs 1 = .ok (.getfield 31, 3) := by decide +kernel
theorem dE_addRhs_4 : decode bE_addRhs 4 = .ok (.getfield 60, 3) := by decide +kernel
theorem dE_addRhs_7 : decode bE_addRhs 7 = .ok (.ifCond .gt 13, 3) := by decide +kernel
theorem dE_addRhs_10 : decode bE_addRhs 10 = .ok (.aload_n 0, 1) := by decide +kernel
theorem dE_addRhs_11 : decode bE_addRhs 11 = .ok (.getfield 27, 3) := by decide +kernel
theorem dE_addRhs_14 : decode bE_addRhs 14 = .ok (.invokevirtual 86, 3) := by decide +kernel
theorem dE_addRhs_17 : decode bE_addRhs 17 = .ok (.ifCond .ne 13, 3) := by decide +kernel
theorem dE_addRhs_20 : decode bE_addRhs 20 = .ok (.new 66, 3) := by decide +kernel
theorem dE_addRhs_23 : decode bE_addRhs 23 = .ok (.dup, 1) := by decide +kernel
theorem dE_addRhs_24 : decode bE_addRhs 24 = .ok (.ldc 90, 2) := by decide +kernel
theorem dE_addRhs_26 : decode bE_addRhs 26 = .ok (.invokespecial 70, 3) := by decide +kernel
theorem dE_addRhs_29 : decode bE_addRhs 29 = .ok (.athrow, 1) := by decide +kernel
theorem dE_addRhs_30 : decode bE_addRhs 30 = .ok (.aload_n 0, 1) := by decide +kernel
theorem dE_addRhs_31 : decode bE_addRhs 31 = .ok (.iload_n 1, 1) := by decide +kernel
theorem dE_addRhs_32 : decode bE_addRhs 32 = .ok (.invokevirtual 73, 3) := by decide +kernel
theorem dE_addRhs_35 : decode bE_addRhs 35 = .ok (.ifCond .ne 21, 3) := by decide +kernel
theorem dE_addRhs_38 : decode bE_addRhs 38 = .ok (.aload_n 0, 1) := by decide +kernel
theorem dE_addRhs_39 : decode bE_addRhs 39 = .ok (.iload_n 1, 1) := by decide +kernel
theorem dE_addRhs_40 : decode bE_addRhs 40 = .ok (.invokevirtual 92, 3) := by decide +kernel
theorem dE_addRhs_43 : decode bE_addRhs 43 = .ok (.ifCond .ne 13, 3) := by decide +kernel
theorem dE_addRhs_46 : decode bE_addRhs 46 = .ok (.new 77, 3) := by decide +kernel
theorem dE_addRhs_49 : decode bE_addRhs 49 = .ok (.dup, 1) := by decide +kernel
theorem dE_addRhs_50 : decode bE_addRhs 50 = .ok (.ldc 95, 2) := by decide +kernel
theorem dE_addRhs_52 : decode bE_addRhs 52 = .ok (.invokespecial 81, 3) := by decide +kernel
theorem dE_addRhs_55 : decode bE_addRhs 55 = .ok (.athrow, 1) := by decide +kernel
theorem dE_addRhs_56 : decode bE_addRhs 56 = .ok (.aload_n 0, 1) := by decide +kernel
theorem dE_addRhs_57 : decode bE_addRhs 57 = .ok (.getfield 27, 3) := by decide +kernel
theorem dE_addRhs_60 : decode bE_addRhs 60 = .ok (.iload_n 1, 1) := by decide +kernel
theorem dE_addRhs_61 : decode bE_addRhs 61 = .ok (.invokevirtual 97, 3) := by decide +kernel
theorem dE_addRhs_64 : decode bE_addRhs 64 = .ok (.aload_n 0, 1) := by decide +kernel
theorem dE_addRhs_65 : decode bE_addRhs 65 = .ok (.invokevirtual 57, 3) := by decide +kernel
theorem dE_addRhs_68 : decode bE_addRhs 68 = .ok (.aload_n 0, 1) := by decide +kernel
theorem dE_addRhs_69 : decode bE_addRhs 69 = .ok (.getfield 27, 3) := by decide +kernel
theorem dE_addRhs_72 : decode bE_addRhs 72 = .ok (.invokevirtual 100, 3) := by decide +kernel
theorem dE_addRhs_75 : decode bE_addRhs 75 = .ok (.ireturn, 1) := by decide +kernel
theorem dE_hasToken_0 : decode bE_hasToken 0 = .ok (.iload_n 1, 1) := by decide +kernel
theorem dE_hasToken_1 : decode bE_hasToken 1 = .ok (.bipush 100, 2) := by decide +kernel
theorem dE_hasToken_3 : decode bE_hasToken 3 = .ok (.if_icmp .lt 18, 3) := by decide +kernel
theorem dE_hasToken_6 : decode bE_hasToken 6 = .ok (.iload_n 1, 1) := by decide +kernel
theorem dE_hasToken_7 : decode bE_hasToken 7 = .ok (.bipush 100, 2) := by decide +kernel
theorem dE_hasToken_9 : decode bE_hasToken 9 = .ok (.aload_n 0, 1) := by decide +kernel
theorem dE_hasToken_10 : decode bE_hasToken 10 = .ok (.getfield 13, 3) := by decide +kernel
theorem dE_hasToken_13 : decode bE_hasToken 13 = .ok (.iadd, 1) := by decide +kernel
theorem dE_hasToken_14 : decode bE_hasToken 14 = .ok (.if_icmp .ge 7, 3) := by decide +kernel
theorem dE_hasToken_17 : decode bE_hasToken 17 = .ok (.iconst 1, 1) := by decide +kernel
theorem dE_hasToken_18 : decode bE_hasToken 18 = .ok (.goto 4, 3) := by decide +kernel
theorem dE_hasToken_21 : decode bE_hasToken 21 = .ok (.iconst 0, 1) := by decide +kernel
theorem dE_hasToken_22 : decode bE_hasToken 22 = .ok (.ireturn, 1) := by decide +kernel
theorem dE_feed_0 : decode bE_feed 0 = .ok (.aload_n 0, 1) := by decide +kernel
theorem dE_feed_1 : decode bE_feed 1 = .ok (.getfield 27, 3) := by decide +kernel
theorem dE_feed_4 : decode bE_feed 4 = .ok (.getfield 63, 3) := by decide +kernel
theorem dE_feed_7 : decode bE_feed 7 = .ok (.ifCond .eq 15, 3) := by decide +kernel
theorem dE_feed_10 : decode bE_feed 10 = .ok (.aload_n 0, 1) := by decide +kernel
theorem dE_feed_11 : decode bE_feed 11 = .ok (.getfield 31, 3) := by decide +kernel
theorem dE_feed_14 : decode bE_feed 14 = .ok (.getfield 60, 3) := by decide +kernel
theorem dE_feed_17 : decode bE_feed 17 = .ok (.bipush 8, 2) := by decide +kernel
theorem dE_feed_19 : decode bE_feed 19 = .ok (.if_icmp .lt 13, 3) := by decide +kernel
theorem dE_feed_22 : decode bE_feed 22 = .ok (.new 66, 3) := by decide +kernel
theorem dE_feed_25 : decode bE_feed 25 = .ok (.dup, 1) := by decide +kernel
theorem dE_feed_26 : decode bE_feed 26 = .ok (.ldc 104, 2) := by decide +kernel
theorem dE_feed_28 : decode bE_feed 28 = .ok (.invokespecial 70, 3) := by decide +kernel
theorem dE_feed_31 : decode bE_feed 31 = .ok (.athrow, 1) := by decide +kernel
theorem dE_feed_32 : decode bE_feed 32 = .ok (.aload_n 0, 1) := by decide +kernel
theorem dE_feed_33 : decode bE_feed 33 = .ok (.iload_n 1, 1) := by decide +kernel
theorem dE_feed_34 : decode bE_feed 34 = .ok (.invokevirtual 92, 3) := by decide +kernel
theorem dE_feed_37 : decode bE_feed 37 = .ok (.ifCond .ne 13, 3) := by decide +kernel
theorem dE_feed_40 : decode bE_feed 40 = .ok (.new 77, 3) := by decide +kernel
theorem dE_feed_43 : decode bE_feed 43 = .ok (.dup, 1) := by decide +kernel
theorem dE_feed_44 : decode bE_feed 44 = .ok (.ldc 106, 2) := by decide +kernel
theorem dE_feed_46 : decode bE_feed 46 = .ok (.invokespecial 81, 3) := by decide +kernel
theorem dE_feed_49 : decode bE_feed 49 = .ok (.athrow, 1) := by decide +kernel
theorem dE_feed_50 : decode bE_feed 50 = .ok (.aload_n 0, 1) := by decide +kernel
theorem dE_feed_51 : decode bE_feed 51 = .ok (.getfield 53, 3) := by decide +kernel
theorem dE_feed_54 : decode bE_feed 54 = .ok (.invokevirtual 108, 3) := by decide +kernel
theorem dE_feed_57 : decode bE_feed 57 = .ok (.aload_n 0, 1) := by decide +kernel
theorem dE_feed_58 : decode bE_feed 58 = .ok (.getfield 31, 3) := by decide +kernel
theorem dE_feed_61 : decode bE_feed 61 = .ok (.iload_n 1, 1) := by decide +kernel
theorem dE_feed_62 : decode bE_feed 62 = .ok (.invokevirtual 111, 3) := by decide +kernel
theorem dE_feed_65 : decode bE_feed 65 = .ok (.aload_n 0, 1) := by decide +kernel
theorem dE_feed_66 : decode bE_feed 66 = .ok (.getfield 40, 3) := by decide +kernel
theorem dE_feed_69 : decode bE_feed 69 = .ok (.aload_n 0, 1) := by decide +kernel
theorem dE_feed_70 : decode bE_feed 70 = .ok (.getfield 31, 3) := by decide +kernel
theorem dE_feed_73 : decode bE_feed 73 = .ok (.getfield 60, 3) := by decide +kernel
theorem dE_feed_76 : decode bE_feed 76 = .ok (.iload_n 1, 1) := by decide +kernel
theorem dE_feed_77 : decode bE_feed 77 = .ok (.invokevirtual 114, 3) := by decide +kernel
theorem dE_feed_80 : decode bE_feed 80 = .ok (.aload_n 0, 1) := by decide +kernel
theorem dE_feed_81 : decode bE_feed 81 = .ok (.getfield 44, 3) := by decide +kernel
theorem dE_feed_84 : decode bE_feed 84 = .ok (.aload_n 0, 1) := by decide +kernel
theorem dE_feed_85 : decode bE_feed 85 = .ok (.getfield 31, 3) := by decide +kernel
theorem dE_feed_88 : decode bE_feed 88 = .ok (.getfield 60, 3) := by decide +kernel
theorem dE_feed_91 : decode bE_feed 91 = .ok (.invokevirtual 118, 3) := by decide +kernel
theorem dE_feed_94 : decode bE_feed 94 = .ok (.aload_n 0, 1) := by decide +kernel
theorem dE_feed_95 : decode bE_feed 95 = .ok (.getfield 40, 3) := by decide +kernel
theorem dE_feed_98 : decode bE_feed 98 = .ok (.aload_n 0, 1) := by decide +kernel
theorem dE_feed_99 : decode bE_feed 99 = .ok (.getfield 31, 3) := by decide +kernel
theorem dE_feed_102 : decode bE_feed 102 = .ok (.getfield 60, 3) := by decide +kernel
theorem dE_feed_105 : decode bE_feed 105 = .ok (.invokevirtual 121, 3) := by decide +kernel
theorem dE_feed_108 : decode bE_feed 108 = .ok (.ireturn, 1) := by decide +kernel
theorem dE_extract_0 : decode bE_extract 0 = .ok (.aload_n 0, 1) := by decide +kernel
theorem dE_extract_1 : decode bE_extract 1 = .ok (.getfield 40, 3) := by decide +kernel
theorem dE_extract_4 : decode bE_extract 4 = .ok (.aload_n 0, 1) := by decide +kernel
theorem dE_extract_5 : decode bE_extract 5 = .ok (.getfield 31, 3) := by decide +kernel
theorem dE_extract_8 : decode bE_extract 8 = .ok (.getfield 60, 3) := by decide +kernel
theorem dE_extract_11 : decode bE_extract 11 = .ok (.invokevirtual 125, 3) := by decide +kernel
theorem dE_extract_14 : decode bE_extract 14 = .ok (.ifCond .ne 13, 3) := by decide +kernel
theorem dE_extract_17 : decode bE_extract 17 = .ok (.new 128, 3) := by decide +kernel
theorem dE_extract_20 : decode bE_extract 20 = .ok (.dup, 1) := by decide +kernel
theorem dE_extract_21 : decode bE_extract 21 = .ok (.ldc 130, 2) := by decide +kernel
theorem dE_extract_23 : decode bE_extract 23 = .ok (.invokespecial 132, 3) := by decide +kernel
theorem dE_extract_26 : decode bE_extract 26 = .ok (.athrow, 1) := by decide +kernel
theorem dE_extract_27 : decode bE_extract 27 = .ok (.aload_n 0, 1) := by decide +kernel
theorem dE_extract_28 : decode bE_extract 28 = .ok (.getfield 53, 3) := by decide +kernel
theorem dE_extract_31 : decode bE_extract 31 = .ok (.aload_n 0, 1) := by decide +kernel
theorem dE_extract_32 : decode bE_extract 32 = .ok (.getfield 27, 3) := by decide +kernel
theorem dE_extract_35 : decode bE_extract 35 = .ok (.invokevirtual 133, 3) := by decide +kernel
theorem dE_extract_38 : decode bE_extract 38 = .ok (.aload_n 0, 1) := by decide +kernel
theorem dE_extract_39 : decode bE_extract 39 = .ok (.getfield 31, 3) := by decide +kernel
theorem dE_extract_42 : decode bE_extract 42 = .ok (.getfield 60, 3) := by decide +kernel
theorem dE_extract_45 : decode bE_extract 45 = .ok (.invokevirtual 136, 3) := by decide +kernel
theorem dE_extract_48 : decode bE_extract 48 = .ok (.aload_n 0, 1) := by decide +kernel
theorem dE_extract_49 : decode bE_extract 49 = .ok (.getfield 53, 3) := by decide +kernel
theorem dE_extract_52 : decode bE_extract 52 = .ok (.getfield 139, 3) := by decide +kernel
theorem dE_extract_55 : decode bE_extract 55 = .ok (.ireturn, 1) := by decide +kernel
theorem dE_wit_0 : decode bE_wit 0 = .ok (.iload_n 1, 1) := by decide +kernel
theorem dE_wit_1 : decode bE_wit 1 = .ok (.ifCond .lt 14, 3) := by decide +kernel
theorem dE_wit_4 : decode bE_wit 4 = .ok (.iload_n 1, 1) := by decide +kernel
theorem dE_wit_5 : decode bE_wit 5 = .ok (.aload_n 0, 1) := by decide +kernel
theorem dE_wit_6 : decode bE_wit 6 = .ok (.getfield 53, 3) := by decide +kernel
theorem dE_wit_9 : decode bE_wit 9 = .ok (.getfield 139, 3) := by decide +kernel
theorem dE_wit_12 : decode bE_wit 12 = .ok (.if_icmp .lt 13, 3) := by decide +kernel
theorem dE_wit_15 : decode bE_wit 15 = .ok (.new 142, 3) := by decide +kernel
theorem dE_wit_18 : decode bE_wit 18 = .ok (.dup, 1) := by decide +kernel
theorem dE_wit_19 : decode bE_wit 19 = .ok (.ldc 144, 2) := by decide +kernel
theorem dE_wit_21 : decode bE_wit 21 = .ok (.invokespecial 146, 3) := by decide +kernel
theorem dE_wit_24 : decode bE_wit 24 = .ok (.athrow, 1) := by decide +kernel
theorem dE_wit_25 : decode bE_wit 25 = .ok (.aload_n 0, 1) := by decide +kernel
theorem dE_wit_26 : decode bE_wit 26 = .ok (.getfield 53, 3) := by decide +kernel
theorem dE_wit_29 : decode bE_wit 29 = .ok (.getfield 147, 3) := by decide +kernel
theorem dE_wit_32 : decode bE_wit 32 = .ok (.iload_n 1, 1) := by decide +kernel
theorem dE_wit_33 : decode bE_wit 33 = .ok (.iaload, 1) := by decide +kernel
theorem dE_wit_34 : decode bE_wit 34 = .ok (.ireturn, 1) := by decide +kernel
theorem dE_items_0 : decode bE_items 0 = .ok (.aload_n 0, 1) := by decide +kernel
theorem dE_items_1 : decode bE_items 1 = .ok (.iload_n 1, 1) := by decide +kernel
theorem dE_items_2 : decode bE_items 2 = .ok (.invokevirtual 152, 3) := by decide +kernel
theorem dE_items_5 : decode bE_items 5 = .ok (.ifCond .ne 13, 3) := by decide +kernel
theorem dE_items_8 : decode bE_items 8 = .ok (.new 142, 3) := by decide +kernel
theorem dE_items_11 : decode bE_items 11 = .ok (.dup, 1) := by decide +kernel
theorem dE_items_12 : decode bE_items 12 = .ok (.ldc 155, 2) := by decide +kernel
theorem dE_items_14 : decode bE_items 14 = .ok (.invokespecial 146, 3) := by decide +kernel
theorem dE_items_17 : decode bE_items 17 = .ok (.athrow, 1) := by decide +kernel
theorem dE_items_18 : decode bE_items 18 = .ok (.aload_n 0, 1) := by decide +kernel
theorem dE_items_19 : decode bE_items 19 = .ok (.getfield 40, 3) := by decide +kernel
theorem dE_items_22 : decode bE_items 22 = .ok (.iload_n 1, 1) := by decide +kernel
theorem dE_items_23 : decode bE_items 23 = .ok (.invokevirtual 121, 3) := by decide +kernel
theorem dE_items_26 : decode bE_items 26 = .ok (.ireturn, 1) := by decide +kernel
theorem dE_hasSet_0 : decode bE_hasSet 0 = .ok (.iload_n 1, 1) := by decide +kernel
theorem dE_hasSet_1 : decode bE_hasSet 1 = .ok (.ifCond .lt 18, 3) := by decide +kernel
theorem dE_hasSet_4 : decode bE_hasSet 4 = .ok (.iload_n 1, 1) := by decide +kernel
theorem dE_hasSet_5 : decode bE_hasSet 5 = .ok (.aload_n 0, 1) := by decide +kernel
theorem dE_hasSet_6 : decode bE_hasSet 6 = .ok (.getfield 31, 3) := by decide +kernel
theorem dE_hasSet_9 : decode bE_hasSet 9 = .ok (.getfield 60, 3) := by decide +kernel
theorem dE_hasSet_12 : decode bE_hasSet 12 = .ok (.if_icmp .gt 7, 3) := by decide +kernel
theorem dE_hasSet_15 : decode bE_hasSet 15 = .ok (.iconst 1, 1) := by decide +kernel
theorem dE_hasSet_16 : decode bE_hasSet 16 = .ok (.goto 4, 3) := by decide +kernel
theorem dE_hasSet_19 : decode bE_hasSet 19 = .ok (.iconst 0, 1) := by decide +kernel
theorem dE_hasSet_20 : decode bE_hasSet 20 = .ok (.ireturn, 1) := by decide +kernel
theorem dE_item_0 : decode bE_item 0 = .ok (.aload_n 0, 1) := by decide +kernel
theorem dE_item_1 : decode bE_item 1 = .ok (.iload_n 1, 1) := by decide +kernel
theorem dE_item_2 : decode bE_item 2 = .ok (.invokevirtual 152, 3) := by decide +kernel
theorem dE_item_5 : decode bE_item 5 = .ok (.ifCond .eq 19, 3) := by decide +kernel
theorem dE_item_8 : decode bE_item 8 = .ok (.iload_n 2, 1) := by decide +kernel
theorem dE_item_9 : decode bE_item 9 = .ok (.ifCond .lt 15, 3) := by decide +kernel
theorem dE_item_12 : decode bE_item 12 = .ok (.iload_n 2, 1) := by decide +kernel
theorem dE_item_13 : decode bE_item 13 = .ok (.aload_n 0, 1) := by decide +kernel
theorem dE_item_14 : decode bE_item 14 = .ok (.getfield 40, 3) := by decide +kernel
theorem dE_item_17 : decode bE_item 17 = .ok (.iload_n 1, 1) := by decide +kernel
theorem dE_item_18 : decode bE_item 18 = .ok (.invokevirtual 121, 3) := by decide +kernel
theorem dE_item_21 : decode bE_item 21 = .ok (.if_icmp .lt 13, 3) := by decide +kernel
theorem dE_item_24 : decode bE_item 24 = .ok (.new 142, 3) := by decide +kernel
theorem dE_item_27 : decode bE_item 27 = .ok (.dup, 1) := by decide +kernel
theorem dE_item_28 : decode bE_item 28 = .ok (.ldc 157, 2) := by decide +kernel
theorem dE_item_30 : decode bE_item 30 = .ok (.invokespecial 146, 3) := by decide +kernel
theorem dE_item_33 : decode bE_item 33 = .ok (.athrow, 1) := by decide +kernel
theorem dE_item_34 : decode bE_item 34 = .ok (.aload_n 0, 1) := by decide +kernel
theorem dE_item_35 : decode bE_item 35 = .ok (.getfield 40, 3) := by decide +kernel
theorem dE_item_38 : decode bE_item 38 = .ok (.iload_n 1, 1) := by decide +kernel
theorem dE_item_39 : decode bE_item 39 = .ok (.iload_n 2, 1) := by decide +kernel
theorem dE_item_40 : decode bE_item 40 = .ok (.invokevirtual 159, 3) := by decide +kernel
theorem dE_item_43 : decode bE_item 43 = .ok (.ireturn, 1) := by decide +kernel
theorem dE_steps_0 : decode bE_steps 0 = .ok (.aload_n 0, 1) := by decide +kernel
theorem dE_steps_1 : decode bE_steps 1 = .ok (.iload_n 1, 1) := by decide +kernel
theorem dE_steps_2 : decode bE_steps 2 = .ok (.invokevirtual 73, 3) := by decide +kernel
theorem dE_steps_5 : decode bE_steps 5 = .ok (.ifCond .ne 21, 3) := by decide +kernel
theorem dE_steps_8 : decode bE_steps 8 = .ok (.aload_n 0, 1) := by decide +kernel
theorem dE_steps_9 : decode bE_steps 9 = .ok (.iload_n 1, 1) := by decide +kernel
theorem dE_steps_10 : decode bE_steps 10 = .ok (.invokevirtual 92, 3) := by decide +kernel
theorem dE_steps_13 : decode bE_steps 13 = .ok (.ifCond .ne 13, 3) := by decide +kernel
theorem dE_steps_16 : decode bE_steps 16 = .ok (.new 77, 3) := by decide +kernel
theorem dE_steps_19 : decode bE_steps 19 = .ok (.dup, 1) := by decide +kernel
theorem dE_steps_20 : decode bE_steps 20 = .ok (.ldc 95, 2) := by decide +kernel
theorem dE_steps_22 : decode bE_steps 22 = .ok (.invokespecial 81, 3) := by decide +kernel
theorem dE_steps_25 : decode bE_steps 25 = .ok (.athrow, 1) := by decide +kernel
theorem dE_steps_26 : decode bE_steps 26 = .ok (.iload_n 2, 1) := by decide +kernel
theorem dE_steps_27 : decode bE_steps 27 = .ok (.ifCond .lt 19, 3) := by decide +kernel
theorem dE_steps_30 : decode bE_steps 30 = .ok (.iload_n 2, 1) := by decide +kernel
theorem dE_steps_31 : decode bE_steps 31 = .ok (.iload_n 3, 1) := by decide +kernel
theorem dE_steps_32 : decode bE_steps 32 = .ok (.if_icmp .gt 14, 3) := by decide +kernel
theorem dE_steps_35 : decode bE_steps 35 = .ok (.iload_n 3, 1) := by decide +kernel
theorem dE_steps_36 : decode bE_steps 36 = .ok (.aload_n 0, 1) := by decide +kernel
theorem dE_steps_37 : decode bE_steps 37 = .ok (.getfield 31, 3) := by decide +kernel
theorem dE_steps_40 : decode bE_steps 40 = .ok (.getfield 60, 3) := by decide +kernel
theorem dE_steps_43 : decode bE_steps 43 = .ok (.if_icmp .le 13, 3) := by decide +kernel
theorem dE_steps_46 : decode bE_steps 46 = .ok (.new 142, 3) := by decide +kernel
theorem dE_steps_49 : decode bE_steps 49 = .ok (.dup, 1) := by decide +kernel
theorem dE_steps_50 : decode bE_steps 50 = .ok (.ldc 163, 2) := by decide +kernel
theorem dE_steps_52 : decode bE_steps 52 = .ok (.invokespecial 146, 3) := by decide +kernel
theorem dE_steps_55 : decode bE_steps 55 = .ok (.athrow, 1) := by decide +kernel
theorem dE_steps_56 : decode bE_steps 56 = .ok (.aload_n 0, 1) := by decide +kernel
theorem dE_steps_57 : decode bE_steps 57 = .ok (.getfield 44, 3) := by decide +kernel
theorem dE_steps_60 : decode bE_steps 60 = .ok (.iload_n 1, 1) := by decide +kernel
theorem dE_steps_61 : decode bE_steps 61 = .ok (.iload_n 2, 1) := by decide +kernel
theorem dE_steps_62 : decode bE_steps 62 = .ok (.iload_n 3, 1) := by decide +kernel
theorem dE_steps_63 : decode bE_steps 63 = .ok (.invokevirtual 165, 3) := by decide +kernel
theorem dE_steps_66 : decode bE_steps 66 = .ok (.ireturn, 1) := by decide +kernel
theorem dE_nullable_0 : decode bE_nullable 0 = .ok (.aload_n 0, 1) := by decide +kernel
theorem dE_nullable_1 : decode bE_nullable 1 = .ok (.iload_n 1, 1) := by decide +kernel
theorem dE_nullable_2 : decode bE_nullable 2 = .ok (.invokevirtual 73, 3) := by decide +kernel
theorem dE_nullable_5 : decode bE_nullable 5 = .ok (.ifCond .ne 13, 3) := by decide +kernel
theorem dE_nullable_8 : decode bE_nullable 8 = .ok (.new 77, 3) := by decide +kernel
theorem dE_nullable_11 : decode bE_nullable 11 = .ok (.dup, 1) := by decide +kernel
theorem dE_nullable_12 : decode bE_nullable 12 = .ok (.ldc 79, 2) := by decide +kernel
theorem dE_nullable_14 : decode bE_nullable 14 = .ok (.invokespecial 81, 3) := by decide +kernel
theorem dE_nullable_17 : decode bE_nullable 17 = .ok (.athrow, 1) := by decide +kernel
theorem dE_nullable_18 : decode bE_nullable 18 = .ok (.aload_n 0, 1) := by decide +kernel
theorem dE_nullable_19 : decode bE_nullable 19 = .ok (.getfield 44, 3) := by decide +kernel
theorem dE_nullable_22 : decode bE_nullable 22 = .ok (.iload_n 1, 1) := by decide +kernel
theorem dE_nullable_23 : decode bE_nullable 23 = .ok (.iconst 0, 1) := by decide +kernel
theorem dE_nullable_24 : decode bE_nullable 24 = .ok (.iconst 0, 1) := by decide +kernel
theorem dE_nullable_25 : decode bE_nullable 25 = .ok (.invokevirtual 165, 3) := by decide +kernel
theorem dE_nullable_28 : decode bE_nullable 28 = .ok (.iconst (-1), 1) := by decide +kernel
theorem dE_nullable_29 : decode bE_nullable 29 = .ok (.if_icmp .eq 7, 3) := by decide +kernel
theorem dE_nullable_32 : decode bE_nullable 32 = .ok (.iconst 1, 1) := by decide +kernel
theorem dE_nullable_33 : decode bE_nullable 33 = .ok (.goto 4, 3) := by decide +kernel
theorem dE_nullable_36 : decode bE_nullable 36 = .ok (.iconst 0, 1) := by decide +kernel
theorem dE_nullable_37 : decode bE_nullable 37 = .ok (.ireturn, 1) := by decide +kernel
theorem dG_init_0 : decode bG_init 0 = .ok (.aload_n 0, 1) := by decide +kernel
theorem dG_init_1 : decode bG_init 1 = .ok (.invokespecial 3, 3) := by decide +kernel
theorem dG_init_4 : decode bG_init 4 = .ok (.aload_n 0, 1) := by decide +kernel
theorem dG_init_5 : decode bG_init 5 = .ok (.bipush 8, 2) := by decide +kernel
theorem dG_init_7 : decode bG_init 7 = .ok (.newarray .int, 2) := by decide +kernel
theorem dG_init_9 : decode bG_init 9 = .ok (.putfield 9, 3) := by decide +kernel
theorem dG_init_12 : decode bG_init 12 = .ok (.aload_n 0, 1) := by decide +kernel
theorem dG_init_13 : decode bG_init 13 = .ok (.bipush 8, 2) := by decide +kernel
theorem dG_init_15 : decode bG_init 15 = .ok (.newarray .int, 2) := by decide +kernel
theorem dG_init_17 : decode bG_init 17 = .ok (.putfield 15, 3) := by decide +kernel
theorem dG_init_20 : decode bG_init 20 = .ok (.aload_n 0, 1) := by decide +kernel
theorem dG_init_21 : decode bG_init 21 = .ok (.bipush 24, 2) := by decide +kernel
theorem dG_init_23 : decode bG_init 23 = .ok (.newarray .int, 2) := by decide +kernel
theorem dG_init_25 : decode bG_init 25 = .ok (.putfield 18, 3) := by decide +kernel
theorem dG_init_28 : decode bG_init 28 = .ok (.aload_n 0, 1) := by decide +kernel
theorem dG_init_29 : decode bG_init 29 = .ok (.bipush 24, 2) := by decide +kernel
theorem dG_init_31 : decode bG_init 31 = .ok (.newarray .int, 2) := by decide +kernel
theorem dG_init_33 : decode bG_init 33 = .ok (.putfield 21, 3) := by decide +kernel
theorem dG_init_36 : decode bG_init 36 = .ok (.aload_n 0, 1) := by decide +kernel
theorem dG_init_37 : decode bG_init 37 = .ok (.iconst 0, 1) := by decide +kernel
theorem dG_init_38 : decode bG_init 38 = .ok (.putfield 24, 3) := by decide +kernel
theorem dG_init_41 : decode bG_init 41 = .ok (.aload_n 0, 1) := by decide +kernel
theorem dG_init_42 : decode bG_init 42 = .ok (.iconst 0, 1) := by decide +kernel
theorem dG_init_43 : decode bG_init 43 = .ok (.putfield 28, 3) := by decide +kernel
theorem dG_init_46 : decode bG_init 46 = .ok (.return_, 1) := by decide +kernel
theorem dG_start_0 : decode bG_start 0 = .ok (.aload_n 0, 1) := by decide +kernel
theorem dG_start_1 : decode bG_start 1 = .ok (.getfield 9, 3) := by decide +kernel
theorem dG_start_4 : decode bG_start 4 = .ok (.iconst 0, 1) := by decide +kernel
theorem dG_start_5 : decode bG_start 5 = .ok (.iaload, 1) := by decide +kernel
theorem dG_start_6 : decode bG_start 6 = .ok (.ireturn, 1) := by decide +kernel
theorem dG_leftSideAt_0 : decode bG_leftSideAt 0 = .ok (.aload_n 0, 1) := by decide +kernel
theorem dG_leftSideAt_1 : decode bG_leftSideAt 1 = .ok (.getfield 9, 3) := by decide +kernel
theorem dG_leftSideAt_4 : decode bG_leftSideAt 4 = .ok (.aload_n 0, 1) := by decide +kernel
theorem dG_leftSideAt_5 : decode bG_leftSideAt 5 = .ok (.getfield 21, 3) := by decide +kernel
theorem dG_leftSideAt_8 : decode bG_leftSideAt 8 = .ok (.iload_n 1, 1) := by decide +kernel
theorem dG_leftSideAt_9 : decode bG_leftSideAt 9 = .ok (.iaload, 1) := by decide +kernel
theorem dG_leftSideAt_10 : decode bG_leftSideAt 10 = .ok (.iaload, 1) := by decide +kernel
theorem dG_leftSideAt_11 : decode bG_leftSideAt 11 = .ok (.ireturn, 1) := by decide +kernel
theorem dG_dotAt_0 : decode bG_dotAt 0 = .ok (.iload_n 1, 1) := by decide +kernel
theorem dG_dotAt_1 : decode bG_dotAt 1 = .ok (.aload_n 0, 1) := by decide +kernel
theorem dG_dotAt_2 : decode bG_dotAt 2 = .ok (.getfield 15, 3) := by decide +kernel
theorem dG_dotAt_5 : decode bG_dotAt 5 = .ok (.aload_n 0, 1) := by decide +kernel
theorem dG_dotAt_6 : decode bG_dotAt 6 = .ok (.getfield 21, 3) := by decide +kernel
theorem dG_dotAt_9 : decode bG_dotAt 9 = .ok (.iload_n 1, 1) := by decide +kernel
theorem dG_dotAt_10 : decode bG_dotAt 10 = .ok (.iaload, 1) := by decide +kernel
theorem dG_dotAt_11 : decode bG_dotAt 11 = .ok (.iaload, 1) := by decide +kernel
theorem dG_dotAt_12 : decode bG_dotAt 12 = .ok (.isub, 1) := by decide +kernel
theorem dG_dotAt_13 : decode bG_dotAt 13 = .ok (.ireturn, 1) := by decide +kernel
theorem dG_forget_0 : decode bG_forget 0 = .ok (.aload_n 0, 1) := by decide +kernel
theorem dG_forget_1 : decode bG_forget 1 = .ok (.iconst 0, 1) := by decide +kernel
theorem dG_forget_2 : decode bG_forget 2 = .ok (.putfield 24, 3) := by decide +kernel
theorem dG_forget_5 : decode bG_forget 5 = .ok (.aload_n 0, 1) := by decide +kernel
theorem dG_forget_6 : decode bG_forget 6 = .ok (.iconst 0, 1) := by decide +kernel
theorem dG_forget_7 : decode bG_forget 7 = .ok (.putfield 28, 3) := by decide +kernel
theorem dG_forget_10 : decode bG_forget 10 = .ok (.return_, 1) := by decide +kernel
theorem dG_openProduction_0 : decode bG_openProduction 0 = .ok (.aload_n 0, 1) := by decide +kernel
theorem dG_openProduction_1 : decode bG_openProduction 1 = .ok (.getfield 24, 3) := by decide +kernel
theorem dG_openProduction_4 : decode bG_openProduction 4 = .ok (.bipush 8, 2) := by decide +kernel
theorem dG_openProduction_6 : decode bG_openProduction 6 = .ok (.if_icmp .ge 40, 3) := by decide +kernel
theorem dG_openProduction_9 : decode bG_openProduction 9 = .ok (.aload_n 0, 1) := by decide +kernel
theorem dG_openProduction_10 : decode bG_openProduction 10 = .ok (.getfield 9, 3) := by decide +kernel
theorem dG_openProduction_13 : decode bG_openProduction 13 = .ok (.aload_n 0, 1) := by decide +kernel
theorem dG_openProduction_14 : decode bG_openProduction 14 = .ok (.getfield 24, 3) := by decide +kernel
theorem dG_openProduction_17 : decode bG_openProduction 17 = .ok (.iload_n 1, 1) := by decide +kernel
theorem dG_openProduction_18 : decode bG_openProduction 18 = .ok (.iastore, 1) := by decide +kernel
theorem dG_openProduction_19 : decode bG_openProduction 19 = .ok (.aload_n 0, 1) := by decide +kernel
theorem dG_openProduction_20 : decode bG_openProduction 20 = .ok (.getfield 15, 3) := by decide +kernel
theorem dG_openProduction_23 : decode bG_openProduction 23 = .ok (.aload_n 0, 1) := by decide +kernel
theorem dG_openProduction_24 : decode bG_openProduction 24 = .ok (.getfield 24, 3) := by decide +kernel
theorem dG_openProduction_27 : decode bG_openProduction 27 = .ok (.aload_n 0, 1) := by decide +kernel
theorem dG_openProduction_28 : decode bG_openProduction 28 = .ok (.getfield 28, 3) := by decide +kernel
theorem dG_openProduction_31 : decode bG_openProduction 31 = .ok (.iastore, 1) := by decide +kernel
theorem dG_openProduction_32 : decode bG_openProduction 32 = .ok (.aload_n 0, 1) := by decide +kernel
theorem dG_openProduction_33 : decode bG_openProduction 33 = .ok (.dup, 1) := by decide +kernel
theorem dG_openProduction_34 : decode bG_openProduction 34 = .ok (.getfield 24, 3) := by decide +kernel
theorem dG_openProduction_37 : decode bG_openProduction 37 = .ok (.iconst 1, 1) := by decide +kernel
theorem dG_openProduction_38 : decode bG_openProduction 38 = .ok (.iadd, 1) := by decide +kernel
theorem dG_openProduction_39 : decode bG_openProduction 39 = .ok (.putfield 24, 3) := by decide +kernel
theorem dG_openProduction_42 : decode bG_openProduction 42 = .ok (.aload_n 0, 1) := by decide +kernel
theorem dG_openProduction_43 : decode bG_openProduction 43 = .ok (.invokevirtual 35, 3) := by decide +kernel
theorem dG_openProduction_46 : decode bG_openProduction 46 = .ok (.return_, 1) := by decide +kernel
theorem dG_openSlot_0 : decode bG_openSlot 0 = .ok (.aload_n 0, 1) := by decide +kernel
theorem dG_openSlot_1 : decode bG_openSlot 1 = .ok (.getfield 28, 3) := by decide +kernel
theorem dG_openSlot_4 : decode bG_openSlot 4 = .ok (.bipush 24, 2) := by decide +kernel
theorem dG_openSlot_6 : decode bG_openSlot 6 = .ok (.if_icmp .ge 38, 3) := by decide +kernel
theorem dG_openSlot_9 : decode bG_openSlot 9 = .ok (.aload_n 0, 1) := by decide +kernel
theorem dG_openSlot_10 : decode bG_openSlot 10 = .ok (.getfield 18, 3) := by decide +kernel
theorem dG_openSlot_13 : decode bG_openSlot 13 = .ok (.aload_n 0, 1) := by decide +kernel
theorem dG_openSlot_14 : decode bG_openSlot 14 = .ok (.getfield 28, 3) := by decide +kernel
theorem dG_openSlot_17 : decode bG_openSlot 17 = .ok (.iconst (-1), 1) := by decide +kernel
theorem dG_openSlot_18 : decode bG_openSlot 18 = .ok (.iastore, 1) := by decide +kernel
theorem dG_openSlot_19 : decode bG_openSlot 19 = .ok (.aload_n 0, 1) := by decide +kernel
theorem dG_openSlot_20 : decode bG_openSlot 20 = .ok (.getfield 21, 3) := by decide +kernel
theorem dG_openSlot_23 : decode bG_openSlot 23 = .ok (.aload_n 0, 1) := by decide +kernel
theorem dG_openSlot_24 : decode bG_openSlot 24 = .ok (.getfield 28, 3) := by decide +kernel
theorem dG_openSlot_27 : decode bG_openSlot 27 = .ok (.aload_n 0, 1) := by decide +kernel
theorem dG_openSlot_28 : decode bG_openSlot 28 = .ok (.getfield 24, 3) := by decide +kernel
theorem dG_openSlot_31 : decode bG_openSlot 31 = .ok (.iconst 1, 1) := by decide +kernel
theorem dG_openSlot_32 : decode bG_openSlot 32 = .ok (.isub, 1) := by decide +kernel
theorem dG_openSlot_33 : decode bG_openSlot 33 = .ok (.iastore, 1) := by decide +kernel
theorem dG_openSlot_34 : decode bG_openSlot 34 = .ok (.aload_n 0, 1) := by decide +kernel
theorem dG_openSlot_35 : decode bG_openSlot 35 = .ok (.dup, 1) := by decide +kernel
theorem dG_openSlot_36 : decode bG_openSlot 36 = .ok (.getfield 28, 3) := by decide +kernel
theorem dG_openSlot_39 : decode bG_openSlot 39 = .ok (.iconst 1, 1) := by decide +kernel
theorem dG_openSlot_40 : decode bG_openSlot 40 = .ok (.iadd, 1) := by decide +kernel
theorem dG_openSlot_41 : decode bG_openSlot 41 = .ok (.putfield 28, 3) := by decide +kernel
theorem dG_openSlot_44 : decode bG_openSlot 44 = .ok (.return_, 1) := by decide +kernel
theorem dG_hasRoomForSymbol_0 : decode bG_hasRoomForSymbol 0 = .ok (.aload_n 0, 1) := by decide +kernel
theorem dG_hasRoomForSymbol_1 : decode bG_hasRoomForSymbol 1 = .ok (.getfield 24, 3) := by decide +kernel
theorem dG_hasRoomForSymbol_4 : decode bG_hasRoomForSymbol 4 = .ok (.ifCond .le 29, 3) := by decide +kernel
theorem dG_hasRoomForSymbol_7 : decode bG_hasRoomForSymbol 7 = .ok (.aload_n 0, 1) := by decide +kernel
theorem dG_hasRoomForSymbol_8 : decode bG_hasRoomForSymbol 8 = .ok (.invokevirtual 31, 3) := by decide +kernel
theorem dG_hasRoomForSymbol_11 : decode bG_hasRoomForSymbol 11 = .ok (.iconst 4, 1) := by decide +kernel
theorem dG_hasRoomForSymbol_12 : decode bG_hasRoomForSymbol 12 = .ok (.if_icmp .ge 21, 3) := by decide +kernel
theorem dG_hasRoomForSymbol_15 : decode bG_hasRoomForSymbol 15 = .ok (.aload_n 0, 1) := by decide +kernel
theorem dG_hasRoomForSymbol_16 : decode bG_hasRoomForSymbol 16 = .ok (.getfield 28, 3) := by decide +kernel
theorem dG_hasRoomForSymbol_19 : decode bG_hasRoomForSymbol 19 = .ok (.aload_n 0, 1) := by decide +kernel
theorem dG_hasRoomForSymbol_20 : decode bG_hasRoomForSymbol 20 = .ok (.getfield 24, 3) := by decide +kernel
theorem dG_hasRoomForSymbol_23 : decode bG_hasRoomForSymbol 23 = .ok (.isub, 1) := by decide +kernel
theorem dG_hasRoomForSymbol_24 : decode bG_hasRoomForSymbol 24 = .ok (.bipush 16, 2) := by decide +kernel
theorem dG_hasRoomForSymbol_26 : decode bG_hasRoomForSymbol 26 = .ok (.if_icmp .ge 7, 3) := by decide +kernel
theorem dG_hasRoomForSymbol_29 : decode bG_hasRoomForSymbol 29 = .ok (.iconst 1, 1) := by decide +kernel
theorem dG_hasRoomForSymbol_30 : decode bG_hasRoomForSymbol 30 = .ok (.goto 4, 3) := by decide +kernel
theorem dG_hasRoomForSymbol_33 : decode bG_hasRoomForSymbol 33 = .ok (.iconst 0, 1) := by decide +kernel
theorem dG_hasRoomForSymbol_34 : decode bG_hasRoomForSymbol 34 = .ok (.ireturn, 1) := by decide +kernel
theorem dG_lastLength_0 : decode bG_lastLength 0 = .ok (.aload_n 0, 1) := by decide +kernel
theorem dG_lastLength_1 : decode bG_lastLength 1 = .ok (.getfield 24, 3) := by decide +kernel
theorem dG_lastLength_4 : decode bG_lastLength 4 = .ok (.ifCond .ne 7, 3) := by decide +kernel
theorem dG_lastLength_7 : decode bG_lastLength 7 = .ok (.iconst 0, 1) := by decide +kernel
theorem dG_lastLength_8 : decode bG_lastLength 8 = .ok (.goto 21, 3) := by decide +kernel
theorem dG_lastLength_11 : decode bG_lastLength 11 = .ok (.aload_n 0, 1) := by decide +kernel
theorem dG_lastLength_12 : decode bG_lastLength 12 = .ok (.getfield 28, 3) := by decide +kernel
theorem dG_lastLength_15 : decode bG_lastLength 15 = .ok (.iconst 1, 1) := by decide +kernel
theorem dG_lastLength_16 : decode bG_lastLength 16 = .ok (.isub, 1) := by decide +kernel
theorem dG_lastLength_17 : decode bG_lastLength 17 = .ok (.aload_n 0, 1) := by decide +kernel
theorem dG_lastLength_18 : decode bG_lastLength 18 = .ok (.getfield 15, 3) := by decide +kernel
theorem dG_lastLength_21 : decode bG_lastLength 21 = .ok (.aload_n 0, 1) := by decide +kernel
theorem dG_lastLength_22 : decode bG_lastLength 22 = .ok (.getfield 24, 3) := by decide +kernel
theorem dG_lastLength_25 : decode bG_lastLength 25 = .ok (.iconst 1, 1) := by decide +kernel
theorem dG_lastLength_26 : decode bG_lastLength 26 = .ok (.isub, 1) := by decide +kernel
theorem dG_lastLength_27 : decode bG_lastLength 27 = .ok (.iaload, 1) := by decide +kernel
theorem dG_lastLength_28 : decode bG_lastLength 28 = .ok (.isub, 1) := by decide +kernel
theorem dG_lastLength_29 : decode bG_lastLength 29 = .ok (.ireturn, 1) := by decide +kernel
theorem dG_appendSymbol_0 : decode bG_appendSymbol 0 = .ok (.aload_n 0, 1) := by decide +kernel
theorem dG_appendSymbol_1 : decode bG_appendSymbol 1 = .ok (.invokevirtual 38, 3) := by decide +kernel
theorem dG_appendSymbol_4 : decode bG_appendSymbol 4 = .ok (.ifCond .eq 19, 3) := by decide +kernel
theorem dG_appendSymbol_7 : decode bG_appendSymbol 7 = .ok (.aload_n 0, 1) := by decide +kernel
theorem dG_appendSymbol_8 : decode bG_appendSymbol 8 = .ok (.getfield 18, 3) := by decide +kernel
theorem dG_appendSymbol_11 : decode bG_appendSymbol 11 = .ok (.aload_n 0, 1) := by decide +kernel
theorem dG_appendSymbol_12 : decode bG_appendSymbol 12 = .ok (.getfield 28, 3) := by decide +kernel
theorem dG_appendSymbol_15 : decode bG_appendSymbol 15 = .ok (.iconst 1, 1) := by decide +kernel
theorem dG_appendSymbol_16 : decode bG_appendSymbol 16 = .ok (.isub, 1) := by decide +kernel
theorem dG_appendSymbol_17 : decode bG_appendSymbol 17 = .ok (.iload_n 1, 1) := by decide +kernel
theorem dG_appendSymbol_18 : decode bG_appendSymbol 18 = .ok (.iastore, 1) := by decide +kernel
theorem dG_appendSymbol_19 : decode bG_appendSymbol 19 = .ok (.aload_n 0, 1) := by decide +kernel
theorem dG_appendSymbol_20 : decode bG_appendSymbol 20 = .ok (.invokevirtual 35, 3) := by decide +kernel
theorem dG_appendSymbol_23 : decode bG_appendSymbol 23 = .ok (.return_, 1) := by decide +kernel
theorem dI_init_0 : decode bI_init 0 = .ok (.aload_n 0, 1) := by decide +kernel
theorem dI_init_1 : decode bI_init 1 = .ok (.invokespecial 3, 3) := by decide +kernel
theorem dI_init_4 : decode bI_init 4 = .ok (.aload_n 0, 1) := by decide +kernel
theorem dI_init_5 : decode bI_init 5 = .ok (.bipush 8, 2) := by decide +kernel
theorem dI_init_7 : decode bI_init 7 = .ok (.newarray .int, 2) := by decide +kernel
theorem dI_init_9 : decode bI_init 9 = .ok (.putfield 9, 3) := by decide +kernel
theorem dI_init_12 : decode bI_init 12 = .ok (.aload_n 0, 1) := by decide +kernel
theorem dI_init_13 : decode bI_init 13 = .ok (.iconst 0, 1) := by decide +kernel
theorem dI_init_14 : decode bI_init 14 = .ok (.putfield 15, 3) := by decide +kernel
theorem dI_init_17 : decode bI_init 17 = .ok (.return_, 1) := by decide +kernel
theorem dI_isJust_0 : decode bI_isJust 0 = .ok (.iload_n 3, 1) := by decide +kernel
theorem dI_isJust_1 : decode bI_isJust 1 = .ok (.iload_n 2, 1) := by decide +kernel
theorem dI_isJust_2 : decode bI_isJust 2 = .ok (.iconst 1, 1) := by decide +kernel
theorem dI_isJust_3 : decode bI_isJust 3 = .ok (.iadd, 1) := by decide +kernel
theorem dI_isJust_4 : decode bI_isJust 4 = .ok (.if_icmp .ne 29, 3) := by decide +kernel
theorem dI_isJust_7 : decode bI_isJust 7 = .ok (.iload_n 2, 1) := by decide +kernel
theorem dI_isJust_8 : decode bI_isJust 8 = .ok (.ifCond .lt 25, 3) := by decide +kernel
theorem dI_isJust_11 : decode bI_isJust 11 = .ok (.iload_n 2, 1) := by decide +kernel
theorem dI_isJust_12 : decode bI_isJust 12 = .ok (.aload_n 0, 1) := by decide +kernel
theorem dI_isJust_13 : decode bI_isJust 13 = .ok (.getfield 15, 3) := by decide +kernel
theorem dI_isJust_16 : decode bI_isJust 16 = .ok (.if_icmp .ge 17, 3) := by decide +kernel
theorem dI_isJust_19 : decode bI_isJust 19 = .ok (.aload_n 0, 1) := by decide +kernel
theorem dI_isJust_20 : decode bI_isJust 20 = .ok (.getfield 9, 3) := by decide +kernel
theorem dI_isJust_23 : decode bI_isJust 23 = .ok (.iload_n 2, 1) := by decide +kernel
theorem dI_isJust_24 : decode bI_isJust 24 = .ok (.iaload, 1) := by decide +kernel
theorem dI_isJust_25 : decode bI_isJust 25 = .ok (.iload_n 1, 1) := by decide +kernel
theorem dI_isJust_26 : decode bI_isJust 26 = .ok (.if_icmp .ne 7, 3) := by decide +kernel
theorem dI_isJust_29 : decode bI_isJust 29 = .ok (.iconst 1, 1) := by decide +kernel
theorem dI_isJust_30 : decode bI_isJust 30 = .ok (.goto 4, 3) := by decide +kernel
theorem dI_isJust_33 : decode bI_isJust 33 = .ok (.iconst 0, 1) := by decide +kernel
theorem dI_isJust_34 : decode bI_isJust 34 = .ok (.ireturn, 1) := by decide +kernel
theorem dI_append_0 : decode bI_append 0 = .ok (.aload_n 0, 1) := by decide +kernel
theorem dI_append_1 : decode bI_append 1 = .ok (.getfield 15, 3) := by decide +kernel
theorem dI_append_4 : decode bI_append 4 = .ok (.bipush 8, 2) := by decide +kernel
theorem dI_append_6 : decode bI_append 6 = .ok (.if_icmp .ge 23, 3) := by decide +kernel
theorem dI_append_9 : decode bI_append 9 = .ok (.aload_n 0, 1) := by decide +kernel
theorem dI_append_10 : decode bI_append 10 = .ok (.getfield 9, 3) := by decide +kernel
theorem dI_append_13 : decode bI_append 13 = .ok (.aload_n 0, 1) := by decide +kernel
theorem dI_append_14 : decode bI_append 14 = .ok (.getfield 15, 3) := by decide +kernel
theorem dI_append_17 : decode bI_append 17 = .ok (.iload_n 1, 1) := by decide +kernel
theorem dI_append_18 : decode bI_append 18 = .ok (.iastore, 1) := by decide +kernel
theorem dI_append_19 : decode bI_append 19 = .ok (.aload_n 0, 1) := by decide +kernel
theorem dI_append_20 : decode bI_append 20 = .ok (.dup, 1) := by decide +kernel
theorem dI_append_21 : decode bI_append 21 = .ok (.getfield 15, 3) := by decide +kernel
theorem dI_append_24 : decode bI_append 24 = .ok (.iconst 1, 1) := by decide +kernel
theorem dI_append_25 : decode bI_append 25 = .ok (.iadd, 1) := by decide +kernel
theorem dI_append_26 : decode bI_append 26 = .ok (.putfield 15, 3) := by decide +kernel
theorem dI_append_29 : decode bI_append 29 = .ok (.return_, 1) := by decide +kernel
theorem dJ_fill_0 : decode bJ_fill 0 = .ok (.iconst 0, 1) := by decide +kernel
theorem dJ_fill_1 : decode bJ_fill 1 = .ok (.istore_n 2, 1) := by decide +kernel
theorem dJ_fill_2 : decode bJ_fill 2 = .ok (.aload_n 0, 1) := by decide +kernel
theorem dJ_fill_3 : decode bJ_fill 3 = .ok (.arraylength, 1) := by decide +kernel
theorem dJ_fill_4 : decode bJ_fill 4 = .ok (.istore_n 3, 1) := by decide +kernel
theorem dJ_fill_5 : decode bJ_fill 5 = .ok (.iload_n 2, 1) := by decide +kernel
theorem dJ_fill_6 : decode bJ_fill 6 = .ok (.iload_n 3, 1) := by decide +kernel
theorem dJ_fill_7 : decode bJ_fill 7 = .ok (.if_icmp .ge 13, 3) := by decide +kernel
theorem dJ_fill_10 : decode bJ_fill 10 = .ok (.aload_n 0, 1) := by decide +kernel
theorem dJ_fill_11 : decode bJ_fill 11 = .ok (.iload_n 2, 1) := by decide +kernel
theorem dJ_fill_12 : decode bJ_fill 12 = .ok (.iload_n 1, 1) := by decide +kernel
theorem dJ_fill_13 : decode bJ_fill 13 = .ok (.iastore, 1) := by decide +kernel
theorem dJ_fill_14 : decode bJ_fill 14 = .ok (.iinc 2 1, 3) := by decide +kernel
theorem dJ_fill_17 : decode bJ_fill 17 = .ok (.goto (-12), 3) := by decide +kernel
theorem dJ_fill_20 : decode bJ_fill 20 = .ok (.return_, 1) := by decide +kernel
theorem dJ_bitCount_0 : decode bJ_bitCount 0 = .ok (.iload_n 0, 1) := by decide +kernel
theorem dJ_bitCount_1 : decode bJ_bitCount 1 = .ok (.iload_n 0, 1) := by decide +kernel
theorem dJ_bitCount_2 : decode bJ_bitCount 2 = .ok (.iconst 1, 1) := by decide +kernel
theorem dJ_bitCount_3 : decode bJ_bitCount 3 = .ok (.iushr, 1) := by decide +kernel
theorem dJ_bitCount_4 : decode bJ_bitCount 4 = .ok (.ldc_w 265, 3) := by decide +kernel
theorem dJ_bitCount_7 : decode bJ_bitCount 7 = .ok (.iand, 1) := by decide +kernel
theorem dJ_bitCount_8 : decode bJ_bitCount 8 = .ok (.isub, 1) := by decide +kernel
theorem dJ_bitCount_9 : decode bJ_bitCount 9 = .ok (.istore_n 0, 1) := by decide +kernel
theorem dJ_bitCount_10 : decode bJ_bitCount 10 = .ok (.iload_n 0, 1) := by decide +kernel
theorem dJ_bitCount_11 : decode bJ_bitCount 11 = .ok (.ldc_w 266, 3) := by decide +kernel
theorem dJ_bitCount_14 : decode bJ_bitCount 14 = .ok (.iand, 1) := by decide +kernel
theorem dJ_bitCount_15 : decode bJ_bitCount 15 = .ok (.iload_n 0, 1) := by decide +kernel
theorem dJ_bitCount_16 : decode bJ_bitCount 16 = .ok (.iconst 2, 1) := by decide +kernel
theorem dJ_bitCount_17 : decode bJ_bitCount 17 = .ok (.iushr, 1) := by decide +kernel
theorem dJ_bitCount_18 : decode bJ_bitCount 18 = .ok (.ldc_w 266, 3) := by decide +kernel
theorem dJ_bitCount_21 : decode bJ_bitCount 21 = .ok (.iand, 1) := by decide +kernel
theorem dJ_bitCount_22 : decode bJ_bitCount 22 = .ok (.iadd, 1) := by decide +kernel
theorem dJ_bitCount_23 : decode bJ_bitCount 23 = .ok (.istore_n 0, 1) := by decide +kernel
theorem dJ_bitCount_24 : decode bJ_bitCount 24 = .ok (.iload_n 0, 1) := by decide +kernel
theorem dJ_bitCount_25 : decode bJ_bitCount 25 = .ok (.iload_n 0, 1) := by decide +kernel
theorem dJ_bitCount_26 : decode bJ_bitCount 26 = .ok (.iconst 4, 1) := by decide +kernel
theorem dJ_bitCount_27 : decode bJ_bitCount 27 = .ok (.iushr, 1) := by decide +kernel
theorem dJ_bitCount_28 : decode bJ_bitCount 28 = .ok (.iadd, 1) := by decide +kernel
theorem dJ_bitCount_29 : decode bJ_bitCount 29 = .ok (.ldc_w 267, 3) := by decide +kernel
theorem dJ_bitCount_32 : decode bJ_bitCount 32 = .ok (.iand, 1) := by decide +kernel
theorem dJ_bitCount_33 : decode bJ_bitCount 33 = .ok (.istore_n 0, 1) := by decide +kernel
theorem dJ_bitCount_34 : decode bJ_bitCount 34 = .ok (.iload_n 0, 1) := by decide +kernel
theorem dJ_bitCount_35 : decode bJ_bitCount 35 = .ok (.iload_n 0, 1) := by decide +kernel
theorem dJ_bitCount_36 : decode bJ_bitCount 36 = .ok (.bipush 8, 2) := by decide +kernel
theorem dJ_bitCount_38 : decode bJ_bitCount 38 = .ok (.iushr, 1) := by decide +kernel
theorem dJ_bitCount_39 : decode bJ_bitCount 39 = .ok (.iadd, 1) := by decide +kernel
theorem dJ_bitCount_40 : decode bJ_bitCount 40 = .ok (.istore_n 0, 1) := by decide +kernel
theorem dJ_bitCount_41 : decode bJ_bitCount 41 = .ok (.iload_n 0, 1) := by decide +kernel
theorem dJ_bitCount_42 : decode bJ_bitCount 42 = .ok (.iload_n 0, 1) := by decide +kernel
theorem dJ_bitCount_43 : decode bJ_bitCount 43 = .ok (.bipush 16, 2) := by decide +kernel
theorem dJ_bitCount_45 : decode bJ_bitCount 45 = .ok (.iushr, 1) := by decide +kernel
theorem dJ_bitCount_46 : decode bJ_bitCount 46 = .ok (.iadd, 1) := by decide +kernel
theorem dJ_bitCount_47 : decode bJ_bitCount 47 = .ok (.istore_n 0, 1) := by decide +kernel
theorem dJ_bitCount_48 : decode bJ_bitCount 48 = .ok (.iload_n 0, 1) := by decide +kernel
theorem dJ_bitCount_49 : decode bJ_bitCount 49 = .ok (.bipush 63, 2) := by decide +kernel
theorem dJ_bitCount_51 : decode bJ_bitCount 51 = .ok (.iand, 1) := by decide +kernel
theorem dJ_bitCount_52 : decode bJ_bitCount 52 = .ok (.ireturn, 1) := by decide +kernel
