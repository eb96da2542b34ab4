theorem dS_init_0 : decode bS_init 0 = .ok (.aload_n 0, 1) := by decide +kernel
theorem dS_init_1 : decode bS_init 1 = .ok (.invokespecial 3, 3) := by decide +kernel
theorem dS_init_4 : decode bS_init 4 = .ok (.aload_n 0, 1) := by decide +kernel
theorem dS_init_5 : decode bS_init 5 = .ok (.bipush 9, 2) := by decide +kernel
theorem dS_init_7 : decode bS_init 7 = .ok (.bipush 24, 2) := by decide +kernel
theorem dS_init_9 : decode bS_init 9 = .ok (.multianewarray 9 2, 4) := by decide +kernel
theorem dS_init_13 : decode bS_init 13 = .ok (.putfield 11, 3) := by decide +kernel
theorem dS_init_16 : decode bS_init 16 = .ok (.aload_n 0, 1) := by decide +kernel
theorem dS_init_17 : decode bS_init 17 = .ok (.bipush 6, 2) := by decide +kernel
theorem dS_init_19 : decode bS_init 19 = .ok (.newarray .int, 2) := by decide +kernel
theorem dS_init_21 : decode bS_init 21 = .ok (.putfield 16, 3) := by decide +kernel
theorem dS_init_24 : decode bS_init 24 = .ok (.aload_n 0, 1) := by decide +kernel
theorem dS_init_25 : decode bS_init 25 = .ok (.aload_n 1, 1) := by decide +kernel
theorem dS_init_26 : decode bS_init 26 = .ok (.putfield 20, 3) := by decide +kernel
theorem dS_init_29 : decode bS_init 29 = .ok (.return_, 1) := by decide +kernel
theorem dS_makeFirst_0 : decode bS_makeFirst 0 = .ok (.aload_n 0, 1) := by decide +kernel
theorem dS_makeFirst_1 : decode bS_makeFirst 1 = .ok (.getfield 11, 3) := by decide +kernel
theorem dS_makeFirst_4 : decode bS_makeFirst 4 = .ok (.iconst 0, 1) := by decide +kernel
theorem dS_makeFirst_5 : decode bS_makeFirst 5 = .ok (.aaload, 1) := by decide +kernel
theorem dS_makeFirst_6 : decode bS_makeFirst 6 = .ok (.iconst 0, 1) := by decide +kernel
theorem dS_makeFirst_7 : decode bS_makeFirst 7 = .ok (.invokestatic 24, 3) := by decide +kernel
theorem dS_makeFirst_10 : decode bS_makeFirst 10 = .ok (.aload_n 0, 1) := by decide +kernel
theorem dS_makeFirst_11 : decode bS_makeFirst 11 = .ok (.getfield 20, 3) := by decide +kernel
theorem dS_makeFirst_14 : decode bS_makeFirst 14 = .ok (.getfield 30, 3) := by decide +kernel
theorem dS_makeFirst_17 : decode bS_makeFirst 17 = .ok (.ifCond .le 20, 3) := by decide +kernel
theorem dS_makeFirst_20 : decode bS_makeFirst 20 = .ok (.aload_n 0, 1) := by decide +kernel
theorem dS_makeFirst_21 : decode bS_makeFirst 21 = .ok (.iconst 0, 1) := by decide +kernel
theorem dS_makeFirst_22 : decode bS_makeFirst 22 = .ok (.aload_n 0, 1) := by decide +kernel
theorem dS_makeFirst_23 : decode bS_makeFirst 23 = .ok (.getfield 20, 3) := by decide +kernel
theorem dS_makeFirst_26 : decode bS_makeFirst 26 = .ok (.invokevirtual 36, 3) := by decide +kernel
theorem dS_makeFirst_29 : decode bS_makeFirst 29 = .ok (.invokevirtual 40, 3) := by decide +kernel
theorem dS_makeFirst_32 : decode bS_makeFirst 32 = .ok (.aload_n 0, 1) := by decide +kernel
theorem dS_makeFirst_33 : decode bS_makeFirst 33 = .ok (.iconst 0, 1) := by decide +kernel
theorem dS_makeFirst_34 : decode bS_makeFirst 34 = .ok (.invokevirtual 44, 3) := by decide +kernel
theorem dS_makeFirst_37 : decode bS_makeFirst 37 = .ok (.return_, 1) := by decide +kernel
theorem dS_predict_0 : decode bS_predict 0 = .ok (.iconst 0, 1) := by decide +kernel
theorem dS_predict_1 : decode bS_predict 1 = .ok (.istore_n 3, 1) := by decide +kernel
theorem dS_predict_2 : decode bS_predict 2 = .ok (.iload_n 3, 1) := by decide +kernel
theorem dS_predict_3 : decode bS_predict 3 = .ok (.aload_n 0, 1) := by decide +kernel
theorem dS_predict_4 : decode bS_predict 4 = .ok (.getfield 20, 3) := by decide +kernel
theorem dS_predict_7 : decode bS_predict 7 = .ok (.getfield 30, 3) := by decide +kernel
theorem dS_predict_10 : decode bS_predict 10 = .ok (.if_icmp .ge 44, 3) := by decide +kernel
theorem dS_predict_13 : decode bS_predict 13 = .ok (.aload_n 0, 1) := by decide +kernel
theorem dS_predict_14 : decode bS_predict 14 = .ok (.getfield 20, 3) := by decide +kernel
theorem dS_predict_17 : decode bS_predict 17 = .ok (.getfield 89, 3) := by decide +kernel
theorem dS_predict_20 : decode bS_predict 20 = .ok (.iload_n 3, 1) := by decide +kernel
theorem dS_predict_21 : decode bS_predict 21 = .ok (.iaload, 1) := by decide +kernel
theorem dS_predict_22 : decode bS_predict 22 = .ok (.iload_n 2, 1) := by decide +kernel
theorem dS_predict_23 : decode bS_predict 23 = .ok (.if_icmp .ne 25, 3) := by decide +kernel
theorem dS_predict_26 : decode bS_predict 26 = .ok (.aload_n 0, 1) := by decide +kernel
theorem dS_predict_27 : decode bS_predict 27 = .ok (.getfield 11, 3) := by decide +kernel
theorem dS_predict_30 : decode bS_predict 30 = .ok (.iload_n 1, 1) := by decide +kernel
theorem dS_predict_31 : decode bS_predict 31 = .ok (.aaload, 1) := by decide +kernel
theorem dS_predict_32 : decode bS_predict 32 = .ok (.aload_n 0, 1) := by decide +kernel
theorem dS_predict_33 : decode bS_predict 33 = .ok (.getfield 20, 3) := by decide +kernel
theorem dS_predict_36 : decode bS_predict 36 = .ok (.getfield 92, 3) := by decide +kernel
theorem dS_predict_39 : decode bS_predict 39 = .ok (.iload_n 3, 1) := by decide +kernel
theorem dS_predict_40 : decode bS_predict 40 = .ok (.iaload, 1) := by decide +kernel
theorem dS_predict_41 : decode bS_predict 41 = .ok (.dup2, 1) := by decide +kernel
theorem dS_predict_42 : decode bS_predict 42 = .ok (.iaload, 1) := by decide +kernel
theorem dS_predict_43 : decode bS_predict 43 = .ok (.iconst 1, 1) := by decide +kernel
theorem dS_predict_44 : decode bS_predict 44 = .ok (.iload_n 1, 1) := by decide +kernel
theorem dS_predict_45 : decode bS_predict 45 = .ok (.ishl, 1) := by decide +kernel
theorem dS_predict_46 : decode bS_predict 46 = .ok (.ior, 1) := by decide +kernel
theorem dS_predict_47 : decode bS_predict 47 = .ok (.iastore, 1) := by decide +kernel
theorem dS_predict_48 : decode bS_predict 48 = .ok (.iinc 3 1, 3) := by decide +kernel
theorem dS_predict_51 : decode bS_predict 51 = .ok (.goto (-49), 3) := by decide +kernel
theorem dS_predict_54 : decode bS_predict 54 = .ok (.return_, 1) := by decide +kernel
theorem dS_close_0 : decode bS_close 0 = .ok (.iconst 1, 1) := by decide +kernel
theorem dS_close_1 : decode bS_close 1 = .ok (.istore_n 2, 1) := by decide +kernel
theorem dS_close_2 : decode bS_close 2 = .ok (.iconst 0, 1) := by decide +kernel
theorem dS_close_3 : decode bS_close 3 = .ok (.istore_n 3, 1) := by decide +kernel
theorem dS_close_4 : decode bS_close 4 = .ok (.iload_n 2, 1) := by decide +kernel
theorem dS_close_5 : decode bS_close 5 = .ok (.ifCond .eq 49, 3) := by decide +kernel
theorem dS_close_8 : decode bS_close 8 = .ok (.iload_n 3, 1) := by decide +kernel
theorem dS_close_9 : decode bS_close 9 = .ok (.sipush 1000, 3) := by decide +kernel
theorem dS_close_12 : decode bS_close 12 = .ok (.if_icmp .ge 42, 3) := by decide +kernel
theorem dS_close_15 : decode bS_close 15 = .ok (.aload_n 0, 1) := by decide +kernel
theorem dS_close_16 : decode bS_close 16 = .ok (.iload_n 1, 1) := by decide +kernel
theorem dS_close_17 : decode bS_close 17 = .ok (.invokevirtual 73, 3) := by decide +kernel
theorem dS_close_20 : decode bS_close 20 = .ok (.istore 4, 2) := by decide +kernel
theorem dS_close_22 : decode bS_close 22 = .ok (.aload_n 0, 1) := by decide +kernel
theorem dS_close_23 : decode bS_close 23 = .ok (.iload_n 1, 1) := by decide +kernel
theorem dS_close_24 : decode bS_close 24 = .ok (.invokevirtual 76, 3) := by decide +kernel
theorem dS_close_27 : decode bS_close 27 = .ok (.aload_n 0, 1) := by decide +kernel
theorem dS_close_28 : decode bS_close 28 = .ok (.iload_n 1, 1) := by decide +kernel
theorem dS_close_29 : decode bS_close 29 = .ok (.invokevirtual 79, 3) := by decide +kernel
theorem dS_close_32 : decode bS_close 32 = .ok (.aload_n 0, 1) := by decide +kernel
theorem dS_close_33 : decode bS_close 33 = .ok (.iload_n 1, 1) := by decide +kernel
theorem dS_close_34 : decode bS_close 34 = .ok (.invokevirtual 73, 3) := by decide +kernel
theorem dS_close_37 : decode bS_close 37 = .ok (.iload 4, 2) := by decide +kernel
theorem dS_close_39 : decode bS_close 39 = .ok (.if_icmp .le 7, 3) := by decide +kernel
theorem dS_close_42 : decode bS_close 42 = .ok (.iconst 1, 1) := by decide +kernel
theorem dS_close_43 : decode bS_close 43 = .ok (.goto 4, 3) := by decide +kernel
theorem dS_close_46 : decode bS_close 46 = .ok (.iconst 0, 1) := by decide +kernel
theorem dS_close_47 : decode bS_close 47 = .ok (.istore_n 2, 1) := by decide +kernel
theorem dS_close_48 : decode bS_close 48 = .ok (.iinc 3 1, 3) := by decide +kernel
theorem dS_close_51 : decode bS_close 51 = .ok (.goto (-47), 3) := by decide +kernel
theorem dS_close_54 : decode bS_close 54 = .ok (.return_, 1) := by decide +kernel
theorem dS_size_0 : decode bS_size 0 = .ok (.iconst 0, 1) := by decide +kernel
theorem dS_size_1 : decode bS_size 1 = .ok (.istore_n 2, 1) := by decide +kernel
theorem dS_size_2 : decode bS_size 2 = .ok (.iconst 0, 1) := by decide +kernel
theorem dS_size_3 : decode bS_size 3 = .ok (.istore_n 3, 1) := by decide +kernel
theorem dS_size_4 : decode bS_size 4 = .ok (.iload_n 3, 1) := by decide +kernel
theorem dS_size_5 : decode bS_size 5 = .ok (.aload_n 0, 1) := by decide +kernel
theorem dS_size_6 : decode bS_size 6 = .ok (.getfield 20, 3) := by decide +kernel
theorem dS_size_9 : decode bS_size 9 = .ok (.getfield 48, 3) := by decide +kernel
theorem dS_size_12 : decode bS_size 12 = .ok (.if_icmp .ge 23, 3) := by decide +kernel
theorem dS_size_15 : decode bS_size 15 = .ok (.iload_n 2, 1) := by decide +kernel
theorem dS_size_16 : decode bS_size 16 = .ok (.aload_n 0, 1) := by decide +kernel
theorem dS_size_17 : decode bS_size 17 = .ok (.getfield 11, 3) := by decide +kernel
theorem dS_size_20 : decode bS_size 20 = .ok (.iload_n 1, 1) := by decide +kernel
theorem dS_size_21 : decode bS_size 21 = .ok (.aaload, 1) := by decide +kernel
theorem dS_size_22 : decode bS_size 22 = .ok (.iload_n 3, 1) := by decide +kernel
theorem dS_size_23 : decode bS_size 23 = .ok (.iaload, 1) := by decide +kernel
theorem dS_size_24 : decode bS_size 24 = .ok (.invokestatic 54, 3) := by decide +kernel
theorem dS_size_27 : decode bS_size 27 = .ok (.iadd, 1) := by decide +kernel
theorem dS_size_28 : decode bS_size 28 = .ok (.istore_n 2, 1) := by decide +kernel
theorem dS_size_29 : decode bS_size 29 = .ok (.iinc 3 1, 3) := by decide +kernel
theorem dS_size_32 : decode bS_size 32 = .ok (.goto (-28), 3) := by decide +kernel
theorem dS_size_35 : decode bS_size 35 = .ok (.iload_n 2, 1) := by decide +kernel
theorem dS_size_36 : decode bS_size 36 = .ok (.ireturn, 1) := by decide +kernel
theorem dS_gatherWholeOrigins_0 : decode bS_gatherWholeOrigins 0 = .ok (.aload_n 0, 1) := by decide +kernel
theorem dS_gatherWholeOrigins_1 : decode bS_gatherWholeOrigins 1 = .ok (.getfield 16, 3) := by decide +kernel
theorem dS_gatherWholeOrigins_4 : decode bS_gatherWholeOrigins 4 = .ok (.iconst 0, 1) := by decide +kernel
theorem dS_gatherWholeOrigins_5 : decode bS_gatherWholeOrigins 5 = .ok (.invokestatic 24, 3) := by decide +kernel
theorem dS_gatherWholeOrigins_8 : decode bS_gatherWholeOrigins 8 = .ok (.iconst 0, 1) := by decide +kernel
theorem dS_gatherWholeOrigins_9 : decode bS_gatherWholeOrigins 9 = .ok (.istore_n 2, 1) := by decide +kernel
theorem dS_gatherWholeOrigins_10 : decode bS_gatherWholeOrigins 10 = .ok (.iload_n 2, 1) := by decide +kernel
theorem dS_gatherWholeOrigins_11 : decode bS_gatherWholeOrigins 11 = .ok (.aload_n 0, 1) := by decide +kernel
theorem dS_gatherWholeOrigins_12 : decode bS_gatherWholeOrigins 12 = .ok (.getfield 20, 3) := by decide +kernel
theorem dS_gatherWholeOrigins_15 : decode bS_gatherWholeOrigins 15 = .ok (.getfield 48, 3) := by decide +kernel
theorem dS_gatherWholeOrigins_18 : decode bS_gatherWholeOrigins 18 = .ok (.if_icmp .ge 46, 3) := by decide +kernel
theorem dS_gatherWholeOrigins_21 : decode bS_gatherWholeOrigins 21 = .ok (.aload_n 0, 1) := by decide +kernel
theorem dS_gatherWholeOrigins_22 : decode bS_gatherWholeOrigins 22 = .ok (.getfield 20, 3) := by decide +kernel
theorem dS_gatherWholeOrigins_25 : decode bS_gatherWholeOrigins 25 = .ok (.getfield 51, 3) := by decide +kernel
theorem dS_gatherWholeOrigins_28 : decode bS_gatherWholeOrigins 28 = .ok (.iload_n 2, 1) := by decide +kernel
theorem dS_gatherWholeOrigins_29 : decode bS_gatherWholeOrigins 29 = .ok (.iaload, 1) := by decide +kernel
theorem dS_gatherWholeOrigins_30 : decode bS_gatherWholeOrigins 30 = .ok (.iconst (-1), 1) := by decide +kernel
theorem dS_gatherWholeOrigins_31 : decode bS_gatherWholeOrigins 31 = .ok (.if_icmp .ne 27, 3) := by decide +kernel
theorem dS_gatherWholeOrigins_34 : decode bS_gatherWholeOrigins 34 = .ok (.aload_n 0, 1) := by decide +kernel
theorem dS_gatherWholeOrigins_35 : decode bS_gatherWholeOrigins 35 = .ok (.getfield 16, 3) := by decide +kernel
theorem dS_gatherWholeOrigins_38 : decode bS_gatherWholeOrigins 38 = .ok (.aload_n 0, 1) := by decide +kernel
theorem dS_gatherWholeOrigins_39 : decode bS_gatherWholeOrigins 39 = .ok (.getfield 20, 3) := by decide +kernel
theorem dS_gatherWholeOrigins_42 : decode bS_gatherWholeOrigins 42 = .ok (.iload_n 2, 1) := by decide +kernel
theorem dS_gatherWholeOrigins_43 : decode bS_gatherWholeOrigins 43 = .ok (.invokevirtual 60, 3) := by decide +kernel
theorem dS_gatherWholeOrigins_46 : decode bS_gatherWholeOrigins 46 = .ok (.dup2, 1) := by decide +kernel
theorem dS_gatherWholeOrigins_47 : decode bS_gatherWholeOrigins 47 = .ok (.iaload, 1) := by decide +kernel
theorem dS_gatherWholeOrigins_48 : decode bS_gatherWholeOrigins 48 = .ok (.aload_n 0, 1) := by decide +kernel
theorem dS_gatherWholeOrigins_49 : decode bS_gatherWholeOrigins 49 = .ok (.getfield 11, 3) := by decide +kernel
theorem dS_gatherWholeOrigins_52 : decode bS_gatherWholeOrigins 52 = .ok (.iload_n 1, 1) := by decide +kernel
theorem dS_gatherWholeOrigins_53 : decode bS_gatherWholeOrigins 53 = .ok (.aaload, 1) := by decide +kernel
theorem dS_gatherWholeOrigins_54 : decode bS_gatherWholeOrigins 54 = .ok (.iload_n 2, 1) := by decide +kernel
theorem dS_gatherWholeOrigins_55 : decode bS_gatherWholeOrigins 55 = .ok (.iaload, 1) := by decide +kernel
theorem dS_gatherWholeOrigins_56 : decode bS_gatherWholeOrigins 56 = .ok (.ior, 1) := by decide +kernel
theorem dS_gatherWholeOrigins_57 : decode bS_gatherWholeOrigins 57 = .ok (.iastore, 1) := by decide +kernel
theorem dS_gatherWholeOrigins_58 : decode bS_gatherWholeOrigins 58 = .ok (.iinc 2 1, 3) := by decide +kernel
theorem dS_gatherWholeOrigins_61 : decode bS_gatherWholeOrigins 61 = .ok (.goto (-51), 3) := by decide +kernel
theorem dS_gatherWholeOrigins_64 : decode bS_gatherWholeOrigins 64 = .ok (.return_, 1) := by decide +kernel
theorem dS_grow_0 : decode bS_grow 0 = .ok (.iconst 0, 1) := by decide +kernel
theorem dS_grow_1 : decode bS_grow 1 = .ok (.istore_n 2, 1) := by decide +kernel
theorem dS_grow_2 : decode bS_grow 2 = .ok (.iload_n 2, 1) := by decide +kernel
theorem dS_grow_3 : decode bS_grow 3 = .ok (.iconst 1, 1) := by decide +kernel
theorem dS_grow_4 : decode bS_grow 4 = .ok (.iadd, 1) := by decide +kernel
theorem dS_grow_5 : decode bS_grow 5 = .ok (.aload_n 0, 1) := by decide +kernel
theorem dS_grow_6 : decode bS_grow 6 = .ok (.getfield 20, 3) := by decide +kernel
theorem dS_grow_9 : decode bS_grow 9 = .ok (.getfield 48, 3) := by decide +kernel
theorem dS_grow_12 : decode bS_grow 12 = .ok (.if_icmp .ge 67, 3) := by decide +kernel
theorem dS_grow_15 : decode bS_grow 15 = .ok (.aload_n 0, 1) := by decide +kernel
theorem dS_grow_16 : decode bS_grow 16 = .ok (.getfield 20, 3) := by decide +kernel
theorem dS_grow_19 : decode bS_grow 19 = .ok (.getfield 51, 3) := by decide +kernel
theorem dS_grow_22 : decode bS_grow 22 = .ok (.iload_n 2, 1) := by decide +kernel
theorem dS_grow_23 : decode bS_grow 23 = .ok (.iaload, 1) := by decide +kernel
theorem dS_grow_24 : decode bS_grow 24 = .ok (.istore_n 3, 1) := by decide +kernel
theorem dS_grow_25 : decode bS_grow 25 = .ok (.iload_n 3, 1) := by decide +kernel
theorem dS_grow_26 : decode bS_grow 26 = .ok (.invokestatic 82, 3) := by decide +kernel
theorem dS_grow_29 : decode bS_grow 29 = .ok (.ifCond .eq 44, 3) := by decide +kernel
theorem dS_grow_32 : decode bS_grow 32 = .ok (.aload_n 0, 1) := by decide +kernel
theorem dS_grow_33 : decode bS_grow 33 = .ok (.getfield 11, 3) := by decide +kernel
theorem dS_grow_36 : decode bS_grow 36 = .ok (.iload_n 1, 1) := by decide +kernel
theorem dS_grow_37 : decode bS_grow 37 = .ok (.aaload, 1) := by decide +kernel
theorem dS_grow_38 : decode bS_grow 38 = .ok (.iload_n 2, 1) := by decide +kernel
theorem dS_grow_39 : decode bS_grow 39 = .ok (.iaload, 1) := by decide +kernel
theorem dS_grow_40 : decode bS_grow 40 = .ok (.ifCond .eq 9, 3) := by decide +kernel
theorem dS_grow_43 : decode bS_grow 43 = .ok (.aload_n 0, 1) := by decide +kernel
theorem dS_grow_44 : decode bS_grow 44 = .ok (.iload_n 1, 1) := by decide +kernel
theorem dS_grow_45 : decode bS_grow 45 = .ok (.iload_n 3, 1) := by decide +kernel
theorem dS_grow_46 : decode bS_grow 46 = .ok (.invokevirtual 40, 3) := by decide +kernel
theorem dS_grow_49 : decode bS_grow 49 = .ok (.aload_n 0, 1) := by decide +kernel
theorem dS_grow_50 : decode bS_grow 50 = .ok (.getfield 11, 3) := by decide +kernel
theorem dS_grow_53 : decode bS_grow 53 = .ok (.iload_n 1, 1) := by decide +kernel
theorem dS_grow_54 : decode bS_grow 54 = .ok (.aaload, 1) := by decide +kernel
theorem dS_grow_55 : decode bS_grow 55 = .ok (.iload_n 2, 1) := by decide +kernel
theorem dS_grow_56 : decode bS_grow 56 = .ok (.iconst 1, 1) := by decide +kernel
theorem dS_grow_57 : decode bS_grow 57 = .ok (.iadd, 1) := by decide +kernel
theorem dS_grow_58 : decode bS_grow 58 = .ok (.dup2, 1) := by decide +kernel
theorem dS_grow_59 : decode bS_grow 59 = .ok (.iaload, 1) := by decide +kernel
theorem dS_grow_60 : decode bS_grow 60 = .ok (.aload_n 0, 1) := by decide +kernel
theorem dS_grow_61 : decode bS_grow 61 = .ok (.aload_n 0, 1) := by decide +kernel
theorem dS_grow_62 : decode bS_grow 62 = .ok (.getfield 16, 3) := by decide +kernel
theorem dS_grow_65 : decode bS_grow 65 = .ok (.iload_n 3, 1) := by decide +kernel
theorem dS_grow_66 : decode bS_grow 66 = .ok (.iaload, 1) := by decide +kernel
theorem dS_grow_67 : decode bS_grow 67 = .ok (.iload_n 2, 1) := by decide +kernel
theorem dS_grow_68 : decode bS_grow 68 = .ok (.invokevirtual 86, 3) := by decide +kernel
theorem dS_grow_71 : decode bS_grow 71 = .ok (.ior, 1) := by decide +kernel
theorem dS_grow_72 : decode bS_grow 72 = .ok (.iastore, 1) := by decide +kernel
theorem dS_grow_73 : decode bS_grow 73 = .ok (.iinc 2 1, 3) := by decide +kernel
theorem dS_grow_76 : decode bS_grow 76 = .ok (.goto (-74), 3) := by decide +kernel
theorem dS_grow_79 : decode bS_grow 79 = .ok (.return_, 1) := by decide +kernel
theorem dS_originsIn_0 : decode bS_originsIn 0 = .ok (.iconst 0, 1) := by decide +kernel
theorem dS_originsIn_1 : decode bS_originsIn 1 = .ok (.istore_n 3, 1) := by decide +kernel
theorem dS_originsIn_2 : decode bS_originsIn 2 = .ok (.iconst 0, 1) := by decide +kernel
theorem dS_originsIn_3 : decode bS_originsIn 3 = .ok (.istore 4, 2) := by decide +kernel
theorem dS_originsIn_5 : decode bS_originsIn 5 = .ok (.iload 4, 2) := by decide +kernel
theorem dS_originsIn_7 : decode bS_originsIn 7 = .ok (.bipush 9, 2) := by decide +kernel
theorem dS_originsIn_9 : decode bS_originsIn 9 = .ok (.if_icmp .ge 30, 3) := by decide +kernel
theorem dS_originsIn_12 : decode bS_originsIn 12 = .ok (.iload_n 1, 1) := by decide +kernel
theorem dS_originsIn_13 : decode bS_originsIn 13 = .ok (.iload 4, 2) := by decide +kernel
theorem dS_originsIn_15 : decode bS_originsIn 15 = .ok (.ishr, 1) := by decide +kernel
theorem dS_originsIn_16 : decode bS_originsIn 16 = .ok (.iconst 1, 1) := by decide +kernel
theorem dS_originsIn_17 : decode bS_originsIn 17 = .ok (.iand, 1) := by decide +kernel
theorem dS_originsIn_18 : decode bS_originsIn 18 = .ok (.ifCond .eq 15, 3) := by decide +kernel
theorem dS_originsIn_21 : decode bS_originsIn 21 = .ok (.iload_n 3, 1) := by decide +kernel
theorem dS_originsIn_22 : decode bS_originsIn 22 = .ok (.aload_n 0, 1) := by decide +kernel
theorem dS_originsIn_23 : decode bS_originsIn 23 = .ok (.getfield 11, 3) := by decide +kernel
theorem dS_originsIn_26 : decode bS_originsIn 26 = .ok (.iload 4, 2) := by decide +kernel
theorem dS_originsIn_28 : decode bS_originsIn 28 = .ok (.aaload, 1) := by decide +kernel
theorem dS_originsIn_29 : decode bS_originsIn 29 = .ok (.iload_n 2, 1) := by decide +kernel
theorem dS_originsIn_30 : decode bS_originsIn 30 = .ok (.iaload, 1) := by decide +kernel
theorem dS_originsIn_31 : decode bS_originsIn 31 = .ok (.ior, 1) := by decide +kernel
theorem dS_originsIn_32 : decode bS_originsIn 32 = .ok (.istore_n 3, 1) := by decide +kernel
theorem dS_originsIn_33 : decode bS_originsIn 33 = .ok (.iinc 4 1, 3) := by decide +kernel
theorem dS_originsIn_36 : decode bS_originsIn 36 = .ok (.goto (-31), 3) := by decide +kernel
theorem dS_originsIn_39 : decode bS_originsIn 39 = .ok (.iload_n 3, 1) := by decide +kernel
theorem dS_originsIn_40 : decode bS_originsIn 40 = .ok (.ireturn, 1) := by decide +kernel
theorem dS_holdWholeStart_0 : decode bS_holdWholeStart 0 = .ok (.iconst 0, 1) := by decide +kernel
theorem dS_holdWholeStart_1 : decode bS_holdWholeStart 1 = .ok (.istore_n 2, 1) := by decide +kernel
theorem dS_holdWholeStart_2 : decode bS_holdWholeStart 2 = .ok (.iload_n 2, 1) := by decide +kernel
theorem dS_holdWholeStart_3 : decode bS_holdWholeStart 3 = .ok (.aload_n 0, 1) := by decide +kernel
theorem dS_holdWholeStart_4 : decode bS_holdWholeStart 4 = .ok (.getfield 20, 3) := by decide +kernel
theorem dS_holdWholeStart_7 : decode bS_holdWholeStart 7 = .ok (.getfield 48, 3) := by decide +kernel
theorem dS_holdWholeStart_10 : decode bS_holdWholeStart 10 = .ok (.if_icmp .ge 55, 3) := by decide +kernel
theorem dS_holdWholeStart_13 : decode bS_holdWholeStart 13 = .ok (.aload_n 0, 1) := by decide +kernel
theorem dS_holdWholeStart_14 : decode bS_holdWholeStart 14 = .ok (.getfield 20, 3) := by decide +kernel
theorem dS_holdWholeStart_17 : decode bS_holdWholeStart 17 = .ok (.getfield 51, 3) := by decide +kernel
theorem dS_holdWholeStart_20 : decode bS_holdWholeStart 20 = .ok (.iload_n 2, 1) := by decide +kernel
theorem dS_holdWholeStart_21 : decode bS_holdWholeStart 21 = .ok (.iaload, 1) := by decide +kernel
theorem dS_holdWholeStart_22 : decode bS_holdWholeStart 22 = .ok (.iconst (-1), 1) := by decide +kernel
theorem dS_holdWholeStart_23 : decode bS_holdWholeStart 23 = .ok (.if_icmp .ne 36, 3) := by decide +kernel
theorem dS_holdWholeStart_26 : decode bS_holdWholeStart 26 = .ok (.aload_n 0, 1) := by decide +kernel
theorem dS_holdWholeStart_27 : decode bS_holdWholeStart 27 = .ok (.getfield 20, 3) := by decide +kernel
theorem dS_holdWholeStart_30 : decode bS_holdWholeStart 30 = .ok (.iload_n 2, 1) := by decide +kernel
theorem dS_holdWholeStart_31 : decode bS_holdWholeStart 31 = .ok (.invokevirtual 60, 3) := by decide +kernel
theorem dS_holdWholeStart_34 : decode bS_holdWholeStart 34 = .ok (.aload_n 0, 1) := by decide +kernel
theorem dS_holdWholeStart_35 : decode bS_holdWholeStart 35 = .ok (.getfield 20, 3) := by decide +kernel
theorem dS_holdWholeStart_38 : decode bS_holdWholeStart 38 = .ok (.invokevirtual 36, 3) := by decide +kernel
theorem dS_holdWholeStart_41 : decode bS_holdWholeStart 41 = .ok (.if_icmp .ne 18, 3) := by decide +kernel
theorem dS_holdWholeStart_44 : decode bS_holdWholeStart 44 = .ok (.aload_n 0, 1) := by decide +kernel
theorem dS_holdWholeStart_45 : decode bS_holdWholeStart 45 = .ok (.getfield 11, 3) := by decide +kernel
theorem dS_holdWholeStart_48 : decode bS_holdWholeStart 48 = .ok (.iload_n 1, 1) := by decide +kernel
theorem dS_holdWholeStart_49 : decode bS_holdWholeStart 49 = .ok (.aaload, 1) := by decide +kernel
theorem dS_holdWholeStart_50 : decode bS_holdWholeStart 50 = .ok (.iload_n 2, 1) := by decide +kernel
theorem dS_holdWholeStart_51 : decode bS_holdWholeStart 51 = .ok (.iaload, 1) := by decide +kernel
theorem dS_holdWholeStart_52 : decode bS_holdWholeStart 52 = .ok (.iconst 1, 1) := by decide +kernel
theorem dS_holdWholeStart_53 : decode bS_holdWholeStart 53 = .ok (.iand, 1) := by decide +kernel
theorem dS_holdWholeStart_54 : decode bS_holdWholeStart 54 = .ok (.ifCond .eq 5, 3) := by decide +kernel
theorem dS_holdWholeStart_57 : decode bS_holdWholeStart 57 = .ok (.iconst 1, 1) := by decide +kernel
theorem dS_holdWholeStart_58 : decode bS_holdWholeStart 58 = .ok (.ireturn, 1) := by decide +kernel
theorem dS_holdWholeStart_59 : decode bS_holdWholeStart 59 = .ok (.iinc 2 1, 3) := by decide +kernel
theorem dS_holdWholeStart_62 : decode bS_holdWholeStart 62 = .ok (.goto (-60), 3) := by decide +kernel
theorem dS_holdWholeStart_65 : decode bS_holdWholeStart 65 = .ok (.iconst 0, 1) := by decide +kernel
theorem dS_holdWholeStart_66 : decode bS_holdWholeStart 66 = .ok (.ireturn, 1) := by decide +kernel
theorem dS_makeNext_0 : decode bS_makeNext 0 = .ok (.aload_n 0, 1) := by decide +kernel
theorem dS_makeNext_1 : decode bS_makeNext 1 = .ok (.getfield 11, 3) := by decide +kernel
theorem dS_makeNext_4 : decode bS_makeNext 4 = .ok (.iload_n 1, 1) := by decide +kernel
theorem dS_makeNext_5 : decode bS_makeNext 5 = .ok (.aaload, 1) := by decide +kernel
theorem dS_makeNext_6 : decode bS_makeNext 6 = .ok (.iconst 0, 1) := by decide +kernel
theorem dS_makeNext_7 : decode bS_makeNext 7 = .ok (.invokestatic 24, 3) := by decide +kernel
theorem dS_makeNext_10 : decode bS_makeNext 10 = .ok (.iconst 0, 1) := by decide +kernel
theorem dS_makeNext_11 : decode bS_makeNext 11 = .ok (.istore_n 3, 1) := by decide +kernel
theorem dS_makeNext_12 : decode bS_makeNext 12 = .ok (.iload_n 3, 1) := by decide +kernel
theorem dS_makeNext_13 : decode bS_makeNext 13 = .ok (.iconst 1, 1) := by decide +kernel
theorem dS_makeNext_14 : decode bS_makeNext 14 = .ok (.iadd, 1) := by decide +kernel
theorem dS_makeNext_15 : decode bS_makeNext 15 = .ok (.aload_n 0, 1) := by decide +kernel
theorem dS_makeNext_16 : decode bS_makeNext 16 = .ok (.getfield 20, 3) := by decide +kernel
theorem dS_makeNext_19 : decode bS_makeNext 19 = .ok (.getfield 48, 3) := by decide +kernel
theorem dS_makeNext_22 : decode bS_makeNext 22 = .ok (.if_icmp .ge 42, 3) := by decide +kernel
theorem dS_makeNext_25 : decode bS_makeNext 25 = .ok (.aload_n 0, 1) := by decide +kernel
theorem dS_makeNext_26 : decode bS_makeNext 26 = .ok (.getfield 20, 3) := by decide +kernel
theorem dS_makeNext_29 : decode bS_makeNext 29 = .ok (.getfield 51, 3) := by decide +kernel
theorem dS_makeNext_32 : decode bS_makeNext 32 = .ok (.iload_n 3, 1) := by decide +kernel
theorem dS_makeNext_33 : decode bS_makeNext 33 = .ok (.iaload, 1) := by decide +kernel
theorem dS_makeNext_34 : decode bS_makeNext 34 = .ok (.iload_n 2, 1) := by decide +kernel
theorem dS_makeNext_35 : decode bS_makeNext 35 = .ok (.if_icmp .ne 23, 3) := by decide +kernel
theorem dS_makeNext_38 : decode bS_makeNext 38 = .ok (.aload_n 0, 1) := by decide +kernel
theorem dS_makeNext_39 : decode bS_makeNext 39 = .ok (.getfield 11, 3) := by decide +kernel
theorem dS_makeNext_42 : decode bS_makeNext 42 = .ok (.iload_n 1, 1) := by decide +kernel
theorem dS_makeNext_43 : decode bS_makeNext 43 = .ok (.aaload, 1) := by decide +kernel
theorem dS_makeNext_44 : decode bS_makeNext 44 = .ok (.iload_n 3, 1) := by decide +kernel
theorem dS_makeNext_45 : decode bS_makeNext 45 = .ok (.iconst 1, 1) := by decide +kernel
theorem dS_makeNext_46 : decode bS_makeNext 46 = .ok (.iadd, 1) := by decide +kernel
theorem dS_makeNext_47 : decode bS_makeNext 47 = .ok (.aload_n 0, 1) := by decide +kernel
theorem dS_makeNext_48 : decode bS_makeNext 48 = .ok (.getfield 11, 3) := by decide +kernel
theorem dS_makeNext_51 : decode bS_makeNext 51 = .ok (.iload_n 1, 1) := by decide +kernel
theorem dS_makeNext_52 : decode bS_makeNext 52 = .ok (.iconst 1, 1) := by decide +kernel
theorem dS_makeNext_53 : decode bS_makeNext 53 = .ok (.isub, 1) := by decide +kernel
theorem dS_makeNext_54 : decode bS_makeNext 54 = .ok (.aaload, 1) := by decide +kernel
theorem dS_makeNext_55 : decode bS_makeNext 55 = .ok (.iload_n 3, 1) := by decide +kernel
theorem dS_makeNext_56 : decode bS_makeNext 56 = .ok (.iaload, 1) := by decide +kernel
theorem dS_makeNext_57 : decode bS_makeNext 57 = .ok (.iastore, 1) := by decide +kernel
theorem dS_makeNext_58 : decode bS_makeNext 58 = .ok (.iinc 3 1, 3) := by decide +kernel
theorem dS_makeNext_61 : decode bS_makeNext 61 = .ok (.goto (-49), 3) := by decide +kernel
theorem dS_makeNext_64 : decode bS_makeNext 64 = .ok (.aload_n 0, 1) := by decide +kernel
theorem dS_makeNext_65 : decode bS_makeNext 65 = .ok (.iload_n 1, 1) := by decide +kernel
theorem dS_makeNext_66 : decode bS_makeNext 66 = .ok (.invokevirtual 44, 3) := by decide +kernel
theorem dS_makeNext_69 : decode bS_makeNext 69 = .ok (.return_, 1) := by decide +kernel
theorem dS_codeOf_0 : decode bS_codeOf 0 = .ok (.iload_n 2, 1) := by decide +kernel
theorem dS_codeOf_1 : decode bS_codeOf 1 = .ok (.istore_n 3, 1) := by decide +kernel
theorem dS_codeOf_2 : decode bS_codeOf 2 = .ok (.iconst 0, 1) := by decide +kernel
theorem dS_codeOf_3 : decode bS_codeOf 3 = .ok (.istore 4, 2) := by decide +kernel
theorem dS_codeOf_5 : decode bS_codeOf 5 = .ok (.iload 4, 2) := by decide +kernel
theorem dS_codeOf_7 : decode bS_codeOf 7 = .ok (.aload_n 0, 1) := by decide +kernel
theorem dS_codeOf_8 : decode bS_codeOf 8 = .ok (.getfield 20, 3) := by decide +kernel
theorem dS_codeOf_11 : decode bS_codeOf 11 = .ok (.getfield 48, 3) := by decide +kernel
theorem dS_codeOf_14 : decode bS_codeOf 14 = .ok (.if_icmp .ge 76, 3) := by decide +kernel
theorem dS_codeOf_17 : decode bS_codeOf 17 = .ok (.aload_n 0, 1) := by decide +kernel
theorem dS_codeOf_18 : decode bS_codeOf 18 = .ok (.getfield 11, 3) := by decide +kernel
theorem dS_codeOf_21 : decode bS_codeOf 21 = .ok (.iload_n 1, 1) := by decide +kernel
theorem dS_codeOf_22 : decode bS_codeOf 22 = .ok (.aaload, 1) := by decide +kernel
theorem dS_codeOf_23 : decode bS_codeOf 23 = .ok (.iload 4, 2) := by decide +kernel
theorem dS_codeOf_25 : decode bS_codeOf 25 = .ok (.iaload, 1) := by decide +kernel
theorem dS_codeOf_26 : decode bS_codeOf 26 = .ok (.invokestatic 54, 3) := by decide +kernel
theorem dS_codeOf_29 : decode bS_codeOf 29 = .ok (.istore 5, 2) := by decide +kernel
theorem dS_codeOf_31 : decode bS_codeOf 31 = .ok (.iload_n 3, 1) := by decide +kernel
theorem dS_codeOf_32 : decode bS_codeOf 32 = .ok (.iload 5, 2) := by decide +kernel
theorem dS_codeOf_34 : decode bS_codeOf 34 = .ok (.if_icmp .ge 45, 3) := by decide +kernel
theorem dS_codeOf_37 : decode bS_codeOf 37 = .ok (.sipush 1000, 3) := by decide +kernel
theorem dS_codeOf_40 : decode bS_codeOf 40 = .ok (.aload_n 0, 1) := by decide +kernel
theorem dS_codeOf_41 : decode bS_codeOf 41 = .ok (.getfield 20, 3) := by decide +kernel
theorem dS_codeOf_44 : decode bS_codeOf 44 = .ok (.getfield 63, 3) := by decide +kernel
theorem dS_codeOf_47 : decode bS_codeOf 47 = .ok (.iload 4, 2) := by decide +kernel
theorem dS_codeOf_49 : decode bS_codeOf 49 = .ok (.iaload, 1) := by decide +kernel
theorem dS_codeOf_50 : decode bS_codeOf 50 = .ok (.imul, 1) := by decide +kernel
theorem dS_codeOf_51 : decode bS_codeOf 51 = .ok (.bipush 100, 2) := by decide +kernel
theorem dS_codeOf_53 : decode bS_codeOf 53 = .ok (.aload_n 0, 1) := by decide +kernel
theorem dS_codeOf_54 : decode bS_codeOf 54 = .ok (.getfield 20, 3) := by decide +kernel
theorem dS_codeOf_57 : decode bS_codeOf 57 = .ok (.iload 4, 2) := by decide +kernel
theorem dS_codeOf_59 : decode bS_codeOf 59 = .ok (.invokevirtual 66, 3) := by decide +kernel
theorem dS_codeOf_62 : decode bS_codeOf 62 = .ok (.imul, 1) := by decide +kernel
theorem dS_codeOf_63 : decode bS_codeOf 63 = .ok (.iadd, 1) := by decide +kernel
theorem dS_codeOf_64 : decode bS_codeOf 64 = .ok (.aload_n 0, 1) := by decide +kernel
theorem dS_codeOf_65 : decode bS_codeOf 65 = .ok (.getfield 11, 3) := by decide +kernel
theorem dS_codeOf_68 : decode bS_codeOf 68 = .ok (.iload_n 1, 1) := by decide +kernel
theorem dS_codeOf_69 : decode bS_codeOf 69 = .ok (.aaload, 1) := by decide +kernel
theorem dS_codeOf_70 : decode bS_codeOf 70 = .ok (.iload 4, 2) := by decide +kernel
theorem dS_codeOf_72 : decode bS_codeOf 72 = .ok (.iaload, 1) := by decide +kernel
theorem dS_codeOf_73 : decode bS_codeOf 73 = .ok (.iload_n 3, 1) := by decide +kernel
theorem dS_codeOf_74 : decode bS_codeOf 74 = .ok (.invokestatic 69, 3) := by decide +kernel
theorem dS_codeOf_77 : decode bS_codeOf 77 = .ok (.iadd, 1) := by decide +kernel
theorem dS_codeOf_78 : decode bS_codeOf 78 = .ok (.ireturn, 1) := by decide +kernel
theorem dS_codeOf_79 : decode bS_codeOf 79 = .ok (.iload_n 3, 1) := by decide +kernel
theorem dS_codeOf_80 : decode bS_codeOf 80 = .ok (.iload 5, 2) := by decide +kernel
theorem dS_codeOf_82 : decode bS_codeOf 82 = .ok (.isub, 1) := by decide +kernel
theorem dS_codeOf_83 : decode bS_codeOf 83 = .ok (.istore_n 3, 1) := by decide +kernel
theorem dS_codeOf_84 : decode bS_codeOf 84 = .ok (.iinc 4 1, 3) := by decide +kernel
theorem dS_codeOf_87 : decode bS_codeOf 87 = .ok (.goto (-82), 3) := by decide +kernel
theorem dS_codeOf_90 : decode bS_codeOf 90 = .ok (.iconst 0, 1) := by decide +kernel
theorem dS_codeOf_91 : decode bS_codeOf 91 = .ok (.ireturn, 1) := by decide +kernel
theorem dS_originAt_0 : decode bS_originAt 0 = .ok (.iload_n 1, 1) := by decide +kernel
theorem dS_originAt_1 : decode bS_originAt 1 = .ok (.istore_n 2, 1) := by decide +kernel
theorem dS_originAt_2 : decode bS_originAt 2 = .ok (.iconst 0, 1) := by decide +kernel
theorem dS_originAt_3 : decode bS_originAt 3 = .ok (.istore_n 3, 1) := by decide +kernel
theorem dS_originAt_4 : decode bS_originAt 4 = .ok (.iload_n 3, 1) := by decide +kernel
theorem dS_originAt_5 : decode bS_originAt 5 = .ok (.bipush 9, 2) := by decide +kernel
theorem dS_originAt_7 : decode bS_originAt 7 = .ok (.if_icmp .ge 26, 3) := by decide +kernel
theorem dS_originAt_10 : decode bS_originAt 10 = .ok (.iload_n 0, 1) := by decide +kernel
theorem dS_originAt_11 : decode bS_originAt 11 = .ok (.iload_n 3, 1) := by decide +kernel
theorem dS_originAt_12 : decode bS_originAt 12 = .ok (.ishr, 1) := by decide +kernel
theorem dS_originAt_13 : decode bS_originAt 13 = .ok (.iconst 1, 1) := by decide +kernel
theorem dS_originAt_14 : decode bS_originAt 14 = .ok (.iand, 1) := by decide +kernel
theorem dS_originAt_15 : decode bS_originAt 15 = .ok (.ifCond .eq 12, 3) := by decide +kernel
theorem dS_originAt_18 : decode bS_originAt 18 = .ok (.iload_n 2, 1) := by decide +kernel
theorem dS_originAt_19 : decode bS_originAt 19 = .ok (.ifCond .ne 5, 3) := by decide +kernel
theorem dS_originAt_22 : decode bS_originAt 22 = .ok (.iload_n 3, 1) := by decide +kernel
theorem dS_originAt_23 : decode bS_originAt 23 = .ok (.ireturn, 1) := by decide +kernel
theorem dS_originAt_24 : decode bS_originAt 24 = .ok (.iinc 2 (-1), 3) := by decide +kernel
theorem dS_originAt_27 : decode bS_originAt 27 = .ok (.iinc 3 1, 3) := by decide +kernel
theorem dS_originAt_30 : decode bS_originAt 30 = .ok (.goto (-26), 3) := by decide +kernel
theorem dS_originAt_33 : decode bS_originAt 33 = .ok (.iconst 0, 1) := by decide +kernel
theorem dS_originAt_34 : decode bS_originAt 34 = .ok (.ireturn, 1) := by decide +kernel
theorem dT_init_0 : decode bT_init 0 = .ok (.aload_n 0, 1) := by decide +kernel
theorem dT_init_1 : decode bT_init 1 = .ok (.invokespecial 3, 3) := by decide +kernel
theorem dT_init_4 : decode bT_init 4 = .ok (.aload_n 0, 1) := by decide +kernel
theorem dT_init_5 : decode bT_init 5 = .ok (.bipush 6, 2) := by decide +kernel
theorem dT_init_7 : decode bT_init 7 = .ok (.bipush 81, 2) := by decide +kernel
theorem dT_init_9 : decode bT_init 9 = .ok (.multianewarray 9 2, 4) := by decide +kernel
theorem dT_init_13 : decode bT_init 13 = .ok (.putfield 11, 3) := by decide +kernel
theorem dT_init_16 : decode bT_init 16 = .ok (.aload_n 0, 1) := by decide +kernel
theorem dT_init_17 : decode bT_init 17 = .ok (.bipush 24, 2) := by decide +kernel
theorem dT_init_19 : decode bT_init 19 = .ok (.bipush 81, 2) := by decide +kernel
theorem dT_init_21 : decode bT_init 21 = .ok (.multianewarray 9 2, 4) := by decide +kernel
theorem dT_init_25 : decode bT_init 25 = .ok (.putfield 16, 3) := by decide +kernel
theorem dT_init_28 : decode bT_init 28 = .ok (.aload_n 0, 1) := by decide +kernel
theorem dT_init_29 : decode bT_init 29 = .ok (.aload_n 1, 1) := by decide +kernel
theorem dT_init_30 : decode bT_init 30 = .ok (.putfield 19, 3) := by decide +kernel
theorem dT_init_33 : decode bT_init 33 = .ok (.aload_n 0, 1) := by decide +kernel
theorem dT_init_34 : decode bT_init 34 = .ok (.aload_n 2, 1) := by decide +kernel
theorem dT_init_35 : decode bT_init 35 = .ok (.putfield 23, 3) := by decide +kernel
theorem dT_init_38 : decode bT_init 38 = .ok (.return_, 1) := by decide +kernel
theorem dT_fillStretch_0 : decode bT_fillStretch 0 = .ok (.iconst 0, 1) := by decide +kernel
theorem dT_fillStretch_1 : decode bT_fillStretch 1 = .ok (.istore_n 3, 1) := by decide +kernel
theorem dT_fillStretch_2 : decode bT_fillStretch 2 = .ok (.iload_n 3, 1) := by decide +kernel
theorem dT_fillStretch_3 : decode bT_fillStretch 3 = .ok (.bipush 6, 2) := by decide +kernel
theorem dT_fillStretch_5 : decode bT_fillStretch 5 = .ok (.if_icmp .ge 22, 3) := by decide +kernel
theorem dT_fillStretch_8 : decode bT_fillStretch 8 = .ok (.aload_n 0, 1) := by decide +kernel
theorem dT_fillStretch_9 : decode bT_fillStretch 9 = .ok (.getfield 11, 3) := by decide +kernel
theorem dT_fillStretch_12 : decode bT_fillStretch 12 = .ok (.iload_n 3, 1) := by decide +kernel
theorem dT_fillStretch_13 : decode bT_fillStretch 13 = .ok (.aaload, 1) := by decide +kernel
theorem dT_fillStretch_14 : decode bT_fillStretch 14 = .ok (.iload_n 1, 1) := by decide +kernel
theorem dT_fillStretch_15 : decode bT_fillStretch 15 = .ok (.iload_n 2, 1) := by decide +kernel
theorem dT_fillStretch_16 : decode bT_fillStretch 16 = .ok (.invokestatic 31, 3) := by decide +kernel
theorem dT_fillStretch_19 : decode bT_fillStretch 19 = .ok (.iconst (-1), 1) := by decide +kernel
theorem dT_fillStretch_20 : decode bT_fillStretch 20 = .ok (.iastore, 1) := by decide +kernel
theorem dT_fillStretch_21 : decode bT_fillStretch 21 = .ok (.iinc 3 1, 3) := by decide +kernel
theorem dT_fillStretch_24 : decode bT_fillStretch 24 = .ok (.goto (-22), 3) := by decide +kernel
theorem dT_fillStretch_27 : decode bT_fillStretch 27 = .ok (.iconst 1, 1) := by decide +kernel
theorem dT_fillStretch_28 : decode bT_fillStretch 28 = .ok (.istore_n 3, 1) := by decide +kernel
theorem dT_fillStretch_29 : decode bT_fillStretch 29 = .ok (.iconst 0, 1) := by decide +kernel
theorem dT_fillStretch_30 : decode bT_fillStretch 30 = .ok (.istore 4, 2) := by decide +kernel
theorem dT_fillStretch_32 : decode bT_fillStretch 32 = .ok (.iload_n 3, 1) := by decide +kernel
theorem dT_fillStretch_33 : decode bT_fillStretch 33 = .ok (.ifCond .eq 24, 3) := by decide +kernel
theorem dT_fillStretch_36 : decode bT_fillStretch 36 = .ok (.iload 4, 2) := by decide +kernel
theorem dT_fillStretch_38 : decode bT_fillStretch 38 = .ok (.sipush 1000, 3) := by decide +kernel
theorem dT_fillStretch_41 : decode bT_fillStretch 41 = .ok (.if_icmp .ge 16, 3) := by decide +kernel
theorem dT_fillStretch_44 : decode bT_fillStretch 44 = .ok (.aload_n 0, 1) := by decide +kernel
theorem dT_fillStretch_45 : decode bT_fillStretch 45 = .ok (.iload_n 1, 1) := by decide +kernel
theorem dT_fillStretch_46 : decode bT_fillStretch 46 = .ok (.iload_n 2, 1) := by decide +kernel
theorem dT_fillStretch_47 : decode bT_fillStretch 47 = .ok (.invokevirtual 62, 3) := by decide +kernel
theorem dT_fillStretch_50 : decode bT_fillStretch 50 = .ok (.istore_n 3, 1) := by decide +kernel
theorem dT_fillStretch_51 : decode bT_fillStretch 51 = .ok (.iinc 4 1, 3) := by decide +kernel
theorem dT_fillStretch_54 : decode bT_fillStretch 54 = .ok (.goto (-22), 3) := by decide +kernel
theorem dT_fillStretch_57 : decode bT_fillStretch 57 = .ok (.return_, 1) := by decide +kernel
theorem dT_stretch_0 : decode bT_stretch 0 = .ok (.iload_n 0, 1) := by decide +kernel
theorem dT_stretch_1 : decode bT_stretch 1 = .ok (.bipush 9, 2) := by decide +kernel
theorem dT_stretch_3 : decode bT_stretch 3 = .ok (.imul, 1) := by decide +kernel
theorem dT_stretch_4 : decode bT_stretch 4 = .ok (.iload_n 1, 1) := by decide +kernel
theorem dT_stretch_5 : decode bT_stretch 5 = .ok (.iadd, 1) := by decide +kernel
theorem dT_stretch_6 : decode bT_stretch 6 = .ok (.ireturn, 1) := by decide +kernel
theorem dT_lower_0 : decode bT_lower 0 = .ok (.iconst 0, 1) := by decide +kernel
theorem dT_lower_1 : decode bT_lower 1 = .ok (.istore_n 3, 1) := by decide +kernel
theorem dT_lower_2 : decode bT_lower 2 = .ok (.aload_n 0, 1) := by decide +kernel
theorem dT_lower_3 : decode bT_lower 3 = .ok (.getfield 19, 3) := by decide +kernel
theorem dT_lower_6 : decode bT_lower 6 = .ok (.getfield 51, 3) := by decide +kernel
theorem dT_lower_9 : decode bT_lower 9 = .ok (.iconst 1, 1) := by decide +kernel
theorem dT_lower_10 : decode bT_lower 10 = .ok (.isub, 1) := by decide +kernel
theorem dT_lower_11 : decode bT_lower 11 = .ok (.istore 4, 2) := by decide +kernel
theorem dT_lower_13 : decode bT_lower 13 = .ok (.iload 4, 2) := by decide +kernel
theorem dT_lower_15 : decode bT_lower 15 = .ok (.ifCond .lt 100, 3) := by decide +kernel
theorem dT_lower_18 : decode bT_lower 18 = .ok (.aload_n 0, 1) := by decide +kernel
theorem dT_lower_19 : decode bT_lower 19 = .ok (.iload 4, 2) := by decide +kernel
theorem dT_lower_21 : decode bT_lower 21 = .ok (.iload_n 1, 1) := by decide +kernel
theorem dT_lower_22 : decode bT_lower 22 = .ok (.iload_n 2, 1) := by decide +kernel
theorem dT_lower_23 : decode bT_lower 23 = .ok (.invokevirtual 66, 3) := by decide +kernel
theorem dT_lower_26 : decode bT_lower 26 = .ok (.istore 5, 2) := by decide +kernel
theorem dT_lower_28 : decode bT_lower 28 = .ok (.aload_n 0, 1) := by decide +kernel
theorem dT_lower_29 : decode bT_lower 29 = .ok (.getfield 16, 3) := by decide +kernel
theorem dT_lower_32 : decode bT_lower 32 = .ok (.iload 4, 2) := by decide +kernel
theorem dT_lower_34 : decode bT_lower 34 = .ok (.aaload, 1) := by decide +kernel
theorem dT_lower_35 : decode bT_lower 35 = .ok (.iload_n 1, 1) := by decide +kernel
theorem dT_lower_36 : decode bT_lower 36 = .ok (.iload_n 2, 1) := by decide +kernel
theorem dT_lower_37 : decode bT_lower 37 = .ok (.invokestatic 31, 3) := by decide +kernel
theorem dT_lower_40 : decode bT_lower 40 = .ok (.iload 5, 2) := by decide +kernel
theorem dT_lower_42 : decode bT_lower 42 = .ok (.iastore, 1) := by decide +kernel
theorem dT_lower_43 : decode bT_lower 43 = .ok (.aload_n 0, 1) := by decide +kernel
theorem dT_lower_44 : decode bT_lower 44 = .ok (.getfield 19, 3) := by decide +kernel
theorem dT_lower_47 : decode bT_lower 47 = .ok (.iload 4, 2) := by decide +kernel
theorem dT_lower_49 : decode bT_lower 49 = .ok (.invokevirtual 69, 3) := by decide +kernel
theorem dT_lower_52 : decode bT_lower 52 = .ok (.ifCond .ne 57, 3) := by decide +kernel
theorem dT_lower_55 : decode bT_lower 55 = .ok (.iload 5, 2) := by decide +kernel
theorem dT_lower_57 : decode bT_lower 57 = .ok (.iconst (-1), 1) := by decide +kernel
theorem dT_lower_58 : decode bT_lower 58 = .ok (.if_icmp .eq 51, 3) := by decide +kernel
theorem dT_lower_61 : decode bT_lower 61 = .ok (.aload_n 0, 1) := by decide +kernel
theorem dT_lower_62 : decode bT_lower 62 = .ok (.getfield 11, 3) := by decide +kernel
theorem dT_lower_65 : decode bT_lower 65 = .ok (.aload_n 0, 1) := by decide +kernel
theorem dT_lower_66 : decode bT_lower 66 = .ok (.getfield 19, 3) := by decide +kernel
theorem dT_lower_69 : decode bT_lower 69 = .ok (.iload 4, 2) := by decide +kernel
theorem dT_lower_71 : decode bT_lower 71 = .ok (.invokevirtual 73, 3) := by decide +kernel
theorem dT_lower_74 : decode bT_lower 74 = .ok (.aaload, 1) := by decide +kernel
theorem dT_lower_75 : decode bT_lower 75 = .ok (.astore 6, 2) := by decide +kernel
theorem dT_lower_77 : decode bT_lower 77 = .ok (.iload 5, 2) := by decide +kernel
theorem dT_lower_79 : decode bT_lower 79 = .ok (.iconst 1, 1) := by decide +kernel
theorem dT_lower_80 : decode bT_lower 80 = .ok (.iadd, 1) := by decide +kernel
theorem dT_lower_81 : decode bT_lower 81 = .ok (.aload 6, 2) := by decide +kernel
theorem dT_lower_83 : decode bT_lower 83 = .ok (.iload_n 1, 1) := by decide +kernel
theorem dT_lower_84 : decode bT_lower 84 = .ok (.iload_n 2, 1) := by decide +kernel
theorem dT_lower_85 : decode bT_lower 85 = .ok (.invokestatic 31, 3) := by decide +kernel
theorem dT_lower_88 : decode bT_lower 88 = .ok (.iaload, 1) := by decide +kernel
theorem dT_lower_89 : decode bT_lower 89 = .ok (.invokestatic 76, 3) := by decide +kernel
theorem dT_lower_92 : decode bT_lower 92 = .ok (.ifCond .eq 17, 3) := by decide +kernel
theorem dT_lower_95 : decode bT_lower 95 = .ok (.aload 6, 2) := by decide +kernel
theorem dT_lower_97 : decode bT_lower 97 = .ok (.iload_n 1, 1) := by decide +kernel
theorem dT_lower_98 : decode bT_lower 98 = .ok (.iload_n 2, 1) := by decide +kernel
theorem dT_lower_99 : decode bT_lower 99 = .ok (.invokestatic 31, 3) := by decide +kernel
theorem dT_lower_102 : decode bT_lower 102 = .ok (.iload 5, 2) := by decide +kernel
theorem dT_lower_104 : decode bT_lower 104 = .ok (.iconst 1, 1) := by decide +kernel
theorem dT_lower_105 : decode bT_lower 105 = .ok (.iadd, 1) := by decide +kernel
theorem dT_lower_106 : decode bT_lower 106 = .ok (.iastore, 1) := by decide +kernel
theorem dT_lower_107 : decode bT_lower 107 = .ok (.iconst 1, 1) := by decide +kernel
theorem dT_lower_108 : decode bT_lower 108 = .ok (.istore_n 3, 1) := by decide +kernel
theorem dT_lower_109 : decode bT_lower 109 = .ok (.iinc 4 (-1), 3) := by decide +kernel
theorem dT_lower_112 : decode bT_lower 112 = .ok (.goto (-99), 3) := by decide +kernel
theorem dT_lower_115 : decode bT_lower 115 = .ok (.iload_n 3, 1) := by decide +kernel
theorem dT_lower_116 : decode bT_lower 116 = .ok (.ireturn, 1) := by decide +kernel
theorem dT_leastOfRow_0 : decode bT_leastOfRow 0 = .ok (.aload_n 0, 1) := by decide +kernel
theorem dT_leastOfRow_1 : decode bT_leastOfRow 1 = .ok (.getfield 19, 3) := by decide +kernel
theorem dT_leastOfRow_4 : decode bT_leastOfRow 4 = .ok (.getfield 41, 3) := by decide +kernel
theorem dT_leastOfRow_7 : decode bT_leastOfRow 7 = .ok (.iload_n 1, 1) := by decide +kernel
theorem dT_leastOfRow_8 : decode bT_leastOfRow 8 = .ok (.iaload, 1) := by decide +kernel
theorem dT_leastOfRow_9 : decode bT_leastOfRow 9 = .ok (.iconst (-1), 1) := by decide +kernel
theorem dT_leastOfRow_10 : decode bT_leastOfRow 10 = .ok (.if_icmp .ne 14, 3) := by decide +kernel
theorem dT_leastOfRow_13 : decode bT_leastOfRow 13 = .ok (.iload_n 2, 1) := by decide +kernel
theorem dT_leastOfRow_14 : decode bT_leastOfRow 14 = .ok (.iload_n 3, 1) := by decide +kernel
theorem dT_leastOfRow_15 : decode bT_leastOfRow 15 = .ok (.if_icmp .ne 7, 3) := by decide +kernel
theorem dT_leastOfRow_18 : decode bT_leastOfRow 18 = .ok (.iconst 0, 1) := by decide +kernel
theorem dT_leastOfRow_19 : decode bT_leastOfRow 19 = .ok (.goto 4, 3) := by decide +kernel
theorem dT_leastOfRow_22 : decode bT_leastOfRow 22 = .ok (.iconst (-1), 1) := by decide +kernel
theorem dT_leastOfRow_23 : decode bT_leastOfRow 23 = .ok (.ireturn, 1) := by decide +kernel
theorem dT_leastOfRow_24 : decode bT_leastOfRow 24 = .ok (.iconst (-1), 1) := by decide +kernel
theorem dT_leastOfRow_25 : decode bT_leastOfRow 25 = .ok (.istore 4, 2) := by decide +kernel
theorem dT_leastOfRow_27 : decode bT_leastOfRow 27 = .ok (.iload_n 2, 1) := by decide +kernel
theorem dT_leastOfRow_28 : decode bT_leastOfRow 28 = .ok (.istore 5, 2) := by decide +kernel
theorem dT_leastOfRow_30 : decode bT_leastOfRow 30 = .ok (.iload 5, 2) := by decide +kernel
theorem dT_leastOfRow_32 : decode bT_leastOfRow 32 = .ok (.iload_n 3, 1) := by decide +kernel
theorem dT_leastOfRow_33 : decode bT_leastOfRow 33 = .ok (.if_icmp .gt 40, 3) := by decide +kernel
theorem dT_leastOfRow_36 : decode bT_leastOfRow 36 = .ok (.aload_n 0, 1) := by decide +kernel
theorem dT_leastOfRow_37 : decode bT_leastOfRow 37 = .ok (.iload_n 1, 1) := by decide +kernel
theorem dT_leastOfRow_38 : decode bT_leastOfRow 38 = .ok (.iload_n 2, 1) := by decide +kernel
theorem dT_leastOfRow_39 : decode bT_leastOfRow 39 = .ok (.iload 5, 2) := by decide +kernel
theorem dT_leastOfRow_41 : decode bT_leastOfRow 41 = .ok (.iload_n 3, 1) := by decide +kernel
theorem dT_leastOfRow_42 : decode bT_leastOfRow 42 = .ok (.invokevirtual 79, 3) := by decide +kernel
theorem dT_leastOfRow_45 : decode bT_leastOfRow 45 = .ok (.istore 6, 2) := by decide +kernel
theorem dT_leastOfRow_47 : decode bT_leastOfRow 47 = .ok (.iload 6, 2) := by decide +kernel
theorem dT_leastOfRow_49 : decode bT_leastOfRow 49 = .ok (.iconst (-1), 1) := by decide +kernel
theorem dT_leastOfRow_50 : decode bT_leastOfRow 50 = .ok (.if_icmp .eq 17, 3) := by decide +kernel
theorem dT_leastOfRow_53 : decode bT_leastOfRow 53 = .ok (.iload 6, 2) := by decide +kernel
theorem dT_leastOfRow_55 : decode bT_leastOfRow 55 = .ok (.iload 4, 2) := by decide +kernel
theorem dT_leastOfRow_57 : decode bT_leastOfRow 57 = .ok (.invokestatic 76, 3) := by decide +kernel
theorem dT_leastOfRow_60 : decode bT_leastOfRow 60 = .ok (.ifCond .eq 7, 3) := by decide +kernel
theorem dT_leastOfRow_63 : decode bT_leastOfRow 63 = .ok (.iload 6, 2) := by decide +kernel
theorem dT_leastOfRow_65 : decode bT_leastOfRow 65 = .ok (.istore 4, 2) := by decide +kernel
theorem dT_leastOfRow_67 : decode bT_leastOfRow 67 = .ok (.iinc 5 1, 3) := by decide +kernel
theorem dT_leastOfRow_70 : decode bT_leastOfRow 70 = .ok (.goto (-40), 3) := by decide +kernel
theorem dT_leastOfRow_73 : decode bT_leastOfRow 73 = .ok (.iload 4, 2) := by decide +kernel
theorem dT_leastOfRow_75 : decode bT_leastOfRow 75 = .ok (.ireturn, 1) := by decide +kernel
theorem dT_ofSplitRow_0 : decode bT_ofSplitRow 0 = .ok (.aload_n 0, 1) := by decide +kernel
theorem dT_ofSplitRow_1 : decode bT_ofSplitRow 1 = .ok (.aload_n 0, 1) := by decide +kernel
theorem dT_ofSplitRow_2 : decode bT_ofSplitRow 2 = .ok (.getfield 19, 3) := by decide +kernel
theorem dT_ofSplitRow_5 : decode bT_ofSplitRow 5 = .ok (.getfield 41, 3) := by decide +kernel
theorem dT_ofSplitRow_8 : decode bT_ofSplitRow 8 = .ok (.iload_n 1, 1) := by decide +kernel
theorem dT_ofSplitRow_9 : decode bT_ofSplitRow 9 = .ok (.iaload, 1) := by decide +kernel
theorem dT_ofSplitRow_10 : decode bT_ofSplitRow 10 = .ok (.iload_n 2, 1) := by decide +kernel
theorem dT_ofSplitRow_11 : decode bT_ofSplitRow 11 = .ok (.iload_n 3, 1) := by decide +kernel
theorem dT_ofSplitRow_12 : decode bT_ofSplitRow 12 = .ok (.invokevirtual 47, 3) := by decide +kernel
theorem dT_ofSplitRow_15 : decode bT_ofSplitRow 15 = .ok (.istore 5, 2) := by decide +kernel
theorem dT_ofSplitRow_17 : decode bT_ofSplitRow 17 = .ok (.iload 5, 2) := by decide +kernel
theorem dT_ofSplitRow_19 : decode bT_ofSplitRow 19 = .ok (.iconst (-1), 1) := by decide +kernel
theorem dT_ofSplitRow_20 : decode bT_ofSplitRow 20 = .ok (.if_icmp .eq 16, 3) := by decide +kernel
theorem dT_ofSplitRow_23 : decode bT_ofSplitRow 23 = .ok (.iload_n 1, 1) := by decide +kernel
theorem dT_ofSplitRow_24 : decode bT_ofSplitRow 24 = .ok (.iconst 1, 1) := by decide +kernel
theorem dT_ofSplitRow_25 : decode bT_ofSplitRow 25 = .ok (.iadd, 1) := by decide +kernel
theorem dT_ofSplitRow_26 : decode bT_ofSplitRow 26 = .ok (.aload_n 0, 1) := by decide +kernel
theorem dT_ofSplitRow_27 : decode bT_ofSplitRow 27 = .ok (.getfield 19, 3) := by decide +kernel
theorem dT_ofSplitRow_30 : decode bT_ofSplitRow 30 = .ok (.getfield 51, 3) := by decide +kernel
theorem dT_ofSplitRow_33 : decode bT_ofSplitRow 33 = .ok (.if_icmp .lt 5, 3) := by decide +kernel
theorem dT_ofSplitRow_36 : decode bT_ofSplitRow 36 = .ok (.iconst (-1), 1) := by decide +kernel
theorem dT_ofSplitRow_37 : decode bT_ofSplitRow 37 = .ok (.ireturn, 1) := by decide +kernel
theorem dT_ofSplitRow_38 : decode bT_ofSplitRow 38 = .ok (.aload_n 0, 1) := by decide +kernel
theorem dT_ofSplitRow_39 : decode bT_ofSplitRow 39 = .ok (.iload_n 1, 1) := by decide +kernel
theorem dT_ofSplitRow_40 : decode bT_ofSplitRow 40 = .ok (.iconst 1, 1) := by decide +kernel
theorem dT_ofSplitRow_41 : decode bT_ofSplitRow 41 = .ok (.iadd, 1) := by decide +kernel
theorem dT_ofSplitRow_42 : decode bT_ofSplitRow 42 = .ok (.iload_n 3, 1) := by decide +kernel
theorem dT_ofSplitRow_43 : decode bT_ofSplitRow 43 = .ok (.iload 4, 2) := by decide +kernel
theorem dT_ofSplitRow_45 : decode bT_ofSplitRow 45 = .ok (.invokevirtual 55, 3) := by decide +kernel
theorem dT_ofSplitRow_48 : decode bT_ofSplitRow 48 = .ok (.istore 6, 2) := by decide +kernel
theorem dT_ofSplitRow_50 : decode bT_ofSplitRow 50 = .ok (.iload 6, 2) := by decide +kernel
theorem dT_ofSplitRow_52 : decode bT_ofSplitRow 52 = .ok (.iconst (-1), 1) := by decide +kernel
theorem dT_ofSplitRow_53 : decode bT_ofSplitRow 53 = .ok (.if_icmp .ne 7, 3) := by decide +kernel
theorem dT_ofSplitRow_56 : decode bT_ofSplitRow 56 = .ok (.iconst (-1), 1) := by decide +kernel
theorem dT_ofSplitRow_57 : decode bT_ofSplitRow 57 = .ok (.goto 8, 3) := by decide +kernel
theorem dT_ofSplitRow_60 : decode bT_ofSplitRow 60 = .ok (.iload 5, 2) := by decide +kernel
theorem dT_ofSplitRow_62 : decode bT_ofSplitRow 62 = .ok (.iload 6, 2) := by decide +kernel
theorem dT_ofSplitRow_64 : decode bT_ofSplitRow 64 = .ok (.iadd, 1) := by decide +kernel
theorem dT_ofSplitRow_65 : decode bT_ofSplitRow 65 = .ok (.ireturn, 1) := by decide +kernel
theorem dT_ofSymbol_0 : decode bT_ofSymbol 0 = .ok (.iload_n 1, 1) := by decide +kernel
theorem dT_ofSymbol_1 : decode bT_ofSymbol 1 = .ok (.invokestatic 27, 3) := by decide +kernel
theorem dT_ofSymbol_4 : decode bT_ofSymbol 4 = .ok (.ifCond .eq 16, 3) := by decide +kernel
theorem dT_ofSymbol_7 : decode bT_ofSymbol 7 = .ok (.aload_n 0, 1) := by decide +kernel
theorem dT_ofSymbol_8 : decode bT_ofSymbol 8 = .ok (.getfield 11, 3) := by decide +kernel
theorem dT_ofSymbol_11 : decode bT_ofSymbol 11 = .ok (.iload_n 1, 1) := by decide +kernel
theorem dT_ofSymbol_12 : decode bT_ofSymbol 12 = .ok (.aaload, 1) := by decide +kernel
theorem dT_ofSymbol_13 : decode bT_ofSymbol 13 = .ok (.iload_n 2, 1) := by decide +kernel
theorem dT_ofSymbol_14 : decode bT_ofSymbol 14 = .ok (.iload_n 3, 1) := by decide +kernel
theorem dT_ofSymbol_15 : decode bT_ofSymbol 15 = .ok (.invokestatic 31, 3) := by decide +kernel
theorem dT_ofSymbol_18 : decode bT_ofSymbol 18 = .ok (.iaload, 1) := by decide +kernel
theorem dT_ofSymbol_19 : decode bT_ofSymbol 19 = .ok (.ireturn, 1) := by decide +kernel
theorem dT_ofSymbol_20 : decode bT_ofSymbol 20 = .ok (.aload_n 0, 1) := by decide +kernel
theorem dT_ofSymbol_21 : decode bT_ofSymbol 21 = .ok (.getfield 23, 3) := by decide +kernel
theorem dT_ofSymbol_24 : decode bT_ofSymbol 24 = .ok (.iload_n 1, 1) := by decide +kernel
theorem dT_ofSymbol_25 : decode bT_ofSymbol 25 = .ok (.iload_n 2, 1) := by decide +kernel
theorem dT_ofSymbol_26 : decode bT_ofSymbol 26 = .ok (.iload_n 3, 1) := by decide +kernel
theorem dT_ofSymbol_27 : decode bT_ofSymbol 27 = .ok (.invokevirtual 35, 3) := by decide +kernel
theorem dT_ofSymbol_30 : decode bT_ofSymbol 30 = .ok (.ifCond .eq 7, 3) := by decide +kernel
theorem dT_ofSymbol_33 : decode bT_ofSymbol 33 = .ok (.iconst 0, 1) := by decide +kernel
theorem dT_ofSymbol_34 : decode bT_ofSymbol 34 = .ok (.goto 4, 3) := by decide +kernel
theorem dT_ofSymbol_37 : decode bT_ofSymbol 37 = .ok (.iconst (-1), 1) := by decide +kernel
theorem dT_ofSymbol_38 : decode bT_ofSymbol 38 = .ok (.ireturn, 1) := by decide +kernel
theorem dT_ofRow_0 : decode bT_ofRow 0 = .ok (.aload_n 0, 1) := by decide +kernel
theorem dT_ofRow_1 : decode bT_ofRow 1 = .ok (.getfield 16, 3) := by decide +kernel
theorem dT_ofRow_4 : decode bT_ofRow 4 = .ok (.iload_n 1, 1) := by decide +kernel
theorem dT_ofRow_5 : decode bT_ofRow 5 = .ok (.aaload, 1) := by decide +kernel
theorem dT_ofRow_6 : decode bT_ofRow 6 = .ok (.iload_n 2, 1) := by decide +kernel
theorem dT_ofRow_7 : decode bT_ofRow 7 = .ok (.iload_n 3, 1) := by decide +kernel
theorem dT_ofRow_8 : decode bT_ofRow 8 = .ok (.invokestatic 31, 3) := by decide +kernel
theorem dT_ofRow_11 : decode bT_ofRow 11 = .ok (.iaload, 1) := by decide +kernel
theorem dT_ofRow_12 : decode bT_ofRow 12 = .ok (.ireturn, 1) := by decide +kernel
theorem dT_isFewer_0 : decode bT_isFewer 0 = .ok (.iload_n 1, 1) := by decide +kernel
theorem dT_isFewer_1 : decode bT_isFewer 1 = .ok (.iconst (-1), 1) := by decide +kernel
theorem dT_isFewer_2 : decode bT_isFewer 2 = .ok (.if_icmp .eq 8, 3) := by decide +kernel
theorem dT_isFewer_5 : decode bT_isFewer 5 = .ok (.iload_n 0, 1) := by decide +kernel
theorem dT_isFewer_6 : decode bT_isFewer 6 = .ok (.iload_n 1, 1) := by decide +kernel
theorem dT_isFewer_7 : decode bT_isFewer 7 = .ok (.if_icmp .ge 7, 3) := by decide +kernel
theorem dT_isFewer_10 : decode bT_isFewer 10 = .ok (.iconst 1, 1) := by decide +kernel
theorem dT_isFewer_11 : decode bT_isFewer 11 = .ok (.goto 4, 3) := by decide +kernel
theorem dT_isFewer_14 : decode bT_isFewer 14 = .ok (.iconst 0, 1) := by decide +kernel
theorem dT_isFewer_15 : decode bT_isFewer 15 = .ok (.ireturn, 1) := by decide +kernel
theorem dT_fillUpTo_0 : decode bT_fillUpTo 0 = .ok (.iload_n 1, 1) := by decide +kernel
theorem dT_fillUpTo_1 : decode bT_fillUpTo 1 = .ok (.istore_n 2, 1) := by decide +kernel
theorem dT_fillUpTo_2 : decode bT_fillUpTo 2 = .ok (.iload_n 2, 1) := by decide +kernel
theorem dT_fillUpTo_3 : decode bT_fillUpTo 3 = .ok (.ifCond .lt 15, 3) := by decide +kernel
theorem dT_fillUpTo_6 : decode bT_fillUpTo 6 = .ok (.aload_n 0, 1) := by decide +kernel
theorem dT_fillUpTo_7 : decode bT_fillUpTo 7 = .ok (.iload_n 2, 1) := by decide +kernel
theorem dT_fillUpTo_8 : decode bT_fillUpTo 8 = .ok (.iload_n 1, 1) := by decide +kernel
theorem dT_fillUpTo_9 : decode bT_fillUpTo 9 = .ok (.invokevirtual 58, 3) := by decide +kernel
theorem dT_fillUpTo_12 : decode bT_fillUpTo 12 = .ok (.iinc 2 (-1), 3) := by decide +kernel
theorem dT_fillUpTo_15 : decode bT_fillUpTo 15 = .ok (.goto (-13), 3) := by decide +kernel
theorem dT_fillUpTo_18 : decode bT_fillUpTo 18 = .ok (.return_, 1) := by decide +kernel
theorem dW_init_0 : decode bW_init 0 = .ok (.aload_n 0, 1) := by decide +kernel
theorem dW_init_1 : decode bW_init 1 = .ok (.invokespecial 3, 3) := by decide +kernel
theorem dW_init_4 : decode bW_init 4 = .ok (.aload_n 0, 1) := by decide +kernel
theorem dW_init_5 : decode bW_init 5 = .ok (.sipush 8000, 3) := by decide +kernel
theorem dW_init_8 : decode bW_init 8 = .ok (.newarray .int, 2) := by decide +kernel
theorem dW_init_10 : decode bW_init 10 = .ok (.putfield 9, 3) := by decide +kernel
theorem dW_init_13 : decode bW_init 13 = .ok (.aload_n 0, 1) := by decide +kernel
theorem dW_init_14 : decode bW_init 14 = .ok (.iconst 0, 1) := by decide +kernel
theorem dW_init_15 : decode bW_init 15 = .ok (.putfield 15, 3) := by decide +kernel
theorem dW_init_18 : decode bW_init 18 = .ok (.aload_n 0, 1) := by decide +kernel
theorem dW_init_19 : decode bW_init 19 = .ok (.bipush 54, 2) := by decide +kernel
theorem dW_init_21 : decode bW_init 21 = .ok (.newarray .int, 2) := by decide +kernel
theorem dW_init_23 : decode bW_init 23 = .ok (.putfield 19, 3) := by decide +kernel
theorem dW_init_26 : decode bW_init 26 = .ok (.aload_n 0, 1) := by decide +kernel
theorem dW_init_27 : decode bW_init 27 = .ok (.bipush 54, 2) := by decide +kernel
theorem dW_init_29 : decode bW_init 29 = .ok (.newarray .int, 2) := by decide +kernel
theorem dW_init_31 : decode bW_init 31 = .ok (.putfield 22, 3) := by decide +kernel
theorem dW_init_34 : decode bW_init 34 = .ok (.aload_n 0, 1) := by decide +kernel
theorem dW_init_35 : decode bW_init 35 = .ok (.bipush 54, 2) := by decide +kernel
theorem dW_init_37 : decode bW_init 37 = .ok (.newarray .int, 2) := by decide +kernel
theorem dW_init_39 : decode bW_init 39 = .ok (.putfield 25, 3) := by decide +kernel
theorem dW_init_42 : decode bW_init 42 = .ok (.aload_n 0, 1) := by decide +kernel
theorem dW_init_43 : decode bW_init 43 = .ok (.iconst 0, 1) := by decide +kernel
theorem dW_init_44 : decode bW_init 44 = .ok (.putfield 28, 3) := by decide +kernel
theorem dW_init_47 : decode bW_init 47 = .ok (.aload_n 0, 1) := by decide +kernel
theorem dW_init_48 : decode bW_init 48 = .ok (.aload_n 1, 1) := by decide +kernel
theorem dW_init_49 : decode bW_init 49 = .ok (.putfield 31, 3) := by decide +kernel
theorem dW_init_52 : decode bW_init 52 = .ok (.aload_n 0, 1) := by decide +kernel
theorem dW_init_53 : decode bW_init 53 = .ok (.aload_n 2, 1) := by decide +kernel
theorem dW_init_54 : decode bW_init 54 = .ok (.putfield 35, 3) := by decide +kernel
theorem dW_init_57 : decode bW_init 57 = .ok (.return_, 1) := by decide +kernel
theorem dW_forget_0 : decode bW_forget 0 = .ok (.aload_n 0, 1) := by decide +kernel
theorem dW_forget_1 : decode bW_forget 1 = .ok (.iconst 0, 1) := by decide +kernel
theorem dW_forget_2 : decode bW_forget 2 = .ok (.putfield 15, 3) := by decide +kernel
theorem dW_forget_5 : decode bW_forget 5 = .ok (.return_, 1) := by decide +kernel
theorem dW_tell_0 : decode bW_tell 0 = .ok (.aload_n 0, 1) := by decide +kernel
theorem dW_tell_1 : decode bW_tell 1 = .ok (.iconst 0, 1) := by decide +kernel
theorem dW_tell_2 : decode bW_tell 2 = .ok (.putfield 15, 3) := by decide +kernel
theorem dW_tell_5 : decode bW_tell 5 = .ok (.aload_n 0, 1) := by decide +kernel
theorem dW_tell_6 : decode bW_tell 6 = .ok (.iconst 0, 1) := by decide +kernel
theorem dW_tell_7 : decode bW_tell 7 = .ok (.putfield 28, 3) := by decide +kernel
theorem dW_tell_10 : decode bW_tell 10 = .ok (.aload_n 0, 1) := by decide +kernel
theorem dW_tell_11 : decode bW_tell 11 = .ok (.iload_n 1, 1) := by decide +kernel
theorem dW_tell_12 : decode bW_tell 12 = .ok (.iconst 0, 1) := by decide +kernel
theorem dW_tell_13 : decode bW_tell 13 = .ok (.iload_n 2, 1) := by decide +kernel
theorem dW_tell_14 : decode bW_tell 14 = .ok (.invokevirtual 39, 3) := by decide +kernel
theorem dW_tell_17 : decode bW_tell 17 = .ok (.iconst 0, 1) := by decide +kernel
theorem dW_tell_18 : decode bW_tell 18 = .ok (.istore_n 3, 1) := by decide +kernel
theorem dW_tell_19 : decode bW_tell 19 = .ok (.aload_n 0, 1) := by decide +kernel
theorem dW_tell_20 : decode bW_tell 20 = .ok (.getfield 28, 3) := by decide +kernel
theorem dW_tell_23 : decode bW_tell 23 = .ok (.ifCond .le 19, 3) := by decide +kernel
theorem dW_tell_26 : decode bW_tell 26 = .ok (.iload_n 3, 1) := by decide +kernel
theorem dW_tell_27 : decode bW_tell 27 = .ok (.ldc 43, 2) := by decide +kernel
theorem dW_tell_29 : decode bW_tell 29 = .ok (.if_icmp .ge 13, 3) := by decide +kernel
theorem dW_tell_32 : decode bW_tell 32 = .ok (.aload_n 0, 1) := by decide +kernel
theorem dW_tell_33 : decode bW_tell 33 = .ok (.invokevirtual 44, 3) := by decide +kernel
theorem dW_tell_36 : decode bW_tell 36 = .ok (.iinc 3 1, 3) := by decide +kernel
theorem dW_tell_39 : decode bW_tell 39 = .ok (.goto (-20), 3) := by decide +kernel
theorem dW_tell_42 : decode bW_tell 42 = .ok (.return_, 1) := by decide +kernel
theorem dW_open_0 : decode bW_open 0 = .ok (.aload_n 0, 1) := by decide +kernel
theorem dW_open_1 : decode bW_open 1 = .ok (.iload_n 1, 1) := by decide +kernel
theorem dW_open_2 : decode bW_open 2 = .ok (.iload_n 2, 1) := by decide +kernel
theorem dW_open_3 : decode bW_open 3 = .ok (.iload_n 3, 1) := by decide +kernel
theorem dW_open_4 : decode bW_open 4 = .ok (.invokevirtual 47, 3) := by decide +kernel
theorem dW_open_7 : decode bW_open 7 = .ok (.istore 4, 2) := by decide +kernel
theorem dW_open_9 : decode bW_open 9 = .ok (.iload 4, 2) := by decide +kernel
theorem dW_open_11 : decode bW_open 11 = .ok (.iconst (-1), 1) := by decide +kernel
theorem dW_open_12 : decode bW_open 12 = .ok (.if_icmp .eq 12, 3) := by decide +kernel
theorem dW_open_15 : decode bW_open 15 = .ok (.aload_n 0, 1) := by decide +kernel
theorem dW_open_16 : decode bW_open 16 = .ok (.getfield 28, 3) := by decide +kernel
theorem dW_open_19 : decode bW_open 19 = .ok (.bipush 54, 2) := by decide +kernel
theorem dW_open_21 : decode bW_open 21 = .ok (.if_icmp .lt 4, 3) := by decide +kernel
theorem dW_open_24 : decode bW_open 24 = .ok (.return_, 1) := by decide +kernel
theorem dW_open_25 : decode bW_open 25 = .ok (.aload_n 0, 1) := by decide +kernel
theorem dW_open_26 : decode bW_open 26 = .ok (.getfield 15, 3) := by decide +kernel
theorem dW_open_29 : decode bW_open 29 = .ok (.sipush 8000, 3) := by decide +kernel
theorem dW_open_32 : decode bW_open 32 = .ok (.if_icmp .lt 9, 3) := by decide +kernel
theorem dW_open_35 : decode bW_open 35 = .ok (.aload_n 0, 1) := by decide +kernel
theorem dW_open_36 : decode bW_open 36 = .ok (.iconst 0, 1) := by decide +kernel
theorem dW_open_37 : decode bW_open 37 = .ok (.putfield 28, 3) := by decide +kernel
theorem dW_open_40 : decode bW_open 40 = .ok (.return_, 1) := by decide +kernel
theorem dW_open_41 : decode bW_open 41 = .ok (.aload_n 0, 1) := by decide +kernel
theorem dW_open_42 : decode bW_open 42 = .ok (.getfield 9, 3) := by decide +kernel
theorem dW_open_45 : decode bW_open 45 = .ok (.aload_n 0, 1) := by decide +kernel
theorem dW_open_46 : decode bW_open 46 = .ok (.getfield 15, 3) := by decide +kernel
theorem dW_open_49 : decode bW_open 49 = .ok (.iload 4, 2) := by decide +kernel
theorem dW_open_51 : decode bW_open 51 = .ok (.iastore, 1) := by decide +kernel
theorem dW_open_52 : decode bW_open 52 = .ok (.aload_n 0, 1) := by decide +kernel
theorem dW_open_53 : decode bW_open 53 = .ok (.dup, 1) := by decide +kernel
theorem dW_open_54 : decode bW_open 54 = .ok (.getfield 15, 3) := by decide +kernel
theorem dW_open_57 : decode bW_open 57 = .ok (.iconst 1, 1) := by decide +kernel
theorem dW_open_58 : decode bW_open 58 = .ok (.iadd, 1) := by decide +kernel
theorem dW_open_59 : decode bW_open 59 = .ok (.putfield 15, 3) := by decide +kernel
theorem dW_open_62 : decode bW_open 62 = .ok (.aload_n 0, 1) := by decide +kernel
theorem dW_open_63 : decode bW_open 63 = .ok (.getfield 19, 3) := by decide +kernel
theorem dW_open_66 : decode bW_open 66 = .ok (.aload_n 0, 1) := by decide +kernel
theorem dW_open_67 : decode bW_open 67 = .ok (.getfield 28, 3) := by decide +kernel
theorem dW_open_70 : decode bW_open 70 = .ok (.aload_n 0, 1) := by decide +kernel
theorem dW_open_71 : decode bW_open 71 = .ok (.getfield 31, 3) := by decide +kernel
theorem dW_open_74 : decode bW_open 74 = .ok (.getfield 51, 3) := by decide +kernel
theorem dW_open_77 : decode bW_open 77 = .ok (.iload 4, 2) := by decide +kernel
theorem dW_open_79 : decode bW_open 79 = .ok (.iaload, 1) := by decide +kernel
theorem dW_open_80 : decode bW_open 80 = .ok (.iastore, 1) := by decide +kernel
theorem dW_open_81 : decode bW_open 81 = .ok (.aload_n 0, 1) := by decide +kernel
theorem dW_open_82 : decode bW_open 82 = .ok (.getfield 22, 3) := by decide +kernel
theorem dW_open_85 : decode bW_open 85 = .ok (.aload_n 0, 1) := by decide +kernel
theorem dW_open_86 : decode bW_open 86 = .ok (.getfield 28, 3) := by decide +kernel
theorem dW_open_89 : decode bW_open 89 = .ok (.iload_n 2, 1) := by decide +kernel
theorem dW_open_90 : decode bW_open 90 = .ok (.iastore, 1) := by decide +kernel
theorem dW_open_91 : decode bW_open 91 = .ok (.aload_n 0, 1) := by decide +kernel
theorem dW_open_92 : decode bW_open 92 = .ok (.getfield 25, 3) := by decide +kernel
theorem dW_open_95 : decode bW_open 95 = .ok (.aload_n 0, 1) := by decide +kernel
theorem dW_open_96 : decode bW_open 96 = .ok (.getfield 28, 3) := by decide +kernel
theorem dW_open_99 : decode bW_open 99 = .ok (.iload_n 3, 1) := by decide +kernel
theorem dW_open_100 : decode bW_open 100 = .ok (.iastore, 1) := by decide +kernel
theorem dW_open_101 : decode bW_open 101 = .ok (.aload_n 0, 1) := by decide +kernel
theorem dW_open_102 : decode bW_open 102 = .ok (.dup, 1) := by decide +kernel
theorem dW_open_103 : decode bW_open 103 = .ok (.getfield 28, 3) := by decide +kernel
theorem dW_open_106 : decode bW_open 106 = .ok (.iconst 1, 1) := by decide +kernel
theorem dW_open_107 : decode bW_open 107 = .ok (.iadd, 1) := by decide +kernel
theorem dW_open_108 : decode bW_open 108 = .ok (.putfield 28, 3) := by decide +kernel
theorem dW_open_111 : decode bW_open 111 = .ok (.return_, 1) := by decide +kernel
theorem dW_lowestProduction_0 : decode bW_lowestProduction 0 = .ok (.aload_n 0, 1) := by decide +kernel
theorem dW_lowestProduction_1 : decode bW_lowestProduction 1 = .ok (.getfield 35, 3) := by decide +kernel
theorem dW_lowestProduction_4 : decode bW_lowestProduction 4 = .ok (.iload_n 1, 1) := by decide +kernel
theorem dW_lowestProduction_5 : decode bW_lowestProduction 5 = .ok (.iload_n 2, 1) := by decide +kernel
theorem dW_lowestProduction_6 : decode bW_lowestProduction 6 = .ok (.iload_n 3, 1) := by decide +kernel
theorem dW_lowestProduction_7 : decode bW_lowestProduction 7 = .ok (.invokevirtual 66, 3) := by decide +kernel
theorem dW_lowestProduction_10 : decode bW_lowestProduction 10 = .ok (.istore 4, 2) := by decide +kernel
theorem dW_lowestProduction_12 : decode bW_lowestProduction 12 = .ok (.iconst 0, 1) := by decide +kernel
theorem dW_lowestProduction_13 : decode bW_lowestProduction 13 = .ok (.istore 5, 2) := by decide +kernel
theorem dW_lowestProduction_15 : decode bW_lowestProduction 15 = .ok (.iload 5, 2) := by decide +kernel
theorem dW_lowestProduction_17 : decode bW_lowestProduction 17 = .ok (.aload_n 0, 1) := by decide +kernel
theorem dW_lowestProduction_18 : decode bW_lowestProduction 18 = .ok (.getfield 31, 3) := by decide +kernel
theorem dW_lowestProduction_21 : decode bW_lowestProduction 21 = .ok (.getfield 71, 3) := by decide +kernel
theorem dW_lowestProduction_24 : decode bW_lowestProduction 24 = .ok (.if_icmp .ge 58, 3) := by decide +kernel
theorem dW_lowestProduction_27 : decode bW_lowestProduction 27 = .ok (.iload 4, 2) := by decide +kernel
theorem dW_lowestProduction_29 : decode bW_lowestProduction 29 = .ok (.iconst (-1), 1) := by decide +kernel
theorem dW_lowestProduction_30 : decode bW_lowestProduction 30 = .ok (.if_icmp .eq 46, 3) := by decide +kernel
theorem dW_lowestProduction_33 : decode bW_lowestProduction 33 = .ok (.aload_n 0, 1) := by decide +kernel
theorem dW_lowestProduction_34 : decode bW_lowestProduction 34 = .ok (.getfield 31, 3) := by decide +kernel
theorem dW_lowestProduction_37 : decode bW_lowestProduction 37 = .ok (.getfield 74, 3) := by decide +kernel
theorem dW_lowestProduction_40 : decode bW_lowestProduction 40 = .ok (.iload 5, 2) := by decide +kernel
theorem dW_lowestProduction_42 : decode bW_lowestProduction 42 = .ok (.iaload, 1) := by decide +kernel
theorem dW_lowestProduction_43 : decode bW_lowestProduction 43 = .ok (.iload_n 1, 1) := by decide +kernel
theorem dW_lowestProduction_44 : decode bW_lowestProduction 44 = .ok (.if_icmp .ne 32, 3) := by decide +kernel
theorem dW_lowestProduction_47 : decode bW_lowestProduction 47 = .ok (.aload_n 0, 1) := by decide +kernel
theorem dW_lowestProduction_48 : decode bW_lowestProduction 48 = .ok (.getfield 35, 3) := by decide +kernel
theorem dW_lowestProduction_51 : decode bW_lowestProduction 51 = .ok (.aload_n 0, 1) := by decide +kernel
theorem dW_lowestProduction_52 : decode bW_lowestProduction 52 = .ok (.getfield 31, 3) := by decide +kernel
theorem dW_lowestProduction_55 : decode bW_lowestProduction 55 = .ok (.getfield 51, 3) := by decide +kernel
theorem dW_lowestProduction_58 : decode bW_lowestProduction 58 = .ok (.iload 5, 2) := by decide +kernel
theorem dW_lowestProduction_60 : decode bW_lowestProduction 60 = .ok (.iaload, 1) := by decide +kernel
theorem dW_lowestProduction_61 : decode bW_lowestProduction 61 = .ok (.iload_n 2, 1) := by decide +kernel
theorem dW_lowestProduction_62 : decode bW_lowestProduction 62 = .ok (.iload_n 3, 1) := by decide +kernel
theorem dW_lowestProduction_63 : decode bW_lowestProduction 63 = .ok (.invokevirtual 77, 3) := by decide +kernel
theorem dW_lowestProduction_66 : decode bW_lowestProduction 66 = .ok (.iload 4, 2) := by decide +kernel
theorem dW_lowestProduction_68 : decode bW_lowestProduction 68 = .ok (.iconst 1, 1) := by decide +kernel
theorem dW_lowestProduction_69 : decode bW_lowestProduction 69 = .ok (.isub, 1) := by decide +kernel
theorem dW_lowestProduction_70 : decode bW_lowestProduction 70 = .ok (.if_icmp .ne 6, 3) := by decide +kernel
theorem dW_lowestProduction_73 : decode bW_lowestProduction 73 = .ok (.iload 5, 2) := by decide +kernel
theorem dW_lowestProduction_75 : decode bW_lowestProduction 75 = .ok (.ireturn, 1) := by decide +kernel
theorem dW_lowestProduction_76 : decode bW_lowestProduction 76 = .ok (.iinc 5 1, 3) := by decide +kernel
theorem dW_lowestProduction_79 : decode bW_lowestProduction 79 = .ok (.goto (-64), 3) := by decide +kernel
theorem dW_lowestProduction_82 : decode bW_lowestProduction 82 = .ok (.iconst (-1), 1) := by decide +kernel
theorem dW_lowestProduction_83 : decode bW_lowestProduction 83 = .ok (.ireturn, 1) := by decide +kernel
theorem dW_goOn_0 : decode bW_goOn 0 = .ok (.aload_n 0, 1) := by decide +kernel
theorem dW_goOn_1 : decode bW_goOn 1 = .ok (.getfield 28, 3) := by decide +kernel
theorem dW_goOn_4 : decode bW_goOn 4 = .ok (.iconst 1, 1) := by decide +kernel
theorem dW_goOn_5 : decode bW_goOn 5 = .ok (.isub, 1) := by decide +kernel
theorem dW_goOn_6 : decode bW_goOn 6 = .ok (.istore_n 1, 1) := by decide +kernel
theorem dW_goOn_7 : decode bW_goOn 7 = .ok (.aload_n 0, 1) := by decide +kernel
theorem dW_goOn_8 : decode bW_goOn 8 = .ok (.getfield 19, 3) := by decide +kernel
theorem dW_goOn_11 : decode bW_goOn 11 = .ok (.iload_n 1, 1) := by decide +kernel
theorem dW_goOn_12 : decode bW_goOn 12 = .ok (.iaload, 1) := by decide +kernel
theorem dW_goOn_13 : decode bW_goOn 13 = .ok (.istore_n 2, 1) := by decide +kernel
theorem dW_goOn_14 : decode bW_goOn 14 = .ok (.aload_n 0, 1) := by decide +kernel
theorem dW_goOn_15 : decode bW_goOn 15 = .ok (.getfield 31, 3) := by decide +kernel
theorem dW_goOn_18 : decode bW_goOn 18 = .ok (.getfield 56, 3) := by decide +kernel
theorem dW_goOn_21 : decode bW_goOn 21 = .ok (.iload_n 2, 1) := by decide +kernel
theorem dW_goOn_22 : decode bW_goOn 22 = .ok (.iaload, 1) := by decide +kernel
theorem dW_goOn_23 : decode bW_goOn 23 = .ok (.istore_n 3, 1) := by decide +kernel
theorem dW_goOn_24 : decode bW_goOn 24 = .ok (.iload_n 3, 1) := by decide +kernel
theorem dW_goOn_25 : decode bW_goOn 25 = .ok (.iconst (-1), 1) := by decide +kernel
theorem dW_goOn_26 : decode bW_goOn 26 = .ok (.if_icmp .ne 14, 3) := by decide +kernel
theorem dW_goOn_29 : decode bW_goOn 29 = .ok (.aload_n 0, 1) := by decide +kernel
theorem dW_goOn_30 : decode bW_goOn 30 = .ok (.dup, 1) := by decide +kernel
theorem dW_goOn_31 : decode bW_goOn 31 = .ok (.getfield 28, 3) := by decide +kernel
theorem dW_goOn_34 : decode bW_goOn 34 = .ok (.iconst 1, 1) := by decide +kernel
theorem dW_goOn_35 : decode bW_goOn 35 = .ok (.isub, 1) := by decide +kernel
theorem dW_goOn_36 : decode bW_goOn 36 = .ok (.putfield 28, 3) := by decide +kernel
theorem dW_goOn_39 : decode bW_goOn 39 = .ok (.return_, 1) := by decide +kernel
theorem dW_goOn_40 : decode bW_goOn 40 = .ok (.aload_n 0, 1) := by decide +kernel
theorem dW_goOn_41 : decode bW_goOn 41 = .ok (.getfield 22, 3) := by decide +kernel
theorem dW_goOn_44 : decode bW_goOn 44 = .ok (.iload_n 1, 1) := by decide +kernel
theorem dW_goOn_45 : decode bW_goOn 45 = .ok (.iaload, 1) := by decide +kernel
theorem dW_goOn_46 : decode bW_goOn 46 = .ok (.istore 4, 2) := by decide +kernel
theorem dW_goOn_48 : decode bW_goOn 48 = .ok (.aload_n 0, 1) := by decide +kernel
theorem dW_goOn_49 : decode bW_goOn 49 = .ok (.iload_n 2, 1) := by decide +kernel
theorem dW_goOn_50 : decode bW_goOn 50 = .ok (.iload 4, 2) := by decide +kernel
theorem dW_goOn_52 : decode bW_goOn 52 = .ok (.aload_n 0, 1) := by decide +kernel
theorem dW_goOn_53 : decode bW_goOn 53 = .ok (.getfield 25, 3) := by decide +kernel
theorem dW_goOn_56 : decode bW_goOn 56 = .ok (.iload_n 1, 1) := by decide +kernel
theorem dW_goOn_57 : decode bW_goOn 57 = .ok (.iaload, 1) := by decide +kernel
theorem dW_goOn_58 : decode bW_goOn 58 = .ok (.invokevirtual 59, 3) := by decide +kernel
theorem dW_goOn_61 : decode bW_goOn 61 = .ok (.istore 5, 2) := by decide +kernel
theorem dW_goOn_63 : decode bW_goOn 63 = .ok (.aload_n 0, 1) := by decide +kernel
theorem dW_goOn_64 : decode bW_goOn 64 = .ok (.getfield 19, 3) := by decide +kernel
theorem dW_goOn_67 : decode bW_goOn 67 = .ok (.iload_n 1, 1) := by decide +kernel
theorem dW_goOn_68 : decode bW_goOn 68 = .ok (.iload_n 2, 1) := by decide +kernel
theorem dW_goOn_69 : decode bW_goOn 69 = .ok (.iconst 1, 1) := by decide +kernel
theorem dW_goOn_70 : decode bW_goOn 70 = .ok (.iadd, 1) := by decide +kernel
theorem dW_goOn_71 : decode bW_goOn 71 = .ok (.iastore, 1) := by decide +kernel
theorem dW_goOn_72 : decode bW_goOn 72 = .ok (.aload_n 0, 1) := by decide +kernel
theorem dW_goOn_73 : decode bW_goOn 73 = .ok (.getfield 22, 3) := by decide +kernel
theorem dW_goOn_76 : decode bW_goOn 76 = .ok (.iload_n 1, 1) := by decide +kernel
theorem dW_goOn_77 : decode bW_goOn 77 = .ok (.iload 5, 2) := by decide +kernel
theorem dW_goOn_79 : decode bW_goOn 79 = .ok (.iastore, 1) := by decide +kernel
theorem dW_goOn_80 : decode bW_goOn 80 = .ok (.iload_n 3, 1) := by decide +kernel
theorem dW_goOn_81 : decode bW_goOn 81 = .ok (.invokestatic 62, 3) := by decide +kernel
theorem dW_goOn_84 : decode bW_goOn 84 = .ok (.ifCond .eq 12, 3) := by decide +kernel
theorem dW_goOn_87 : decode bW_goOn 87 = .ok (.aload_n 0, 1) := by decide +kernel
theorem dW_goOn_88 : decode bW_goOn 88 = .ok (.iload_n 3, 1) := by decide +kernel
theorem dW_goOn_89 : decode bW_goOn 89 = .ok (.iload 4, 2) := by decide +kernel
theorem dW_goOn_91 : decode bW_goOn 91 = .ok (.iload 5, 2) := by decide +kernel
theorem dW_goOn_93 : decode bW_goOn 93 = .ok (.invokevirtual 39, 3) := by decide +kernel
theorem dW_goOn_96 : decode bW_goOn 96 = .ok (.return_, 1) := by decide +kernel
theorem dW_shortestEnd_0 : decode bW_shortestEnd 0 = .ok (.aload_n 0, 1) := by decide +kernel
theorem dW_shortestEnd_1 : decode bW_shortestEnd 1 = .ok (.getfield 35, 3) := by decide +kernel
theorem dW_shortestEnd_4 : decode bW_shortestEnd 4 = .ok (.iload_n 1, 1) := by decide +kernel
theorem dW_shortestEnd_5 : decode bW_shortestEnd 5 = .ok (.iload_n 2, 1) := by decide +kernel
theorem dW_shortestEnd_6 : decode bW_shortestEnd 6 = .ok (.iload_n 3, 1) := by decide +kernel
theorem dW_shortestEnd_7 : decode bW_shortestEnd 7 = .ok (.invokevirtual 77, 3) := by decide +kernel
theorem dW_shortestEnd_10 : decode bW_shortestEnd 10 = .ok (.istore 4, 2) := by decide +kernel
theorem dW_shortestEnd_12 : decode bW_shortestEnd 12 = .ok (.iload_n 2, 1) := by decide +kernel
theorem dW_shortestEnd_13 : decode bW_shortestEnd 13 = .ok (.istore 5, 2) := by decide +kernel
theorem dW_shortestEnd_15 : decode bW_shortestEnd 15 = .ok (.iload 5, 2) := by decide +kernel
theorem dW_shortestEnd_17 : decode bW_shortestEnd 17 = .ok (.iload_n 3, 1) := by decide +kernel
theorem dW_shortestEnd_18 : decode bW_shortestEnd 18 = .ok (.if_icmp .ge 35, 3) := by decide +kernel
theorem dW_shortestEnd_21 : decode bW_shortestEnd 21 = .ok (.iload 4, 2) := by decide +kernel
theorem dW_shortestEnd_23 : decode bW_shortestEnd 23 = .ok (.iconst (-1), 1) := by decide +kernel
theorem dW_shortestEnd_24 : decode bW_shortestEnd 24 = .ok (.if_icmp .eq 23, 3) := by decide +kernel
theorem dW_shortestEnd_27 : decode bW_shortestEnd 27 = .ok (.aload_n 0, 1) := by decide +kernel
theorem dW_shortestEnd_28 : decode bW_shortestEnd 28 = .ok (.getfield 35, 3) := by decide +kernel
theorem dW_shortestEnd_31 : decode bW_shortestEnd 31 = .ok (.iload_n 1, 1) := by decide +kernel
theorem dW_shortestEnd_32 : decode bW_shortestEnd 32 = .ok (.iload_n 2, 1) := by decide +kernel
theorem dW_shortestEnd_33 : decode bW_shortestEnd 33 = .ok (.iload 5, 2) := by decide +kernel
theorem dW_shortestEnd_35 : decode bW_shortestEnd 35 = .ok (.iload_n 3, 1) := by decide +kernel
theorem dW_shortestEnd_36 : decode bW_shortestEnd 36 = .ok (.invokevirtual 80, 3) := by decide +kernel
theorem dW_shortestEnd_39 : decode bW_shortestEnd 39 = .ok (.iload 4, 2) := by decide +kernel
theorem dW_shortestEnd_41 : decode bW_shortestEnd 41 = .ok (.if_icmp .ne 6, 3) := by decide +kernel
theorem dW_shortestEnd_44 : decode bW_shortestEnd 44 = .ok (.iload 5, 2) := by decide +kernel
theorem dW_shortestEnd_46 : decode bW_shortestEnd 46 = .ok (.ireturn, 1) := by decide +kernel
theorem dW_shortestEnd_47 : decode bW_shortestEnd 47 = .ok (.iinc 5 1, 3) := by decide +kernel
theorem dW_shortestEnd_50 : decode bW_shortestEnd 50 = .ok (.goto (-35), 3) := by decide +kernel
theorem dW_shortestEnd_53 : decode bW_shortestEnd 53 = .ok (.iload_n 3, 1) := by decide +kernel
theorem dW_shortestEnd_54 : decode bW_shortestEnd 54 = .ok (.ireturn, 1) := by decide +kernel
