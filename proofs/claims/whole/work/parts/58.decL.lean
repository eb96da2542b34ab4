theorem dL_cell_0 : decode bL_cell 0 = .ok (.iload_n 1, 1) := by decide +kernel
theorem dL_cell_1 : decode bL_cell 1 = .ok (.aload_n 0, 1) := by decide +kernel
theorem dL_cell_2 : decode bL_cell 2 = .ok (.arraylength, 1) := by decide +kernel
theorem dL_cell_3 : decode bL_cell 3 = .ok (.if_icmp .ge 9, 3) := by decide +kernel
theorem dL_cell_6 : decode bL_cell 6 = .ok (.aload_n 0, 1) := by decide +kernel
theorem dL_cell_7 : decode bL_cell 7 = .ok (.iload_n 1, 1) := by decide +kernel
theorem dL_cell_8 : decode bL_cell 8 = .ok (.iaload, 1) := by decide +kernel
theorem dL_cell_9 : decode bL_cell 9 = .ok (.goto 4, 3) := by decide +kernel
theorem dL_cell_12 : decode bL_cell 12 = .ok (.iconst 0, 1) := by decide +kernel
theorem dL_cell_13 : decode bL_cell 13 = .ok (.ireturn, 1) := by decide +kernel
theorem dL_addProd_0 : decode bL_addProd 0 = .ok (.aload_n 2, 1) := by decide +kernel
theorem dL_addProd_1 : decode bL_addProd 1 = .ok (.iconst 0, 1) := by decide +kernel
theorem dL_addProd_2 : decode bL_addProd 2 = .ok (.aload_n 0, 1) := by decide +kernel
theorem dL_addProd_3 : decode bL_addProd 3 = .ok (.iload_n 1, 1) := by decide +kernel
theorem dL_addProd_4 : decode bL_addProd 4 = .ok (.invokevirtual 7, 3) := by decide +kernel
theorem dL_addProd_7 : decode bL_addProd 7 = .ok (.i2l, 1) := by decide +kernel
theorem dL_addProd_8 : decode bL_addProd 8 = .ok (.lastore, 1) := by decide +kernel
theorem dL_addProd_9 : decode bL_addProd 9 = .ok (.goto 9, 3) := by decide +kernel
theorem dL_addProd_12 : decode bL_addProd 12 = .ok (.astore_n 3, 1) := by decide +kernel
theorem dL_addProd_13 : decode bL_addProd 13 = .ok (.iconst 1, 1) := by decide +kernel
theorem dL_addProd_14 : decode bL_addProd 14 = .ok (.ireturn, 1) := by decide +kernel
theorem dL_addProd_15 : decode bL_addProd 15 = .ok (.astore_n 3, 1) := by decide +kernel
theorem dL_addProd_16 : decode bL_addProd 16 = .ok (.iconst 2, 1) := by decide +kernel
theorem dL_addProd_17 : decode bL_addProd 17 = .ok (.ireturn, 1) := by decide +kernel
theorem dL_addProd_18 : decode bL_addProd 18 = .ok (.iconst 0, 1) := by decide +kernel
theorem dL_addProd_19 : decode bL_addProd 19 = .ok (.ireturn, 1) := by decide +kernel
theorem dL_addRhs_0 : decode bL_addRhs 0 = .ok (.aload_n 2, 1) := by decide +kernel
theorem dL_addRhs_1 : decode bL_addRhs 1 = .ok (.iconst 0, 1) := by decide +kernel
theorem dL_addRhs_2 : decode bL_addRhs 2 = .ok (.aload_n 0, 1) := by decide +kernel
theorem dL_addRhs_3 : decode bL_addRhs 3 = .ok (.iload_n 1, 1) := by decide +kernel
theorem dL_addRhs_4 : decode bL_addRhs 4 = .ok (.invokevirtual 17, 3) := by decide +kernel
theorem dL_addRhs_7 : decode bL_addRhs 7 = .ok (.i2l, 1) := by decide +kernel
theorem dL_addRhs_8 : decode bL_addRhs 8 = .ok (.lastore, 1) := by decide +kernel
theorem dL_addRhs_9 : decode bL_addRhs 9 = .ok (.goto 9, 3) := by decide +kernel
theorem dL_addRhs_12 : decode bL_addRhs 12 = .ok (.astore_n 3, 1) := by decide +kernel
theorem dL_addRhs_13 : decode bL_addRhs 13 = .ok (.iconst 1, 1) := by decide +kernel
theorem dL_addRhs_14 : decode bL_addRhs 14 = .ok (.ireturn, 1) := by decide +kernel
theorem dL_addRhs_15 : decode bL_addRhs 15 = .ok (.astore_n 3, 1) := by decide +kernel
theorem dL_addRhs_16 : decode bL_addRhs 16 = .ok (.iconst 2, 1) := by decide +kernel
theorem dL_addRhs_17 : decode bL_addRhs 17 = .ok (.ireturn, 1) := by decide +kernel
theorem dL_addRhs_18 : decode bL_addRhs 18 = .ok (.iconst 0, 1) := by decide +kernel
theorem dL_addRhs_19 : decode bL_addRhs 19 = .ok (.ireturn, 1) := by decide +kernel
theorem dL_feed_0 : decode bL_feed 0 = .ok (.aload_n 2, 1) := by decide +kernel
theorem dL_feed_1 : decode bL_feed 1 = .ok (.iconst 0, 1) := by decide +kernel
theorem dL_feed_2 : decode bL_feed 2 = .ok (.aload_n 0, 1) := by decide +kernel
theorem dL_feed_3 : decode bL_feed 3 = .ok (.iload_n 1, 1) := by decide +kernel
theorem dL_feed_4 : decode bL_feed 4 = .ok (.invokevirtual 20, 3) := by decide +kernel
theorem dL_feed_7 : decode bL_feed 7 = .ok (.i2l, 1) := by decide +kernel
theorem dL_feed_8 : decode bL_feed 8 = .ok (.lastore, 1) := by decide +kernel
theorem dL_feed_9 : decode bL_feed 9 = .ok (.goto 9, 3) := by decide +kernel
theorem dL_feed_12 : decode bL_feed 12 = .ok (.astore_n 3, 1) := by decide +kernel
theorem dL_feed_13 : decode bL_feed 13 = .ok (.iconst 1, 1) := by decide +kernel
theorem dL_feed_14 : decode bL_feed 14 = .ok (.ireturn, 1) := by decide +kernel
theorem dL_feed_15 : decode bL_feed 15 = .ok (.astore_n 3, 1) := by decide +kernel
theorem dL_feed_16 : decode bL_feed 16 = .ok (.iconst 2, 1) := by decide +kernel
theorem dL_feed_17 : decode bL_feed 17 = .ok (.ireturn, 1) := by decide +kernel
theorem dL_feed_18 : decode bL_feed 18 = .ok (.iconst 0, 1) := by decide +kernel
theorem dL_feed_19 : decode bL_feed 19 = .ok (.ireturn, 1) := by decide +kernel
theorem dL_extract_0 : decode bL_extract 0 = .ok (.aload_n 1, 1) := by decide +kernel
theorem dL_extract_1 : decode bL_extract 1 = .ok (.iconst 0, 1) := by decide +kernel
theorem dL_extract_2 : decode bL_extract 2 = .ok (.aload_n 0, 1) := by decide +kernel
theorem dL_extract_3 : decode bL_extract 3 = .ok (.invokevirtual 23, 3) := by decide +kernel
theorem dL_extract_6 : decode bL_extract 6 = .ok (.i2l, 1) := by decide +kernel
theorem dL_extract_7 : decode bL_extract 7 = .ok (.lastore, 1) := by decide +kernel
theorem dL_extract_8 : decode bL_extract 8 = .ok (.goto 6, 3) := by decide +kernel
theorem dL_extract_11 : decode bL_extract 11 = .ok (.astore_n 2, 1) := by decide +kernel
theorem dL_extract_12 : decode bL_extract 12 = .ok (.iconst 1, 1) := by decide +kernel
theorem dL_extract_13 : decode bL_extract 13 = .ok (.ireturn, 1) := by decide +kernel
theorem dL_extract_14 : decode bL_extract 14 = .ok (.iconst 0, 1) := by decide +kernel
theorem dL_extract_15 : decode bL_extract 15 = .ok (.ireturn, 1) := by decide +kernel
theorem dL_wit_0 : decode bL_wit 0 = .ok (.aload_n 2, 1) := by decide +kernel
theorem dL_wit_1 : decode bL_wit 1 = .ok (.iconst 0, 1) := by decide +kernel
theorem dL_wit_2 : decode bL_wit 2 = .ok (.aload_n 0, 1) := by decide +kernel
theorem dL_wit_3 : decode bL_wit 3 = .ok (.iload_n 1, 1) := by decide +kernel
theorem dL_wit_4 : decode bL_wit 4 = .ok (.invokevirtual 29, 3) := by decide +kernel
theorem dL_wit_7 : decode bL_wit 7 = .ok (.i2l, 1) := by decide +kernel
theorem dL_wit_8 : decode bL_wit 8 = .ok (.lastore, 1) := by decide +kernel
theorem dL_wit_9 : decode bL_wit 9 = .ok (.goto 6, 3) := by decide +kernel
theorem dL_wit_12 : decode bL_wit 12 = .ok (.astore_n 3, 1) := by decide +kernel
theorem dL_wit_13 : decode bL_wit 13 = .ok (.iconst 1, 1) := by decide +kernel
theorem dL_wit_14 : decode bL_wit 14 = .ok (.ireturn, 1) := by decide +kernel
theorem dL_wit_15 : decode bL_wit 15 = .ok (.iconst 0, 1) := by decide +kernel
theorem dL_wit_16 : decode bL_wit 16 = .ok (.ireturn, 1) := by decide +kernel
theorem dL_items_0 : decode bL_items 0 = .ok (.aload_n 2, 1) := by decide +kernel
theorem dL_items_1 : decode bL_items 1 = .ok (.iconst 0, 1) := by decide +kernel
theorem dL_items_2 : decode bL_items 2 = .ok (.aload_n 0, 1) := by decide +kernel
theorem dL_items_3 : decode bL_items 3 = .ok (.iload_n 1, 1) := by decide +kernel
theorem dL_items_4 : decode bL_items 4 = .ok (.invokevirtual 34, 3) := by decide +kernel
theorem dL_items_7 : decode bL_items 7 = .ok (.i2l, 1) := by decide +kernel
theorem dL_items_8 : decode bL_items 8 = .ok (.lastore, 1) := by decide +kernel
theorem dL_items_9 : decode bL_items 9 = .ok (.goto 6, 3) := by decide +kernel
theorem dL_items_12 : decode bL_items 12 = .ok (.astore_n 3, 1) := by decide +kernel
theorem dL_items_13 : decode bL_items 13 = .ok (.iconst 1, 1) := by decide +kernel
theorem dL_items_14 : decode bL_items 14 = .ok (.ireturn, 1) := by decide +kernel
theorem dL_items_15 : decode bL_items 15 = .ok (.iconst 0, 1) := by decide +kernel
theorem dL_items_16 : decode bL_items 16 = .ok (.ireturn, 1) := by decide +kernel
theorem dL_item_0 : decode bL_item 0 = .ok (.aload_n 3, 1) := by decide +kernel
theorem dL_item_1 : decode bL_item 1 = .ok (.iconst 0, 1) := by decide +kernel
theorem dL_item_2 : decode bL_item 2 = .ok (.aload_n 0, 1) := by decide +kernel
theorem dL_item_3 : decode bL_item 3 = .ok (.iload_n 1, 1) := by decide +kernel
theorem dL_item_4 : decode bL_item 4 = .ok (.iload_n 2, 1) := by decide +kernel
theorem dL_item_5 : decode bL_item 5 = .ok (.invokevirtual 37, 3) := by decide +kernel
theorem dL_item_8 : decode bL_item 8 = .ok (.i2l, 1) := by decide +kernel
theorem dL_item_9 : decode bL_item 9 = .ok (.lastore, 1) := by decide +kernel
theorem dL_item_10 : decode bL_item 10 = .ok (.goto 7, 3) := by decide +kernel
theorem dL_item_13 : decode bL_item 13 = .ok (.astore 4, 2) := by decide +kernel
theorem dL_item_15 : decode bL_item 15 = .ok (.iconst 1, 1) := by decide +kernel
theorem dL_item_16 : decode bL_item 16 = .ok (.ireturn, 1) := by decide +kernel
theorem dL_item_17 : decode bL_item 17 = .ok (.iconst 0, 1) := by decide +kernel
theorem dL_item_18 : decode bL_item 18 = .ok (.ireturn, 1) := by decide +kernel
theorem dL_steps_0 : decode bL_steps 0 = .ok (.aload 4, 2) := by decide +kernel
theorem dL_steps_2 : decode bL_steps 2 = .ok (.iconst 0, 1) := by decide +kernel
theorem dL_steps_3 : decode bL_steps 3 = .ok (.aload_n 0, 1) := by decide +kernel
theorem dL_steps_4 : decode bL_steps 4 = .ok (.iload_n 1, 1) := by decide +kernel
theorem dL_steps_5 : decode bL_steps 5 = .ok (.iload_n 2, 1) := by decide +kernel
theorem dL_steps_6 : decode bL_steps 6 = .ok (.iload_n 3, 1) := by decide +kernel
theorem dL_steps_7 : decode bL_steps 7 = .ok (.invokevirtual 41, 3) := by decide +kernel
theorem dL_steps_10 : decode bL_steps 10 = .ok (.i2l, 1) := by decide +kernel
theorem dL_steps_11 : decode bL_steps 11 = .ok (.lastore, 1) := by decide +kernel
theorem dL_steps_12 : decode bL_steps 12 = .ok (.goto 11, 3) := by decide +kernel
theorem dL_steps_15 : decode bL_steps 15 = .ok (.astore 5, 2) := by decide +kernel
theorem dL_steps_17 : decode bL_steps 17 = .ok (.iconst 1, 1) := by decide +kernel
theorem dL_steps_18 : decode bL_steps 18 = .ok (.ireturn, 1) := by decide +kernel
theorem dL_steps_19 : decode bL_steps 19 = .ok (.astore 5, 2) := by decide +kernel
theorem dL_steps_21 : decode bL_steps 21 = .ok (.iconst 2, 1) := by decide +kernel
theorem dL_steps_22 : decode bL_steps 22 = .ok (.ireturn, 1) := by decide +kernel
theorem dL_steps_23 : decode bL_steps 23 = .ok (.iconst 0, 1) := by decide +kernel
theorem dL_steps_24 : decode bL_steps 24 = .ok (.ireturn, 1) := by decide +kernel
theorem dL_nullable_0 : decode bL_nullable 0 = .ok (.aload_n 2, 1) := by decide +kernel
theorem dL_nullable_1 : decode bL_nullable 1 = .ok (.iconst 0, 1) := by decide +kernel
theorem dL_nullable_2 : decode bL_nullable 2 = .ok (.aload_n 0, 1) := by decide +kernel
theorem dL_nullable_3 : decode bL_nullable 3 = .ok (.iload_n 1, 1) := by decide +kernel
theorem dL_nullable_4 : decode bL_nullable 4 = .ok (.invokevirtual 45, 3) := by decide +kernel
theorem dL_nullable_7 : decode bL_nullable 7 = .ok (.ifCond .eq 7, 3) := by decide +kernel
theorem dL_nullable_10 : decode bL_nullable 10 = .ok (.lconst 1, 1) := by decide +kernel
theorem dL_nullable_11 : decode bL_nullable 11 = .ok (.goto 4, 3) := by decide +kernel
theorem dL_nullable_14 : decode bL_nullable 14 = .ok (.lconst 0, 1) := by decide +kernel
theorem dL_nullable_15 : decode bL_nullable 15 = .ok (.lastore, 1) := by decide +kernel
theorem dL_nullable_16 : decode bL_nullable 16 = .ok (.goto 6, 3) := by decide +kernel
theorem dL_nullable_19 : decode bL_nullable 19 = .ok (.astore_n 3, 1) := by decide +kernel
theorem dL_nullable_20 : decode bL_nullable 20 = .ok (.iconst 1, 1) := by decide +kernel
theorem dL_nullable_21 : decode bL_nullable 21 = .ok (.ireturn, 1) := by decide +kernel
theorem dL_nullable_22 : decode bL_nullable 22 = .ok (.iconst 0, 1) := by decide +kernel
theorem dL_nullable_23 : decode bL_nullable 23 = .ok (.ireturn, 1) := by decide +kernel
theorem dL_law_0 : decode bL_law 0 = .ok (.new 8, 3) := by decide +kernel
theorem dL_law_3 : decode bL_law 3 = .ok (.dup, 1) := by decide +kernel
theorem dL_law_4 : decode bL_law 4 = .ok (.aload_n 0, 1) := by decide +kernel
theorem dL_law_5 : decode bL_law 5 = .ok (.iconst 0, 1) := by decide +kernel
theorem dL_law_6 : decode bL_law 6 = .ok (.invokestatic 49, 3) := by decide +kernel
theorem dL_law_9 : decode bL_law 9 = .ok (.aload_n 0, 1) := by decide +kernel
theorem dL_law_10 : decode bL_law 10 = .ok (.iconst 1, 1) := by decide +kernel
theorem dL_law_11 : decode bL_law 11 = .ok (.invokestatic 49, 3) := by decide +kernel
theorem dL_law_14 : decode bL_law 14 = .ok (.invokespecial 55, 3) := by decide +kernel
theorem dL_law_17 : decode bL_law 17 = .ok (.astore_n 1, 1) := by decide +kernel
theorem dL_law_18 : decode bL_law 18 = .ok (.new 58, 3) := by decide +kernel
theorem dL_law_21 : decode bL_law 21 = .ok (.dup, 1) := by decide +kernel
theorem dL_law_22 : decode bL_law 22 = .ok (.aload_n 0, 1) := by decide +kernel
theorem dL_law_23 : decode bL_law 23 = .ok (.iconst 0, 1) := by decide +kernel
theorem dL_law_24 : decode bL_law 24 = .ok (.invokestatic 49, 3) := by decide +kernel
theorem dL_law_27 : decode bL_law 27 = .ok (.aload_n 0, 1) := by decide +kernel
theorem dL_law_28 : decode bL_law 28 = .ok (.iconst 1, 1) := by decide +kernel
theorem dL_law_29 : decode bL_law 29 = .ok (.invokestatic 49, 3) := by decide +kernel
theorem dL_law_32 : decode bL_law 32 = .ok (.invokespecial 60, 3) := by decide +kernel
theorem dL_law_35 : decode bL_law 35 = .ok (.astore_n 2, 1) := by decide +kernel
theorem dL_law_36 : decode bL_law 36 = .ok (.iconst 1, 1) := by decide +kernel
theorem dL_law_37 : decode bL_law 37 = .ok (.newarray .long, 2) := by decide +kernel
theorem dL_law_39 : decode bL_law 39 = .ok (.astore_n 3, 1) := by decide +kernel
theorem dL_law_40 : decode bL_law 40 = .ok (.iconst 2, 1) := by decide +kernel
theorem dL_law_41 : decode bL_law 41 = .ok (.istore 4, 2) := by decide +kernel
theorem dL_law_43 : decode bL_law 43 = .ok (.iload 4, 2) := by decide +kernel
theorem dL_law_45 : decode bL_law 45 = .ok (.aload_n 0, 1) := by decide +kernel
theorem dL_law_46 : decode bL_law 46 = .ok (.arraylength, 1) := by decide +kernel
theorem dL_law_47 : decode bL_law 47 = .ok (.iconst 4, 1) := by decide +kernel
theorem dL_law_48 : decode bL_law 48 = .ok (.isub, 1) := by decide +kernel
theorem dL_law_49 : decode bL_law 49 = .ok (.if_icmp .gt 702, 3) := by decide +kernel
theorem dL_law_52 : decode bL_law 52 = .ok (.aload_n 0, 1) := by decide +kernel
theorem dL_law_53 : decode bL_law 53 = .ok (.iload 4, 2) := by decide +kernel
theorem dL_law_55 : decode bL_law 55 = .ok (.iaload, 1) := by decide +kernel
theorem dL_law_56 : decode bL_law 56 = .ok (.bipush 15, 2) := by decide +kernel
theorem dL_law_58 : decode bL_law 58 = .ok (.iand, 1) := by decide +kernel
theorem dL_law_59 : decode bL_law 59 = .ok (.tableswitch 686 0 14 #[73, 129, 185, 241, 254, 267, 311, 324, 380, 393, 406, 462, 530, 610, 673], 73) := by decide +kernel
theorem dL_law_132 : decode bL_law 132 = .ok (.aload_n 1, 1) := by decide +kernel
theorem dL_law_133 : decode bL_law 133 = .ok (.aload_n 0, 1) := by decide +kernel
theorem dL_law_134 : decode bL_law 134 = .ok (.iload 4, 2) := by decide +kernel
theorem dL_law_136 : decode bL_law 136 = .ok (.iconst 1, 1) := by decide +kernel
theorem dL_law_137 : decode bL_law 137 = .ok (.iadd, 1) := by decide +kernel
theorem dL_law_138 : decode bL_law 138 = .ok (.iaload, 1) := by decide +kernel
theorem dL_law_139 : decode bL_law 139 = .ok (.aload_n 3, 1) := by decide +kernel
theorem dL_law_140 : decode bL_law 140 = .ok (.invokestatic 61, 3) := by decide +kernel
theorem dL_law_143 : decode bL_law 143 = .ok (.istore 5, 2) := by decide +kernel
theorem dL_law_145 : decode bL_law 145 = .ok (.aload_n 2, 1) := by decide +kernel
theorem dL_law_146 : decode bL_law 146 = .ok (.aload_n 0, 1) := by decide +kernel
theorem dL_law_147 : decode bL_law 147 = .ok (.iload 4, 2) := by decide +kernel
theorem dL_law_149 : decode bL_law 149 = .ok (.iconst 1, 1) := by decide +kernel
theorem dL_law_150 : decode bL_law 150 = .ok (.iadd, 1) := by decide +kernel
theorem dL_law_151 : decode bL_law 151 = .ok (.iaload, 1) := by decide +kernel
theorem dL_law_152 : decode bL_law 152 = .ok (.invokevirtual 64, 3) := by decide +kernel
theorem dL_law_155 : decode bL_law 155 = .ok (.istore 6, 2) := by decide +kernel
theorem dL_law_157 : decode bL_law 157 = .ok (.aload_n 2, 1) := by decide +kernel
theorem dL_law_158 : decode bL_law 158 = .ok (.invokevirtual 65, 3) := by decide +kernel
theorem dL_law_161 : decode bL_law 161 = .ok (.iload 5, 2) := by decide +kernel
theorem dL_law_163 : decode bL_law 163 = .ok (.if_icmp .eq 5, 3) := by decide +kernel
theorem dL_law_166 : decode bL_law 166 = .ok (.iconst 0, 1) := by decide +kernel
theorem dL_law_167 : decode bL_law 167 = .ok (.ireturn, 1) := by decide +kernel
theorem dL_law_168 : decode bL_law 168 = .ok (.iload 5, 2) := by decide +kernel
theorem dL_law_170 : decode bL_law 170 = .ok (.ifCond .ne 15, 3) := by decide +kernel
theorem dL_law_173 : decode bL_law 173 = .ok (.aload_n 3, 1) := by decide +kernel
theorem dL_law_174 : decode bL_law 174 = .ok (.iconst 0, 1) := by decide +kernel
theorem dL_law_175 : decode bL_law 175 = .ok (.laload, 1) := by decide +kernel
theorem dL_law_176 : decode bL_law 176 = .ok (.iload 6, 2) := by decide +kernel
theorem dL_law_178 : decode bL_law 178 = .ok (.i2l, 1) := by decide +kernel
theorem dL_law_179 : decode bL_law 179 = .ok (.lcmp, 1) := by decide +kernel
theorem dL_law_180 : decode bL_law 180 = .ok (.ifCond .eq 5, 3) := by decide +kernel
theorem dL_law_183 : decode bL_law 183 = .ok (.iconst 0, 1) := by decide +kernel
theorem dL_law_184 : decode bL_law 184 = .ok (.ireturn, 1) := by decide +kernel
theorem dL_law_185 : decode bL_law 185 = .ok (.goto 560, 3) := by decide +kernel
theorem dL_law_188 : decode bL_law 188 = .ok (.aload_n 1, 1) := by decide +kernel
theorem dL_law_189 : decode bL_law 189 = .ok (.aload_n 0, 1) := by decide +kernel
theorem dL_law_190 : decode bL_law 190 = .ok (.iload 4, 2) := by decide +kernel
theorem dL_law_192 : decode bL_law 192 = .ok (.iconst 1, 1) := by decide +kernel
theorem dL_law_193 : decode bL_law 193 = .ok (.iadd, 1) := by decide +kernel
theorem dL_law_194 : decode bL_law 194 = .ok (.iaload, 1) := by decide +kernel
theorem dL_law_195 : decode bL_law 195 = .ok (.aload_n 3, 1) := by decide +kernel
theorem dL_law_196 : decode bL_law 196 = .ok (.invokestatic 68, 3) := by decide +kernel
theorem dL_law_199 : decode bL_law 199 = .ok (.istore 5, 2) := by decide +kernel
theorem dL_law_201 : decode bL_law 201 = .ok (.aload_n 2, 1) := by decide +kernel
theorem dL_law_202 : decode bL_law 202 = .ok (.aload_n 0, 1) := by decide +kernel
theorem dL_law_203 : decode bL_law 203 = .ok (.iload 4, 2) := by decide +kernel
theorem dL_law_205 : decode bL_law 205 = .ok (.iconst 1, 1) := by decide +kernel
theorem dL_law_206 : decode bL_law 206 = .ok (.iadd, 1) := by decide +kernel
theorem dL_law_207 : decode bL_law 207 = .ok (.iaload, 1) := by decide +kernel
theorem dL_law_208 : decode bL_law 208 = .ok (.invokevirtual 70, 3) := by decide +kernel
theorem dL_law_211 : decode bL_law 211 = .ok (.istore 6, 2) := by decide +kernel
theorem dL_law_213 : decode bL_law 213 = .ok (.aload_n 2, 1) := by decide +kernel
theorem dL_law_214 : decode bL_law 214 = .ok (.invokevirtual 65, 3) := by decide +kernel
theorem dL_law_217 : decode bL_law 217 = .ok (.iload 5, 2) := by decide +kernel
theorem dL_law_219 : decode bL_law 219 = .ok (.if_icmp .eq 5, 3) := by decide +kernel
theorem dL_law_222 : decode bL_law 222 = .ok (.iconst 0, 1) := by decide +kernel
theorem dL_law_223 : decode bL_law 223 = .ok (.ireturn, 1) := by decide +kernel
theorem dL_law_224 : decode bL_law 224 = .ok (.iload 5, 2) := by decide +kernel
theorem dL_law_226 : decode bL_law 226 = .ok (.ifCond .ne 15, 3) := by decide +kernel
theorem dL_law_229 : decode bL_law 229 = .ok (.aload_n 3, 1) := by decide +kernel
theorem dL_law_230 : decode bL_law 230 = .ok (.iconst 0, 1) := by decide +kernel
theorem dL_law_231 : decode bL_law 231 = .ok (.laload, 1) := by decide +kernel
theorem dL_law_232 : decode bL_law 232 = .ok (.iload 6, 2) := by decide +kernel
theorem dL_law_234 : decode bL_law 234 = .ok (.i2l, 1) := by decide +kernel
theorem dL_law_235 : decode bL_law 235 = .ok (.lcmp, 1) := by decide +kernel
theorem dL_law_236 : decode bL_law 236 = .ok (.ifCond .eq 5, 3) := by decide +kernel
theorem dL_law_239 : decode bL_law 239 = .ok (.iconst 0, 1) := by decide +kernel
theorem dL_law_240 : decode bL_law 240 = .ok (.ireturn, 1) := by decide +kernel
theorem dL_law_241 : decode bL_law 241 = .ok (.goto 504, 3) := by decide +kernel
theorem dL_law_244 : decode bL_law 244 = .ok (.aload_n 1, 1) := by decide +kernel
theorem dL_law_245 : decode bL_law 245 = .ok (.aload_n 0, 1) := by decide +kernel
theorem dL_law_246 : decode bL_law 246 = .ok (.iload 4, 2) := by decide +kernel
theorem dL_law_248 : decode bL_law 248 = .ok (.iconst 1, 1) := by decide +kernel
theorem dL_law_249 : decode bL_law 249 = .ok (.iadd, 1) := by decide +kernel
theorem dL_law_250 : decode bL_law 250 = .ok (.iaload, 1) := by decide +kernel
theorem dL_law_251 : decode bL_law 251 = .ok (.aload_n 3, 1) := by decide +kernel
theorem dL_law_252 : decode bL_law 252 = .ok (.invokestatic 71, 3) := by decide +kernel
theorem dL_law_255 : decode bL_law 255 = .ok (.istore 5, 2) := by decide +kernel
theorem dL_law_257 : decode bL_law 257 = .ok (.aload_n 2, 1) := by decide +kernel
theorem dL_law_258 : decode bL_law 258 = .ok (.aload_n 0, 1) := by decide +kernel
theorem dL_law_259 : decode bL_law 259 = .ok (.iload 4, 2) := by decide +kernel
theorem dL_law_261 : decode bL_law 261 = .ok (.iconst 1, 1) := by decide +kernel
theorem dL_law_262 : decode bL_law 262 = .ok (.iadd, 1) := by decide +kernel
theorem dL_law_263 : decode bL_law 263 = .ok (.iaload, 1) := by decide +kernel
theorem dL_law_264 : decode bL_law 264 = .ok (.invokevirtual 73, 3) := by decide +kernel
theorem dL_law_267 : decode bL_law 267 = .ok (.istore 6, 2) := by decide +kernel
theorem dL_law_269 : decode bL_law 269 = .ok (.aload_n 2, 1) := by decide +kernel
theorem dL_law_270 : decode bL_law 270 = .ok (.invokevirtual 65, 3) := by decide +kernel
theorem dL_law_273 : decode bL_law 273 = .ok (.iload 5, 2) := by decide +kernel
theorem dL_law_275 : decode bL_law 275 = .ok (.if_icmp .eq 5, 3) := by decide +kernel
theorem dL_law_278 : decode bL_law 278 = .ok (.iconst 0, 1) := by decide +kernel
theorem dL_law_279 : decode bL_law 279 = .ok (.ireturn, 1) := by decide +kernel
theorem dL_law_280 : decode bL_law 280 = .ok (.iload 5, 2) := by decide +kernel
theorem dL_law_282 : decode bL_law 282 = .ok (.ifCond .ne 15, 3) := by decide +kernel
theorem dL_law_285 : decode bL_law 285 = .ok (.aload_n 3, 1) := by decide +kernel
theorem dL_law_286 : decode bL_law 286 = .ok (.iconst 0, 1) := by decide +kernel
theorem dL_law_287 : decode bL_law 287 = .ok (.laload, 1) := by decide +kernel
theorem dL_law_288 : decode bL_law 288 = .ok (.iload 6, 2) := by decide +kernel
theorem dL_law_290 : decode bL_law 290 = .ok (.i2l, 1) := by decide +kernel
theorem dL_law_291 : decode bL_law 291 = .ok (.lcmp, 1) := by decide +kernel
theorem dL_law_292 : decode bL_law 292 = .ok (.ifCond .eq 5, 3) := by decide +kernel
theorem dL_law_295 : decode bL_law 295 = .ok (.iconst 0, 1) := by decide +kernel
theorem dL_law_296 : decode bL_law 296 = .ok (.ireturn, 1) := by decide +kernel
theorem dL_law_297 : decode bL_law 297 = .ok (.goto 448, 3) := by decide +kernel
theorem dL_law_300 : decode bL_law 300 = .ok (.aload_n 1, 1) := by decide +kernel
theorem dL_law_301 : decode bL_law 301 = .ok (.invokevirtual 74, 3) := by decide +kernel
theorem dL_law_304 : decode bL_law 304 = .ok (.aload_n 2, 1) := by decide +kernel
theorem dL_law_305 : decode bL_law 305 = .ok (.invokevirtual 78, 3) := by decide +kernel
theorem dL_law_308 : decode bL_law 308 = .ok (.if_icmp .eq 437, 3) := by decide +kernel
theorem dL_law_311 : decode bL_law 311 = .ok (.iconst 0, 1) := by decide +kernel
theorem dL_law_312 : decode bL_law 312 = .ok (.ireturn, 1) := by decide +kernel
theorem dL_law_313 : decode bL_law 313 = .ok (.aload_n 1, 1) := by decide +kernel
theorem dL_law_314 : decode bL_law 314 = .ok (.invokevirtual 79, 3) := by decide +kernel
theorem dL_law_317 : decode bL_law 317 = .ok (.aload_n 2, 1) := by decide +kernel
theorem dL_law_318 : decode bL_law 318 = .ok (.invokevirtual 82, 3) := by decide +kernel
theorem dL_law_321 : decode bL_law 321 = .ok (.if_icmp .eq 424, 3) := by decide +kernel
theorem dL_law_324 : decode bL_law 324 = .ok (.iconst 0, 1) := by decide +kernel
theorem dL_law_325 : decode bL_law 325 = .ok (.ireturn, 1) := by decide +kernel
theorem dL_law_326 : decode bL_law 326 = .ok (.aload_n 1, 1) := by decide +kernel
theorem dL_law_327 : decode bL_law 327 = .ok (.aload_n 3, 1) := by decide +kernel
theorem dL_law_328 : decode bL_law 328 = .ok (.invokestatic 83, 3) := by decide +kernel
theorem dL_law_331 : decode bL_law 331 = .ok (.istore 5, 2) := by decide +kernel
theorem dL_law_333 : decode bL_law 333 = .ok (.aload_n 2, 1) := by decide +kernel
theorem dL_law_334 : decode bL_law 334 = .ok (.invokevirtual 86, 3) := by decide +kernel
theorem dL_law_337 : decode bL_law 337 = .ok (.istore 6, 2) := by decide +kernel
theorem dL_law_339 : decode bL_law 339 = .ok (.aload_n 2, 1) := by decide +kernel
theorem dL_law_340 : decode bL_law 340 = .ok (.invokevirtual 65, 3) := by decide +kernel
theorem dL_law_343 : decode bL_law 343 = .ok (.iload 5, 2) := by decide +kernel
theorem dL_law_345 : decode bL_law 345 = .ok (.if_icmp .eq 5, 3) := by decide +kernel
theorem dL_law_348 : decode bL_law 348 = .ok (.iconst 0, 1) := by decide +kernel
theorem dL_law_349 : decode bL_law 349 = .ok (.ireturn, 1) := by decide +kernel
theorem dL_law_350 : decode bL_law 350 = .ok (.iload 5, 2) := by decide +kernel
theorem dL_law_352 : decode bL_law 352 = .ok (.ifCond .ne 15, 3) := by decide +kernel
theorem dL_law_355 : decode bL_law 355 = .ok (.aload_n 3, 1) := by decide +kernel
theorem dL_law_356 : decode bL_law 356 = .ok (.iconst 0, 1) := by decide +kernel
theorem dL_law_357 : decode bL_law 357 = .ok (.laload, 1) := by decide +kernel
theorem dL_law_358 : decode bL_law 358 = .ok (.iload 6, 2) := by decide +kernel
theorem dL_law_360 : decode bL_law 360 = .ok (.i2l, 1) := by decide +kernel
theorem dL_law_361 : decode bL_law 361 = .ok (.lcmp, 1) := by decide +kernel
theorem dL_law_362 : decode bL_law 362 = .ok (.ifCond .eq 5, 3) := by decide +kernel
theorem dL_law_365 : decode bL_law 365 = .ok (.iconst 0, 1) := by decide +kernel
theorem dL_law_366 : decode bL_law 366 = .ok (.ireturn, 1) := by decide +kernel
theorem dL_law_367 : decode bL_law 367 = .ok (.goto 378, 3) := by decide +kernel
theorem dL_law_370 : decode bL_law 370 = .ok (.aload_n 1, 1) := by decide +kernel
theorem dL_law_371 : decode bL_law 371 = .ok (.invokevirtual 87, 3) := by decide +kernel
theorem dL_law_374 : decode bL_law 374 = .ok (.aload_n 2, 1) := by decide +kernel
theorem dL_law_375 : decode bL_law 375 = .ok (.invokevirtual 90, 3) := by decide +kernel
theorem dL_law_378 : decode bL_law 378 = .ok (.if_icmp .eq 367, 3) := by decide +kernel
theorem dL_law_381 : decode bL_law 381 = .ok (.iconst 0, 1) := by decide +kernel
theorem dL_law_382 : decode bL_law 382 = .ok (.ireturn, 1) := by decide +kernel
theorem dL_law_383 : decode bL_law 383 = .ok (.aload_n 1, 1) := by decide +kernel
theorem dL_law_384 : decode bL_law 384 = .ok (.aload_n 0, 1) := by decide +kernel
theorem dL_law_385 : decode bL_law 385 = .ok (.iload 4, 2) := by decide +kernel
theorem dL_law_387 : decode bL_law 387 = .ok (.iconst 1, 1) := by decide +kernel
theorem dL_law_388 : decode bL_law 388 = .ok (.iadd, 1) := by decide +kernel
theorem dL_law_389 : decode bL_law 389 = .ok (.iaload, 1) := by decide +kernel
theorem dL_law_390 : decode bL_law 390 = .ok (.aload_n 3, 1) := by decide +kernel
theorem dL_law_391 : decode bL_law 391 = .ok (.invokestatic 91, 3) := by decide +kernel
theorem dL_law_394 : decode bL_law 394 = .ok (.istore 5, 2) := by decide +kernel
theorem dL_law_396 : decode bL_law 396 = .ok (.aload_n 2, 1) := by decide +kernel
theorem dL_law_397 : decode bL_law 397 = .ok (.aload_n 0, 1) := by decide +kernel
theorem dL_law_398 : decode bL_law 398 = .ok (.iload 4, 2) := by decide +kernel
theorem dL_law_400 : decode bL_law 400 = .ok (.iconst 1, 1) := by decide +kernel
theorem dL_law_401 : decode bL_law 401 = .ok (.iadd, 1) := by decide +kernel
theorem dL_law_402 : decode bL_law 402 = .ok (.iaload, 1) := by decide +kernel
theorem dL_law_403 : decode bL_law 403 = .ok (.invokevirtual 93, 3) := by decide +kernel
theorem dL_law_406 : decode bL_law 406 = .ok (.istore 6, 2) := by decide +kernel
theorem dL_law_408 : decode bL_law 408 = .ok (.aload_n 2, 1) := by decide +kernel
theorem dL_law_409 : decode bL_law 409 = .ok (.invokevirtual 65, 3) := by decide +kernel
theorem dL_law_412 : decode bL_law 412 = .ok (.iload 5, 2) := by decide +kernel
theorem dL_law_414 : decode bL_law 414 = .ok (.if_icmp .eq 5, 3) := by decide +kernel
theorem dL_law_417 : decode bL_law 417 = .ok (.iconst 0, 1) := by decide +kernel
theorem dL_law_418 : decode bL_law 418 = .ok (.ireturn, 1) := by decide +kernel
theorem dL_law_419 : decode bL_law 419 = .ok (.iload 5, 2) := by decide +kernel
theorem dL_law_421 : decode bL_law 421 = .ok (.ifCond .ne 15, 3) := by decide +kernel
theorem dL_law_424 : decode bL_law 424 = .ok (.aload_n 3, 1) := by decide +kernel
theorem dL_law_425 : decode bL_law 425 = .ok (.iconst 0, 1) := by decide +kernel
theorem dL_law_426 : decode bL_law 426 = .ok (.laload, 1) := by decide +kernel
theorem dL_law_427 : decode bL_law 427 = .ok (.iload 6, 2) := by decide +kernel
theorem dL_law_429 : decode bL_law 429 = .ok (.i2l, 1) := by decide +kernel
theorem dL_law_430 : decode bL_law 430 = .ok (.lcmp, 1) := by decide +kernel
theorem dL_law_431 : decode bL_law 431 = .ok (.ifCond .eq 5, 3) := by decide +kernel
theorem dL_law_434 : decode bL_law 434 = .ok (.iconst 0, 1) := by decide +kernel
theorem dL_law_435 : decode bL_law 435 = .ok (.ireturn, 1) := by decide +kernel
theorem dL_law_436 : decode bL_law 436 = .ok (.goto 309, 3) := by decide +kernel
theorem dL_law_439 : decode bL_law 439 = .ok (.aload_n 1, 1) := by decide +kernel
theorem dL_law_440 : decode bL_law 440 = .ok (.invokevirtual 94, 3) := by decide +kernel
theorem dL_law_443 : decode bL_law 443 = .ok (.aload_n 2, 1) := by decide +kernel
theorem dL_law_444 : decode bL_law 444 = .ok (.invokevirtual 97, 3) := by decide +kernel
theorem dL_law_447 : decode bL_law 447 = .ok (.if_icmp .eq 298, 3) := by decide +kernel
theorem dL_law_450 : decode bL_law 450 = .ok (.iconst 0, 1) := by decide +kernel
theorem dL_law_451 : decode bL_law 451 = .ok (.ireturn, 1) := by decide +kernel
theorem dL_law_452 : decode bL_law 452 = .ok (.aload_n 1, 1) := by decide +kernel
theorem dL_law_453 : decode bL_law 453 = .ok (.invokevirtual 98, 3) := by decide +kernel
theorem dL_law_456 : decode bL_law 456 = .ok (.aload_n 2, 1) := by decide +kernel
theorem dL_law_457 : decode bL_law 457 = .ok (.invokevirtual 101, 3) := by decide +kernel
theorem dL_law_460 : decode bL_law 460 = .ok (.if_icmp .eq 285, 3) := by decide +kernel
theorem dL_law_463 : decode bL_law 463 = .ok (.iconst 0, 1) := by decide +kernel
theorem dL_law_464 : decode bL_law 464 = .ok (.ireturn, 1) := by decide +kernel
theorem dL_law_465 : decode bL_law 465 = .ok (.aload_n 1, 1) := by decide +kernel
theorem dL_law_466 : decode bL_law 466 = .ok (.aload_n 0, 1) := by decide +kernel
theorem dL_law_467 : decode bL_law 467 = .ok (.iload 4, 2) := by decide +kernel
theorem dL_law_469 : decode bL_law 469 = .ok (.iconst 1, 1) := by decide +kernel
theorem dL_law_470 : decode bL_law 470 = .ok (.iadd, 1) := by decide +kernel
theorem dL_law_471 : decode bL_law 471 = .ok (.iaload, 1) := by decide +kernel
theorem dL_law_472 : decode bL_law 472 = .ok (.aload_n 3, 1) := by decide +kernel
theorem dL_law_473 : decode bL_law 473 = .ok (.invokestatic 102, 3) := by decide +kernel
theorem dL_law_476 : decode bL_law 476 = .ok (.istore 5, 2) := by decide +kernel
theorem dL_law_478 : decode bL_law 478 = .ok (.aload_n 2, 1) := by decide +kernel
theorem dL_law_479 : decode bL_law 479 = .ok (.aload_n 0, 1) := by decide +kernel
theorem dL_law_480 : decode bL_law 480 = .ok (.iload 4, 2) := by decide +kernel
theorem dL_law_482 : decode bL_law 482 = .ok (.iconst 1, 1) := by decide +kernel
theorem dL_law_483 : decode bL_law 483 = .ok (.iadd, 1) := by decide +kernel
theorem dL_law_484 : decode bL_law 484 = .ok (.iaload, 1) := by decide +kernel
theorem dL_law_485 : decode bL_law 485 = .ok (.invokevirtual 104, 3) := by decide +kernel
theorem dL_law_488 : decode bL_law 488 = .ok (.istore 6, 2) := by decide +kernel
theorem dL_law_490 : decode bL_law 490 = .ok (.aload_n 2, 1) := by decide +kernel
theorem dL_law_491 : decode bL_law 491 = .ok (.invokevirtual 65, 3) := by decide +kernel
theorem dL_law_494 : decode bL_law 494 = .ok (.iload 5, 2) := by decide +kernel
theorem dL_law_496 : decode bL_law 496 = .ok (.if_icmp .eq 5, 3) := by decide +kernel
theorem dL_law_499 : decode bL_law 499 = .ok (.iconst 0, 1) := by decide +kernel
theorem dL_law_500 : decode bL_law 500 = .ok (.ireturn, 1) := by decide +kernel
theorem dL_law_501 : decode bL_law 501 = .ok (.iload 5, 2) := by decide +kernel
theorem dL_law_503 : decode bL_law 503 = .ok (.ifCond .ne 15, 3) := by decide +kernel
theorem dL_law_506 : decode bL_law 506 = .ok (.aload_n 3, 1) := by decide +kernel
theorem dL_law_507 : decode bL_law 507 = .ok (.iconst 0, 1) := by decide +kernel
theorem dL_law_508 : decode bL_law 508 = .ok (.laload, 1) := by decide +kernel
theorem dL_law_509 : decode bL_law 509 = .ok (.iload 6, 2) := by decide +kernel
theorem dL_law_511 : decode bL_law 511 = .ok (.i2l, 1) := by decide +kernel
theorem dL_law_512 : decode bL_law 512 = .ok (.lcmp, 1) := by decide +kernel
theorem dL_law_513 : decode bL_law 513 = .ok (.ifCond .eq 5, 3) := by decide +kernel
theorem dL_law_516 : decode bL_law 516 = .ok (.iconst 0, 1) := by decide +kernel
theorem dL_law_517 : decode bL_law 517 = .ok (.ireturn, 1) := by decide +kernel
theorem dL_law_518 : decode bL_law 518 = .ok (.goto 227, 3) := by decide +kernel
theorem dL_law_521 : decode bL_law 521 = .ok (.aload_n 1, 1) := by decide +kernel
theorem dL_law_522 : decode bL_law 522 = .ok (.aload_n 0, 1) := by decide +kernel
theorem dL_law_523 : decode bL_law 523 = .ok (.iload 4, 2) := by decide +kernel
theorem dL_law_525 : decode bL_law 525 = .ok (.iconst 1, 1) := by decide +kernel
theorem dL_law_526 : decode bL_law 526 = .ok (.iadd, 1) := by decide +kernel
theorem dL_law_527 : decode bL_law 527 = .ok (.iaload, 1) := by decide +kernel
theorem dL_law_528 : decode bL_law 528 = .ok (.aload_n 0, 1) := by decide +kernel
theorem dL_law_529 : decode bL_law 529 = .ok (.iload 4, 2) := by decide +kernel
theorem dL_law_531 : decode bL_law 531 = .ok (.iconst 2, 1) := by decide +kernel
theorem dL_law_532 : decode bL_law 532 = .ok (.iadd, 1) := by decide +kernel
theorem dL_law_533 : decode bL_law 533 = .ok (.iaload, 1) := by decide +kernel
theorem dL_law_534 : decode bL_law 534 = .ok (.aload_n 3, 1) := by decide +kernel
theorem dL_law_535 : decode bL_law 535 = .ok (.invokestatic 105, 3) := by decide +kernel
theorem dL_law_538 : decode bL_law 538 = .ok (.istore 5, 2) := by decide +kernel
theorem dL_law_540 : decode bL_law 540 = .ok (.aload_n 2, 1) := by decide +kernel
theorem dL_law_541 : decode bL_law 541 = .ok (.aload_n 0, 1) := by decide +kernel
theorem dL_law_542 : decode bL_law 542 = .ok (.iload 4, 2) := by decide +kernel
theorem dL_law_544 : decode bL_law 544 = .ok (.iconst 1, 1) := by decide +kernel
theorem dL_law_545 : decode bL_law 545 = .ok (.iadd, 1) := by decide +kernel
theorem dL_law_546 : decode bL_law 546 = .ok (.iaload, 1) := by decide +kernel
theorem dL_law_547 : decode bL_law 547 = .ok (.aload_n 0, 1) := by decide +kernel
theorem dL_law_548 : decode bL_law 548 = .ok (.iload 4, 2) := by decide +kernel
theorem dL_law_550 : decode bL_law 550 = .ok (.iconst 2, 1) := by decide +kernel
theorem dL_law_551 : decode bL_law 551 = .ok (.iadd, 1) := by decide +kernel
theorem dL_law_552 : decode bL_law 552 = .ok (.iaload, 1) := by decide +kernel
theorem dL_law_553 : decode bL_law 553 = .ok (.invokevirtual 108, 3) := by decide +kernel
theorem dL_law_556 : decode bL_law 556 = .ok (.istore 6, 2) := by decide +kernel
theorem dL_law_558 : decode bL_law 558 = .ok (.aload_n 2, 1) := by decide +kernel
theorem dL_law_559 : decode bL_law 559 = .ok (.invokevirtual 65, 3) := by decide +kernel
theorem dL_law_562 : decode bL_law 562 = .ok (.iload 5, 2) := by decide +kernel
theorem dL_law_564 : decode bL_law 564 = .ok (.if_icmp .eq 5, 3) := by decide +kernel
theorem dL_law_567 : decode bL_law 567 = .ok (.iconst 0, 1) := by decide +kernel
theorem dL_law_568 : decode bL_law 568 = .ok (.ireturn, 1) := by decide +kernel
theorem dL_law_569 : decode bL_law 569 = .ok (.iload 5, 2) := by decide +kernel
theorem dL_law_571 : decode bL_law 571 = .ok (.ifCond .ne 15, 3) := by decide +kernel
theorem dL_law_574 : decode bL_law 574 = .ok (.aload_n 3, 1) := by decide +kernel
theorem dL_law_575 : decode bL_law 575 = .ok (.iconst 0, 1) := by decide +kernel
theorem dL_law_576 : decode bL_law 576 = .ok (.laload, 1) := by decide +kernel
theorem dL_law_577 : decode bL_law 577 = .ok (.iload 6, 2) := by decide +kernel
theorem dL_law_579 : decode bL_law 579 = .ok (.i2l, 1) := by decide +kernel
theorem dL_law_580 : decode bL_law 580 = .ok (.lcmp, 1) := by decide +kernel
theorem dL_law_581 : decode bL_law 581 = .ok (.ifCond .eq 5, 3) := by decide +kernel
theorem dL_law_584 : decode bL_law 584 = .ok (.iconst 0, 1) := by decide +kernel
theorem dL_law_585 : decode bL_law 585 = .ok (.ireturn, 1) := by decide +kernel
theorem dL_law_586 : decode bL_law 586 = .ok (.goto 159, 3) := by decide +kernel
theorem dL_law_589 : decode bL_law 589 = .ok (.aload_n 1, 1) := by decide +kernel
theorem dL_law_590 : decode bL_law 590 = .ok (.aload_n 0, 1) := by decide +kernel
theorem dL_law_591 : decode bL_law 591 = .ok (.iload 4, 2) := by decide +kernel
theorem dL_law_593 : decode bL_law 593 = .ok (.iconst 1, 1) := by decide +kernel
theorem dL_law_594 : decode bL_law 594 = .ok (.iadd, 1) := by decide +kernel
theorem dL_law_595 : decode bL_law 595 = .ok (.iaload, 1) := by decide +kernel
theorem dL_law_596 : decode bL_law 596 = .ok (.aload_n 0, 1) := by decide +kernel
theorem dL_law_597 : decode bL_law 597 = .ok (.iload 4, 2) := by decide +kernel
theorem dL_law_599 : decode bL_law 599 = .ok (.iconst 2, 1) := by decide +kernel
theorem dL_law_600 : decode bL_law 600 = .ok (.iadd, 1) := by decide +kernel
theorem dL_law_601 : decode bL_law 601 = .ok (.iaload, 1) := by decide +kernel
theorem dL_law_602 : decode bL_law 602 = .ok (.aload_n 0, 1) := by decide +kernel
theorem dL_law_603 : decode bL_law 603 = .ok (.iload 4, 2) := by decide +kernel
theorem dL_law_605 : decode bL_law 605 = .ok (.iconst 3, 1) := by decide +kernel
theorem dL_law_606 : decode bL_law 606 = .ok (.iadd, 1) := by decide +kernel
theorem dL_law_607 : decode bL_law 607 = .ok (.iaload, 1) := by decide +kernel
theorem dL_law_608 : decode bL_law 608 = .ok (.aload_n 3, 1) := by decide +kernel
theorem dL_law_609 : decode bL_law 609 = .ok (.invokestatic 109, 3) := by decide +kernel
theorem dL_law_612 : decode bL_law 612 = .ok (.istore 5, 2) := by decide +kernel
theorem dL_law_614 : decode bL_law 614 = .ok (.aload_n 2, 1) := by decide +kernel
theorem dL_law_615 : decode bL_law 615 = .ok (.aload_n 0, 1) := by decide +kernel
theorem dL_law_616 : decode bL_law 616 = .ok (.iload 4, 2) := by decide +kernel
theorem dL_law_618 : decode bL_law 618 = .ok (.iconst 1, 1) := by decide +kernel
theorem dL_law_619 : decode bL_law 619 = .ok (.iadd, 1) := by decide +kernel
theorem dL_law_620 : decode bL_law 620 = .ok (.iaload, 1) := by decide +kernel
theorem dL_law_621 : decode bL_law 621 = .ok (.aload_n 0, 1) := by decide +kernel
theorem dL_law_622 : decode bL_law 622 = .ok (.iload 4, 2) := by decide +kernel
theorem dL_law_624 : decode bL_law 624 = .ok (.iconst 2, 1) := by decide +kernel
theorem dL_law_625 : decode bL_law 625 = .ok (.iadd, 1) := by decide +kernel
theorem dL_law_626 : decode bL_law 626 = .ok (.iaload, 1) := by decide +kernel
theorem dL_law_627 : decode bL_law 627 = .ok (.aload_n 0, 1) := by decide +kernel
theorem dL_law_628 : decode bL_law 628 = .ok (.iload 4, 2) := by decide +kernel
theorem dL_law_630 : decode bL_law 630 = .ok (.iconst 3, 1) := by decide +kernel
theorem dL_law_631 : decode bL_law 631 = .ok (.iadd, 1) := by decide +kernel
theorem dL_law_632 : decode bL_law 632 = .ok (.iaload, 1) := by decide +kernel
theorem dL_law_633 : decode bL_law 633 = .ok (.invokevirtual 112, 3) := by decide +kernel
theorem dL_law_636 : decode bL_law 636 = .ok (.istore 6, 2) := by decide +kernel
theorem dL_law_638 : decode bL_law 638 = .ok (.aload_n 2, 1) := by decide +kernel
theorem dL_law_639 : decode bL_law 639 = .ok (.invokevirtual 65, 3) := by decide +kernel
theorem dL_law_642 : decode bL_law 642 = .ok (.iload 5, 2) := by decide +kernel
theorem dL_law_644 : decode bL_law 644 = .ok (.if_icmp .eq 5, 3) := by decide +kernel
theorem dL_law_647 : decode bL_law 647 = .ok (.iconst 0, 1) := by decide +kernel
theorem dL_law_648 : decode bL_law 648 = .ok (.ireturn, 1) := by decide +kernel
theorem dL_law_649 : decode bL_law 649 = .ok (.iload 5, 2) := by decide +kernel
theorem dL_law_651 : decode bL_law 651 = .ok (.ifCond .ne 15, 3) := by decide +kernel
theorem dL_law_654 : decode bL_law 654 = .ok (.aload_n 3, 1) := by decide +kernel
theorem dL_law_655 : decode bL_law 655 = .ok (.iconst 0, 1) := by decide +kernel
theorem dL_law_656 : decode bL_law 656 = .ok (.laload, 1) := by decide +kernel
theorem dL_law_657 : decode bL_law 657 = .ok (.iload 6, 2) := by decide +kernel
theorem dL_law_659 : decode bL_law 659 = .ok (.i2l, 1) := by decide +kernel
theorem dL_law_660 : decode bL_law 660 = .ok (.lcmp, 1) := by decide +kernel
theorem dL_law_661 : decode bL_law 661 = .ok (.ifCond .eq 5, 3) := by decide +kernel
theorem dL_law_664 : decode bL_law 664 = .ok (.iconst 0, 1) := by decide +kernel
theorem dL_law_665 : decode bL_law 665 = .ok (.ireturn, 1) := by decide +kernel
theorem dL_law_666 : decode bL_law 666 = .ok (.goto 79, 3) := by decide +kernel
theorem dL_law_669 : decode bL_law 669 = .ok (.aload_n 1, 1) := by decide +kernel
theorem dL_law_670 : decode bL_law 670 = .ok (.aload_n 0, 1) := by decide +kernel
theorem dL_law_671 : decode bL_law 671 = .ok (.iload 4, 2) := by decide +kernel
theorem dL_law_673 : decode bL_law 673 = .ok (.iconst 1, 1) := by decide +kernel
theorem dL_law_674 : decode bL_law 674 = .ok (.iadd, 1) := by decide +kernel
theorem dL_law_675 : decode bL_law 675 = .ok (.iaload, 1) := by decide +kernel
theorem dL_law_676 : decode bL_law 676 = .ok (.aload_n 3, 1) := by decide +kernel
theorem dL_law_677 : decode bL_law 677 = .ok (.invokestatic 113, 3) := by decide +kernel
theorem dL_law_680 : decode bL_law 680 = .ok (.istore 5, 2) := by decide +kernel
theorem dL_law_682 : decode bL_law 682 = .ok (.aload_n 2, 1) := by decide +kernel
theorem dL_law_683 : decode bL_law 683 = .ok (.aload_n 0, 1) := by decide +kernel
theorem dL_law_684 : decode bL_law 684 = .ok (.iload 4, 2) := by decide +kernel
theorem dL_law_686 : decode bL_law 686 = .ok (.iconst 1, 1) := by decide +kernel
theorem dL_law_687 : decode bL_law 687 = .ok (.iadd, 1) := by decide +kernel
theorem dL_law_688 : decode bL_law 688 = .ok (.iaload, 1) := by decide +kernel
theorem dL_law_689 : decode bL_law 689 = .ok (.invokevirtual 115, 3) := by decide +kernel
theorem dL_law_692 : decode bL_law 692 = .ok (.istore 6, 2) := by decide +kernel
theorem dL_law_694 : decode bL_law 694 = .ok (.aload_n 2, 1) := by decide +kernel
theorem dL_law_695 : decode bL_law 695 = .ok (.invokevirtual 65, 3) := by decide +kernel
theorem dL_law_698 : decode bL_law 698 = .ok (.iload 5, 2) := by decide +kernel
theorem dL_law_700 : decode bL_law 700 = .ok (.if_icmp .eq 5, 3) := by decide +kernel
theorem dL_law_703 : decode bL_law 703 = .ok (.iconst 0, 1) := by decide +kernel
theorem dL_law_704 : decode bL_law 704 = .ok (.ireturn, 1) := by decide +kernel
theorem dL_law_705 : decode bL_law 705 = .ok (.iload 5, 2) := by decide +kernel
theorem dL_law_707 : decode bL_law 707 = .ok (.ifCond .ne 22, 3) := by decide +kernel
theorem dL_law_710 : decode bL_law 710 = .ok (.aload_n 3, 1) := by decide +kernel
theorem dL_law_711 : decode bL_law 711 = .ok (.iconst 0, 1) := by decide +kernel
theorem dL_law_712 : decode bL_law 712 = .ok (.laload, 1) := by decide +kernel
theorem dL_law_713 : decode bL_law 713 = .ok (.iload 6, 2) := by decide +kernel
theorem dL_law_715 : decode bL_law 715 = .ok (.ifCond .eq 7, 3) := by decide +kernel
theorem dL_law_718 : decode bL_law 718 = .ok (.lconst 1, 1) := by decide +kernel
theorem dL_law_719 : decode bL_law 719 = .ok (.goto 4, 3) := by decide +kernel
theorem dL_law_722 : decode bL_law 722 = .ok (.lconst 0, 1) := by decide +kernel
theorem dL_law_723 : decode bL_law 723 = .ok (.lcmp, 1) := by decide +kernel
theorem dL_law_724 : decode bL_law 724 = .ok (.ifCond .eq 5, 3) := by decide +kernel
theorem dL_law_727 : decode bL_law 727 = .ok (.iconst 0, 1) := by decide +kernel
theorem dL_law_728 : decode bL_law 728 = .ok (.ireturn, 1) := by decide +kernel
theorem dL_law_729 : decode bL_law 729 = .ok (.goto 16, 3) := by decide +kernel
theorem dL_law_732 : decode bL_law 732 = .ok (.aload_n 1, 1) := by decide +kernel
theorem dL_law_733 : decode bL_law 733 = .ok (.invokevirtual 116, 3) := by decide +kernel
theorem dL_law_736 : decode bL_law 736 = .ok (.aload_n 2, 1) := by decide +kernel
theorem dL_law_737 : decode bL_law 737 = .ok (.invokevirtual 119, 3) := by decide +kernel
theorem dL_law_740 : decode bL_law 740 = .ok (.if_icmp .eq 5, 3) := by decide +kernel
theorem dL_law_743 : decode bL_law 743 = .ok (.iconst 0, 1) := by decide +kernel
theorem dL_law_744 : decode bL_law 744 = .ok (.ireturn, 1) := by decide +kernel
theorem dL_law_745 : decode bL_law 745 = .ok (.iinc 4 4, 3) := by decide +kernel
theorem dL_law_748 : decode bL_law 748 = .ok (.goto (-705), 3) := by decide +kernel
theorem dL_law_751 : decode bL_law 751 = .ok (.iconst 1, 1) := by decide +kernel
theorem dL_law_752 : decode bL_law 752 = .ok (.ireturn, 1) := by decide +kernel
