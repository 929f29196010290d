theorem dX3_readOrder_160 : decode cX3_readOrder 160 = .ok (.ifCond .eq 14, 3) := by decide +kernel
theorem dX3_readOrder_163 : decode cX3_readOrder 163 = .ok (.aload_n 0, 1) := by decide +kernel
theorem dX3_readOrder_164 : decode cX3_readOrder 164 = .ok (.invokevirtual 58, 3) := by decide +kernel
theorem dX3_readOrder_167 : decode cX3_readOrder 167 = .ok (.ifCond .eq 7, 3) := by decide +kernel
theorem dX3_readOrder_170 : decode cX3_readOrder 170 = .ok (.iconst 1, 1) := by decide +kernel
theorem dX3_readOrder_171 : decode cX3_readOrder 171 = .ok (.goto 4, 3) := by decide +kernel
theorem dX3_readOrder_174 : decode cX3_readOrder 174 = .ok (.iconst 0, 1) := by decide +kernel
theorem dX3_readOrder_175 : decode cX3_readOrder 175 = .ok (.ireturn, 1) := by decide +kernel
theorem dX3_readOrder_176 : decode cX3_readOrder 176 = .ok (.aload_n 0, 1) := by decide +kernel
theorem dX3_readOrder_177 : decode cX3_readOrder 177 = .ok (.dup, 1) := by decide +kernel
theorem dX3_readOrder_178 : decode cX3_readOrder 178 = .ok (.getfield 15, 3) := by decide +kernel
theorem dX3_readOrder_181 : decode cX3_readOrder 181 = .ok (.iconst 1, 1) := by decide +kernel
theorem dX3_readOrder_182 : decode cX3_readOrder 182 = .ok (.iadd, 1) := by decide +kernel
theorem dX3_readOrder_183 : decode cX3_readOrder 183 = .ok (.putfield 15, 3) := by decide +kernel
theorem dX3_readOrder_186 : decode cX3_readOrder 186 = .ok (.aload_n 0, 1) := by decide +kernel
theorem dX3_readOrder_187 : decode cX3_readOrder 187 = .ok (.invokevirtual 49, 3) := by decide +kernel
theorem dX3_readOrder_190 : decode cX3_readOrder 190 = .ok (.ifCond .eq 21, 3) := by decide +kernel
theorem dX3_readOrder_193 : decode cX3_readOrder 193 = .ok (.aload_n 0, 1) := by decide +kernel
theorem dX3_readOrder_194 : decode cX3_readOrder 194 = .ok (.invokevirtual 61, 3) := by decide +kernel
theorem dX3_readOrder_197 : decode cX3_readOrder 197 = .ok (.ifCond .ne 10, 3) := by decide +kernel
theorem dX3_readOrder_200 : decode cX3_readOrder 200 = .ok (.aload_n 0, 1) := by decide +kernel
theorem dX3_readOrder_201 : decode cX3_readOrder 201 = .ok (.invokevirtual 55, 3) := by decide +kernel
theorem dX3_readOrder_204 : decode cX3_readOrder 204 = .ok (.ifCond .eq 7, 3) := by decide +kernel
theorem dX3_readOrder_207 : decode cX3_readOrder 207 = .ok (.iconst 1, 1) := by decide +kernel
theorem dX3_readOrder_208 : decode cX3_readOrder 208 = .ok (.goto 4, 3) := by decide +kernel
theorem dX3_readOrder_211 : decode cX3_readOrder 211 = .ok (.iconst 0, 1) := by decide +kernel
theorem dX3_readOrder_212 : decode cX3_readOrder 212 = .ok (.ireturn, 1) := by decide +kernel
theorem dX3_readOrder_213 : decode cX3_readOrder 213 = .ok (.iconst 0, 1) := by decide +kernel
theorem dX3_readOrder_214 : decode cX3_readOrder 214 = .ok (.ireturn, 1) := by decide +kernel
theorem dX3_isOrderOver_0 : decode cX3_isOrderOver 0 = .ok (.aload_n 0, 1) := by decide +kernel
theorem dX3_isOrderOver_1 : decode cX3_isOrderOver 1 = .ok (.getfield 15, 3) := by decide +kernel
theorem dX3_isOrderOver_4 : decode cX3_isOrderOver 4 = .ok (.aload_n 0, 1) := by decide +kernel
theorem dX3_isOrderOver_5 : decode cX3_isOrderOver 5 = .ok (.getfield 9, 3) := by decide +kernel
theorem dX3_isOrderOver_8 : decode cX3_isOrderOver 8 = .ok (.invokevirtual 26, 3) := by decide +kernel
theorem dX3_isOrderOver_11 : decode cX3_isOrderOver 11 = .ok (.if_icmp .ge 19, 3) := by decide +kernel
theorem dX3_isOrderOver_14 : decode cX3_isOrderOver 14 = .ok (.aload_n 0, 1) := by decide +kernel
theorem dX3_isOrderOver_15 : decode cX3_isOrderOver 15 = .ok (.getfield 9, 3) := by decide +kernel
theorem dX3_isOrderOver_18 : decode cX3_isOrderOver 18 = .ok (.aload_n 0, 1) := by decide +kernel
theorem dX3_isOrderOver_19 : decode cX3_isOrderOver 19 = .ok (.getfield 15, 3) := by decide +kernel
theorem dX3_isOrderOver_22 : decode cX3_isOrderOver 22 = .ok (.invokevirtual 36, 3) := by decide +kernel
theorem dX3_isOrderOver_25 : decode cX3_isOrderOver 25 = .ok (.bipush 59, 2) := by decide +kernel
theorem dX3_isOrderOver_27 : decode cX3_isOrderOver 27 = .ok (.if_icmp .ne 7, 3) := by decide +kernel
theorem dX3_isOrderOver_30 : decode cX3_isOrderOver 30 = .ok (.iconst 1, 1) := by decide +kernel
theorem dX3_isOrderOver_31 : decode cX3_isOrderOver 31 = .ok (.goto 4, 3) := by decide +kernel
theorem dX3_isOrderOver_34 : decode cX3_isOrderOver 34 = .ok (.iconst 0, 1) := by decide +kernel
theorem dX3_isOrderOver_35 : decode cX3_isOrderOver 35 = .ok (.ireturn, 1) := by decide +kernel
theorem dX3_readPerson_0 : decode cX3_readPerson 0 = .ok (.aload_n 0, 1) := by decide +kernel
theorem dX3_readPerson_1 : decode cX3_readPerson 1 = .ok (.aload_n 0, 1) := by decide +kernel
theorem dX3_readPerson_2 : decode cX3_readPerson 2 = .ok (.invokevirtual 64, 3) := by decide +kernel
theorem dX3_readPerson_5 : decode cX3_readPerson 5 = .ok (.putfield 67, 3) := by decide +kernel
theorem dX3_readPerson_8 : decode cX3_readPerson 8 = .ok (.aload_n 0, 1) := by decide +kernel
theorem dX3_readPerson_9 : decode cX3_readPerson 9 = .ok (.getfield 67, 3) := by decide +kernel
theorem dX3_readPerson_12 : decode cX3_readPerson 12 = .ok (.ifCond .lt 7, 3) := by decide +kernel
theorem dX3_readPerson_15 : decode cX3_readPerson 15 = .ok (.iconst 1, 1) := by decide +kernel
theorem dX3_readPerson_16 : decode cX3_readPerson 16 = .ok (.goto 4, 3) := by decide +kernel
theorem dX3_readPerson_19 : decode cX3_readPerson 19 = .ok (.iconst 0, 1) := by decide +kernel
theorem dX3_readPerson_20 : decode cX3_readPerson 20 = .ok (.ireturn, 1) := by decide +kernel
theorem dX3_readMany_0 : decode cX3_readMany 0 = .ok (.aload_n 0, 1) := by decide +kernel
theorem dX3_readMany_1 : decode cX3_readMany 1 = .ok (.aload_n 0, 1) := by decide +kernel
theorem dX3_readMany_2 : decode cX3_readMany 2 = .ok (.invokevirtual 64, 3) := by decide +kernel
theorem dX3_readMany_5 : decode cX3_readMany 5 = .ok (.putfield 70, 3) := by decide +kernel
theorem dX3_readMany_8 : decode cX3_readMany 8 = .ok (.aload_n 0, 1) := by decide +kernel
theorem dX3_readMany_9 : decode cX3_readMany 9 = .ok (.getfield 70, 3) := by decide +kernel
theorem dX3_readMany_12 : decode cX3_readMany 12 = .ok (.ifCond .lt 7, 3) := by decide +kernel
theorem dX3_readMany_15 : decode cX3_readMany 15 = .ok (.iconst 1, 1) := by decide +kernel
theorem dX3_readMany_16 : decode cX3_readMany 16 = .ok (.goto 4, 3) := by decide +kernel
theorem dX3_readMany_19 : decode cX3_readMany 19 = .ok (.iconst 0, 1) := by decide +kernel
theorem dX3_readMany_20 : decode cX3_readMany 20 = .ok (.ireturn, 1) := by decide +kernel
theorem dX3_readDish_0 : decode cX3_readDish 0 = .ok (.aload_n 0, 1) := by decide +kernel
theorem dX3_readDish_1 : decode cX3_readDish 1 = .ok (.getfield 9, 3) := by decide +kernel
theorem dX3_readDish_4 : decode cX3_readDish 4 = .ok (.aload_n 0, 1) := by decide +kernel
theorem dX3_readDish_5 : decode cX3_readDish 5 = .ok (.getfield 15, 3) := by decide +kernel
theorem dX3_readDish_8 : decode cX3_readDish 8 = .ok (.invokevirtual 36, 3) := by decide +kernel
theorem dX3_readDish_11 : decode cX3_readDish 11 = .ok (.istore_n 1, 1) := by decide +kernel
theorem dX3_readDish_12 : decode cX3_readDish 12 = .ok (.iload_n 1, 1) := by decide +kernel
theorem dX3_readDish_13 : decode cX3_readDish 13 = .ok (.bipush 97, 2) := by decide +kernel
theorem dX3_readDish_15 : decode cX3_readDish 15 = .ok (.if_icmp .lt 9, 3) := by decide +kernel
theorem dX3_readDish_18 : decode cX3_readDish 18 = .ok (.iload_n 1, 1) := by decide +kernel
theorem dX3_readDish_19 : decode cX3_readDish 19 = .ok (.bipush 99, 2) := by decide +kernel
theorem dX3_readDish_21 : decode cX3_readDish 21 = .ok (.if_icmp .le 5, 3) := by decide +kernel
theorem dX3_readDish_24 : decode cX3_readDish 24 = .ok (.iconst 0, 1) := by decide +kernel
theorem dX3_readDish_25 : decode cX3_readDish 25 = .ok (.ireturn, 1) := by decide +kernel
theorem dX3_readDish_26 : decode cX3_readDish 26 = .ok (.aload_n 0, 1) := by decide +kernel
theorem dX3_readDish_27 : decode cX3_readDish 27 = .ok (.iload_n 1, 1) := by decide +kernel
theorem dX3_readDish_28 : decode cX3_readDish 28 = .ok (.bipush 97, 2) := by decide +kernel
theorem dX3_readDish_30 : decode cX3_readDish 30 = .ok (.isub, 1) := by decide +kernel
theorem dX3_readDish_31 : decode cX3_readDish 31 = .ok (.putfield 43, 3) := by decide +kernel
theorem dX3_readDish_34 : decode cX3_readDish 34 = .ok (.aload_n 0, 1) := by decide +kernel
theorem dX3_readDish_35 : decode cX3_readDish 35 = .ok (.dup, 1) := by decide +kernel
theorem dX3_readDish_36 : decode cX3_readDish 36 = .ok (.getfield 15, 3) := by decide +kernel
theorem dX3_readDish_39 : decode cX3_readDish 39 = .ok (.iconst 1, 1) := by decide +kernel
theorem dX3_readDish_40 : decode cX3_readDish 40 = .ok (.iadd, 1) := by decide +kernel
theorem dX3_readDish_41 : decode cX3_readDish 41 = .ok (.putfield 15, 3) := by decide +kernel
theorem dX3_readDish_44 : decode cX3_readDish 44 = .ok (.iconst 1, 1) := by decide +kernel
theorem dX3_readDish_45 : decode cX3_readDish 45 = .ok (.ireturn, 1) := by decide +kernel
theorem dX3_readAhead_0 : decode cX3_readAhead 0 = .ok (.aload_n 0, 1) := by decide +kernel
theorem dX3_readAhead_1 : decode cX3_readAhead 1 = .ok (.bipush 43, 2) := by decide +kernel
theorem dX3_readAhead_3 : decode cX3_readAhead 3 = .ok (.invokevirtual 32, 3) := by decide +kernel
theorem dX3_readAhead_6 : decode cX3_readAhead 6 = .ok (.ifCond .ne 5, 3) := by decide +kernel
theorem dX3_readAhead_9 : decode cX3_readAhead 9 = .ok (.iconst 1, 1) := by decide +kernel
theorem dX3_readAhead_10 : decode cX3_readAhead 10 = .ok (.ireturn, 1) := by decide +kernel
theorem dX3_readAhead_11 : decode cX3_readAhead 11 = .ok (.aload_n 0, 1) := by decide +kernel
theorem dX3_readAhead_12 : decode cX3_readAhead 12 = .ok (.aload_n 0, 1) := by decide +kernel
theorem dX3_readAhead_13 : decode cX3_readAhead 13 = .ok (.invokevirtual 73, 3) := by decide +kernel
theorem dX3_readAhead_16 : decode cX3_readAhead 16 = .ok (.putfield 46, 3) := by decide +kernel
theorem dX3_readAhead_19 : decode cX3_readAhead 19 = .ok (.aload_n 0, 1) := by decide +kernel
theorem dX3_readAhead_20 : decode cX3_readAhead 20 = .ok (.getfield 46, 3) := by decide +kernel
theorem dX3_readAhead_23 : decode cX3_readAhead 23 = .ok (.ifCond .lt 7, 3) := by decide +kernel
theorem dX3_readAhead_26 : decode cX3_readAhead 26 = .ok (.iconst 1, 1) := by decide +kernel
theorem dX3_readAhead_27 : decode cX3_readAhead 27 = .ok (.goto 4, 3) := by decide +kernel
theorem dX3_readAhead_30 : decode cX3_readAhead 30 = .ok (.iconst 0, 1) := by decide +kernel
theorem dX3_readAhead_31 : decode cX3_readAhead 31 = .ok (.ireturn, 1) := by decide +kernel
theorem dX3_readNumber_0 : decode cX3_readNumber 0 = .ok (.aload_n 0, 1) := by decide +kernel
theorem dX3_readNumber_1 : decode cX3_readNumber 1 = .ok (.invokevirtual 73, 3) := by decide +kernel
theorem dX3_readNumber_4 : decode cX3_readNumber 4 = .ok (.istore_n 1, 1) := by decide +kernel
theorem dX3_readNumber_5 : decode cX3_readNumber 5 = .ok (.iload_n 1, 1) := by decide +kernel
theorem dX3_readNumber_6 : decode cX3_readNumber 6 = .ok (.ifCond .gt 5, 3) := by decide +kernel
theorem dX3_readNumber_9 : decode cX3_readNumber 9 = .ok (.iload_n 1, 1) := by decide +kernel
theorem dX3_readNumber_10 : decode cX3_readNumber 10 = .ok (.ireturn, 1) := by decide +kernel
theorem dX3_readNumber_11 : decode cX3_readNumber 11 = .ok (.aload_n 0, 1) := by decide +kernel
theorem dX3_readNumber_12 : decode cX3_readNumber 12 = .ok (.invokevirtual 73, 3) := by decide +kernel
theorem dX3_readNumber_15 : decode cX3_readNumber 15 = .ok (.istore_n 2, 1) := by decide +kernel
theorem dX3_readNumber_16 : decode cX3_readNumber 16 = .ok (.iload_n 2, 1) := by decide +kernel
theorem dX3_readNumber_17 : decode cX3_readNumber 17 = .ok (.ifCond .ge 7, 3) := by decide +kernel
theorem dX3_readNumber_20 : decode cX3_readNumber 20 = .ok (.iload_n 1, 1) := by decide +kernel
theorem dX3_readNumber_21 : decode cX3_readNumber 21 = .ok (.goto 9, 3) := by decide +kernel
theorem dX3_readNumber_24 : decode cX3_readNumber 24 = .ok (.bipush 10, 2) := by decide +kernel
theorem dX3_readNumber_26 : decode cX3_readNumber 26 = .ok (.iload_n 1, 1) := by decide +kernel
theorem dX3_readNumber_27 : decode cX3_readNumber 27 = .ok (.imul, 1) := by decide +kernel
theorem dX3_readNumber_28 : decode cX3_readNumber 28 = .ok (.iload_n 2, 1) := by decide +kernel
theorem dX3_readNumber_29 : decode cX3_readNumber 29 = .ok (.iadd, 1) := by decide +kernel
theorem dX3_readNumber_30 : decode cX3_readNumber 30 = .ok (.ireturn, 1) := by decide +kernel
theorem dX3_readDigit_0 : decode cX3_readDigit 0 = .ok (.aload_n 0, 1) := by decide +kernel
theorem dX3_readDigit_1 : decode cX3_readDigit 1 = .ok (.getfield 9, 3) := by decide +kernel
theorem dX3_readDigit_4 : decode cX3_readDigit 4 = .ok (.aload_n 0, 1) := by decide +kernel
theorem dX3_readDigit_5 : decode cX3_readDigit 5 = .ok (.getfield 15, 3) := by decide +kernel
theorem dX3_readDigit_8 : decode cX3_readDigit 8 = .ok (.invokevirtual 36, 3) := by decide +kernel
theorem dX3_readDigit_11 : decode cX3_readDigit 11 = .ok (.istore_n 1, 1) := by decide +kernel
theorem dX3_readDigit_12 : decode cX3_readDigit 12 = .ok (.iload_n 1, 1) := by decide +kernel
theorem dX3_readDigit_13 : decode cX3_readDigit 13 = .ok (.bipush 48, 2) := by decide +kernel
theorem dX3_readDigit_15 : decode cX3_readDigit 15 = .ok (.if_icmp .lt 9, 3) := by decide +kernel
theorem dX3_readDigit_18 : decode cX3_readDigit 18 = .ok (.iload_n 1, 1) := by decide +kernel
theorem dX3_readDigit_19 : decode cX3_readDigit 19 = .ok (.bipush 57, 2) := by decide +kernel
theorem dX3_readDigit_21 : decode cX3_readDigit 21 = .ok (.if_icmp .le 6, 3) := by decide +kernel
theorem dX3_readDigit_24 : decode cX3_readDigit 24 = .ok (.bipush (-6), 2) := by decide +kernel
theorem dX3_readDigit_26 : decode cX3_readDigit 26 = .ok (.ireturn, 1) := by decide +kernel
theorem dX3_readDigit_27 : decode cX3_readDigit 27 = .ok (.aload_n 0, 1) := by decide +kernel
theorem dX3_readDigit_28 : decode cX3_readDigit 28 = .ok (.dup, 1) := by decide +kernel
theorem dX3_readDigit_29 : decode cX3_readDigit 29 = .ok (.getfield 15, 3) := by decide +kernel
theorem dX3_readDigit_32 : decode cX3_readDigit 32 = .ok (.iconst 1, 1) := by decide +kernel
theorem dX3_readDigit_33 : decode cX3_readDigit 33 = .ok (.iadd, 1) := by decide +kernel
theorem dX3_readDigit_34 : decode cX3_readDigit 34 = .ok (.putfield 15, 3) := by decide +kernel
theorem dX3_readDigit_37 : decode cX3_readDigit 37 = .ok (.iload_n 1, 1) := by decide +kernel
theorem dX3_readDigit_38 : decode cX3_readDigit 38 = .ok (.bipush 48, 2) := by decide +kernel
theorem dX3_readDigit_40 : decode cX3_readDigit 40 = .ok (.isub, 1) := by decide +kernel
theorem dX3_readDigit_41 : decode cX3_readDigit 41 = .ok (.ireturn, 1) := by decide +kernel
theorem dX4_init_0 : decode cX4_init 0 = .ok (.aload_n 0, 1) := by decide +kernel
theorem dX4_init_1 : decode cX4_init 1 = .ok (.invokespecial 3, 3) := by decide +kernel
theorem dX4_init_4 : decode cX4_init 4 = .ok (.aload_n 0, 1) := by decide +kernel
theorem dX4_init_5 : decode cX4_init 5 = .ok (.bipush 80, 2) := by decide +kernel
theorem dX4_init_7 : decode cX4_init 7 = .ok (.newarray .char, 2) := by decide +kernel
theorem dX4_init_9 : decode cX4_init 9 = .ok (.putfield 9, 3) := by decide +kernel
theorem dX4_init_12 : decode cX4_init 12 = .ok (.return_, 1) := by decide +kernel
theorem dX4_length_0 : decode cX4_length 0 = .ok (.aload_n 0, 1) := by decide +kernel
theorem dX4_length_1 : decode cX4_length 1 = .ok (.getfield 15, 3) := by decide +kernel
theorem dX4_length_4 : decode cX4_length 4 = .ok (.ireturn, 1) := by decide +kernel
theorem dX4_at_0 : decode cX4_at 0 = .ok (.iload_n 1, 1) := by decide +kernel
theorem dX4_at_1 : decode cX4_at 1 = .ok (.ifCond .lt 20, 3) := by decide +kernel
theorem dX4_at_4 : decode cX4_at 4 = .ok (.iload_n 1, 1) := by decide +kernel
theorem dX4_at_5 : decode cX4_at 5 = .ok (.aload_n 0, 1) := by decide +kernel
theorem dX4_at_6 : decode cX4_at 6 = .ok (.getfield 15, 3) := by decide +kernel
theorem dX4_at_9 : decode cX4_at 9 = .ok (.if_icmp .ge 12, 3) := by decide +kernel
theorem dX4_at_12 : decode cX4_at 12 = .ok (.aload_n 0, 1) := by decide +kernel
theorem dX4_at_13 : decode cX4_at 13 = .ok (.getfield 9, 3) := by decide +kernel
theorem dX4_at_16 : decode cX4_at 16 = .ok (.iload_n 1, 1) := by decide +kernel
theorem dX4_at_17 : decode cX4_at 17 = .ok (.caload, 1) := by decide +kernel
theorem dX4_at_18 : decode cX4_at 18 = .ok (.goto 4, 3) := by decide +kernel
theorem dX4_at_21 : decode cX4_at 21 = .ok (.iconst 0, 1) := by decide +kernel
theorem dX4_at_22 : decode cX4_at 22 = .ok (.ireturn, 1) := by decide +kernel
theorem dX4_append_0 : decode cX4_append 0 = .ok (.lload_n 1, 1) := by decide +kernel
theorem dX4_append_1 : decode cX4_append 1 = .ok (.invokestatic 19, 3) := by decide +kernel
theorem dX4_append_4 : decode cX4_append 4 = .ok (.istore_n 3, 1) := by decide +kernel
theorem dX4_append_5 : decode cX4_append 5 = .ok (.iload_n 3, 1) := by decide +kernel
theorem dX4_append_6 : decode cX4_append 6 = .ok (.ifCond .ne 6, 3) := by decide +kernel
theorem dX4_append_9 : decode cX4_append 9 = .ok (.bipush (-2), 2) := by decide +kernel
theorem dX4_append_11 : decode cX4_append 11 = .ok (.ireturn, 1) := by decide +kernel
theorem dX4_append_12 : decode cX4_append 12 = .ok (.aload_n 0, 1) := by decide +kernel
theorem dX4_append_13 : decode cX4_append 13 = .ok (.getfield 15, 3) := by decide +kernel
theorem dX4_append_16 : decode cX4_append 16 = .ok (.iload_n 3, 1) := by decide +kernel
theorem dX4_append_17 : decode cX4_append 17 = .ok (.iadd, 1) := by decide +kernel
theorem dX4_append_18 : decode cX4_append 18 = .ok (.bipush 80, 2) := by decide +kernel
theorem dX4_append_20 : decode cX4_append 20 = .ok (.if_icmp .le 6, 3) := by decide +kernel
theorem dX4_append_23 : decode cX4_append 23 = .ok (.bipush (-4), 2) := by decide +kernel
theorem dX4_append_25 : decode cX4_append 25 = .ok (.ireturn, 1) := by decide +kernel
theorem dX4_append_26 : decode cX4_append 26 = .ok (.aload_n 0, 1) := by decide +kernel
theorem dX4_append_27 : decode cX4_append 27 = .ok (.dup, 1) := by decide +kernel
theorem dX4_append_28 : decode cX4_append 28 = .ok (.getfield 15, 3) := by decide +kernel
theorem dX4_append_31 : decode cX4_append 31 = .ok (.iload_n 3, 1) := by decide +kernel
theorem dX4_append_32 : decode cX4_append 32 = .ok (.iadd, 1) := by decide +kernel
theorem dX4_append_33 : decode cX4_append 33 = .ok (.putfield 15, 3) := by decide +kernel
theorem dX4_append_36 : decode cX4_append 36 = .ok (.iconst 0, 1) := by decide +kernel
theorem dX4_append_37 : decode cX4_append 37 = .ok (.istore 4, 2) := by decide +kernel
theorem dX4_append_39 : decode cX4_append 39 = .ok (.iload 4, 2) := by decide +kernel
theorem dX4_append_41 : decode cX4_append 41 = .ok (.iload_n 3, 1) := by decide +kernel
theorem dX4_append_42 : decode cX4_append 42 = .ok (.if_icmp .ge 36, 3) := by decide +kernel
theorem dX4_append_45 : decode cX4_append 45 = .ok (.aload_n 0, 1) := by decide +kernel
theorem dX4_append_46 : decode cX4_append 46 = .ok (.getfield 9, 3) := by decide +kernel
theorem dX4_append_49 : decode cX4_append 49 = .ok (.aload_n 0, 1) := by decide +kernel
theorem dX4_append_50 : decode cX4_append 50 = .ok (.getfield 15, 3) := by decide +kernel
theorem dX4_append_53 : decode cX4_append 53 = .ok (.iconst 1, 1) := by decide +kernel
theorem dX4_append_54 : decode cX4_append 54 = .ok (.isub, 1) := by decide +kernel
theorem dX4_append_55 : decode cX4_append 55 = .ok (.iload 4, 2) := by decide +kernel
theorem dX4_append_57 : decode cX4_append 57 = .ok (.isub, 1) := by decide +kernel
theorem dX4_append_58 : decode cX4_append 58 = .ok (.lload_n 1, 1) := by decide +kernel
theorem dX4_append_59 : decode cX4_append 59 = .ok (.bipush 8, 2) := by decide +kernel
theorem dX4_append_61 : decode cX4_append 61 = .ok (.iload 4, 2) := by decide +kernel
theorem dX4_append_63 : decode cX4_append 63 = .ok (.imul, 1) := by decide +kernel
theorem dX4_append_64 : decode cX4_append 64 = .ok (.lushr, 1) := by decide +kernel
theorem dX4_append_65 : decode cX4_append 65 = .ok (.ldc2_w 23, 3) := by decide +kernel
theorem dX4_append_68 : decode cX4_append 68 = .ok (.land, 1) := by decide +kernel
theorem dX4_append_69 : decode cX4_append 69 = .ok (.l2i, 1) := by decide +kernel
theorem dX4_append_70 : decode cX4_append 70 = .ok (.i2c, 1) := by decide +kernel
theorem dX4_append_71 : decode cX4_append 71 = .ok (.castore, 1) := by decide +kernel
theorem dX4_append_72 : decode cX4_append 72 = .ok (.iinc 4 1, 3) := by decide +kernel
theorem dX4_append_75 : decode cX4_append 75 = .ok (.goto (-36), 3) := by decide +kernel
theorem dX4_append_78 : decode cX4_append 78 = .ok (.aload_n 0, 1) := by decide +kernel
theorem dX4_append_79 : decode cX4_append 79 = .ok (.getfield 15, 3) := by decide +kernel
theorem dX4_append_82 : decode cX4_append 82 = .ok (.ireturn, 1) := by decide +kernel
theorem dX4_goodCharacters_0 : decode cX4_goodCharacters 0 = .ok (.lload_n 0, 1) := by decide +kernel
theorem dX4_goodCharacters_1 : decode cX4_goodCharacters 1 = .ok (.lstore_n 2, 1) := by decide +kernel
theorem dX4_goodCharacters_2 : decode cX4_goodCharacters 2 = .ok (.iconst 0, 1) := by decide +kernel
theorem dX4_goodCharacters_3 : decode cX4_goodCharacters 3 = .ok (.istore 4, 2) := by decide +kernel
theorem dX4_goodCharacters_5 : decode cX4_goodCharacters 5 = .ok (.lload_n 2, 1) := by decide +kernel
theorem dX4_goodCharacters_6 : decode cX4_goodCharacters 6 = .ok (.lconst 0, 1) := by decide +kernel
theorem dX4_goodCharacters_7 : decode cX4_goodCharacters 7 = .ok (.lcmp, 1) := by decide +kernel
theorem dX4_goodCharacters_8 : decode cX4_goodCharacters 8 = .ok (.ifCond .eq 48, 3) := by decide +kernel
theorem dX4_goodCharacters_11 : decode cX4_goodCharacters 11 = .ok (.iload 4, 2) := by decide +kernel
theorem dX4_goodCharacters_13 : decode cX4_goodCharacters 13 = .ok (.bipush 8, 2) := by decide +kernel
theorem dX4_goodCharacters_15 : decode cX4_goodCharacters 15 = .ok (.if_icmp .ge 41, 3) := by decide +kernel
theorem dX4_goodCharacters_18 : decode cX4_goodCharacters 18 = .ok (.lload_n 2, 1) := by decide +kernel
theorem dX4_goodCharacters_19 : decode cX4_goodCharacters 19 = .ok (.ldc2_w 23, 3) := by decide +kernel
theorem dX4_goodCharacters_22 : decode cX4_goodCharacters 22 = .ok (.land, 1) := by decide +kernel
theorem dX4_goodCharacters_23 : decode cX4_goodCharacters 23 = .ok (.lstore 5, 2) := by decide +kernel
theorem dX4_goodCharacters_25 : decode cX4_goodCharacters 25 = .ok (.lload 5, 2) := by decide +kernel
theorem dX4_goodCharacters_27 : decode cX4_goodCharacters 27 = .ok (.ldc2_w 25, 3) := by decide +kernel
theorem dX4_goodCharacters_30 : decode cX4_goodCharacters 30 = .ok (.lcmp, 1) := by decide +kernel
theorem dX4_goodCharacters_31 : decode cX4_goodCharacters 31 = .ok (.ifCond .lt 12, 3) := by decide +kernel
theorem dX4_goodCharacters_34 : decode cX4_goodCharacters 34 = .ok (.lload 5, 2) := by decide +kernel
theorem dX4_goodCharacters_36 : decode cX4_goodCharacters 36 = .ok (.ldc2_w 27, 3) := by decide +kernel
theorem dX4_goodCharacters_39 : decode cX4_goodCharacters 39 = .ok (.lcmp, 1) := by decide +kernel
theorem dX4_goodCharacters_40 : decode cX4_goodCharacters 40 = .ok (.ifCond .le 5, 3) := by decide +kernel
theorem dX4_goodCharacters_43 : decode cX4_goodCharacters 43 = .ok (.iconst 0, 1) := by decide +kernel
theorem dX4_goodCharacters_44 : decode cX4_goodCharacters 44 = .ok (.ireturn, 1) := by decide +kernel
theorem dX4_goodCharacters_45 : decode cX4_goodCharacters 45 = .ok (.lload_n 2, 1) := by decide +kernel
theorem dX4_goodCharacters_46 : decode cX4_goodCharacters 46 = .ok (.bipush 8, 2) := by decide +kernel
theorem dX4_goodCharacters_48 : decode cX4_goodCharacters 48 = .ok (.lushr, 1) := by decide +kernel
theorem dX4_goodCharacters_49 : decode cX4_goodCharacters 49 = .ok (.lstore_n 2, 1) := by decide +kernel
theorem dX4_goodCharacters_50 : decode cX4_goodCharacters 50 = .ok (.iinc 4 1, 3) := by decide +kernel
theorem dX4_goodCharacters_53 : decode cX4_goodCharacters 53 = .ok (.goto (-48), 3) := by decide +kernel
theorem dX4_goodCharacters_56 : decode cX4_goodCharacters 56 = .ok (.iload 4, 2) := by decide +kernel
theorem dX4_goodCharacters_58 : decode cX4_goodCharacters 58 = .ok (.ireturn, 1) := by decide +kernel
theorem dX4_clear_0 : decode cX4_clear 0 = .ok (.aload_n 0, 1) := by decide +kernel
theorem dX4_clear_1 : decode cX4_clear 1 = .ok (.getfield 15, 3) := by decide +kernel
theorem dX4_clear_4 : decode cX4_clear 4 = .ok (.istore_n 1, 1) := by decide +kernel
theorem dX4_clear_5 : decode cX4_clear 5 = .ok (.aload_n 0, 1) := by decide +kernel
theorem dX4_clear_6 : decode cX4_clear 6 = .ok (.iconst 0, 1) := by decide +kernel
theorem dX4_clear_7 : decode cX4_clear 7 = .ok (.putfield 15, 3) := by decide +kernel
theorem dX4_clear_10 : decode cX4_clear 10 = .ok (.iload_n 1, 1) := by decide +kernel
theorem dX4_clear_11 : decode cX4_clear 11 = .ok (.ireturn, 1) := by decide +kernel
theorem dX5_init_0 : decode cX5_init 0 = .ok (.aload_n 0, 1) := by decide +kernel
theorem dX5_init_1 : decode cX5_init 1 = .ok (.invokespecial 3, 3) := by decide +kernel
theorem dX5_init_4 : decode cX5_init 4 = .ok (.aload_n 0, 1) := by decide +kernel
theorem dX5_init_5 : decode cX5_init 5 = .ok (.iconst 5, 1) := by decide +kernel
theorem dX5_init_6 : decode cX5_init 6 = .ok (.newarray .int, 2) := by decide +kernel
theorem dX5_init_8 : decode cX5_init 8 = .ok (.putfield 9, 3) := by decide +kernel
theorem dX5_init_11 : decode cX5_init 11 = .ok (.aload_n 0, 1) := by decide +kernel
theorem dX5_init_12 : decode cX5_init 12 = .ok (.iconst 5, 1) := by decide +kernel
theorem dX5_init_13 : decode cX5_init 13 = .ok (.newarray .int, 2) := by decide +kernel
theorem dX5_init_15 : decode cX5_init 15 = .ok (.putfield 15, 3) := by decide +kernel
theorem dX5_init_18 : decode cX5_init 18 = .ok (.return_, 1) := by decide +kernel
theorem dX5_start_0 : decode cX5_start 0 = .ok (.iconst 0, 1) := by decide +kernel
theorem dX5_start_1 : decode cX5_start 1 = .ok (.istore_n 1, 1) := by decide +kernel
theorem dX5_start_2 : decode cX5_start 2 = .ok (.iload_n 1, 1) := by decide +kernel
theorem dX5_start_3 : decode cX5_start 3 = .ok (.iconst 5, 1) := by decide +kernel
theorem dX5_start_4 : decode cX5_start 4 = .ok (.if_icmp .ge 24, 3) := by decide +kernel
theorem dX5_start_7 : decode cX5_start 7 = .ok (.aload_n 0, 1) := by decide +kernel
theorem dX5_start_8 : decode cX5_start 8 = .ok (.getfield 9, 3) := by decide +kernel
theorem dX5_start_11 : decode cX5_start 11 = .ok (.iload_n 1, 1) := by decide +kernel
theorem dX5_start_12 : decode cX5_start 12 = .ok (.bipush (-6), 2) := by decide +kernel
theorem dX5_start_14 : decode cX5_start 14 = .ok (.iastore, 1) := by decide +kernel
theorem dX5_start_15 : decode cX5_start 15 = .ok (.aload_n 0, 1) := by decide +kernel
theorem dX5_start_16 : decode cX5_start 16 = .ok (.getfield 15, 3) := by decide +kernel
theorem dX5_start_19 : decode cX5_start 19 = .ok (.iload_n 1, 1) := by decide +kernel
theorem dX5_start_20 : decode cX5_start 20 = .ok (.iconst 0, 1) := by decide +kernel
theorem dX5_start_21 : decode cX5_start 21 = .ok (.iastore, 1) := by decide +kernel
theorem dX5_start_22 : decode cX5_start 22 = .ok (.iinc 1 1, 3) := by decide +kernel
theorem dX5_start_25 : decode cX5_start 25 = .ok (.goto (-23), 3) := by decide +kernel
theorem dX5_start_28 : decode cX5_start 28 = .ok (.aload_n 0, 1) := by decide +kernel
theorem dX5_start_29 : decode cX5_start 29 = .ok (.iconst 5, 1) := by decide +kernel
theorem dX5_start_30 : decode cX5_start 30 = .ok (.putfield 18, 3) := by decide +kernel
theorem dX5_start_33 : decode cX5_start 33 = .ok (.aload_n 0, 1) := by decide +kernel
theorem dX5_start_34 : decode cX5_start 34 = .ok (.iconst 0, 1) := by decide +kernel
theorem dX5_start_35 : decode cX5_start 35 = .ok (.putfield 22, 3) := by decide +kernel
theorem dX5_start_38 : decode cX5_start 38 = .ok (.aload_n 0, 1) := by decide +kernel
theorem dX5_start_39 : decode cX5_start 39 = .ok (.iconst 0, 1) := by decide +kernel
theorem dX5_start_40 : decode cX5_start 40 = .ok (.putfield 25, 3) := by decide +kernel
theorem dX5_start_43 : decode cX5_start 43 = .ok (.aload_n 0, 1) := by decide +kernel
theorem dX5_start_44 : decode cX5_start 44 = .ok (.iconst 0, 1) := by decide +kernel
theorem dX5_start_45 : decode cX5_start 45 = .ok (.putfield 28, 3) := by decide +kernel
theorem dX5_start_48 : decode cX5_start 48 = .ok (.aload_n 0, 1) := by decide +kernel
theorem dX5_start_49 : decode cX5_start 49 = .ok (.iconst 0, 1) := by decide +kernel
theorem dX5_start_50 : decode cX5_start 50 = .ok (.putfield 31, 3) := by decide +kernel
theorem dX5_start_53 : decode cX5_start 53 = .ok (.aload_n 0, 1) := by decide +kernel
theorem dX5_start_54 : decode cX5_start 54 = .ok (.iconst 0, 1) := by decide +kernel
theorem dX5_start_55 : decode cX5_start 55 = .ok (.putfield 34, 3) := by decide +kernel
theorem dX5_start_58 : decode cX5_start 58 = .ok (.aload_n 0, 1) := by decide +kernel
theorem dX5_start_59 : decode cX5_start 59 = .ok (.iconst 0, 1) := by decide +kernel
theorem dX5_start_60 : decode cX5_start 60 = .ok (.putfield 37, 3) := by decide +kernel
theorem dX5_start_63 : decode cX5_start 63 = .ok (.return_, 1) := by decide +kernel
theorem dX5_become_0 : decode cX5_become 0 = .ok (.aload_n 1, 1) := by decide +kernel
theorem dX5_become_1 : decode cX5_become 1 = .ok (.getfield 9, 3) := by decide +kernel
theorem dX5_become_4 : decode cX5_become 4 = .ok (.iconst 0, 1) := by decide +kernel
theorem dX5_become_5 : decode cX5_become 5 = .ok (.aload_n 0, 1) := by decide +kernel
theorem dX5_become_6 : decode cX5_become 6 = .ok (.getfield 9, 3) := by decide +kernel
theorem dX5_become_9 : decode cX5_become 9 = .ok (.iconst 0, 1) := by decide +kernel
theorem dX5_become_10 : decode cX5_become 10 = .ok (.iconst 5, 1) := by decide +kernel
theorem dX5_become_11 : decode cX5_become 11 = .ok (.invokestatic 41, 3) := by decide +kernel
theorem dX5_become_14 : decode cX5_become 14 = .ok (.aload_n 1, 1) := by decide +kernel
theorem dX5_become_15 : decode cX5_become 15 = .ok (.getfield 15, 3) := by decide +kernel
theorem dX5_become_18 : decode cX5_become 18 = .ok (.iconst 0, 1) := by decide +kernel
theorem dX5_become_19 : decode cX5_become 19 = .ok (.aload_n 0, 1) := by decide +kernel
theorem dX5_become_20 : decode cX5_become 20 = .ok (.getfield 15, 3) := by decide +kernel
theorem dX5_become_23 : decode cX5_become 23 = .ok (.iconst 0, 1) := by decide +kernel
theorem dX5_become_24 : decode cX5_become 24 = .ok (.iconst 5, 1) := by decide +kernel
theorem dX5_become_25 : decode cX5_become 25 = .ok (.invokestatic 41, 3) := by decide +kernel
theorem dX5_become_28 : decode cX5_become 28 = .ok (.aload_n 0, 1) := by decide +kernel
theorem dX5_become_29 : decode cX5_become 29 = .ok (.aload_n 1, 1) := by decide +kernel
theorem dX5_become_30 : decode cX5_become 30 = .ok (.getfield 18, 3) := by decide +kernel
theorem dX5_become_33 : decode cX5_become 33 = .ok (.putfield 18, 3) := by decide +kernel
theorem dX5_become_36 : decode cX5_become 36 = .ok (.aload_n 0, 1) := by decide +kernel
theorem dX5_become_37 : decode cX5_become 37 = .ok (.aload_n 1, 1) := by decide +kernel
theorem dX5_become_38 : decode cX5_become 38 = .ok (.getfield 22, 3) := by decide +kernel
theorem dX5_become_41 : decode cX5_become 41 = .ok (.putfield 22, 3) := by decide +kernel
theorem dX5_become_44 : decode cX5_become 44 = .ok (.aload_n 0, 1) := by decide +kernel
theorem dX5_become_45 : decode cX5_become 45 = .ok (.aload_n 1, 1) := by decide +kernel
theorem dX5_become_46 : decode cX5_become 46 = .ok (.getfield 25, 3) := by decide +kernel
theorem dX5_become_49 : decode cX5_become 49 = .ok (.putfield 25, 3) := by decide +kernel
theorem dX5_become_52 : decode cX5_become 52 = .ok (.aload_n 0, 1) := by decide +kernel
theorem dX5_become_53 : decode cX5_become 53 = .ok (.aload_n 1, 1) := by decide +kernel
theorem dX5_become_54 : decode cX5_become 54 = .ok (.getfield 28, 3) := by decide +kernel
theorem dX5_become_57 : decode cX5_become 57 = .ok (.putfield 28, 3) := by decide +kernel
theorem dX5_become_60 : decode cX5_become 60 = .ok (.aload_n 0, 1) := by decide +kernel
theorem dX5_become_61 : decode cX5_become 61 = .ok (.aload_n 1, 1) := by decide +kernel
theorem dX5_become_62 : decode cX5_become 62 = .ok (.getfield 31, 3) := by decide +kernel
theorem dX5_become_65 : decode cX5_become 65 = .ok (.putfield 31, 3) := by decide +kernel
theorem dX5_become_68 : decode cX5_become 68 = .ok (.aload_n 0, 1) := by decide +kernel
theorem dX5_become_69 : decode cX5_become 69 = .ok (.aload_n 1, 1) := by decide +kernel
theorem dX5_become_70 : decode cX5_become 70 = .ok (.getfield 34, 3) := by decide +kernel
theorem dX5_become_73 : decode cX5_become 73 = .ok (.putfield 34, 3) := by decide +kernel
theorem dX5_become_76 : decode cX5_become 76 = .ok (.aload_n 0, 1) := by decide +kernel
theorem dX5_become_77 : decode cX5_become 77 = .ok (.aload_n 1, 1) := by decide +kernel
theorem dX5_become_78 : decode cX5_become 78 = .ok (.getfield 37, 3) := by decide +kernel
theorem dX5_become_81 : decode cX5_become 81 = .ok (.putfield 37, 3) := by decide +kernel
theorem dX5_become_84 : decode cX5_become 84 = .ok (.return_, 1) := by decide +kernel
theorem dX5_hasOrder_0 : decode cX5_hasOrder 0 = .ok (.aload_n 0, 1) := by decide +kernel
theorem dX5_hasOrder_1 : decode cX5_hasOrder 1 = .ok (.getfield 9, 3) := by decide +kernel
theorem dX5_hasOrder_4 : decode cX5_hasOrder 4 = .ok (.iload_n 1, 1) := by decide +kernel
theorem dX5_hasOrder_5 : decode cX5_hasOrder 5 = .ok (.iaload, 1) := by decide +kernel
theorem dX5_hasOrder_6 : decode cX5_hasOrder 6 = .ok (.bipush (-6), 2) := by decide +kernel
theorem dX5_hasOrder_8 : decode cX5_hasOrder 8 = .ok (.if_icmp .eq 7, 3) := by decide +kernel
theorem dX5_hasOrder_11 : decode cX5_hasOrder 11 = .ok (.iconst 1, 1) := by decide +kernel
theorem dX5_hasOrder_12 : decode cX5_hasOrder 12 = .ok (.goto 4, 3) := by decide +kernel
theorem dX5_hasOrder_15 : decode cX5_hasOrder 15 = .ok (.iconst 0, 1) := by decide +kernel
theorem dX5_hasOrder_16 : decode cX5_hasOrder 16 = .ok (.ireturn, 1) := by decide +kernel
theorem dX5_isMissing_0 : decode cX5_isMissing 0 = .ok (.aload_n 0, 1) := by decide +kernel
theorem dX5_isMissing_1 : decode cX5_isMissing 1 = .ok (.iconst 0, 1) := by decide +kernel
theorem dX5_isMissing_2 : decode cX5_isMissing 2 = .ok (.invokevirtual 47, 3) := by decide +kernel
theorem dX5_isMissing_5 : decode cX5_isMissing 5 = .ok (.ifCond .eq 14, 3) := by decide +kernel
theorem dX5_isMissing_8 : decode cX5_isMissing 8 = .ok (.aload_n 0, 1) := by decide +kernel
theorem dX5_isMissing_9 : decode cX5_isMissing 9 = .ok (.getfield 37, 3) := by decide +kernel
theorem dX5_isMissing_12 : decode cX5_isMissing 12 = .ok (.ifCond .ne 7, 3) := by decide +kernel
theorem dX5_isMissing_15 : decode cX5_isMissing 15 = .ok (.iconst 1, 1) := by decide +kernel
theorem dX5_isMissing_16 : decode cX5_isMissing 16 = .ok (.goto 4, 3) := by decide +kernel
theorem dX5_isMissing_19 : decode cX5_isMissing 19 = .ok (.iconst 0, 1) := by decide +kernel
theorem dX5_isMissing_20 : decode cX5_isMissing 20 = .ok (.ireturn, 1) := by decide +kernel
theorem dX5_receive_0 : decode cX5_receive 0 = .ok (.aload_n 0, 1) := by decide +kernel
theorem dX5_receive_1 : decode cX5_receive 1 = .ok (.bipush 30, 2) := by decide +kernel
theorem dX5_receive_3 : decode cX5_receive 3 = .ok (.aload_n 0, 1) := by decide +kernel
theorem dX5_receive_4 : decode cX5_receive 4 = .ok (.getfield 18, 3) := by decide +kernel
theorem dX5_receive_7 : decode cX5_receive 7 = .ok (.iload_n 1, 1) := by decide +kernel
theorem dX5_receive_8 : decode cX5_receive 8 = .ok (.iadd, 1) := by decide +kernel
theorem dX5_receive_9 : decode cX5_receive 9 = .ok (.invokestatic 51, 3) := by decide +kernel
theorem dX5_receive_12 : decode cX5_receive 12 = .ok (.putfield 18, 3) := by decide +kernel
theorem dX5_receive_15 : decode cX5_receive 15 = .ok (.aload_n 0, 1) := by decide +kernel
theorem dX5_receive_16 : decode cX5_receive 16 = .ok (.getfield 18, 3) := by decide +kernel
theorem dX5_receive_19 : decode cX5_receive 19 = .ok (.ireturn, 1) := by decide +kernel
theorem dX5_pay_0 : decode cX5_pay 0 = .ok (.aload_n 0, 1) := by decide +kernel
theorem dX5_pay_1 : decode cX5_pay 1 = .ok (.getfield 9, 3) := by decide +kernel
theorem dX5_pay_4 : decode cX5_pay 4 = .ok (.iload_n 1, 1) := by decide +kernel
theorem dX5_pay_5 : decode cX5_pay 5 = .ok (.iload_n 2, 1) := by decide +kernel
theorem dX5_pay_6 : decode cX5_pay 6 = .ok (.iastore, 1) := by decide +kernel
theorem dX5_pay_7 : decode cX5_pay 7 = .ok (.aload_n 0, 1) := by decide +kernel
theorem dX5_pay_8 : decode cX5_pay 8 = .ok (.getfield 15, 3) := by decide +kernel
theorem dX5_pay_11 : decode cX5_pay 11 = .ok (.iload_n 1, 1) := by decide +kernel
theorem dX5_pay_12 : decode cX5_pay 12 = .ok (.iload_n 3, 1) := by decide +kernel
theorem dX5_pay_13 : decode cX5_pay 13 = .ok (.iastore, 1) := by decide +kernel
theorem dX5_pay_14 : decode cX5_pay 14 = .ok (.aload_n 0, 1) := by decide +kernel
theorem dX5_pay_15 : decode cX5_pay 15 = .ok (.dup, 1) := by decide +kernel
theorem dX5_pay_16 : decode cX5_pay 16 = .ok (.getfield 18, 3) := by decide +kernel
theorem dX5_pay_19 : decode cX5_pay 19 = .ok (.iload_n 3, 1) := by decide +kernel
theorem dX5_pay_20 : decode cX5_pay 20 = .ok (.isub, 1) := by decide +kernel
theorem dX5_pay_21 : decode cX5_pay 21 = .ok (.putfield 18, 3) := by decide +kernel
theorem dX5_pay_24 : decode cX5_pay 24 = .ok (.aload_n 0, 1) := by decide +kernel
theorem dX5_pay_25 : decode cX5_pay 25 = .ok (.getfield 18, 3) := by decide +kernel
theorem dX5_pay_28 : decode cX5_pay 28 = .ok (.ireturn, 1) := by decide +kernel
theorem dX5_comeWithOrder_0 : decode cX5_comeWithOrder 0 = .ok (.aload_n 0, 1) := by decide +kernel
theorem dX5_comeWithOrder_1 : decode cX5_comeWithOrder 1 = .ok (.iconst 1, 1) := by decide +kernel
theorem dX5_comeWithOrder_2 : decode cX5_comeWithOrder 2 = .ok (.putfield 37, 3) := by decide +kernel
theorem dX5_comeWithOrder_5 : decode cX5_comeWithOrder 5 = .ok (.aload_n 0, 1) := by decide +kernel
theorem dX5_comeWithOrder_6 : decode cX5_comeWithOrder 6 = .ok (.dup, 1) := by decide +kernel
theorem dX5_comeWithOrder_7 : decode cX5_comeWithOrder 7 = .ok (.getfield 28, 3) := by decide +kernel
theorem dX5_comeWithOrder_10 : decode cX5_comeWithOrder 10 = .ok (.iconst 1, 1) := by decide +kernel
theorem dX5_comeWithOrder_11 : decode cX5_comeWithOrder 11 = .ok (.iadd, 1) := by decide +kernel
theorem dX5_comeWithOrder_12 : decode cX5_comeWithOrder 12 = .ok (.putfield 28, 3) := by decide +kernel
theorem dX5_comeWithOrder_15 : decode cX5_comeWithOrder 15 = .ok (.aload_n 0, 1) := by decide +kernel
theorem dX5_comeWithOrder_16 : decode cX5_comeWithOrder 16 = .ok (.iconst 0, 1) := by decide +kernel
theorem dX5_comeWithOrder_17 : decode cX5_comeWithOrder 17 = .ok (.putfield 22, 3) := by decide +kernel
theorem dX5_comeWithOrder_20 : decode cX5_comeWithOrder 20 = .ok (.return_, 1) := by decide +kernel
theorem dX5_stayAway_0 : decode cX5_stayAway 0 = .ok (.aload_n 0, 1) := by decide +kernel
theorem dX5_stayAway_1 : decode cX5_stayAway 1 = .ok (.dup, 1) := by decide +kernel
theorem dX5_stayAway_2 : decode cX5_stayAway 2 = .ok (.getfield 31, 3) := by decide +kernel
theorem dX5_stayAway_5 : decode cX5_stayAway 5 = .ok (.iconst 1, 1) := by decide +kernel
theorem dX5_stayAway_6 : decode cX5_stayAway 6 = .ok (.iadd, 1) := by decide +kernel
theorem dX5_stayAway_7 : decode cX5_stayAway 7 = .ok (.putfield 31, 3) := by decide +kernel
theorem dX5_stayAway_10 : decode cX5_stayAway 10 = .ok (.aload_n 0, 1) := by decide +kernel
theorem dX5_stayAway_11 : decode cX5_stayAway 11 = .ok (.dup, 1) := by decide +kernel
theorem dX5_stayAway_12 : decode cX5_stayAway 12 = .ok (.getfield 22, 3) := by decide +kernel
theorem dX5_stayAway_15 : decode cX5_stayAway 15 = .ok (.iconst 1, 1) := by decide +kernel
theorem dX5_stayAway_16 : decode cX5_stayAway 16 = .ok (.iadd, 1) := by decide +kernel
theorem dX5_stayAway_17 : decode cX5_stayAway 17 = .ok (.putfield 22, 3) := by decide +kernel
theorem dX5_stayAway_20 : decode cX5_stayAway 20 = .ok (.return_, 1) := by decide +kernel
theorem dX5_judge_0 : decode cX5_judge 0 = .ok (.aload_n 0, 1) := by decide +kernel
theorem dX5_judge_1 : decode cX5_judge 1 = .ok (.getfield 22, 3) := by decide +kernel
theorem dX5_judge_4 : decode cX5_judge 4 = .ok (.iload_n 1, 1) := by decide +kernel
theorem dX5_judge_5 : decode cX5_judge 5 = .ok (.if_icmp .lt 20, 3) := by decide +kernel
theorem dX5_judge_8 : decode cX5_judge 8 = .ok (.aload_n 0, 1) := by decide +kernel
theorem dX5_judge_9 : decode cX5_judge 9 = .ok (.aload_n 0, 1) := by decide +kernel
theorem dX5_judge_10 : decode cX5_judge 10 = .ok (.getfield 25, 3) := by decide +kernel
theorem dX5_judge_13 : decode cX5_judge 13 = .ok (.iload_n 2, 1) := by decide +kernel
theorem dX5_judge_14 : decode cX5_judge 14 = .ok (.invokestatic 57, 3) := by decide +kernel
theorem dX5_judge_17 : decode cX5_judge 17 = .ok (.putfield 25, 3) := by decide +kernel
theorem dX5_judge_20 : decode cX5_judge 20 = .ok (.aload_n 0, 1) := by decide +kernel
theorem dX5_judge_21 : decode cX5_judge 21 = .ok (.iconst 0, 1) := by decide +kernel
theorem dX5_judge_22 : decode cX5_judge 22 = .ok (.putfield 22, 3) := by decide +kernel
theorem dX5_judge_25 : decode cX5_judge 25 = .ok (.return_, 1) := by decide +kernel
theorem dX5_startDay_0 : decode cX5_startDay 0 = .ok (.iconst 1, 1) := by decide +kernel
theorem dX5_startDay_1 : decode cX5_startDay 1 = .ok (.istore_n 1, 1) := by decide +kernel
theorem dX5_startDay_2 : decode cX5_startDay 2 = .ok (.iload_n 1, 1) := by decide +kernel
theorem dX5_startDay_3 : decode cX5_startDay 3 = .ok (.iconst 5, 1) := by decide +kernel
theorem dX5_startDay_4 : decode cX5_startDay 4 = .ok (.if_icmp .ge 37, 3) := by decide +kernel
theorem dX5_startDay_7 : decode cX5_startDay 7 = .ok (.aload_n 0, 1) := by decide +kernel
theorem dX5_startDay_8 : decode cX5_startDay 8 = .ok (.getfield 9, 3) := by decide +kernel
theorem dX5_startDay_11 : decode cX5_startDay 11 = .ok (.iload_n 1, 1) := by decide +kernel
theorem dX5_startDay_12 : decode cX5_startDay 12 = .ok (.iconst 1, 1) := by decide +kernel
theorem dX5_startDay_13 : decode cX5_startDay 13 = .ok (.isub, 1) := by decide +kernel
theorem dX5_startDay_14 : decode cX5_startDay 14 = .ok (.aload_n 0, 1) := by decide +kernel
theorem dX5_startDay_15 : decode cX5_startDay 15 = .ok (.getfield 9, 3) := by decide +kernel
theorem dX5_startDay_18 : decode cX5_startDay 18 = .ok (.iload_n 1, 1) := by decide +kernel
theorem dX5_startDay_19 : decode cX5_startDay 19 = .ok (.iaload, 1) := by decide +kernel
theorem dX5_startDay_20 : decode cX5_startDay 20 = .ok (.iastore, 1) := by decide +kernel
theorem dX5_startDay_21 : decode cX5_startDay 21 = .ok (.aload_n 0, 1) := by decide +kernel
theorem dX5_startDay_22 : decode cX5_startDay 22 = .ok (.getfield 15, 3) := by decide +kernel
theorem dX5_startDay_25 : decode cX5_startDay 25 = .ok (.iload_n 1, 1) := by decide +kernel
theorem dX5_startDay_26 : decode cX5_startDay 26 = .ok (.iconst 1, 1) := by decide +kernel
theorem dX5_startDay_27 : decode cX5_startDay 27 = .ok (.isub, 1) := by decide +kernel
theorem dX5_startDay_28 : decode cX5_startDay 28 = .ok (.aload_n 0, 1) := by decide +kernel
theorem dX5_startDay_29 : decode cX5_startDay 29 = .ok (.getfield 15, 3) := by decide +kernel
theorem dX5_startDay_32 : decode cX5_startDay 32 = .ok (.iload_n 1, 1) := by decide +kernel
theorem dX5_startDay_33 : decode cX5_startDay 33 = .ok (.iaload, 1) := by decide +kernel
theorem dX5_startDay_34 : decode cX5_startDay 34 = .ok (.iastore, 1) := by decide +kernel
theorem dX5_startDay_35 : decode cX5_startDay 35 = .ok (.iinc 1 1, 3) := by decide +kernel
theorem dX5_startDay_38 : decode cX5_startDay 38 = .ok (.goto (-36), 3) := by decide +kernel
theorem dX5_startDay_41 : decode cX5_startDay 41 = .ok (.aload_n 0, 1) := by decide +kernel
theorem dX5_startDay_42 : decode cX5_startDay 42 = .ok (.getfield 9, 3) := by decide +kernel
theorem dX5_startDay_45 : decode cX5_startDay 45 = .ok (.iconst 4, 1) := by decide +kernel
theorem dX5_startDay_46 : decode cX5_startDay 46 = .ok (.bipush (-6), 2) := by decide +kernel
theorem dX5_startDay_48 : decode cX5_startDay 48 = .ok (.iastore, 1) := by decide +kernel
theorem dX5_startDay_49 : decode cX5_startDay 49 = .ok (.aload_n 0, 1) := by decide +kernel
theorem dX5_startDay_50 : decode cX5_startDay 50 = .ok (.iconst 0, 1) := by decide +kernel
theorem dX5_startDay_51 : decode cX5_startDay 51 = .ok (.putfield 37, 3) := by decide +kernel
theorem dX5_startDay_54 : decode cX5_startDay 54 = .ok (.return_, 1) := by decide +kernel
theorem dX5_timesOrdered_0 : decode cX5_timesOrdered 0 = .ok (.aload_n 0, 1) := by decide +kernel
theorem dX5_timesOrdered_1 : decode cX5_timesOrdered 1 = .ok (.getfield 28, 3) := by decide +kernel
theorem dX5_timesOrdered_4 : decode cX5_timesOrdered 4 = .ok (.aload_n 0, 1) := by decide +kernel
theorem dX5_timesOrdered_5 : decode cX5_timesOrdered 5 = .ok (.getfield 31, 3) := by decide +kernel
theorem dX5_timesOrdered_8 : decode cX5_timesOrdered 8 = .ok (.iadd, 1) := by decide +kernel
theorem dX5_timesOrdered_9 : decode cX5_timesOrdered 9 = .ok (.ireturn, 1) := by decide +kernel
theorem dX5_doubt_0 : decode cX5_doubt 0 = .ok (.aload_n 0, 1) := by decide +kernel
theorem dX5_doubt_1 : decode cX5_doubt 1 = .ok (.invokevirtual 60, 3) := by decide +kernel
theorem dX5_doubt_4 : decode cX5_doubt 4 = .ok (.istore_n 1, 1) := by decide +kernel
theorem dX5_doubt_5 : decode cX5_doubt 5 = .ok (.iload_n 1, 1) := by decide +kernel
theorem dX5_doubt_6 : decode cX5_doubt 6 = .ok (.ifCond .ne 7, 3) := by decide +kernel
theorem dX5_doubt_9 : decode cX5_doubt 9 = .ok (.iconst 0, 1) := by decide +kernel
theorem dX5_doubt_10 : decode cX5_doubt 10 = .ok (.goto 12, 3) := by decide +kernel
theorem dX5_doubt_13 : decode cX5_doubt 13 = .ok (.bipush 100, 2) := by decide +kernel
theorem dX5_doubt_15 : decode cX5_doubt 15 = .ok (.aload_n 0, 1) := by decide +kernel
theorem dX5_doubt_16 : decode cX5_doubt 16 = .ok (.getfield 31, 3) := by decide +kernel
theorem dX5_doubt_19 : decode cX5_doubt 19 = .ok (.imul, 1) := by decide +kernel
theorem dX5_doubt_20 : decode cX5_doubt 20 = .ok (.iload_n 1, 1) := by decide +kernel
theorem dX5_doubt_21 : decode cX5_doubt 21 = .ok (.idiv, 1) := by decide +kernel
theorem dX5_doubt_22 : decode cX5_doubt 22 = .ok (.ireturn, 1) := by decide +kernel
theorem dX5_isLessSureThan_0 : decode cX5_isLessSureThan 0 = .ok (.aload_n 0, 1) := by decide +kernel
theorem dX5_isLessSureThan_1 : decode cX5_isLessSureThan 1 = .ok (.invokevirtual 64, 3) := by decide +kernel
theorem dX5_isLessSureThan_4 : decode cX5_isLessSureThan 4 = .ok (.aload_n 1, 1) := by decide +kernel
theorem dX5_isLessSureThan_5 : decode cX5_isLessSureThan 5 = .ok (.invokevirtual 64, 3) := by decide +kernel
theorem dX5_isLessSureThan_8 : decode cX5_isLessSureThan 8 = .ok (.if_icmp .eq 20, 3) := by decide +kernel
theorem dX5_isLessSureThan_11 : decode cX5_isLessSureThan 11 = .ok (.aload_n 0, 1) := by decide +kernel
theorem dX5_isLessSureThan_12 : decode cX5_isLessSureThan 12 = .ok (.invokevirtual 64, 3) := by decide +kernel
theorem dX5_isLessSureThan_15 : decode cX5_isLessSureThan 15 = .ok (.aload_n 1, 1) := by decide +kernel
theorem dX5_isLessSureThan_16 : decode cX5_isLessSureThan 16 = .ok (.invokevirtual 64, 3) := by decide +kernel
theorem dX5_isLessSureThan_19 : decode cX5_isLessSureThan 19 = .ok (.if_icmp .le 7, 3) := by decide +kernel
theorem dX5_isLessSureThan_22 : decode cX5_isLessSureThan 22 = .ok (.iconst 1, 1) := by decide +kernel
theorem dX5_isLessSureThan_23 : decode cX5_isLessSureThan 23 = .ok (.goto 4, 3) := by decide +kernel
theorem dX5_isLessSureThan_26 : decode cX5_isLessSureThan 26 = .ok (.iconst 0, 1) := by decide +kernel
theorem dX5_isLessSureThan_27 : decode cX5_isLessSureThan 27 = .ok (.ireturn, 1) := by decide +kernel
theorem dX5_isLessSureThan_28 : decode cX5_isLessSureThan 28 = .ok (.aload_n 0, 1) := by decide +kernel
theorem dX5_isLessSureThan_29 : decode cX5_isLessSureThan 29 = .ok (.invokevirtual 60, 3) := by decide +kernel
theorem dX5_isLessSureThan_32 : decode cX5_isLessSureThan 32 = .ok (.aload_n 1, 1) := by decide +kernel
theorem dX5_isLessSureThan_33 : decode cX5_isLessSureThan 33 = .ok (.invokevirtual 60, 3) := by decide +kernel
theorem dX5_isLessSureThan_36 : decode cX5_isLessSureThan 36 = .ok (.if_icmp .le 7, 3) := by decide +kernel
theorem dX5_isLessSureThan_39 : decode cX5_isLessSureThan 39 = .ok (.iconst 1, 1) := by decide +kernel
theorem dX5_isLessSureThan_40 : decode cX5_isLessSureThan 40 = .ok (.goto 4, 3) := by decide +kernel
theorem dX5_isLessSureThan_43 : decode cX5_isLessSureThan 43 = .ok (.iconst 0, 1) := by decide +kernel
theorem dX5_isLessSureThan_44 : decode cX5_isLessSureThan 44 = .ok (.ireturn, 1) := by decide +kernel
theorem dX5_daysWithOrder_0 : decode cX5_daysWithOrder 0 = .ok (.iconst 0, 1) := by decide +kernel
theorem dX5_daysWithOrder_1 : decode cX5_daysWithOrder 1 = .ok (.istore_n 1, 1) := by decide +kernel
theorem dX5_daysWithOrder_2 : decode cX5_daysWithOrder 2 = .ok (.iconst 0, 1) := by decide +kernel
theorem dX5_daysWithOrder_3 : decode cX5_daysWithOrder 3 = .ok (.istore_n 2, 1) := by decide +kernel
theorem dX5_daysWithOrder_4 : decode cX5_daysWithOrder 4 = .ok (.iload_n 2, 1) := by decide +kernel
theorem dX5_daysWithOrder_5 : decode cX5_daysWithOrder 5 = .ok (.iconst 5, 1) := by decide +kernel
theorem dX5_daysWithOrder_6 : decode cX5_daysWithOrder 6 = .ok (.if_icmp .ge 23, 3) := by decide +kernel
theorem dX5_daysWithOrder_9 : decode cX5_daysWithOrder 9 = .ok (.aload_n 0, 1) := by decide +kernel
theorem dX5_daysWithOrder_10 : decode cX5_daysWithOrder 10 = .ok (.iload_n 2, 1) := by decide +kernel
theorem dX5_daysWithOrder_11 : decode cX5_daysWithOrder 11 = .ok (.invokevirtual 47, 3) := by decide +kernel
theorem dX5_daysWithOrder_14 : decode cX5_daysWithOrder 14 = .ok (.ifCond .eq 9, 3) := by decide +kernel
theorem dX5_daysWithOrder_17 : decode cX5_daysWithOrder 17 = .ok (.iload_n 1, 1) := by decide +kernel
theorem dX5_daysWithOrder_18 : decode cX5_daysWithOrder 18 = .ok (.iconst 1, 1) := by decide +kernel
theorem dX5_daysWithOrder_19 : decode cX5_daysWithOrder 19 = .ok (.iload_n 2, 1) := by decide +kernel
theorem dX5_daysWithOrder_20 : decode cX5_daysWithOrder 20 = .ok (.ishl, 1) := by decide +kernel
theorem dX5_daysWithOrder_21 : decode cX5_daysWithOrder 21 = .ok (.ior, 1) := by decide +kernel
theorem dX5_daysWithOrder_22 : decode cX5_daysWithOrder 22 = .ok (.istore_n 1, 1) := by decide +kernel
theorem dX5_daysWithOrder_23 : decode cX5_daysWithOrder 23 = .ok (.iinc 2 1, 3) := by decide +kernel
theorem dX5_daysWithOrder_26 : decode cX5_daysWithOrder 26 = .ok (.goto (-22), 3) := by decide +kernel
theorem dX5_daysWithOrder_29 : decode cX5_daysWithOrder 29 = .ok (.iload_n 1, 1) := by decide +kernel
theorem dX5_daysWithOrder_30 : decode cX5_daysWithOrder 30 = .ok (.ireturn, 1) := by decide +kernel
theorem dX5_number_0 : decode cX5_number 0 = .ok (.iload_n 1, 1) := by decide +kernel
theorem dX5_number_1 : decode cX5_number 1 = .ok (.tableswitch 106 0 8 #[51, 56, 63, 68, 73, 78, 83, 88, 101], 51) := by decide +kernel
theorem dX5_number_52 : decode cX5_number 52 = .ok (.aload_n 0, 1) := by decide +kernel
theorem dX5_number_53 : decode cX5_number 53 = .ok (.getfield 18, 3) := by decide +kernel
theorem dX5_number_56 : decode cX5_number 56 = .ok (.ireturn, 1) := by decide +kernel
theorem dX5_number_57 : decode cX5_number 57 = .ok (.aload_n 0, 1) := by decide +kernel
theorem dX5_number_58 : decode cX5_number 58 = .ok (.getfield 9, 3) := by decide +kernel
theorem dX5_number_61 : decode cX5_number 61 = .ok (.iconst 0, 1) := by decide +kernel
theorem dX5_number_62 : decode cX5_number 62 = .ok (.iaload, 1) := by decide +kernel
theorem dX5_number_63 : decode cX5_number 63 = .ok (.ireturn, 1) := by decide +kernel
theorem dX5_number_64 : decode cX5_number 64 = .ok (.aload_n 0, 1) := by decide +kernel
theorem dX5_number_65 : decode cX5_number 65 = .ok (.invokevirtual 67, 3) := by decide +kernel
theorem dX5_number_68 : decode cX5_number 68 = .ok (.ireturn, 1) := by decide +kernel
theorem dX5_number_69 : decode cX5_number 69 = .ok (.aload_n 0, 1) := by decide +kernel
theorem dX5_number_70 : decode cX5_number 70 = .ok (.getfield 22, 3) := by decide +kernel
theorem dX5_number_73 : decode cX5_number 73 = .ok (.ireturn, 1) := by decide +kernel
theorem dX5_number_74 : decode cX5_number 74 = .ok (.aload_n 0, 1) := by decide +kernel
theorem dX5_number_75 : decode cX5_number 75 = .ok (.getfield 25, 3) := by decide +kernel
theorem dX5_number_78 : decode cX5_number 78 = .ok (.ireturn, 1) := by decide +kernel
theorem dX5_number_79 : decode cX5_number 79 = .ok (.aload_n 0, 1) := by decide +kernel
theorem dX5_number_80 : decode cX5_number 80 = .ok (.getfield 28, 3) := by decide +kernel
theorem dX5_number_83 : decode cX5_number 83 = .ok (.ireturn, 1) := by decide +kernel
theorem dX5_number_84 : decode cX5_number 84 = .ok (.aload_n 0, 1) := by decide +kernel
theorem dX5_number_85 : decode cX5_number 85 = .ok (.getfield 31, 3) := by decide +kernel
theorem dX5_number_88 : decode cX5_number 88 = .ok (.ireturn, 1) := by decide +kernel
theorem dX5_number_89 : decode cX5_number 89 = .ok (.aload_n 0, 1) := by decide +kernel
theorem dX5_number_90 : decode cX5_number 90 = .ok (.getfield 37, 3) := by decide +kernel
theorem dX5_number_93 : decode cX5_number 93 = .ok (.ifCond .eq 7, 3) := by decide +kernel
theorem dX5_number_96 : decode cX5_number 96 = .ok (.iconst 1, 1) := by decide +kernel
theorem dX5_number_97 : decode cX5_number 97 = .ok (.goto 4, 3) := by decide +kernel
theorem dX5_number_100 : decode cX5_number 100 = .ok (.iconst 0, 1) := by decide +kernel
theorem dX5_number_101 : decode cX5_number 101 = .ok (.ireturn, 1) := by decide +kernel
theorem dX5_number_102 : decode cX5_number 102 = .ok (.aload_n 0, 1) := by decide +kernel
theorem dX5_number_103 : decode cX5_number 103 = .ok (.getfield 34, 3) := by decide +kernel
theorem dX5_number_106 : decode cX5_number 106 = .ok (.ireturn, 1) := by decide +kernel
theorem dX5_number_107 : decode cX5_number 107 = .ok (.bipush (-2), 2) := by decide +kernel
theorem dX5_number_109 : decode cX5_number 109 = .ok (.ireturn, 1) := by decide +kernel
theorem dX6_init_0 : decode cX6_init 0 = .ok (.aload_n 0, 1) := by decide +kernel
theorem dX6_init_1 : decode cX6_init 1 = .ok (.invokespecial 3, 3) := by decide +kernel
theorem dX6_init_4 : decode cX6_init 4 = .ok (.aload_n 0, 1) := by decide +kernel
theorem dX6_init_5 : decode cX6_init 5 = .ok (.iconst 2, 1) := by decide +kernel
theorem dX6_init_6 : decode cX6_init 6 = .ok (.anewarray 9, 3) := by decide +kernel
theorem dX6_init_9 : decode cX6_init 9 = .ok (.putfield 11, 3) := by decide +kernel
theorem dX6_init_12 : decode cX6_init 12 = .ok (.aload_n 0, 1) := by decide +kernel
theorem dX6_init_13 : decode cX6_init 13 = .ok (.iconst 2, 1) := by decide +kernel
theorem dX6_init_14 : decode cX6_init 14 = .ok (.newarray .boolean, 2) := by decide +kernel
theorem dX6_init_16 : decode cX6_init 16 = .ok (.putfield 17, 3) := by decide +kernel
theorem dX6_init_19 : decode cX6_init 19 = .ok (.iconst 0, 1) := by decide +kernel
theorem dX6_init_20 : decode cX6_init 20 = .ok (.istore_n 1, 1) := by decide +kernel
theorem dX6_init_21 : decode cX6_init 21 = .ok (.iload_n 1, 1) := by decide +kernel
theorem dX6_init_22 : decode cX6_init 22 = .ok (.iconst 2, 1) := by decide +kernel
theorem dX6_init_23 : decode cX6_init 23 = .ok (.if_icmp .ge 22, 3) := by decide +kernel
theorem dX6_init_26 : decode cX6_init 26 = .ok (.aload_n 0, 1) := by decide +kernel
theorem dX6_init_27 : decode cX6_init 27 = .ok (.getfield 11, 3) := by decide +kernel
theorem dX6_init_30 : decode cX6_init 30 = .ok (.iload_n 1, 1) := by decide +kernel
theorem dX6_init_31 : decode cX6_init 31 = .ok (.new 9, 3) := by decide +kernel
theorem dX6_init_34 : decode cX6_init 34 = .ok (.dup, 1) := by decide +kernel
theorem dX6_init_35 : decode cX6_init 35 = .ok (.invokespecial 21, 3) := by decide +kernel
theorem dX6_init_38 : decode cX6_init 38 = .ok (.aastore, 1) := by decide +kernel
theorem dX6_init_39 : decode cX6_init 39 = .ok (.iinc 1 1, 3) := by decide +kernel
theorem dX6_init_42 : decode cX6_init 42 = .ok (.goto (-21), 3) := by decide +kernel
theorem dX6_init_45 : decode cX6_init 45 = .ok (.return_, 1) := by decide +kernel
theorem dX6_store_0 : decode cX6_store 0 = .ok (.iload_n 1, 1) := by decide +kernel
theorem dX6_store_1 : decode cX6_store 1 = .ok (.ifCond .lt 8, 3) := by decide +kernel
theorem dX6_store_4 : decode cX6_store 4 = .ok (.iload_n 1, 1) := by decide +kernel
theorem dX6_store_5 : decode cX6_store 5 = .ok (.iconst 2, 1) := by decide +kernel
theorem dX6_store_6 : decode cX6_store 6 = .ok (.if_icmp .lt 6, 3) := by decide +kernel
theorem dX6_store_9 : decode cX6_store 9 = .ok (.bipush (-2), 2) := by decide +kernel
theorem dX6_store_11 : decode cX6_store 11 = .ok (.ireturn, 1) := by decide +kernel
theorem dX6_store_12 : decode cX6_store 12 = .ok (.aload_n 0, 1) := by decide +kernel
theorem dX6_store_13 : decode cX6_store 13 = .ok (.getfield 11, 3) := by decide +kernel
theorem dX6_store_16 : decode cX6_store 16 = .ok (.iload_n 1, 1) := by decide +kernel
theorem dX6_store_17 : decode cX6_store 17 = .ok (.aaload, 1) := by decide +kernel
theorem dX6_store_18 : decode cX6_store 18 = .ok (.aload_n 2, 1) := by decide +kernel
theorem dX6_store_19 : decode cX6_store 19 = .ok (.invokevirtual 22, 3) := by decide +kernel
theorem dX6_store_22 : decode cX6_store 22 = .ok (.aload_n 0, 1) := by decide +kernel
theorem dX6_store_23 : decode cX6_store 23 = .ok (.getfield 17, 3) := by decide +kernel
theorem dX6_store_26 : decode cX6_store 26 = .ok (.iload_n 1, 1) := by decide +kernel
theorem dX6_store_27 : decode cX6_store 27 = .ok (.iconst 1, 1) := by decide +kernel
theorem dX6_store_28 : decode cX6_store 28 = .ok (.bastore, 1) := by decide +kernel
theorem dX6_store_29 : decode cX6_store 29 = .ok (.aload_n 2, 1) := by decide +kernel
theorem dX6_store_30 : decode cX6_store 30 = .ok (.getfield 26, 3) := by decide +kernel
theorem dX6_store_33 : decode cX6_store 33 = .ok (.ireturn, 1) := by decide +kernel
theorem dX6_fetch_0 : decode cX6_fetch 0 = .ok (.iload_n 1, 1) := by decide +kernel
theorem dX6_fetch_1 : decode cX6_fetch 1 = .ok (.ifCond .lt 8, 3) := by decide +kernel
theorem dX6_fetch_4 : decode cX6_fetch 4 = .ok (.iload_n 1, 1) := by decide +kernel
theorem dX6_fetch_5 : decode cX6_fetch 5 = .ok (.iconst 2, 1) := by decide +kernel
theorem dX6_fetch_6 : decode cX6_fetch 6 = .ok (.if_icmp .lt 6, 3) := by decide +kernel
theorem dX6_fetch_9 : decode cX6_fetch 9 = .ok (.bipush (-2), 2) := by decide +kernel
theorem dX6_fetch_11 : decode cX6_fetch 11 = .ok (.ireturn, 1) := by decide +kernel
theorem dX6_fetch_12 : decode cX6_fetch 12 = .ok (.aload_n 0, 1) := by decide +kernel
theorem dX6_fetch_13 : decode cX6_fetch 13 = .ok (.getfield 17, 3) := by decide +kernel
theorem dX6_fetch_16 : decode cX6_fetch 16 = .ok (.iload_n 1, 1) := by decide +kernel
theorem dX6_fetch_17 : decode cX6_fetch 17 = .ok (.baload, 1) := by decide +kernel
theorem dX6_fetch_18 : decode cX6_fetch 18 = .ok (.ifCond .ne 6, 3) := by decide +kernel
theorem dX6_fetch_21 : decode cX6_fetch 21 = .ok (.bipush (-5), 2) := by decide +kernel
theorem dX6_fetch_23 : decode cX6_fetch 23 = .ok (.ireturn, 1) := by decide +kernel
theorem dX6_fetch_24 : decode cX6_fetch 24 = .ok (.aload_n 2, 1) := by decide +kernel
theorem dX6_fetch_25 : decode cX6_fetch 25 = .ok (.aload_n 0, 1) := by decide +kernel
theorem dX6_fetch_26 : decode cX6_fetch 26 = .ok (.getfield 11, 3) := by decide +kernel
theorem dX6_fetch_29 : decode cX6_fetch 29 = .ok (.iload_n 1, 1) := by decide +kernel
theorem dX6_fetch_30 : decode cX6_fetch 30 = .ok (.aaload, 1) := by decide +kernel
theorem dX6_fetch_31 : decode cX6_fetch 31 = .ok (.invokevirtual 22, 3) := by decide +kernel
theorem dX6_fetch_34 : decode cX6_fetch 34 = .ok (.aload_n 2, 1) := by decide +kernel
theorem dX6_fetch_35 : decode cX6_fetch 35 = .ok (.getfield 26, 3) := by decide +kernel
theorem dX6_fetch_38 : decode cX6_fetch 38 = .ok (.ireturn, 1) := by decide +kernel
theorem dX7_init_0 : decode cX7_init 0 = .ok (.aload_n 0, 1) := by decide +kernel
theorem dX7_init_1 : decode cX7_init 1 = .ok (.invokespecial 1, 3) := by decide +kernel
theorem dX7_init_4 : decode cX7_init 4 = .ok (.aload_n 0, 1) := by decide +kernel
theorem dX7_init_5 : decode cX7_init 5 = .ok (.new 7, 3) := by decide +kernel
theorem dX7_init_8 : decode cX7_init 8 = .ok (.dup, 1) := by decide +kernel
theorem dX7_init_9 : decode cX7_init 9 = .ok (.invokespecial 9, 3) := by decide +kernel
theorem dX7_init_12 : decode cX7_init 12 = .ok (.putfield 10, 3) := by decide +kernel
theorem dX7_init_15 : decode cX7_init 15 = .ok (.aload_n 0, 1) := by decide +kernel
theorem dX7_init_16 : decode cX7_init 16 = .ok (.new 16, 3) := by decide +kernel
theorem dX7_init_19 : decode cX7_init 19 = .ok (.dup, 1) := by decide +kernel
theorem dX7_init_20 : decode cX7_init 20 = .ok (.invokespecial 18, 3) := by decide +kernel
theorem dX7_init_23 : decode cX7_init 23 = .ok (.putfield 19, 3) := by decide +kernel
theorem dX7_init_26 : decode cX7_init 26 = .ok (.aload_n 0, 1) := by decide +kernel
theorem dX7_init_27 : decode cX7_init 27 = .ok (.new 23, 3) := by decide +kernel
theorem dX7_init_30 : decode cX7_init 30 = .ok (.dup, 1) := by decide +kernel
theorem dX7_init_31 : decode cX7_init 31 = .ok (.invokespecial 25, 3) := by decide +kernel
theorem dX7_init_34 : decode cX7_init 34 = .ok (.putfield 26, 3) := by decide +kernel
theorem dX7_init_37 : decode cX7_init 37 = .ok (.aload_n 0, 1) := by decide +kernel
theorem dX7_init_38 : decode cX7_init 38 = .ok (.new 30, 3) := by decide +kernel
theorem dX7_init_41 : decode cX7_init 41 = .ok (.dup, 1) := by decide +kernel
theorem dX7_init_42 : decode cX7_init 42 = .ok (.invokespecial 32, 3) := by decide +kernel
theorem dX7_init_45 : decode cX7_init 45 = .ok (.putfield 33, 3) := by decide +kernel
theorem dX7_init_48 : decode cX7_init 48 = .ok (.aload_n 0, 1) := by decide +kernel
theorem dX7_init_49 : decode cX7_init 49 = .ok (.new 37, 3) := by decide +kernel
theorem dX7_init_52 : decode cX7_init 52 = .ok (.dup, 1) := by decide +kernel
theorem dX7_init_53 : decode cX7_init 53 = .ok (.aload_n 0, 1) := by decide +kernel
theorem dX7_init_54 : decode cX7_init 54 = .ok (.getfield 33, 3) := by decide +kernel
theorem dX7_init_57 : decode cX7_init 57 = .ok (.invokespecial 39, 3) := by decide +kernel
theorem dX7_init_60 : decode cX7_init 60 = .ok (.putfield 42, 3) := by decide +kernel
theorem dX7_init_63 : decode cX7_init 63 = .ok (.return_, 1) := by decide +kernel
theorem dX7_set_0 : decode cX7_set 0 = .ok (.aload_n 0, 1) := by decide +kernel
theorem dX7_set_1 : decode cX7_set 1 = .ok (.getfield 19, 3) := by decide +kernel
theorem dX7_set_4 : decode cX7_set 4 = .ok (.aload_n 0, 1) := by decide +kernel
theorem dX7_set_5 : decode cX7_set 5 = .ok (.getfield 10, 3) := by decide +kernel
theorem dX7_set_8 : decode cX7_set 8 = .ok (.invokevirtual 46, 3) := by decide +kernel
theorem dX7_set_11 : decode cX7_set 11 = .ok (.aload_n 0, 1) := by decide +kernel
theorem dX7_set_12 : decode cX7_set 12 = .ok (.getfield 19, 3) := by decide +kernel
theorem dX7_set_15 : decode cX7_set 15 = .ok (.aload_n 0, 1) := by decide +kernel
theorem dX7_set_16 : decode cX7_set 16 = .ok (.getfield 10, 3) := by decide +kernel
theorem dX7_set_19 : decode cX7_set 19 = .ok (.iload_n 1, 1) := by decide +kernel
theorem dX7_set_20 : decode cX7_set 20 = .ok (.iload_n 2, 1) := by decide +kernel
theorem dX7_set_21 : decode cX7_set 21 = .ok (.invokevirtual 50, 3) := by decide +kernel
theorem dX7_set_24 : decode cX7_set 24 = .ok (.invokevirtual 54, 3) := by decide +kernel
theorem dX7_set_27 : decode cX7_set 27 = .ok (.ireturn, 1) := by decide +kernel
theorem dX7_price_0 : decode cX7_price 0 = .ok (.aload_n 0, 1) := by decide +kernel
theorem dX7_price_1 : decode cX7_price 1 = .ok (.getfield 19, 3) := by decide +kernel
theorem dX7_price_4 : decode cX7_price 4 = .ok (.aload_n 0, 1) := by decide +kernel
theorem dX7_price_5 : decode cX7_price 5 = .ok (.getfield 10, 3) := by decide +kernel
theorem dX7_price_8 : decode cX7_price 8 = .ok (.invokevirtual 46, 3) := by decide +kernel
theorem dX7_price_11 : decode cX7_price 11 = .ok (.aload_n 0, 1) := by decide +kernel
theorem dX7_price_12 : decode cX7_price 12 = .ok (.getfield 19, 3) := by decide +kernel
theorem dX7_price_15 : decode cX7_price 15 = .ok (.aload_n 0, 1) := by decide +kernel
theorem dX7_price_16 : decode cX7_price 16 = .ok (.getfield 10, 3) := by decide +kernel
theorem dX7_price_19 : decode cX7_price 19 = .ok (.iload_n 1, 1) := by decide +kernel
theorem dX7_price_20 : decode cX7_price 20 = .ok (.iload_n 2, 1) := by decide +kernel
theorem dX7_price_21 : decode cX7_price 21 = .ok (.iload_n 3, 1) := by decide +kernel
theorem dX7_price_22 : decode cX7_price 22 = .ok (.invokevirtual 58, 3) := by decide +kernel
theorem dX7_price_25 : decode cX7_price 25 = .ok (.invokevirtual 54, 3) := by decide +kernel
theorem dX7_price_28 : decode cX7_price 28 = .ok (.ireturn, 1) := by decide +kernel
theorem dX7_person_0 : decode cX7_person 0 = .ok (.aload_n 0, 1) := by decide +kernel
theorem dX7_person_1 : decode cX7_person 1 = .ok (.getfield 19, 3) := by decide +kernel
theorem dX7_person_4 : decode cX7_person 4 = .ok (.aload_n 0, 1) := by decide +kernel
theorem dX7_person_5 : decode cX7_person 5 = .ok (.getfield 10, 3) := by decide +kernel
theorem dX7_person_8 : decode cX7_person 8 = .ok (.invokevirtual 46, 3) := by decide +kernel
theorem dX7_person_11 : decode cX7_person 11 = .ok (.aload_n 0, 1) := by decide +kernel
theorem dX7_person_12 : decode cX7_person 12 = .ok (.getfield 19, 3) := by decide +kernel
theorem dX7_person_15 : decode cX7_person 15 = .ok (.aload_n 0, 1) := by decide +kernel
theorem dX7_person_16 : decode cX7_person 16 = .ok (.getfield 10, 3) := by decide +kernel
theorem dX7_person_19 : decode cX7_person 19 = .ok (.invokevirtual 62, 3) := by decide +kernel
theorem dX7_person_22 : decode cX7_person 22 = .ok (.invokevirtual 54, 3) := by decide +kernel
theorem dX7_person_25 : decode cX7_person 25 = .ok (.ireturn, 1) := by decide +kernel
theorem dX7_vouchers_0 : decode cX7_vouchers 0 = .ok (.aload_n 0, 1) := by decide +kernel
theorem dX7_vouchers_1 : decode cX7_vouchers 1 = .ok (.getfield 19, 3) := by decide +kernel
theorem dX7_vouchers_4 : decode cX7_vouchers 4 = .ok (.aload_n 0, 1) := by decide +kernel
theorem dX7_vouchers_5 : decode cX7_vouchers 5 = .ok (.getfield 10, 3) := by decide +kernel
theorem dX7_vouchers_8 : decode cX7_vouchers 8 = .ok (.invokevirtual 46, 3) := by decide +kernel
theorem dX7_vouchers_11 : decode cX7_vouchers 11 = .ok (.aload_n 0, 1) := by decide +kernel
theorem dX7_vouchers_12 : decode cX7_vouchers 12 = .ok (.getfield 19, 3) := by decide +kernel
theorem dX7_vouchers_15 : decode cX7_vouchers 15 = .ok (.aload_n 0, 1) := by decide +kernel
theorem dX7_vouchers_16 : decode cX7_vouchers 16 = .ok (.getfield 10, 3) := by decide +kernel
theorem dX7_vouchers_19 : decode cX7_vouchers 19 = .ok (.iload_n 1, 1) := by decide +kernel
theorem dX7_vouchers_20 : decode cX7_vouchers 20 = .ok (.iload_n 2, 1) := by decide +kernel
theorem dX7_vouchers_21 : decode cX7_vouchers 21 = .ok (.invokevirtual 66, 3) := by decide +kernel
theorem dX7_vouchers_24 : decode cX7_vouchers 24 = .ok (.invokevirtual 54, 3) := by decide +kernel
theorem dX7_vouchers_27 : decode cX7_vouchers 27 = .ok (.ireturn, 1) := by decide +kernel
theorem dX7_order_0 : decode cX7_order 0 = .ok (.aload_n 0, 1) := by decide +kernel
theorem dX7_order_1 : decode cX7_order 1 = .ok (.getfield 19, 3) := by decide +kernel
theorem dX7_order_4 : decode cX7_order 4 = .ok (.aload_n 0, 1) := by decide +kernel
theorem dX7_order_5 : decode cX7_order 5 = .ok (.getfield 10, 3) := by decide +kernel
theorem dX7_order_8 : decode cX7_order 8 = .ok (.invokevirtual 46, 3) := by decide +kernel
theorem dX7_order_11 : decode cX7_order 11 = .ok (.aload_n 0, 1) := by decide +kernel
theorem dX7_order_12 : decode cX7_order 12 = .ok (.getfield 19, 3) := by decide +kernel
theorem dX7_order_15 : decode cX7_order 15 = .ok (.aload_n 0, 1) := by decide +kernel
theorem dX7_order_16 : decode cX7_order 16 = .ok (.getfield 10, 3) := by decide +kernel
theorem dX7_order_19 : decode cX7_order 19 = .ok (.iload_n 1, 1) := by decide +kernel
theorem dX7_order_20 : decode cX7_order 20 = .ok (.iload_n 2, 1) := by decide +kernel
theorem dX7_order_21 : decode cX7_order 21 = .ok (.iload_n 3, 1) := by decide +kernel
theorem dX7_order_22 : decode cX7_order 22 = .ok (.invokevirtual 69, 3) := by decide +kernel
theorem dX7_order_25 : decode cX7_order 25 = .ok (.invokevirtual 54, 3) := by decide +kernel
theorem dX7_order_28 : decode cX7_order 28 = .ok (.ireturn, 1) := by decide +kernel
theorem dX7_callOff_0 : decode cX7_callOff 0 = .ok (.aload_n 0, 1) := by decide +kernel
theorem dX7_callOff_1 : decode cX7_callOff 1 = .ok (.getfield 19, 3) := by decide +kernel
theorem dX7_callOff_4 : decode cX7_callOff 4 = .ok (.aload_n 0, 1) := by decide +kernel
theorem dX7_callOff_5 : decode cX7_callOff 5 = .ok (.getfield 10, 3) := by decide +kernel
theorem dX7_callOff_8 : decode cX7_callOff 8 = .ok (.invokevirtual 46, 3) := by decide +kernel
theorem dX7_callOff_11 : decode cX7_callOff 11 = .ok (.aload_n 0, 1) := by decide +kernel
theorem dX7_callOff_12 : decode cX7_callOff 12 = .ok (.getfield 19, 3) := by decide +kernel
theorem dX7_callOff_15 : decode cX7_callOff 15 = .ok (.aload_n 0, 1) := by decide +kernel
theorem dX7_callOff_16 : decode cX7_callOff 16 = .ok (.getfield 10, 3) := by decide +kernel
theorem dX7_callOff_19 : decode cX7_callOff 19 = .ok (.iload_n 1, 1) := by decide +kernel
theorem dX7_callOff_20 : decode cX7_callOff 20 = .ok (.iload_n 2, 1) := by decide +kernel
theorem dX7_callOff_21 : decode cX7_callOff 21 = .ok (.invokevirtual 72, 3) := by decide +kernel
theorem dX7_callOff_24 : decode cX7_callOff 24 = .ok (.invokevirtual 54, 3) := by decide +kernel
theorem dX7_callOff_27 : decode cX7_callOff 27 = .ok (.ireturn, 1) := by decide +kernel
theorem dX7_cook_0 : decode cX7_cook 0 = .ok (.aload_n 0, 1) := by decide +kernel
theorem dX7_cook_1 : decode cX7_cook 1 = .ok (.getfield 19, 3) := by decide +kernel
theorem dX7_cook_4 : decode cX7_cook 4 = .ok (.aload_n 0, 1) := by decide +kernel
theorem dX7_cook_5 : decode cX7_cook 5 = .ok (.getfield 10, 3) := by decide +kernel
theorem dX7_cook_8 : decode cX7_cook 8 = .ok (.invokevirtual 46, 3) := by decide +kernel
theorem dX7_cook_11 : decode cX7_cook 11 = .ok (.aload_n 0, 1) := by decide +kernel
theorem dX7_cook_12 : decode cX7_cook 12 = .ok (.getfield 19, 3) := by decide +kernel
theorem dX7_cook_15 : decode cX7_cook 15 = .ok (.aload_n 0, 1) := by decide +kernel
theorem dX7_cook_16 : decode cX7_cook 16 = .ok (.getfield 10, 3) := by decide +kernel
theorem dX7_cook_19 : decode cX7_cook 19 = .ok (.invokevirtual 75, 3) := by decide +kernel
theorem dX7_cook_22 : decode cX7_cook 22 = .ok (.invokevirtual 54, 3) := by decide +kernel
theorem dX7_cook_25 : decode cX7_cook 25 = .ok (.ireturn, 1) := by decide +kernel
theorem dX7_come_0 : decode cX7_come 0 = .ok (.aload_n 0, 1) := by decide +kernel
theorem dX7_come_1 : decode cX7_come 1 = .ok (.getfield 19, 3) := by decide +kernel
theorem dX7_come_4 : decode cX7_come 4 = .ok (.aload_n 0, 1) := by decide +kernel
theorem dX7_come_5 : decode cX7_come 5 = .ok (.getfield 10, 3) := by decide +kernel
theorem dX7_come_8 : decode cX7_come 8 = .ok (.invokevirtual 46, 3) := by decide +kernel
theorem dX7_come_11 : decode cX7_come 11 = .ok (.aload_n 0, 1) := by decide +kernel
theorem dX7_come_12 : decode cX7_come 12 = .ok (.getfield 19, 3) := by decide +kernel
theorem dX7_come_15 : decode cX7_come 15 = .ok (.aload_n 0, 1) := by decide +kernel
theorem dX7_come_16 : decode cX7_come 16 = .ok (.getfield 10, 3) := by decide +kernel
theorem dX7_come_19 : decode cX7_come 19 = .ok (.iload_n 1, 1) := by decide +kernel
theorem dX7_come_20 : decode cX7_come 20 = .ok (.invokevirtual 78, 3) := by decide +kernel
theorem dX7_come_23 : decode cX7_come 23 = .ok (.invokevirtual 54, 3) := by decide +kernel
theorem dX7_come_26 : decode cX7_come 26 = .ok (.ireturn, 1) := by decide +kernel
theorem dX7_buy_0 : decode cX7_buy 0 = .ok (.aload_n 0, 1) := by decide +kernel
theorem dX7_buy_1 : decode cX7_buy 1 = .ok (.getfield 19, 3) := by decide +kernel
theorem dX7_buy_4 : decode cX7_buy 4 = .ok (.aload_n 0, 1) := by decide +kernel
theorem dX7_buy_5 : decode cX7_buy 5 = .ok (.getfield 10, 3) := by decide +kernel
theorem dX7_buy_8 : decode cX7_buy 8 = .ok (.invokevirtual 46, 3) := by decide +kernel
theorem dX7_buy_11 : decode cX7_buy 11 = .ok (.aload_n 0, 1) := by decide +kernel
theorem dX7_buy_12 : decode cX7_buy 12 = .ok (.getfield 19, 3) := by decide +kernel
theorem dX7_buy_15 : decode cX7_buy 15 = .ok (.aload_n 0, 1) := by decide +kernel
theorem dX7_buy_16 : decode cX7_buy 16 = .ok (.getfield 10, 3) := by decide +kernel
theorem dX7_buy_19 : decode cX7_buy 19 = .ok (.iload_n 1, 1) := by decide +kernel
theorem dX7_buy_20 : decode cX7_buy 20 = .ok (.iload_n 2, 1) := by decide +kernel
theorem dX7_buy_21 : decode cX7_buy 21 = .ok (.invokevirtual 81, 3) := by decide +kernel
theorem dX7_buy_24 : decode cX7_buy 24 = .ok (.invokevirtual 54, 3) := by decide +kernel
theorem dX7_buy_27 : decode cX7_buy 27 = .ok (.ireturn, 1) := by decide +kernel
theorem dX7_close_0 : decode cX7_close 0 = .ok (.aload_n 0, 1) := by decide +kernel
theorem dX7_close_1 : decode cX7_close 1 = .ok (.getfield 19, 3) := by decide +kernel
theorem dX7_close_4 : decode cX7_close 4 = .ok (.aload_n 0, 1) := by decide +kernel
theorem dX7_close_5 : decode cX7_close 5 = .ok (.getfield 10, 3) := by decide +kernel
theorem dX7_close_8 : decode cX7_close 8 = .ok (.invokevirtual 46, 3) := by decide +kernel
theorem dX7_close_11 : decode cX7_close 11 = .ok (.aload_n 0, 1) := by decide +kernel
theorem dX7_close_12 : decode cX7_close 12 = .ok (.getfield 19, 3) := by decide +kernel
theorem dX7_close_15 : decode cX7_close 15 = .ok (.aload_n 0, 1) := by decide +kernel
theorem dX7_close_16 : decode cX7_close 16 = .ok (.getfield 10, 3) := by decide +kernel
theorem dX7_close_19 : decode cX7_close 19 = .ok (.invokevirtual 84, 3) := by decide +kernel
theorem dX7_close_22 : decode cX7_close 22 = .ok (.invokevirtual 54, 3) := by decide +kernel
theorem dX7_close_25 : decode cX7_close 25 = .ok (.ireturn, 1) := by decide +kernel
theorem dX7_of_0 : decode cX7_of 0 = .ok (.aload_n 0, 1) := by decide +kernel
theorem dX7_of_1 : decode cX7_of 1 = .ok (.getfield 10, 3) := by decide +kernel
theorem dX7_of_4 : decode cX7_of 4 = .ok (.iload_n 1, 1) := by decide +kernel
theorem dX7_of_5 : decode cX7_of 5 = .ok (.iload_n 2, 1) := by decide +kernel
theorem dX7_of_6 : decode cX7_of 6 = .ok (.invokevirtual 87, 3) := by decide +kernel
theorem dX7_of_9 : decode cX7_of 9 = .ok (.ireturn, 1) := by decide +kernel
theorem dX7_ofDish_0 : decode cX7_ofDish 0 = .ok (.aload_n 0, 1) := by decide +kernel
theorem dX7_ofDish_1 : decode cX7_ofDish 1 = .ok (.getfield 10, 3) := by decide +kernel
theorem dX7_ofDish_4 : decode cX7_ofDish 4 = .ok (.iload_n 1, 1) := by decide +kernel
theorem dX7_ofDish_5 : decode cX7_ofDish 5 = .ok (.iload_n 2, 1) := by decide +kernel
theorem dX7_ofDish_6 : decode cX7_ofDish 6 = .ok (.invokevirtual 90, 3) := by decide +kernel
theorem dX7_ofDish_9 : decode cX7_ofDish 9 = .ok (.ireturn, 1) := by decide +kernel
theorem dX7_ordered_0 : decode cX7_ordered 0 = .ok (.aload_n 0, 1) := by decide +kernel
theorem dX7_ordered_1 : decode cX7_ordered 1 = .ok (.getfield 10, 3) := by decide +kernel
theorem dX7_ordered_4 : decode cX7_ordered 4 = .ok (.iload_n 1, 1) := by decide +kernel
theorem dX7_ordered_5 : decode cX7_ordered 5 = .ok (.iload_n 2, 1) := by decide +kernel
theorem dX7_ordered_6 : decode cX7_ordered 6 = .ok (.invokevirtual 93, 3) := by decide +kernel
theorem dX7_ordered_9 : decode cX7_ordered 9 = .ok (.ireturn, 1) := by decide +kernel
theorem dX7_count_0 : decode cX7_count 0 = .ok (.iload_n 1, 1) := by decide +kernel
theorem dX7_count_1 : decode cX7_count 1 = .ok (.bipush 14, 2) := by decide +kernel
theorem dX7_count_3 : decode cX7_count 3 = .ok (.if_icmp .ne 11, 3) := by decide +kernel
theorem dX7_count_6 : decode cX7_count 6 = .ok (.aload_n 0, 1) := by decide +kernel
theorem dX7_count_7 : decode cX7_count 7 = .ok (.getfield 33, 3) := by decide +kernel
theorem dX7_count_10 : decode cX7_count 10 = .ok (.invokevirtual 96, 3) := by decide +kernel
theorem dX7_count_13 : decode cX7_count 13 = .ok (.ireturn, 1) := by decide +kernel
theorem dX7_count_14 : decode cX7_count 14 = .ok (.iload_n 1, 1) := by decide +kernel
theorem dX7_count_15 : decode cX7_count 15 = .ok (.bipush 15, 2) := by decide +kernel
theorem dX7_count_17 : decode cX7_count 17 = .ok (.if_icmp .ne 11, 3) := by decide +kernel
theorem dX7_count_20 : decode cX7_count 20 = .ok (.aload_n 0, 1) := by decide +kernel
theorem dX7_count_21 : decode cX7_count 21 = .ok (.getfield 19, 3) := by decide +kernel
theorem dX7_count_24 : decode cX7_count 24 = .ok (.invokevirtual 99, 3) := by decide +kernel
theorem dX7_count_27 : decode cX7_count 27 = .ok (.ireturn, 1) := by decide +kernel
theorem dX7_count_28 : decode cX7_count 28 = .ok (.aload_n 0, 1) := by decide +kernel
theorem dX7_count_29 : decode cX7_count 29 = .ok (.getfield 10, 3) := by decide +kernel
theorem dX7_count_32 : decode cX7_count 32 = .ok (.iload_n 1, 1) := by decide +kernel
theorem dX7_count_33 : decode cX7_count 33 = .ok (.invokevirtual 100, 3) := by decide +kernel
theorem dX7_count_36 : decode cX7_count 36 = .ok (.ireturn, 1) := by decide +kernel
theorem dX7_why_0 : decode cX7_why 0 = .ok (.aload_n 0, 1) := by decide +kernel
theorem dX7_why_1 : decode cX7_why 1 = .ok (.getfield 10, 3) := by decide +kernel
theorem dX7_why_4 : decode cX7_why 4 = .ok (.iload_n 1, 1) := by decide +kernel
theorem dX7_why_5 : decode cX7_why 5 = .ok (.iload_n 2, 1) := by decide +kernel
theorem dX7_why_6 : decode cX7_why 6 = .ok (.iload_n 3, 1) := by decide +kernel
theorem dX7_why_7 : decode cX7_why 7 = .ok (.invokevirtual 103, 3) := by decide +kernel
theorem dX7_why_10 : decode cX7_why 10 = .ok (.ireturn, 1) := by decide +kernel
theorem dX7_unsurest_0 : decode cX7_unsurest 0 = .ok (.aload_n 0, 1) := by decide +kernel
theorem dX7_unsurest_1 : decode cX7_unsurest 1 = .ok (.getfield 10, 3) := by decide +kernel
theorem dX7_unsurest_4 : decode cX7_unsurest 4 = .ok (.iload_n 1, 1) := by decide +kernel
theorem dX7_unsurest_5 : decode cX7_unsurest 5 = .ok (.invokevirtual 106, 3) := by decide +kernel
theorem dX7_unsurest_8 : decode cX7_unsurest 8 = .ok (.ireturn, 1) := by decide +kernel
theorem dX7_firstOrder_0 : decode cX7_firstOrder 0 = .ok (.aload_n 0, 1) := by decide +kernel
theorem dX7_firstOrder_1 : decode cX7_firstOrder 1 = .ok (.getfield 10, 3) := by decide +kernel
theorem dX7_firstOrder_4 : decode cX7_firstOrder 4 = .ok (.iload_n 1, 1) := by decide +kernel
theorem dX7_firstOrder_5 : decode cX7_firstOrder 5 = .ok (.invokevirtual 109, 3) := by decide +kernel
theorem dX7_firstOrder_8 : decode cX7_firstOrder 8 = .ok (.ireturn, 1) := by decide +kernel
theorem dX7_wasted_0 : decode cX7_wasted 0 = .ok (.aload_n 0, 1) := by decide +kernel
theorem dX7_wasted_1 : decode cX7_wasted 1 = .ok (.getfield 10, 3) := by decide +kernel
theorem dX7_wasted_4 : decode cX7_wasted 4 = .ok (.invokevirtual 112, 3) := by decide +kernel
theorem dX7_wasted_7 : decode cX7_wasted 7 = .ok (.ireturn, 1) := by decide +kernel
theorem dX7_put_0 : decode cX7_put 0 = .ok (.aload_n 0, 1) := by decide +kernel
theorem dX7_put_1 : decode cX7_put 1 = .ok (.getfield 33, 3) := by decide +kernel
theorem dX7_put_4 : decode cX7_put 4 = .ok (.lload_n 1, 1) := by decide +kernel
theorem dX7_put_5 : decode cX7_put 5 = .ok (.invokevirtual 115, 3) := by decide +kernel
theorem dX7_put_8 : decode cX7_put 8 = .ok (.ireturn, 1) := by decide +kernel
theorem dX7_wipe_0 : decode cX7_wipe 0 = .ok (.aload_n 0, 1) := by decide +kernel
theorem dX7_wipe_1 : decode cX7_wipe 1 = .ok (.getfield 33, 3) := by decide +kernel
theorem dX7_wipe_4 : decode cX7_wipe 4 = .ok (.invokevirtual 119, 3) := by decide +kernel
theorem dX7_wipe_7 : decode cX7_wipe 7 = .ok (.ireturn, 1) := by decide +kernel
theorem dX7_fault_0 : decode cX7_fault 0 = .ok (.aload_n 0, 1) := by decide +kernel
theorem dX7_fault_1 : decode cX7_fault 1 = .ok (.getfield 42, 3) := by decide +kernel
theorem dX7_fault_4 : decode cX7_fault 4 = .ok (.invokevirtual 122, 3) := by decide +kernel
theorem dX7_fault_7 : decode cX7_fault 7 = .ok (.ireturn, 1) := by decide +kernel
theorem dX7_carryOut_0 : decode cX7_carryOut 0 = .ok (.aload_n 0, 1) := by decide +kernel
theorem dX7_carryOut_1 : decode cX7_carryOut 1 = .ok (.getfield 42, 3) := by decide +kernel
theorem dX7_carryOut_4 : decode cX7_carryOut 4 = .ok (.invokevirtual 122, 3) := by decide +kernel
theorem dX7_carryOut_7 : decode cX7_carryOut 7 = .ok (.bipush (-6), 2) := by decide +kernel
theorem dX7_carryOut_9 : decode cX7_carryOut 9 = .ok (.if_icmp .eq 6, 3) := by decide +kernel
theorem dX7_carryOut_12 : decode cX7_carryOut 12 = .ok (.bipush (-3), 2) := by decide +kernel
theorem dX7_carryOut_14 : decode cX7_carryOut 14 = .ok (.ireturn, 1) := by decide +kernel
theorem dX7_carryOut_15 : decode cX7_carryOut 15 = .ok (.aload_n 0, 1) := by decide +kernel
theorem dX7_carryOut_16 : decode cX7_carryOut 16 = .ok (.getfield 19, 3) := by decide +kernel
theorem dX7_carryOut_19 : decode cX7_carryOut 19 = .ok (.aload_n 0, 1) := by decide +kernel
theorem dX7_carryOut_20 : decode cX7_carryOut 20 = .ok (.getfield 10, 3) := by decide +kernel
theorem dX7_carryOut_23 : decode cX7_carryOut 23 = .ok (.invokevirtual 46, 3) := by decide +kernel
theorem dX7_carryOut_26 : decode cX7_carryOut 26 = .ok (.aload_n 0, 1) := by decide +kernel
theorem dX7_carryOut_27 : decode cX7_carryOut 27 = .ok (.invokevirtual 125, 3) := by decide +kernel
theorem dX7_carryOut_30 : decode cX7_carryOut 30 = .ok (.istore_n 1, 1) := by decide +kernel
theorem dX7_carryOut_31 : decode cX7_carryOut 31 = .ok (.aload_n 0, 1) := by decide +kernel
theorem dX7_carryOut_32 : decode cX7_carryOut 32 = .ok (.getfield 33, 3) := by decide +kernel
theorem dX7_carryOut_35 : decode cX7_carryOut 35 = .ok (.invokevirtual 119, 3) := by decide +kernel
theorem dX7_carryOut_38 : decode cX7_carryOut 38 = .ok (.pop, 1) := by decide +kernel
theorem dX7_carryOut_39 : decode cX7_carryOut 39 = .ok (.aload_n 0, 1) := by decide +kernel
theorem dX7_carryOut_40 : decode cX7_carryOut 40 = .ok (.getfield 19, 3) := by decide +kernel
theorem dX7_carryOut_43 : decode cX7_carryOut 43 = .ok (.iload_n 1, 1) := by decide +kernel
theorem dX7_carryOut_44 : decode cX7_carryOut 44 = .ok (.invokevirtual 54, 3) := by decide +kernel
theorem dX7_carryOut_47 : decode cX7_carryOut 47 = .ok (.ireturn, 1) := by decide +kernel
theorem dX7_undo_0 : decode cX7_undo 0 = .ok (.aload_n 0, 1) := by decide +kernel
theorem dX7_undo_1 : decode cX7_undo 1 = .ok (.getfield 19, 3) := by decide +kernel
theorem dX7_undo_4 : decode cX7_undo 4 = .ok (.aload_n 0, 1) := by decide +kernel
theorem dX7_undo_5 : decode cX7_undo 5 = .ok (.getfield 10, 3) := by decide +kernel
theorem dX7_undo_8 : decode cX7_undo 8 = .ok (.invokevirtual 128, 3) := by decide +kernel
theorem dX7_undo_11 : decode cX7_undo 11 = .ok (.ireturn, 1) := by decide +kernel
theorem dX7_save_0 : decode cX7_save 0 = .ok (.aload_n 0, 1) := by decide +kernel
theorem dX7_save_1 : decode cX7_save 1 = .ok (.getfield 26, 3) := by decide +kernel
theorem dX7_save_4 : decode cX7_save 4 = .ok (.iload_n 1, 1) := by decide +kernel
theorem dX7_save_5 : decode cX7_save 5 = .ok (.aload_n 0, 1) := by decide +kernel
theorem dX7_save_6 : decode cX7_save 6 = .ok (.getfield 10, 3) := by decide +kernel
theorem dX7_save_9 : decode cX7_save 9 = .ok (.invokevirtual 132, 3) := by decide +kernel
theorem dX7_save_12 : decode cX7_save 12 = .ok (.ireturn, 1) := by decide +kernel
theorem dX7_restore_0 : decode cX7_restore 0 = .ok (.aload_n 0, 1) := by decide +kernel
theorem dX7_restore_1 : decode cX7_restore 1 = .ok (.getfield 19, 3) := by decide +kernel
theorem dX7_restore_4 : decode cX7_restore 4 = .ok (.aload_n 0, 1) := by decide +kernel
theorem dX7_restore_5 : decode cX7_restore 5 = .ok (.getfield 10, 3) := by decide +kernel
theorem dX7_restore_8 : decode cX7_restore 8 = .ok (.invokevirtual 46, 3) := by decide +kernel
theorem dX7_restore_11 : decode cX7_restore 11 = .ok (.aload_n 0, 1) := by decide +kernel
theorem dX7_restore_12 : decode cX7_restore 12 = .ok (.getfield 19, 3) := by decide +kernel
theorem dX7_restore_15 : decode cX7_restore 15 = .ok (.aload_n 0, 1) := by decide +kernel
theorem dX7_restore_16 : decode cX7_restore 16 = .ok (.getfield 26, 3) := by decide +kernel
theorem dX7_restore_19 : decode cX7_restore 19 = .ok (.iload_n 1, 1) := by decide +kernel
theorem dX7_restore_20 : decode cX7_restore 20 = .ok (.aload_n 0, 1) := by decide +kernel
theorem dX7_restore_21 : decode cX7_restore 21 = .ok (.getfield 10, 3) := by decide +kernel
theorem dX7_restore_24 : decode cX7_restore 24 = .ok (.invokevirtual 136, 3) := by decide +kernel
theorem dX7_restore_27 : decode cX7_restore 27 = .ok (.invokevirtual 54, 3) := by decide +kernel
theorem dX7_restore_30 : decode cX7_restore 30 = .ok (.ireturn, 1) := by decide +kernel
theorem dX7_carryOutAll_0 : decode cX7_carryOutAll 0 = .ok (.aload_n 0, 1) := by decide +kernel
theorem dX7_carryOutAll_1 : decode cX7_carryOutAll 1 = .ok (.getfield 42, 3) := by decide +kernel
theorem dX7_carryOutAll_4 : decode cX7_carryOutAll 4 = .ok (.invokevirtual 139, 3) := by decide +kernel
theorem dX7_carryOutAll_7 : decode cX7_carryOutAll 7 = .ok (.iconst 0, 1) := by decide +kernel
theorem dX7_carryOutAll_8 : decode cX7_carryOutAll 8 = .ok (.istore_n 1, 1) := by decide +kernel
theorem dX7_carryOutAll_9 : decode cX7_carryOutAll 9 = .ok (.iload_n 1, 1) := by decide +kernel
theorem dX7_carryOutAll_10 : decode cX7_carryOutAll 10 = .ok (.bipush 80, 2) := by decide +kernel
theorem dX7_carryOutAll_12 : decode cX7_carryOutAll 12 = .ok (.if_icmp .ge 54, 3) := by decide +kernel
theorem dX7_carryOutAll_15 : decode cX7_carryOutAll 15 = .ok (.iload_n 1, 1) := by decide +kernel
theorem dX7_carryOutAll_16 : decode cX7_carryOutAll 16 = .ok (.ifCond .eq 15, 3) := by decide +kernel
theorem dX7_carryOutAll_19 : decode cX7_carryOutAll 19 = .ok (.aload_n 0, 1) := by decide +kernel
theorem dX7_carryOutAll_20 : decode cX7_carryOutAll 20 = .ok (.getfield 42, 3) := by decide +kernel
theorem dX7_carryOutAll_23 : decode cX7_carryOutAll 23 = .ok (.bipush 59, 2) := by decide +kernel
theorem dX7_carryOutAll_25 : decode cX7_carryOutAll 25 = .ok (.invokevirtual 142, 3) := by decide +kernel
theorem dX7_carryOutAll_28 : decode cX7_carryOutAll 28 = .ok (.ifCond .eq 7, 3) := by decide +kernel
theorem dX7_carryOutAll_31 : decode cX7_carryOutAll 31 = .ok (.iconst 1, 1) := by decide +kernel
theorem dX7_carryOutAll_32 : decode cX7_carryOutAll 32 = .ok (.goto 4, 3) := by decide +kernel
theorem dX7_carryOutAll_35 : decode cX7_carryOutAll 35 = .ok (.iconst 0, 1) := by decide +kernel
theorem dX7_carryOutAll_36 : decode cX7_carryOutAll 36 = .ok (.istore_n 2, 1) := by decide +kernel
theorem dX7_carryOutAll_37 : decode cX7_carryOutAll 37 = .ok (.iload_n 2, 1) := by decide +kernel
theorem dX7_carryOutAll_38 : decode cX7_carryOutAll 38 = .ok (.ifCond .eq 20, 3) := by decide +kernel
theorem dX7_carryOutAll_41 : decode cX7_carryOutAll 41 = .ok (.aload_n 0, 1) := by decide +kernel
theorem dX7_carryOutAll_42 : decode cX7_carryOutAll 42 = .ok (.getfield 42, 3) := by decide +kernel
theorem dX7_carryOutAll_45 : decode cX7_carryOutAll 45 = .ok (.invokevirtual 146, 3) := by decide +kernel
theorem dX7_carryOutAll_48 : decode cX7_carryOutAll 48 = .ok (.ifCond .eq 10, 3) := by decide +kernel
theorem dX7_carryOutAll_51 : decode cX7_carryOutAll 51 = .ok (.aload_n 0, 1) := by decide +kernel
theorem dX7_carryOutAll_52 : decode cX7_carryOutAll 52 = .ok (.invokevirtual 150, 3) := by decide +kernel
theorem dX7_carryOutAll_55 : decode cX7_carryOutAll 55 = .ok (.ifCond .ge 5, 3) := by decide +kernel
theorem dX7_carryOutAll_58 : decode cX7_carryOutAll 58 = .ok (.iload_n 1, 1) := by decide +kernel
theorem dX7_carryOutAll_59 : decode cX7_carryOutAll 59 = .ok (.ireturn, 1) := by decide +kernel
theorem dX7_carryOutAll_60 : decode cX7_carryOutAll 60 = .ok (.iinc 1 1, 3) := by decide +kernel
theorem dX7_carryOutAll_63 : decode cX7_carryOutAll 63 = .ok (.goto (-54), 3) := by decide +kernel
theorem dX7_carryOutAll_66 : decode cX7_carryOutAll 66 = .ok (.bipush 80, 2) := by decide +kernel
theorem dX7_carryOutAll_68 : decode cX7_carryOutAll 68 = .ok (.ireturn, 1) := by decide +kernel
theorem dX7_carryOutOne_0 : decode cX7_carryOutOne 0 = .ok (.aload_n 0, 1) := by decide +kernel
theorem dX7_carryOutOne_1 : decode cX7_carryOutOne 1 = .ok (.getfield 42, 3) := by decide +kernel
theorem dX7_carryOutOne_4 : decode cX7_carryOutOne 4 = .ok (.getfield 153, 3) := by decide +kernel
theorem dX7_carryOutOne_7 : decode cX7_carryOutOne 7 = .ok (.lookupswitch 183 #[(99, 116), (107, 167), (111, 87), (112, 57), (118, 65), (120, 175)], 57) := by decide +kernel
theorem dX7_carryOutOne_64 : decode cX7_carryOutOne 64 = .ok (.aload_n 0, 1) := by decide +kernel
theorem dX7_carryOutOne_65 : decode cX7_carryOutOne 65 = .ok (.getfield 10, 3) := by decide +kernel
theorem dX7_carryOutOne_68 : decode cX7_carryOutOne 68 = .ok (.invokevirtual 62, 3) := by decide +kernel
theorem dX7_carryOutOne_71 : decode cX7_carryOutOne 71 = .ok (.ireturn, 1) := by decide +kernel
theorem dX7_carryOutOne_72 : decode cX7_carryOutOne 72 = .ok (.aload_n 0, 1) := by decide +kernel
theorem dX7_carryOutOne_73 : decode cX7_carryOutOne 73 = .ok (.getfield 10, 3) := by decide +kernel
theorem dX7_carryOutOne_76 : decode cX7_carryOutOne 76 = .ok (.aload_n 0, 1) := by decide +kernel
theorem dX7_carryOutOne_77 : decode cX7_carryOutOne 77 = .ok (.getfield 42, 3) := by decide +kernel
theorem dX7_carryOutOne_80 : decode cX7_carryOutOne 80 = .ok (.getfield 157, 3) := by decide +kernel
theorem dX7_carryOutOne_83 : decode cX7_carryOutOne 83 = .ok (.aload_n 0, 1) := by decide +kernel
theorem dX7_carryOutOne_84 : decode cX7_carryOutOne 84 = .ok (.getfield 42, 3) := by decide +kernel
theorem dX7_carryOutOne_87 : decode cX7_carryOutOne 87 = .ok (.getfield 160, 3) := by decide +kernel
theorem dX7_carryOutOne_90 : decode cX7_carryOutOne 90 = .ok (.invokevirtual 66, 3) := by decide +kernel
theorem dX7_carryOutOne_93 : decode cX7_carryOutOne 93 = .ok (.ireturn, 1) := by decide +kernel
theorem dX7_carryOutOne_94 : decode cX7_carryOutOne 94 = .ok (.aload_n 0, 1) := by decide +kernel
theorem dX7_carryOutOne_95 : decode cX7_carryOutOne 95 = .ok (.getfield 10, 3) := by decide +kernel
theorem dX7_carryOutOne_98 : decode cX7_carryOutOne 98 = .ok (.aload_n 0, 1) := by decide +kernel
theorem dX7_carryOutOne_99 : decode cX7_carryOutOne 99 = .ok (.getfield 42, 3) := by decide +kernel
theorem dX7_carryOutOne_102 : decode cX7_carryOutOne 102 = .ok (.getfield 157, 3) := by decide +kernel
theorem dX7_carryOutOne_105 : decode cX7_carryOutOne 105 = .ok (.aload_n 0, 1) := by decide +kernel
theorem dX7_carryOutOne_106 : decode cX7_carryOutOne 106 = .ok (.getfield 42, 3) := by decide +kernel
theorem dX7_carryOutOne_109 : decode cX7_carryOutOne 109 = .ok (.getfield 163, 3) := by decide +kernel
theorem dX7_carryOutOne_112 : decode cX7_carryOutOne 112 = .ok (.aload_n 0, 1) := by decide +kernel
theorem dX7_carryOutOne_113 : decode cX7_carryOutOne 113 = .ok (.getfield 42, 3) := by decide +kernel
theorem dX7_carryOutOne_116 : decode cX7_carryOutOne 116 = .ok (.getfield 166, 3) := by decide +kernel
theorem dX7_carryOutOne_119 : decode cX7_carryOutOne 119 = .ok (.invokevirtual 69, 3) := by decide +kernel
theorem dX7_carryOutOne_122 : decode cX7_carryOutOne 122 = .ok (.ireturn, 1) := by decide +kernel
theorem dX7_carryOutOne_123 : decode cX7_carryOutOne 123 = .ok (.aload_n 0, 1) := by decide +kernel
theorem dX7_carryOutOne_124 : decode cX7_carryOutOne 124 = .ok (.getfield 42, 3) := by decide +kernel
theorem dX7_carryOutOne_127 : decode cX7_carryOutOne 127 = .ok (.getfield 166, 3) := by decide +kernel
theorem dX7_carryOutOne_130 : decode cX7_carryOutOne 130 = .ok (.bipush (-6), 2) := by decide +kernel
theorem dX7_carryOutOne_132 : decode cX7_carryOutOne 132 = .ok (.if_icmp .ne 20, 3) := by decide +kernel
theorem dX7_carryOutOne_135 : decode cX7_carryOutOne 135 = .ok (.aload_n 0, 1) := by decide +kernel
theorem dX7_carryOutOne_136 : decode cX7_carryOutOne 136 = .ok (.getfield 10, 3) := by decide +kernel
theorem dX7_carryOutOne_139 : decode cX7_carryOutOne 139 = .ok (.aload_n 0, 1) := by decide +kernel
theorem dX7_carryOutOne_140 : decode cX7_carryOutOne 140 = .ok (.getfield 42, 3) := by decide +kernel
theorem dX7_carryOutOne_143 : decode cX7_carryOutOne 143 = .ok (.getfield 157, 3) := by decide +kernel
theorem dX7_carryOutOne_146 : decode cX7_carryOutOne 146 = .ok (.invokevirtual 78, 3) := by decide +kernel
theorem dX7_carryOutOne_149 : decode cX7_carryOutOne 149 = .ok (.goto 24, 3) := by decide +kernel
theorem dX7_carryOutOne_152 : decode cX7_carryOutOne 152 = .ok (.aload_n 0, 1) := by decide +kernel
theorem dX7_carryOutOne_153 : decode cX7_carryOutOne 153 = .ok (.getfield 10, 3) := by decide +kernel
theorem dX7_carryOutOne_156 : decode cX7_carryOutOne 156 = .ok (.aload_n 0, 1) := by decide +kernel
theorem dX7_carryOutOne_157 : decode cX7_carryOutOne 157 = .ok (.getfield 42, 3) := by decide +kernel
theorem dX7_carryOutOne_160 : decode cX7_carryOutOne 160 = .ok (.getfield 157, 3) := by decide +kernel
theorem dX7_carryOutOne_163 : decode cX7_carryOutOne 163 = .ok (.aload_n 0, 1) := by decide +kernel
theorem dX7_carryOutOne_164 : decode cX7_carryOutOne 164 = .ok (.getfield 42, 3) := by decide +kernel
theorem dX7_carryOutOne_167 : decode cX7_carryOutOne 167 = .ok (.getfield 166, 3) := by decide +kernel
theorem dX7_carryOutOne_170 : decode cX7_carryOutOne 170 = .ok (.invokevirtual 81, 3) := by decide +kernel
theorem dX7_carryOutOne_173 : decode cX7_carryOutOne 173 = .ok (.ireturn, 1) := by decide +kernel
theorem dX7_carryOutOne_174 : decode cX7_carryOutOne 174 = .ok (.aload_n 0, 1) := by decide +kernel
theorem dX7_carryOutOne_175 : decode cX7_carryOutOne 175 = .ok (.getfield 10, 3) := by decide +kernel
theorem dX7_carryOutOne_178 : decode cX7_carryOutOne 178 = .ok (.invokevirtual 75, 3) := by decide +kernel
theorem dX7_carryOutOne_181 : decode cX7_carryOutOne 181 = .ok (.ireturn, 1) := by decide +kernel
theorem dX7_carryOutOne_182 : decode cX7_carryOutOne 182 = .ok (.aload_n 0, 1) := by decide +kernel
theorem dX7_carryOutOne_183 : decode cX7_carryOutOne 183 = .ok (.getfield 10, 3) := by decide +kernel
theorem dX7_carryOutOne_186 : decode cX7_carryOutOne 186 = .ok (.invokevirtual 84, 3) := by decide +kernel
theorem dX7_carryOutOne_189 : decode cX7_carryOutOne 189 = .ok (.ireturn, 1) := by decide +kernel
theorem dX7_carryOutOne_190 : decode cX7_carryOutOne 190 = .ok (.bipush (-3), 2) := by decide +kernel
theorem dX7_carryOutOne_192 : decode cX7_carryOutOne 192 = .ok (.ireturn, 1) := by decide +kernel
theorem dX8_init_0 : decode cX8_init 0 = .ok (.aload_n 0, 1) := by decide +kernel
theorem dX8_init_1 : decode cX8_init 1 = .ok (.invokespecial 1, 3) := by decide +kernel
theorem dX8_init_4 : decode cX8_init 4 = .ok (.aload_n 0, 1) := by decide +kernel
theorem dX8_init_5 : decode cX8_init 5 = .ok (.sipush 276, 3) := by decide +kernel
theorem dX8_init_8 : decode cX8_init 8 = .ok (.newarray .int, 2) := by decide +kernel
theorem dX8_init_10 : decode cX8_init 10 = .ok (.putfield 7, 3) := by decide +kernel
theorem dX8_init_13 : decode cX8_init 13 = .ok (.aload_n 0, 1) := by decide +kernel
theorem dX8_init_14 : decode cX8_init 14 = .ok (.sipush 276, 3) := by decide +kernel
theorem dX8_init_17 : decode cX8_init 17 = .ok (.newarray .int, 2) := by decide +kernel
theorem dX8_init_19 : decode cX8_init 19 = .ok (.putfield 13, 3) := by decide +kernel
theorem dX8_init_22 : decode cX8_init 22 = .ok (.aload_n 0, 1) := by decide +kernel
theorem dX8_init_23 : decode cX8_init 23 = .ok (.sipush 1656, 3) := by decide +kernel
theorem dX8_init_26 : decode cX8_init 26 = .ok (.newarray .int, 2) := by decide +kernel
theorem dX8_init_28 : decode cX8_init 28 = .ok (.putfield 16, 3) := by decide +kernel
theorem dX8_init_31 : decode cX8_init 31 = .ok (.aload_n 0, 1) := by decide +kernel
theorem dX8_init_32 : decode cX8_init 32 = .ok (.sipush 552, 3) := by decide +kernel
theorem dX8_init_35 : decode cX8_init 35 = .ok (.newarray .int, 2) := by decide +kernel
theorem dX8_init_37 : decode cX8_init 37 = .ok (.putfield 19, 3) := by decide +kernel
theorem dX8_init_40 : decode cX8_init 40 = .ok (.aload_n 0, 1) := by decide +kernel
theorem dX8_init_41 : decode cX8_init 41 = .ok (.iconst 2, 1) := by decide +kernel
theorem dX8_init_42 : decode cX8_init 42 = .ok (.newarray .boolean, 2) := by decide +kernel
theorem dX8_init_44 : decode cX8_init 44 = .ok (.putfield 22, 3) := by decide +kernel
theorem dX8_init_47 : decode cX8_init 47 = .ok (.aload_n 0, 1) := by decide +kernel
theorem dX8_init_48 : decode cX8_init 48 = .ok (.sipush 164, 3) := by decide +kernel
theorem dX8_init_51 : decode cX8_init 51 = .ok (.newarray .int, 2) := by decide +kernel
theorem dX8_init_53 : decode cX8_init 53 = .ok (.putfield 26, 3) := by decide +kernel
theorem dX8_init_56 : decode cX8_init 56 = .ok (.aload_n 0, 1) := by decide +kernel
theorem dX8_init_57 : decode cX8_init 57 = .ok (.bipush 80, 2) := by decide +kernel
theorem dX8_init_59 : decode cX8_init 59 = .ok (.newarray .char, 2) := by decide +kernel
theorem dX8_init_61 : decode cX8_init 61 = .ok (.putfield 29, 3) := by decide +kernel
theorem dX8_init_64 : decode cX8_init 64 = .ok (.aload_n 0, 1) := by decide +kernel
theorem dX8_init_65 : decode cX8_init 65 = .ok (.getfield 7, 3) := by decide +kernel
theorem dX8_init_68 : decode cX8_init 68 = .ok (.iconst 0, 1) := by decide +kernel
theorem dX8_init_69 : decode cX8_init 69 = .ok (.iconst 1, 1) := by decide +kernel
theorem dX8_init_70 : decode cX8_init 70 = .ok (.iastore, 1) := by decide +kernel
theorem dX8_init_71 : decode cX8_init 71 = .ok (.aload_n 0, 1) := by decide +kernel
theorem dX8_init_72 : decode cX8_init 72 = .ok (.getfield 7, 3) := by decide +kernel
theorem dX8_init_75 : decode cX8_init 75 = .ok (.iconst 1, 1) := by decide +kernel
theorem dX8_init_76 : decode cX8_init 76 = .ok (.iconst 4, 1) := by decide +kernel
theorem dX8_init_77 : decode cX8_init 77 = .ok (.iastore, 1) := by decide +kernel
theorem dX8_init_78 : decode cX8_init 78 = .ok (.aload_n 0, 1) := by decide +kernel
theorem dX8_init_79 : decode cX8_init 79 = .ok (.getfield 7, 3) := by decide +kernel
theorem dX8_init_82 : decode cX8_init 82 = .ok (.iconst 2, 1) := by decide +kernel
theorem dX8_init_83 : decode cX8_init 83 = .ok (.iconst 3, 1) := by decide +kernel
theorem dX8_init_84 : decode cX8_init 84 = .ok (.iastore, 1) := by decide +kernel
theorem dX8_init_85 : decode cX8_init 85 = .ok (.aload_n 0, 1) := by decide +kernel
theorem dX8_init_86 : decode cX8_init 86 = .ok (.getfield 7, 3) := by decide +kernel
theorem dX8_init_89 : decode cX8_init 89 = .ok (.iconst 3, 1) := by decide +kernel
theorem dX8_init_90 : decode cX8_init 90 = .ok (.iconst 5, 1) := by decide +kernel
theorem dX8_init_91 : decode cX8_init 91 = .ok (.iastore, 1) := by decide +kernel
theorem dX8_init_92 : decode cX8_init 92 = .ok (.iconst 0, 1) := by decide +kernel
theorem dX8_init_93 : decode cX8_init 93 = .ok (.istore_n 1, 1) := by decide +kernel
theorem dX8_init_94 : decode cX8_init 94 = .ok (.iload_n 1, 1) := by decide +kernel
theorem dX8_init_95 : decode cX8_init 95 = .ok (.bipush 15, 2) := by decide +kernel
theorem dX8_init_97 : decode cX8_init 97 = .ok (.if_icmp .ge 19, 3) := by decide +kernel
theorem dX8_init_100 : decode cX8_init 100 = .ok (.aload_n 0, 1) := by decide +kernel
theorem dX8_init_101 : decode cX8_init 101 = .ok (.getfield 7, 3) := by decide +kernel
theorem dX8_init_104 : decode cX8_init 104 = .ok (.bipush 8, 2) := by decide +kernel
theorem dX8_init_106 : decode cX8_init 106 = .ok (.iload_n 1, 1) := by decide +kernel
theorem dX8_init_107 : decode cX8_init 107 = .ok (.iadd, 1) := by decide +kernel
theorem dX8_init_108 : decode cX8_init 108 = .ok (.iconst 1, 1) := by decide +kernel
theorem dX8_init_109 : decode cX8_init 109 = .ok (.iastore, 1) := by decide +kernel
theorem dX8_init_110 : decode cX8_init 110 = .ok (.iinc 1 1, 3) := by decide +kernel
theorem dX8_init_113 : decode cX8_init 113 = .ok (.goto (-19), 3) := by decide +kernel
theorem dX8_init_116 : decode cX8_init 116 = .ok (.return_, 1) := by decide +kernel
theorem dX8_in_0 : decode cX8_in 0 = .ok (.iload_n 0, 1) := by decide +kernel
theorem dX8_in_1 : decode cX8_in 1 = .ok (.iload_n 1, 1) := by decide +kernel
theorem dX8_in_2 : decode cX8_in 2 = .ok (.if_icmp .lt 12, 3) := by decide +kernel
theorem dX8_in_5 : decode cX8_in 5 = .ok (.iload_n 0, 1) := by decide +kernel
theorem dX8_in_6 : decode cX8_in 6 = .ok (.iload_n 2, 1) := by decide +kernel
theorem dX8_in_7 : decode cX8_in 7 = .ok (.if_icmp .gt 7, 3) := by decide +kernel
theorem dX8_in_10 : decode cX8_in 10 = .ok (.iconst 1, 1) := by decide +kernel
theorem dX8_in_11 : decode cX8_in 11 = .ok (.goto 4, 3) := by decide +kernel
theorem dX8_in_14 : decode cX8_in 14 = .ok (.iconst 0, 1) := by decide +kernel
theorem dX8_in_15 : decode cX8_in 15 = .ok (.ireturn, 1) := by decide +kernel
theorem dX8_p_0 : decode cX8_p 0 = .ok (.bipush 38, 2) := by decide +kernel
theorem dX8_p_2 : decode cX8_p 2 = .ok (.bipush 17, 2) := by decide +kernel
theorem dX8_p_4 : decode cX8_p 4 = .ok (.iload_n 0, 1) := by decide +kernel
theorem dX8_p_5 : decode cX8_p 5 = .ok (.imul, 1) := by decide +kernel
theorem dX8_p_6 : decode cX8_p 6 = .ok (.iadd, 1) := by decide +kernel
theorem dX8_p_7 : decode cX8_p 7 = .ok (.ireturn, 1) := by decide +kernel
theorem dX8_d_0 : decode cX8_d 0 = .ok (.bipush 23, 2) := by decide +kernel
theorem dX8_d_2 : decode cX8_d 2 = .ok (.iconst 5, 1) := by decide +kernel
theorem dX8_d_3 : decode cX8_d 3 = .ok (.iload_n 0, 1) := by decide +kernel
theorem dX8_d_4 : decode cX8_d 4 = .ok (.imul, 1) := by decide +kernel
theorem dX8_d_5 : decode cX8_d 5 = .ok (.iadd, 1) := by decide +kernel
theorem dX8_d_6 : decode cX8_d 6 = .ok (.ireturn, 1) := by decide +kernel
theorem dX8_isPerson_0 : decode cX8_isPerson 0 = .ok (.iload_n 1, 1) := by decide +kernel
theorem dX8_isPerson_1 : decode cX8_isPerson 1 = .ok (.iconst 0, 1) := by decide +kernel
theorem dX8_isPerson_2 : decode cX8_isPerson 2 = .ok (.aload_n 0, 1) := by decide +kernel
theorem dX8_isPerson_3 : decode cX8_isPerson 3 = .ok (.getfield 7, 3) := by decide +kernel
theorem dX8_isPerson_6 : decode cX8_isPerson 6 = .ok (.iconst 5, 1) := by decide +kernel
theorem dX8_isPerson_7 : decode cX8_isPerson 7 = .ok (.iaload, 1) := by decide +kernel
theorem dX8_isPerson_8 : decode cX8_isPerson 8 = .ok (.iconst 1, 1) := by decide +kernel
theorem dX8_isPerson_9 : decode cX8_isPerson 9 = .ok (.isub, 1) := by decide +kernel
theorem dX8_isPerson_10 : decode cX8_isPerson 10 = .ok (.invokestatic 33, 3) := by decide +kernel
theorem dX8_isPerson_13 : decode cX8_isPerson 13 = .ok (.ireturn, 1) := by decide +kernel
theorem dX8_isDish_0 : decode cX8_isDish 0 = .ok (.iload_n 0, 1) := by decide +kernel
theorem dX8_isDish_1 : decode cX8_isDish 1 = .ok (.iconst 0, 1) := by decide +kernel
theorem dX8_isDish_2 : decode cX8_isDish 2 = .ok (.iconst 2, 1) := by decide +kernel
theorem dX8_isDish_3 : decode cX8_isDish 3 = .ok (.invokestatic 33, 3) := by decide +kernel
theorem dX8_isDish_6 : decode cX8_isDish 6 = .ok (.ireturn, 1) := by decide +kernel
theorem dX8_hold_0 : decode cX8_hold 0 = .ok (.iconst 0, 1) := by decide +kernel
theorem dX8_hold_1 : decode cX8_hold 1 = .ok (.istore_n 1, 1) := by decide +kernel
theorem dX8_hold_2 : decode cX8_hold 2 = .ok (.iload_n 1, 1) := by decide +kernel
theorem dX8_hold_3 : decode cX8_hold 3 = .ok (.sipush 276, 3) := by decide +kernel
theorem dX8_hold_6 : decode cX8_hold 6 = .ok (.if_icmp .ge 21, 3) := by decide +kernel
theorem dX8_hold_9 : decode cX8_hold 9 = .ok (.aload_n 0, 1) := by decide +kernel
theorem dX8_hold_10 : decode cX8_hold 10 = .ok (.getfield 13, 3) := by decide +kernel
theorem dX8_hold_13 : decode cX8_hold 13 = .ok (.iload_n 1, 1) := by decide +kernel
theorem dX8_hold_14 : decode cX8_hold 14 = .ok (.aload_n 0, 1) := by decide +kernel
theorem dX8_hold_15 : decode cX8_hold 15 = .ok (.getfield 7, 3) := by decide +kernel
theorem dX8_hold_18 : decode cX8_hold 18 = .ok (.iload_n 1, 1) := by decide +kernel
theorem dX8_hold_19 : decode cX8_hold 19 = .ok (.iaload, 1) := by decide +kernel
theorem dX8_hold_20 : decode cX8_hold 20 = .ok (.iastore, 1) := by decide +kernel
theorem dX8_hold_21 : decode cX8_hold 21 = .ok (.iinc 1 1, 3) := by decide +kernel
theorem dX8_hold_24 : decode cX8_hold 24 = .ok (.goto (-22), 3) := by decide +kernel
theorem dX8_hold_27 : decode cX8_hold 27 = .ok (.return_, 1) := by decide +kernel
theorem dX8_recorded_0 : decode cX8_recorded 0 = .ok (.iload_n 1, 1) := by decide +kernel
theorem dX8_recorded_1 : decode cX8_recorded 1 = .ok (.ifCond .lt 99, 3) := by decide +kernel
theorem dX8_recorded_4 : decode cX8_recorded 4 = .ok (.aload_n 0, 1) := by decide +kernel
theorem dX8_recorded_5 : decode cX8_recorded 5 = .ok (.getfield 37, 3) := by decide +kernel
theorem dX8_recorded_8 : decode cX8_recorded 8 = .ok (.bipush 6, 2) := by decide +kernel
theorem dX8_recorded_10 : decode cX8_recorded 10 = .ok (.if_icmp .ne 44, 3) := by decide +kernel
theorem dX8_recorded_13 : decode cX8_recorded 13 = .ok (.iconst 0, 1) := by decide +kernel
theorem dX8_recorded_14 : decode cX8_recorded 14 = .ok (.istore_n 2, 1) := by decide +kernel
theorem dX8_recorded_15 : decode cX8_recorded 15 = .ok (.iload_n 2, 1) := by decide +kernel
theorem dX8_recorded_16 : decode cX8_recorded 16 = .ok (.sipush 1380, 3) := by decide +kernel
theorem dX8_recorded_19 : decode cX8_recorded 19 = .ok (.if_icmp .ge 25, 3) := by decide +kernel
theorem dX8_recorded_22 : decode cX8_recorded 22 = .ok (.aload_n 0, 1) := by decide +kernel
theorem dX8_recorded_23 : decode cX8_recorded 23 = .ok (.getfield 16, 3) := by decide +kernel
theorem dX8_recorded_26 : decode cX8_recorded 26 = .ok (.iload_n 2, 1) := by decide +kernel
theorem dX8_recorded_27 : decode cX8_recorded 27 = .ok (.aload_n 0, 1) := by decide +kernel
theorem dX8_recorded_28 : decode cX8_recorded 28 = .ok (.getfield 16, 3) := by decide +kernel
theorem dX8_recorded_31 : decode cX8_recorded 31 = .ok (.sipush 276, 3) := by decide +kernel
theorem dX8_recorded_34 : decode cX8_recorded 34 = .ok (.iload_n 2, 1) := by decide +kernel
theorem dX8_recorded_35 : decode cX8_recorded 35 = .ok (.iadd, 1) := by decide +kernel
theorem dX8_recorded_36 : decode cX8_recorded 36 = .ok (.iaload, 1) := by decide +kernel
theorem dX8_recorded_37 : decode cX8_recorded 37 = .ok (.iastore, 1) := by decide +kernel
theorem dX8_recorded_38 : decode cX8_recorded 38 = .ok (.iinc 2 1, 3) := by decide +kernel
theorem dX8_recorded_41 : decode cX8_recorded 41 = .ok (.goto (-26), 3) := by decide +kernel
theorem dX8_recorded_44 : decode cX8_recorded 44 = .ok (.aload_n 0, 1) := by decide +kernel
theorem dX8_recorded_45 : decode cX8_recorded 45 = .ok (.dup, 1) := by decide +kernel
theorem dX8_recorded_46 : decode cX8_recorded 46 = .ok (.getfield 37, 3) := by decide +kernel
theorem dX8_recorded_49 : decode cX8_recorded 49 = .ok (.iconst 1, 1) := by decide +kernel
theorem dX8_recorded_50 : decode cX8_recorded 50 = .ok (.isub, 1) := by decide +kernel
theorem dX8_recorded_51 : decode cX8_recorded 51 = .ok (.putfield 37, 3) := by decide +kernel
theorem dX8_recorded_54 : decode cX8_recorded 54 = .ok (.iconst 0, 1) := by decide +kernel
theorem dX8_recorded_55 : decode cX8_recorded 55 = .ok (.istore_n 2, 1) := by decide +kernel
theorem dX8_recorded_56 : decode cX8_recorded 56 = .ok (.iload_n 2, 1) := by decide +kernel
theorem dX8_recorded_57 : decode cX8_recorded 57 = .ok (.sipush 276, 3) := by decide +kernel
theorem dX8_recorded_60 : decode cX8_recorded 60 = .ok (.if_icmp .ge 30, 3) := by decide +kernel
theorem dX8_recorded_63 : decode cX8_recorded 63 = .ok (.aload_n 0, 1) := by decide +kernel
theorem dX8_recorded_64 : decode cX8_recorded 64 = .ok (.getfield 16, 3) := by decide +kernel
theorem dX8_recorded_67 : decode cX8_recorded 67 = .ok (.sipush 276, 3) := by decide +kernel
theorem dX8_recorded_70 : decode cX8_recorded 70 = .ok (.aload_n 0, 1) := by decide +kernel
theorem dX8_recorded_71 : decode cX8_recorded 71 = .ok (.getfield 37, 3) := by decide +kernel
theorem dX8_recorded_74 : decode cX8_recorded 74 = .ok (.imul, 1) := by decide +kernel
theorem dX8_recorded_75 : decode cX8_recorded 75 = .ok (.iload_n 2, 1) := by decide +kernel
theorem dX8_recorded_76 : decode cX8_recorded 76 = .ok (.iadd, 1) := by decide +kernel
theorem dX8_recorded_77 : decode cX8_recorded 77 = .ok (.aload_n 0, 1) := by decide +kernel
theorem dX8_recorded_78 : decode cX8_recorded 78 = .ok (.getfield 13, 3) := by decide +kernel
theorem dX8_recorded_81 : decode cX8_recorded 81 = .ok (.iload_n 2, 1) := by decide +kernel
theorem dX8_recorded_82 : decode cX8_recorded 82 = .ok (.iaload, 1) := by decide +kernel
theorem dX8_recorded_83 : decode cX8_recorded 83 = .ok (.iastore, 1) := by decide +kernel
theorem dX8_recorded_84 : decode cX8_recorded 84 = .ok (.iinc 2 1, 3) := by decide +kernel
theorem dX8_recorded_87 : decode cX8_recorded 87 = .ok (.goto (-31), 3) := by decide +kernel
theorem dX8_recorded_90 : decode cX8_recorded 90 = .ok (.aload_n 0, 1) := by decide +kernel
theorem dX8_recorded_91 : decode cX8_recorded 91 = .ok (.dup, 1) := by decide +kernel
theorem dX8_recorded_92 : decode cX8_recorded 92 = .ok (.getfield 37, 3) := by decide +kernel
theorem dX8_recorded_95 : decode cX8_recorded 95 = .ok (.iconst 1, 1) := by decide +kernel
theorem dX8_recorded_96 : decode cX8_recorded 96 = .ok (.iadd, 1) := by decide +kernel
theorem dX8_recorded_97 : decode cX8_recorded 97 = .ok (.putfield 37, 3) := by decide +kernel
theorem dX8_recorded_100 : decode cX8_recorded 100 = .ok (.iload_n 1, 1) := by decide +kernel
theorem dX8_recorded_101 : decode cX8_recorded 101 = .ok (.ireturn, 1) := by decide +kernel
theorem dX8_priceOn_0 : decode cX8_priceOn 0 = .ok (.aload_n 0, 1) := by decide +kernel
theorem dX8_priceOn_1 : decode cX8_priceOn 1 = .ok (.getfield 7, 3) := by decide +kernel
theorem dX8_priceOn_4 : decode cX8_priceOn 4 = .ok (.bipush 8, 2) := by decide +kernel
theorem dX8_priceOn_6 : decode cX8_priceOn 6 = .ok (.iload_n 1, 1) := by decide +kernel
theorem dX8_priceOn_7 : decode cX8_priceOn 7 = .ok (.iconst 5, 1) := by decide +kernel
theorem dX8_priceOn_8 : decode cX8_priceOn 8 = .ok (.irem, 1) := by decide +kernel
theorem dX8_priceOn_9 : decode cX8_priceOn 9 = .ok (.iconst 3, 1) := by decide +kernel
theorem dX8_priceOn_10 : decode cX8_priceOn 10 = .ok (.imul, 1) := by decide +kernel
theorem dX8_priceOn_11 : decode cX8_priceOn 11 = .ok (.iadd, 1) := by decide +kernel
theorem dX8_priceOn_12 : decode cX8_priceOn 12 = .ok (.iload_n 2, 1) := by decide +kernel
theorem dX8_priceOn_13 : decode cX8_priceOn 13 = .ok (.iadd, 1) := by decide +kernel
theorem dX8_priceOn_14 : decode cX8_priceOn 14 = .ok (.iaload, 1) := by decide +kernel
theorem dX8_priceOn_15 : decode cX8_priceOn 15 = .ok (.ireturn, 1) := by decide +kernel
theorem dX8_gives_0 : decode cX8_gives 0 = .ok (.aload_n 0, 1) := by decide +kernel
theorem dX8_gives_1 : decode cX8_gives 1 = .ok (.getfield 7, 3) := by decide +kernel
theorem dX8_gives_4 : decode cX8_gives 4 = .ok (.iload_n 1, 1) := by decide +kernel
theorem dX8_gives_5 : decode cX8_gives 5 = .ok (.invokestatic 41, 3) := by decide +kernel
theorem dX8_gives_8 : decode cX8_gives 8 = .ok (.iconst 0, 1) := by decide +kernel
theorem dX8_gives_9 : decode cX8_gives 9 = .ok (.iadd, 1) := by decide +kernel
theorem dX8_gives_10 : decode cX8_gives 10 = .ok (.iaload, 1) := by decide +kernel
theorem dX8_gives_11 : decode cX8_gives 11 = .ok (.iload_n 2, 1) := by decide +kernel
theorem dX8_gives_12 : decode cX8_gives 12 = .ok (.iadd, 1) := by decide +kernel
theorem dX8_gives_13 : decode cX8_gives 13 = .ok (.istore_n 3, 1) := by decide +kernel
theorem dX8_gives_14 : decode cX8_gives 14 = .ok (.aload_n 0, 1) := by decide +kernel
theorem dX8_gives_15 : decode cX8_gives 15 = .ok (.getfield 7, 3) := by decide +kernel
theorem dX8_gives_18 : decode cX8_gives 18 = .ok (.iload_n 1, 1) := by decide +kernel
theorem dX8_gives_19 : decode cX8_gives 19 = .ok (.invokestatic 41, 3) := by decide +kernel
theorem dX8_gives_22 : decode cX8_gives 22 = .ok (.iconst 0, 1) := by decide +kernel
theorem dX8_gives_23 : decode cX8_gives 23 = .ok (.iadd, 1) := by decide +kernel
theorem dX8_gives_24 : decode cX8_gives 24 = .ok (.iload_n 3, 1) := by decide +kernel
theorem dX8_gives_25 : decode cX8_gives 25 = .ok (.bipush 30, 2) := by decide +kernel
theorem dX8_gives_27 : decode cX8_gives 27 = .ok (.if_icmp .le 8, 3) := by decide +kernel
theorem dX8_gives_30 : decode cX8_gives 30 = .ok (.bipush 30, 2) := by decide +kernel
theorem dX8_gives_32 : decode cX8_gives 32 = .ok (.goto 4, 3) := by decide +kernel
theorem dX8_gives_35 : decode cX8_gives 35 = .ok (.iload_n 3, 1) := by decide +kernel
theorem dX8_gives_36 : decode cX8_gives 36 = .ok (.iastore, 1) := by decide +kernel
theorem dX8_gives_37 : decode cX8_gives 37 = .ok (.return_, 1) := by decide +kernel
theorem dX8_isFor_0 : decode cX8_isFor 0 = .ok (.aload_n 0, 1) := by decide +kernel
theorem dX8_isFor_1 : decode cX8_isFor 1 = .ok (.getfield 7, 3) := by decide +kernel
theorem dX8_isFor_4 : decode cX8_isFor 4 = .ok (.iload_n 1, 1) := by decide +kernel
theorem dX8_isFor_5 : decode cX8_isFor 5 = .ok (.invokestatic 41, 3) := by decide +kernel
theorem dX8_isFor_8 : decode cX8_isFor 8 = .ok (.iconst 1, 1) := by decide +kernel
theorem dX8_isFor_9 : decode cX8_isFor 9 = .ok (.iadd, 1) := by decide +kernel
theorem dX8_isFor_10 : decode cX8_isFor 10 = .ok (.iload_n 2, 1) := by decide +kernel
theorem dX8_isFor_11 : decode cX8_isFor 11 = .ok (.iadd, 1) := by decide +kernel
theorem dX8_isFor_12 : decode cX8_isFor 12 = .ok (.iaload, 1) := by decide +kernel
theorem dX8_isFor_13 : decode cX8_isFor 13 = .ok (.iload_n 3, 1) := by decide +kernel
theorem dX8_isFor_14 : decode cX8_isFor 14 = .ok (.iconst 1, 1) := by decide +kernel
theorem dX8_isFor_15 : decode cX8_isFor 15 = .ok (.iadd, 1) := by decide +kernel
theorem dX8_isFor_16 : decode cX8_isFor 16 = .ok (.if_icmp .ne 7, 3) := by decide +kernel
theorem dX8_isFor_19 : decode cX8_isFor 19 = .ok (.iconst 1, 1) := by decide +kernel
theorem dX8_isFor_20 : decode cX8_isFor 20 = .ok (.goto 4, 3) := by decide +kernel
theorem dX8_isFor_23 : decode cX8_isFor 23 = .ok (.iconst 0, 1) := by decide +kernel
theorem dX8_isFor_24 : decode cX8_isFor 24 = .ok (.ireturn, 1) := by decide +kernel
theorem dX8_doubt_0 : decode cX8_doubt 0 = .ok (.aload_n 0, 1) := by decide +kernel
theorem dX8_doubt_1 : decode cX8_doubt 1 = .ok (.getfield 7, 3) := by decide +kernel
theorem dX8_doubt_4 : decode cX8_doubt 4 = .ok (.iload_n 1, 1) := by decide +kernel
theorem dX8_doubt_5 : decode cX8_doubt 5 = .ok (.invokestatic 41, 3) := by decide +kernel
theorem dX8_doubt_8 : decode cX8_doubt 8 = .ok (.bipush 13, 2) := by decide +kernel
theorem dX8_doubt_10 : decode cX8_doubt 10 = .ok (.iadd, 1) := by decide +kernel
theorem dX8_doubt_11 : decode cX8_doubt 11 = .ok (.iaload, 1) := by decide +kernel
theorem dX8_doubt_12 : decode cX8_doubt 12 = .ok (.aload_n 0, 1) := by decide +kernel
theorem dX8_doubt_13 : decode cX8_doubt 13 = .ok (.getfield 7, 3) := by decide +kernel
theorem dX8_doubt_16 : decode cX8_doubt 16 = .ok (.iload_n 1, 1) := by decide +kernel
theorem dX8_doubt_17 : decode cX8_doubt 17 = .ok (.invokestatic 41, 3) := by decide +kernel
theorem dX8_doubt_20 : decode cX8_doubt 20 = .ok (.bipush 14, 2) := by decide +kernel
theorem dX8_doubt_22 : decode cX8_doubt 22 = .ok (.iadd, 1) := by decide +kernel
theorem dX8_doubt_23 : decode cX8_doubt 23 = .ok (.iaload, 1) := by decide +kernel
theorem dX8_doubt_24 : decode cX8_doubt 24 = .ok (.iadd, 1) := by decide +kernel
theorem dX8_doubt_25 : decode cX8_doubt 25 = .ok (.istore_n 2, 1) := by decide +kernel
theorem dX8_doubt_26 : decode cX8_doubt 26 = .ok (.iload_n 2, 1) := by decide +kernel
theorem dX8_doubt_27 : decode cX8_doubt 27 = .ok (.ifCond .ne 7, 3) := by decide +kernel
theorem dX8_doubt_30 : decode cX8_doubt 30 = .ok (.iconst 0, 1) := by decide +kernel
theorem dX8_doubt_31 : decode cX8_doubt 31 = .ok (.goto 20, 3) := by decide +kernel
theorem dX8_doubt_34 : decode cX8_doubt 34 = .ok (.bipush 100, 2) := by decide +kernel
theorem dX8_doubt_36 : decode cX8_doubt 36 = .ok (.aload_n 0, 1) := by decide +kernel
theorem dX8_doubt_37 : decode cX8_doubt 37 = .ok (.getfield 7, 3) := by decide +kernel
theorem dX8_doubt_40 : decode cX8_doubt 40 = .ok (.iload_n 1, 1) := by decide +kernel
theorem dX8_doubt_41 : decode cX8_doubt 41 = .ok (.invokestatic 41, 3) := by decide +kernel
theorem dX8_doubt_44 : decode cX8_doubt 44 = .ok (.bipush 14, 2) := by decide +kernel
theorem dX8_doubt_46 : decode cX8_doubt 46 = .ok (.iadd, 1) := by decide +kernel
theorem dX8_doubt_47 : decode cX8_doubt 47 = .ok (.iaload, 1) := by decide +kernel
theorem dX8_doubt_48 : decode cX8_doubt 48 = .ok (.imul, 1) := by decide +kernel
theorem dX8_doubt_49 : decode cX8_doubt 49 = .ok (.iload_n 2, 1) := by decide +kernel
theorem dX8_doubt_50 : decode cX8_doubt 50 = .ok (.idiv, 1) := by decide +kernel
theorem dX8_doubt_51 : decode cX8_doubt 51 = .ok (.ireturn, 1) := by decide +kernel
theorem dX8_toCook_0 : decode cX8_toCook 0 = .ok (.iconst 0, 1) := by decide +kernel
theorem dX8_toCook_1 : decode cX8_toCook 1 = .ok (.istore_n 2, 1) := by decide +kernel
theorem dX8_toCook_2 : decode cX8_toCook 2 = .ok (.iconst 0, 1) := by decide +kernel
theorem dX8_toCook_3 : decode cX8_toCook 3 = .ok (.istore_n 3, 1) := by decide +kernel
theorem dX8_toCook_4 : decode cX8_toCook 4 = .ok (.iload_n 3, 1) := by decide +kernel
theorem dX8_toCook_5 : decode cX8_toCook 5 = .ok (.aload_n 0, 1) := by decide +kernel
theorem dX8_toCook_6 : decode cX8_toCook 6 = .ok (.getfield 7, 3) := by decide +kernel
theorem dX8_toCook_9 : decode cX8_toCook 9 = .ok (.iconst 5, 1) := by decide +kernel
theorem dX8_toCook_10 : decode cX8_toCook 10 = .ok (.iaload, 1) := by decide +kernel
theorem dX8_toCook_11 : decode cX8_toCook 11 = .ok (.if_icmp .ge 34, 3) := by decide +kernel
theorem dX8_toCook_14 : decode cX8_toCook 14 = .ok (.iload_n 2, 1) := by decide +kernel
theorem dX8_toCook_15 : decode cX8_toCook 15 = .ok (.aload_n 0, 1) := by decide +kernel
theorem dX8_toCook_16 : decode cX8_toCook 16 = .ok (.iload_n 3, 1) := by decide +kernel
theorem dX8_toCook_17 : decode cX8_toCook 17 = .ok (.iconst 0, 1) := by decide +kernel
theorem dX8_toCook_18 : decode cX8_toCook 18 = .ok (.iload_n 1, 1) := by decide +kernel
theorem dX8_toCook_19 : decode cX8_toCook 19 = .ok (.invokevirtual 45, 3) := by decide +kernel
theorem dX8_toCook_22 : decode cX8_toCook 22 = .ok (.ifCond .eq 14, 3) := by decide +kernel
theorem dX8_toCook_25 : decode cX8_toCook 25 = .ok (.bipush 100, 2) := by decide +kernel
theorem dX8_toCook_27 : decode cX8_toCook 27 = .ok (.aload_n 0, 1) := by decide +kernel
theorem dX8_toCook_28 : decode cX8_toCook 28 = .ok (.iload_n 3, 1) := by decide +kernel
theorem dX8_toCook_29 : decode cX8_toCook 29 = .ok (.invokevirtual 48, 3) := by decide +kernel
theorem dX8_toCook_32 : decode cX8_toCook 32 = .ok (.isub, 1) := by decide +kernel
theorem dX8_toCook_33 : decode cX8_toCook 33 = .ok (.goto 4, 3) := by decide +kernel
theorem dX8_toCook_36 : decode cX8_toCook 36 = .ok (.iconst 0, 1) := by decide +kernel
theorem dX8_toCook_37 : decode cX8_toCook 37 = .ok (.iadd, 1) := by decide +kernel
theorem dX8_toCook_38 : decode cX8_toCook 38 = .ok (.istore_n 2, 1) := by decide +kernel
theorem dX8_toCook_39 : decode cX8_toCook 39 = .ok (.iinc 3 1, 3) := by decide +kernel
theorem dX8_toCook_42 : decode cX8_toCook 42 = .ok (.goto (-38), 3) := by decide +kernel
theorem dX8_toCook_45 : decode cX8_toCook 45 = .ok (.iload_n 2, 1) := by decide +kernel
theorem dX8_toCook_46 : decode cX8_toCook 46 = .ok (.bipush 99, 2) := by decide +kernel
theorem dX8_toCook_48 : decode cX8_toCook 48 = .ok (.iadd, 1) := by decide +kernel
theorem dX8_toCook_49 : decode cX8_toCook 49 = .ok (.bipush 100, 2) := by decide +kernel
theorem dX8_toCook_51 : decode cX8_toCook 51 = .ok (.idiv, 1) := by decide +kernel
theorem dX8_toCook_52 : decode cX8_toCook 52 = .ok (.aload_n 0, 1) := by decide +kernel
theorem dX8_toCook_53 : decode cX8_toCook 53 = .ok (.getfield 7, 3) := by decide +kernel
theorem dX8_toCook_56 : decode cX8_toCook 56 = .ok (.iconst 0, 1) := by decide +kernel
theorem dX8_toCook_57 : decode cX8_toCook 57 = .ok (.iaload, 1) := by decide +kernel
theorem dX8_toCook_58 : decode cX8_toCook 58 = .ok (.iadd, 1) := by decide +kernel
theorem dX8_toCook_59 : decode cX8_toCook 59 = .ok (.aload_n 0, 1) := by decide +kernel
theorem dX8_toCook_60 : decode cX8_toCook 60 = .ok (.getfield 7, 3) := by decide +kernel
theorem dX8_toCook_63 : decode cX8_toCook 63 = .ok (.iload_n 1, 1) := by decide +kernel
theorem dX8_toCook_64 : decode cX8_toCook 64 = .ok (.invokestatic 51, 3) := by decide +kernel
theorem dX8_toCook_67 : decode cX8_toCook 67 = .ok (.iconst 0, 1) := by decide +kernel
theorem dX8_toCook_68 : decode cX8_toCook 68 = .ok (.iadd, 1) := by decide +kernel
theorem dX8_toCook_69 : decode cX8_toCook 69 = .ok (.iaload, 1) := by decide +kernel
theorem dX8_toCook_70 : decode cX8_toCook 70 = .ok (.isub, 1) := by decide +kernel
theorem dX8_toCook_71 : decode cX8_toCook 71 = .ok (.istore_n 3, 1) := by decide +kernel
theorem dX8_toCook_72 : decode cX8_toCook 72 = .ok (.iload_n 3, 1) := by decide +kernel
theorem dX8_toCook_73 : decode cX8_toCook 73 = .ok (.ifCond .le 7, 3) := by decide +kernel
theorem dX8_toCook_76 : decode cX8_toCook 76 = .ok (.iload_n 3, 1) := by decide +kernel
theorem dX8_toCook_77 : decode cX8_toCook 77 = .ok (.goto 4, 3) := by decide +kernel
theorem dX8_toCook_80 : decode cX8_toCook 80 = .ok (.iconst 0, 1) := by decide +kernel
theorem dX8_toCook_81 : decode cX8_toCook 81 = .ok (.ireturn, 1) := by decide +kernel
theorem dX8_left_0 : decode cX8_left 0 = .ok (.aload_n 0, 1) := by decide +kernel
theorem dX8_left_1 : decode cX8_left 1 = .ok (.getfield 7, 3) := by decide +kernel
theorem dX8_left_4 : decode cX8_left 4 = .ok (.iload_n 1, 1) := by decide +kernel
theorem dX8_left_5 : decode cX8_left 5 = .ok (.invokestatic 51, 3) := by decide +kernel
theorem dX8_left_8 : decode cX8_left 8 = .ok (.iconst 0, 1) := by decide +kernel
theorem dX8_left_9 : decode cX8_left 9 = .ok (.iadd, 1) := by decide +kernel
theorem dX8_left_10 : decode cX8_left 10 = .ok (.iaload, 1) := by decide +kernel
theorem dX8_left_11 : decode cX8_left 11 = .ok (.aload_n 0, 1) := by decide +kernel
theorem dX8_left_12 : decode cX8_left 12 = .ok (.getfield 7, 3) := by decide +kernel
theorem dX8_left_15 : decode cX8_left 15 = .ok (.iload_n 1, 1) := by decide +kernel
theorem dX8_left_16 : decode cX8_left 16 = .ok (.invokestatic 51, 3) := by decide +kernel
theorem dX8_left_19 : decode cX8_left 19 = .ok (.iconst 1, 1) := by decide +kernel
theorem dX8_left_20 : decode cX8_left 20 = .ok (.iadd, 1) := by decide +kernel
theorem dX8_left_21 : decode cX8_left 21 = .ok (.iaload, 1) := by decide +kernel
theorem dX8_left_22 : decode cX8_left 22 = .ok (.iadd, 1) := by decide +kernel
theorem dX8_left_23 : decode cX8_left 23 = .ok (.ireturn, 1) := by decide +kernel
theorem dX8_awaited_0 : decode cX8_awaited 0 = .ok (.iconst 0, 1) := by decide +kernel
theorem dX8_awaited_1 : decode cX8_awaited 1 = .ok (.istore_n 2, 1) := by decide +kernel
theorem dX8_awaited_2 : decode cX8_awaited 2 = .ok (.iconst 0, 1) := by decide +kernel
theorem dX8_awaited_3 : decode cX8_awaited 3 = .ok (.istore_n 3, 1) := by decide +kernel
theorem dX8_awaited_4 : decode cX8_awaited 4 = .ok (.iload_n 3, 1) := by decide +kernel
theorem dX8_awaited_5 : decode cX8_awaited 5 = .ok (.aload_n 0, 1) := by decide +kernel
theorem dX8_awaited_6 : decode cX8_awaited 6 = .ok (.getfield 7, 3) := by decide +kernel
theorem dX8_awaited_9 : decode cX8_awaited 9 = .ok (.iconst 5, 1) := by decide +kernel
theorem dX8_awaited_10 : decode cX8_awaited 10 = .ok (.iaload, 1) := by decide +kernel
theorem dX8_awaited_11 : decode cX8_awaited 11 = .ok (.if_icmp .ge 42, 3) := by decide +kernel
theorem dX8_awaited_14 : decode cX8_awaited 14 = .ok (.iload_n 2, 1) := by decide +kernel
theorem dX8_awaited_15 : decode cX8_awaited 15 = .ok (.aload_n 0, 1) := by decide +kernel
theorem dX8_awaited_16 : decode cX8_awaited 16 = .ok (.iload_n 3, 1) := by decide +kernel
theorem dX8_awaited_17 : decode cX8_awaited 17 = .ok (.iconst 0, 1) := by decide +kernel
theorem dX8_awaited_18 : decode cX8_awaited 18 = .ok (.iload_n 1, 1) := by decide +kernel
theorem dX8_awaited_19 : decode cX8_awaited 19 = .ok (.invokevirtual 45, 3) := by decide +kernel
theorem dX8_awaited_22 : decode cX8_awaited 22 = .ok (.ifCond .eq 22, 3) := by decide +kernel
theorem dX8_awaited_25 : decode cX8_awaited 25 = .ok (.aload_n 0, 1) := by decide +kernel
theorem dX8_awaited_26 : decode cX8_awaited 26 = .ok (.getfield 7, 3) := by decide +kernel
theorem dX8_awaited_29 : decode cX8_awaited 29 = .ok (.iload_n 3, 1) := by decide +kernel
theorem dX8_awaited_30 : decode cX8_awaited 30 = .ok (.invokestatic 41, 3) := by decide +kernel
theorem dX8_awaited_33 : decode cX8_awaited 33 = .ok (.bipush 15, 2) := by decide +kernel
theorem dX8_awaited_35 : decode cX8_awaited 35 = .ok (.iadd, 1) := by decide +kernel
theorem dX8_awaited_36 : decode cX8_awaited 36 = .ok (.iaload, 1) := by decide +kernel
