theorem dX0_init_0 : decode cX0_init 0 = .ok (.aload_n 0, 1) := by decide +kernel
theorem dX0_init_1 : decode cX0_init 1 = .ok (.invokespecial 3, 3) := by decide +kernel
theorem dX0_init_4 : decode cX0_init 4 = .ok (.aload_n 0, 1) := by decide +kernel
theorem dX0_init_5 : decode cX0_init 5 = .ok (.new 9, 3) := by decide +kernel
theorem dX0_init_8 : decode cX0_init 8 = .ok (.dup, 1) := by decide +kernel
theorem dX0_init_9 : decode cX0_init 9 = .ok (.iload_n 1, 1) := by decide +kernel
theorem dX0_init_10 : decode cX0_init 10 = .ok (.invokespecial 11, 3) := by decide +kernel
theorem dX0_init_13 : decode cX0_init 13 = .ok (.putfield 14, 3) := by decide +kernel
theorem dX0_init_16 : decode cX0_init 16 = .ok (.aload_n 0, 1) := by decide +kernel
theorem dX0_init_17 : decode cX0_init 17 = .ok (.new 9, 3) := by decide +kernel
theorem dX0_init_20 : decode cX0_init 20 = .ok (.dup, 1) := by decide +kernel
theorem dX0_init_21 : decode cX0_init 21 = .ok (.iload_n 1, 1) := by decide +kernel
theorem dX0_init_22 : decode cX0_init 22 = .ok (.bipush 24, 2) := by decide +kernel
theorem dX0_init_24 : decode cX0_init 24 = .ok (.imul, 1) := by decide +kernel
theorem dX0_init_25 : decode cX0_init 25 = .ok (.invokespecial 11, 3) := by decide +kernel
theorem dX0_init_28 : decode cX0_init 28 = .ok (.putfield 20, 3) := by decide +kernel
theorem dX0_init_31 : decode cX0_init 31 = .ok (.return_, 1) := by decide +kernel
theorem dX0_sign_0 : decode cX0_sign 0 = .ok (.iload_n 0, 1) := by decide +kernel
theorem dX0_sign_1 : decode cX0_sign 1 = .ok (.bipush 100, 2) := by decide +kernel
theorem dX0_sign_3 : decode cX0_sign 3 = .ok (.idiv, 1) := by decide +kernel
theorem dX0_sign_4 : decode cX0_sign 4 = .ok (.ireturn, 1) := by decide +kernel
theorem dX0_operand_0 : decode cX0_operand 0 = .ok (.iload_n 0, 1) := by decide +kernel
theorem dX0_operand_1 : decode cX0_operand 1 = .ok (.bipush 100, 2) := by decide +kernel
theorem dX0_operand_3 : decode cX0_operand 3 = .ok (.irem, 1) := by decide +kernel
theorem dX0_operand_4 : decode cX0_operand 4 = .ok (.ireturn, 1) := by decide +kernel
theorem dX0_opens_0 : decode cX0_opens 0 = .ok (.iload_n 0, 1) := by decide +kernel
theorem dX0_opens_1 : decode cX0_opens 1 = .ok (.bipush 40, 2) := by decide +kernel
theorem dX0_opens_3 : decode cX0_opens 3 = .ok (.if_icmp .eq 15, 3) := by decide +kernel
theorem dX0_opens_6 : decode cX0_opens 6 = .ok (.iload_n 0, 1) := by decide +kernel
theorem dX0_opens_7 : decode cX0_opens 7 = .ok (.bipush 91, 2) := by decide +kernel
theorem dX0_opens_9 : decode cX0_opens 9 = .ok (.if_icmp .eq 9, 3) := by decide +kernel
theorem dX0_opens_12 : decode cX0_opens 12 = .ok (.iload_n 0, 1) := by decide +kernel
theorem dX0_opens_13 : decode cX0_opens 13 = .ok (.bipush 123, 2) := by decide +kernel
theorem dX0_opens_15 : decode cX0_opens 15 = .ok (.if_icmp .ne 7, 3) := by decide +kernel
theorem dX0_opens_18 : decode cX0_opens 18 = .ok (.iconst 1, 1) := by decide +kernel
theorem dX0_opens_19 : decode cX0_opens 19 = .ok (.goto 4, 3) := by decide +kernel
theorem dX0_opens_22 : decode cX0_opens 22 = .ok (.iconst 0, 1) := by decide +kernel
theorem dX0_opens_23 : decode cX0_opens 23 = .ok (.ireturn, 1) := by decide +kernel
theorem dX0_length_0 : decode cX0_length 0 = .ok (.aload_n 0, 1) := by decide +kernel
theorem dX0_length_1 : decode cX0_length 1 = .ok (.getfield 14, 3) := by decide +kernel
theorem dX0_length_4 : decode cX0_length 4 = .ok (.iload_n 1, 1) := by decide +kernel
theorem dX0_length_5 : decode cX0_length 5 = .ok (.invokevirtual 23, 3) := by decide +kernel
theorem dX0_length_8 : decode cX0_length 8 = .ok (.ireturn, 1) := by decide +kernel
theorem dX0_at_0 : decode cX0_at 0 = .ok (.iload_n 2, 1) := by decide +kernel
theorem dX0_at_1 : decode cX0_at 1 = .ok (.ifCond .lt 19, 3) := by decide +kernel
theorem dX0_at_4 : decode cX0_at 4 = .ok (.iload_n 2, 1) := by decide +kernel
theorem dX0_at_5 : decode cX0_at 5 = .ok (.aload_n 0, 1) := by decide +kernel
theorem dX0_at_6 : decode cX0_at 6 = .ok (.getfield 14, 3) := by decide +kernel
theorem dX0_at_9 : decode cX0_at 9 = .ok (.iload_n 1, 1) := by decide +kernel
theorem dX0_at_10 : decode cX0_at 10 = .ok (.invokevirtual 23, 3) := by decide +kernel
theorem dX0_at_13 : decode cX0_at 13 = .ok (.if_icmp .ge 7, 3) := by decide +kernel
theorem dX0_at_16 : decode cX0_at 16 = .ok (.iconst 1, 1) := by decide +kernel
theorem dX0_at_17 : decode cX0_at 17 = .ok (.goto 4, 3) := by decide +kernel
theorem dX0_at_20 : decode cX0_at 20 = .ok (.iconst 0, 1) := by decide +kernel
theorem dX0_at_21 : decode cX0_at 21 = .ok (.istore_n 3, 1) := by decide +kernel
theorem dX0_at_22 : decode cX0_at 22 = .ok (.iload_n 3, 1) := by decide +kernel
theorem dX0_at_23 : decode cX0_at 23 = .ok (.ifCond .eq 19, 3) := by decide +kernel
theorem dX0_at_26 : decode cX0_at 26 = .ok (.aload_n 0, 1) := by decide +kernel
theorem dX0_at_27 : decode cX0_at 27 = .ok (.getfield 20, 3) := by decide +kernel
theorem dX0_at_30 : decode cX0_at 30 = .ok (.iload_n 1, 1) := by decide +kernel
theorem dX0_at_31 : decode cX0_at 31 = .ok (.bipush 24, 2) := by decide +kernel
theorem dX0_at_33 : decode cX0_at 33 = .ok (.imul, 1) := by decide +kernel
theorem dX0_at_34 : decode cX0_at 34 = .ok (.iload_n 2, 1) := by decide +kernel
theorem dX0_at_35 : decode cX0_at 35 = .ok (.iadd, 1) := by decide +kernel
theorem dX0_at_36 : decode cX0_at 36 = .ok (.invokevirtual 23, 3) := by decide +kernel
theorem dX0_at_39 : decode cX0_at 39 = .ok (.goto 4, 3) := by decide +kernel
theorem dX0_at_42 : decode cX0_at 42 = .ok (.iconst 0, 1) := by decide +kernel
theorem dX0_at_43 : decode cX0_at 43 = .ok (.ireturn, 1) := by decide +kernel
theorem dX0_add_0 : decode cX0_add 0 = .ok (.aload_n 0, 1) := by decide +kernel
theorem dX0_add_1 : decode cX0_add 1 = .ok (.getfield 14, 3) := by decide +kernel
theorem dX0_add_4 : decode cX0_add 4 = .ok (.iload_n 1, 1) := by decide +kernel
theorem dX0_add_5 : decode cX0_add 5 = .ok (.invokevirtual 23, 3) := by decide +kernel
theorem dX0_add_8 : decode cX0_add 8 = .ok (.istore_n 3, 1) := by decide +kernel
theorem dX0_add_9 : decode cX0_add 9 = .ok (.iload_n 3, 1) := by decide +kernel
theorem dX0_add_10 : decode cX0_add 10 = .ok (.bipush 24, 2) := by decide +kernel
theorem dX0_add_12 : decode cX0_add 12 = .ok (.if_icmp .ge 28, 3) := by decide +kernel
theorem dX0_add_15 : decode cX0_add 15 = .ok (.aload_n 0, 1) := by decide +kernel
theorem dX0_add_16 : decode cX0_add 16 = .ok (.getfield 20, 3) := by decide +kernel
theorem dX0_add_19 : decode cX0_add 19 = .ok (.iload_n 1, 1) := by decide +kernel
theorem dX0_add_20 : decode cX0_add 20 = .ok (.bipush 24, 2) := by decide +kernel
theorem dX0_add_22 : decode cX0_add 22 = .ok (.imul, 1) := by decide +kernel
theorem dX0_add_23 : decode cX0_add 23 = .ok (.iload_n 3, 1) := by decide +kernel
theorem dX0_add_24 : decode cX0_add 24 = .ok (.iadd, 1) := by decide +kernel
theorem dX0_add_25 : decode cX0_add 25 = .ok (.iload_n 2, 1) := by decide +kernel
theorem dX0_add_26 : decode cX0_add 26 = .ok (.invokevirtual 27, 3) := by decide +kernel
theorem dX0_add_29 : decode cX0_add 29 = .ok (.aload_n 0, 1) := by decide +kernel
theorem dX0_add_30 : decode cX0_add 30 = .ok (.getfield 14, 3) := by decide +kernel
theorem dX0_add_33 : decode cX0_add 33 = .ok (.iload_n 1, 1) := by decide +kernel
theorem dX0_add_34 : decode cX0_add 34 = .ok (.iload_n 3, 1) := by decide +kernel
theorem dX0_add_35 : decode cX0_add 35 = .ok (.iconst 1, 1) := by decide +kernel
theorem dX0_add_36 : decode cX0_add 36 = .ok (.iadd, 1) := by decide +kernel
theorem dX0_add_37 : decode cX0_add 37 = .ok (.invokevirtual 27, 3) := by decide +kernel
theorem dX0_add_40 : decode cX0_add 40 = .ok (.return_, 1) := by decide +kernel
theorem dX0_empty_0 : decode cX0_empty 0 = .ok (.aload_n 0, 1) := by decide +kernel
theorem dX0_empty_1 : decode cX0_empty 1 = .ok (.getfield 14, 3) := by decide +kernel
theorem dX0_empty_4 : decode cX0_empty 4 = .ok (.iload_n 1, 1) := by decide +kernel
theorem dX0_empty_5 : decode cX0_empty 5 = .ok (.iconst 0, 1) := by decide +kernel
theorem dX0_empty_6 : decode cX0_empty 6 = .ok (.invokevirtual 27, 3) := by decide +kernel
theorem dX0_empty_9 : decode cX0_empty 9 = .ok (.return_, 1) := by decide +kernel
theorem dX0_copyList_0 : decode cX0_copyList 0 = .ok (.aload_n 0, 1) := by decide +kernel
theorem dX0_copyList_1 : decode cX0_copyList 1 = .ok (.iload_n 1, 1) := by decide +kernel
theorem dX0_copyList_2 : decode cX0_copyList 2 = .ok (.invokevirtual 31, 3) := by decide +kernel
theorem dX0_copyList_5 : decode cX0_copyList 5 = .ok (.iconst 0, 1) := by decide +kernel
theorem dX0_copyList_6 : decode cX0_copyList 6 = .ok (.istore 4, 2) := by decide +kernel
theorem dX0_copyList_8 : decode cX0_copyList 8 = .ok (.iload 4, 2) := by decide +kernel
theorem dX0_copyList_10 : decode cX0_copyList 10 = .ok (.aload_n 2, 1) := by decide +kernel
theorem dX0_copyList_11 : decode cX0_copyList 11 = .ok (.iload_n 3, 1) := by decide +kernel
theorem dX0_copyList_12 : decode cX0_copyList 12 = .ok (.invokevirtual 34, 3) := by decide +kernel
theorem dX0_copyList_15 : decode cX0_copyList 15 = .ok (.if_icmp .ge 21, 3) := by decide +kernel
theorem dX0_copyList_18 : decode cX0_copyList 18 = .ok (.aload_n 0, 1) := by decide +kernel
theorem dX0_copyList_19 : decode cX0_copyList 19 = .ok (.iload_n 1, 1) := by decide +kernel
theorem dX0_copyList_20 : decode cX0_copyList 20 = .ok (.aload_n 2, 1) := by decide +kernel
theorem dX0_copyList_21 : decode cX0_copyList 21 = .ok (.iload_n 3, 1) := by decide +kernel
theorem dX0_copyList_22 : decode cX0_copyList 22 = .ok (.iload 4, 2) := by decide +kernel
theorem dX0_copyList_24 : decode cX0_copyList 24 = .ok (.invokevirtual 37, 3) := by decide +kernel
theorem dX0_copyList_27 : decode cX0_copyList 27 = .ok (.invokevirtual 40, 3) := by decide +kernel
theorem dX0_copyList_30 : decode cX0_copyList 30 = .ok (.iinc 4 1, 3) := by decide +kernel
theorem dX0_copyList_33 : decode cX0_copyList 33 = .ok (.goto (-25), 3) := by decide +kernel
theorem dX0_copyList_36 : decode cX0_copyList 36 = .ok (.return_, 1) := by decide +kernel
theorem dX0_behindClosing_0 : decode cX0_behindClosing 0 = .ok (.iconst 1, 1) := by decide +kernel
theorem dX0_behindClosing_1 : decode cX0_behindClosing 1 = .ok (.istore_n 3, 1) := by decide +kernel
theorem dX0_behindClosing_2 : decode cX0_behindClosing 2 = .ok (.iload_n 2, 1) := by decide +kernel
theorem dX0_behindClosing_3 : decode cX0_behindClosing 3 = .ok (.istore 4, 2) := by decide +kernel
theorem dX0_behindClosing_5 : decode cX0_behindClosing 5 = .ok (.iload 4, 2) := by decide +kernel
theorem dX0_behindClosing_7 : decode cX0_behindClosing 7 = .ok (.aload_n 0, 1) := by decide +kernel
theorem dX0_behindClosing_8 : decode cX0_behindClosing 8 = .ok (.iload_n 1, 1) := by decide +kernel
theorem dX0_behindClosing_9 : decode cX0_behindClosing 9 = .ok (.invokevirtual 34, 3) := by decide +kernel
theorem dX0_behindClosing_12 : decode cX0_behindClosing 12 = .ok (.if_icmp .ge 54, 3) := by decide +kernel
theorem dX0_behindClosing_15 : decode cX0_behindClosing 15 = .ok (.aload_n 0, 1) := by decide +kernel
theorem dX0_behindClosing_16 : decode cX0_behindClosing 16 = .ok (.iload_n 1, 1) := by decide +kernel
theorem dX0_behindClosing_17 : decode cX0_behindClosing 17 = .ok (.iload 4, 2) := by decide +kernel
theorem dX0_behindClosing_19 : decode cX0_behindClosing 19 = .ok (.invokevirtual 37, 3) := by decide +kernel
theorem dX0_behindClosing_22 : decode cX0_behindClosing 22 = .ok (.invokestatic 43, 3) := by decide +kernel
theorem dX0_behindClosing_25 : decode cX0_behindClosing 25 = .ok (.istore 5, 2) := by decide +kernel
theorem dX0_behindClosing_27 : decode cX0_behindClosing 27 = .ok (.iload 5, 2) := by decide +kernel
theorem dX0_behindClosing_29 : decode cX0_behindClosing 29 = .ok (.invokestatic 46, 3) := by decide +kernel
theorem dX0_behindClosing_32 : decode cX0_behindClosing 32 = .ok (.ifCond .eq 9, 3) := by decide +kernel
theorem dX0_behindClosing_35 : decode cX0_behindClosing 35 = .ok (.iinc 3 1, 3) := by decide +kernel
theorem dX0_behindClosing_38 : decode cX0_behindClosing 38 = .ok (.goto 13, 3) := by decide +kernel
theorem dX0_behindClosing_41 : decode cX0_behindClosing 41 = .ok (.iload 5, 2) := by decide +kernel
theorem dX0_behindClosing_43 : decode cX0_behindClosing 43 = .ok (.bipush 41, 2) := by decide +kernel
theorem dX0_behindClosing_45 : decode cX0_behindClosing 45 = .ok (.if_icmp .ne 6, 3) := by decide +kernel
theorem dX0_behindClosing_48 : decode cX0_behindClosing 48 = .ok (.iinc 3 (-1), 3) := by decide +kernel
theorem dX0_behindClosing_51 : decode cX0_behindClosing 51 = .ok (.iload_n 3, 1) := by decide +kernel
theorem dX0_behindClosing_52 : decode cX0_behindClosing 52 = .ok (.ifCond .ne 8, 3) := by decide +kernel
theorem dX0_behindClosing_55 : decode cX0_behindClosing 55 = .ok (.iload 4, 2) := by decide +kernel
theorem dX0_behindClosing_57 : decode cX0_behindClosing 57 = .ok (.iconst 1, 1) := by decide +kernel
theorem dX0_behindClosing_58 : decode cX0_behindClosing 58 = .ok (.iadd, 1) := by decide +kernel
theorem dX0_behindClosing_59 : decode cX0_behindClosing 59 = .ok (.ireturn, 1) := by decide +kernel
theorem dX0_behindClosing_60 : decode cX0_behindClosing 60 = .ok (.iinc 4 1, 3) := by decide +kernel
theorem dX0_behindClosing_63 : decode cX0_behindClosing 63 = .ok (.goto (-58), 3) := by decide +kernel
theorem dX0_behindClosing_66 : decode cX0_behindClosing 66 = .ok (.aload_n 0, 1) := by decide +kernel
theorem dX0_behindClosing_67 : decode cX0_behindClosing 67 = .ok (.iload_n 1, 1) := by decide +kernel
theorem dX0_behindClosing_68 : decode cX0_behindClosing 68 = .ok (.invokevirtual 34, 3) := by decide +kernel
theorem dX0_behindClosing_71 : decode cX0_behindClosing 71 = .ok (.ireturn, 1) := by decide +kernel
theorem dX0_copy_0 : decode cX0_copy 0 = .ok (.aload_n 0, 1) := by decide +kernel
theorem dX0_copy_1 : decode cX0_copy 1 = .ok (.getfield 14, 3) := by decide +kernel
theorem dX0_copy_4 : decode cX0_copy 4 = .ok (.aload_n 1, 1) := by decide +kernel
theorem dX0_copy_5 : decode cX0_copy 5 = .ok (.getfield 14, 3) := by decide +kernel
theorem dX0_copy_8 : decode cX0_copy 8 = .ok (.invokevirtual 50, 3) := by decide +kernel
theorem dX0_copy_11 : decode cX0_copy 11 = .ok (.aload_n 0, 1) := by decide +kernel
theorem dX0_copy_12 : decode cX0_copy 12 = .ok (.getfield 20, 3) := by decide +kernel
theorem dX0_copy_15 : decode cX0_copy 15 = .ok (.aload_n 1, 1) := by decide +kernel
theorem dX0_copy_16 : decode cX0_copy 16 = .ok (.getfield 20, 3) := by decide +kernel
theorem dX0_copy_19 : decode cX0_copy 19 = .ok (.invokevirtual 50, 3) := by decide +kernel
theorem dX0_copy_22 : decode cX0_copy 22 = .ok (.return_, 1) := by decide +kernel
theorem dX1_init_0 : decode cX1_init 0 = .ok (.aload_n 0, 1) := by decide +kernel
theorem dX1_init_1 : decode cX1_init 1 = .ok (.invokespecial 3, 3) := by decide +kernel
theorem dX1_init_4 : decode cX1_init 4 = .ok (.aload_n 0, 1) := by decide +kernel
theorem dX1_init_5 : decode cX1_init 5 = .ok (.new 9, 3) := by decide +kernel
theorem dX1_init_8 : decode cX1_init 8 = .ok (.dup, 1) := by decide +kernel
theorem dX1_init_9 : decode cX1_init 9 = .ok (.iconst 4, 1) := by decide +kernel
theorem dX1_init_10 : decode cX1_init 10 = .ok (.invokespecial 11, 3) := by decide +kernel
theorem dX1_init_13 : decode cX1_init 13 = .ok (.putfield 14, 3) := by decide +kernel
theorem dX1_init_16 : decode cX1_init 16 = .ok (.aload_n 0, 1) := by decide +kernel
theorem dX1_init_17 : decode cX1_init 17 = .ok (.new 9, 3) := by decide +kernel
theorem dX1_init_20 : decode cX1_init 20 = .ok (.dup, 1) := by decide +kernel
theorem dX1_init_21 : decode cX1_init 21 = .ok (.iconst 4, 1) := by decide +kernel
theorem dX1_init_22 : decode cX1_init 22 = .ok (.invokespecial 11, 3) := by decide +kernel
theorem dX1_init_25 : decode cX1_init 25 = .ok (.putfield 20, 3) := by decide +kernel
theorem dX1_init_28 : decode cX1_init 28 = .ok (.aload_n 0, 1) := by decide +kernel
theorem dX1_init_29 : decode cX1_init 29 = .ok (.new 9, 3) := by decide +kernel
theorem dX1_init_32 : decode cX1_init 32 = .ok (.dup, 1) := by decide +kernel
theorem dX1_init_33 : decode cX1_init 33 = .ok (.bipush 12, 2) := by decide +kernel
theorem dX1_init_35 : decode cX1_init 35 = .ok (.invokespecial 11, 3) := by decide +kernel
theorem dX1_init_38 : decode cX1_init 38 = .ok (.putfield 23, 3) := by decide +kernel
theorem dX1_init_41 : decode cX1_init 41 = .ok (.return_, 1) := by decide +kernel
theorem dX1_at_0 : decode cX1_at 0 = .ok (.aload_n 0, 1) := by decide +kernel
theorem dX1_at_1 : decode cX1_at 1 = .ok (.getfield 23, 3) := by decide +kernel
theorem dX1_at_4 : decode cX1_at 4 = .ok (.iload_n 1, 1) := by decide +kernel
theorem dX1_at_5 : decode cX1_at 5 = .ok (.iconst 3, 1) := by decide +kernel
theorem dX1_at_6 : decode cX1_at 6 = .ok (.imul, 1) := by decide +kernel
theorem dX1_at_7 : decode cX1_at 7 = .ok (.iload_n 2, 1) := by decide +kernel
theorem dX1_at_8 : decode cX1_at 8 = .ok (.iadd, 1) := by decide +kernel
theorem dX1_at_9 : decode cX1_at 9 = .ok (.invokevirtual 26, 3) := by decide +kernel
theorem dX1_at_12 : decode cX1_at 12 = .ok (.ireturn, 1) := by decide +kernel
theorem dX1_hasRoom_0 : decode cX1_hasRoom 0 = .ok (.aload_n 0, 1) := by decide +kernel
theorem dX1_hasRoom_1 : decode cX1_hasRoom 1 = .ok (.getfield 20, 3) := by decide +kernel
theorem dX1_hasRoom_4 : decode cX1_hasRoom 4 = .ok (.iload_n 1, 1) := by decide +kernel
theorem dX1_hasRoom_5 : decode cX1_hasRoom 5 = .ok (.invokevirtual 26, 3) := by decide +kernel
theorem dX1_hasRoom_8 : decode cX1_hasRoom 8 = .ok (.aload_n 0, 1) := by decide +kernel
theorem dX1_hasRoom_9 : decode cX1_hasRoom 9 = .ok (.getfield 14, 3) := by decide +kernel
theorem dX1_hasRoom_12 : decode cX1_hasRoom 12 = .ok (.iload_n 1, 1) := by decide +kernel
theorem dX1_hasRoom_13 : decode cX1_hasRoom 13 = .ok (.invokevirtual 26, 3) := by decide +kernel
theorem dX1_hasRoom_16 : decode cX1_hasRoom 16 = .ok (.if_icmp .ge 7, 3) := by decide +kernel
theorem dX1_hasRoom_19 : decode cX1_hasRoom 19 = .ok (.iconst 1, 1) := by decide +kernel
theorem dX1_hasRoom_20 : decode cX1_hasRoom 20 = .ok (.goto 4, 3) := by decide +kernel
theorem dX1_hasRoom_23 : decode cX1_hasRoom 23 = .ok (.iconst 0, 1) := by decide +kernel
theorem dX1_hasRoom_24 : decode cX1_hasRoom 24 = .ok (.ireturn, 1) := by decide +kernel
theorem dX1_add_0 : decode cX1_add 0 = .ok (.aload_n 0, 1) := by decide +kernel
theorem dX1_add_1 : decode cX1_add 1 = .ok (.getfield 23, 3) := by decide +kernel
theorem dX1_add_4 : decode cX1_add 4 = .ok (.iload_n 1, 1) := by decide +kernel
theorem dX1_add_5 : decode cX1_add 5 = .ok (.iconst 3, 1) := by decide +kernel
theorem dX1_add_6 : decode cX1_add 6 = .ok (.imul, 1) := by decide +kernel
theorem dX1_add_7 : decode cX1_add 7 = .ok (.aload_n 0, 1) := by decide +kernel
theorem dX1_add_8 : decode cX1_add 8 = .ok (.getfield 20, 3) := by decide +kernel
theorem dX1_add_11 : decode cX1_add 11 = .ok (.iload_n 1, 1) := by decide +kernel
theorem dX1_add_12 : decode cX1_add 12 = .ok (.invokevirtual 26, 3) := by decide +kernel
theorem dX1_add_15 : decode cX1_add 15 = .ok (.iadd, 1) := by decide +kernel
theorem dX1_add_16 : decode cX1_add 16 = .ok (.iload_n 2, 1) := by decide +kernel
theorem dX1_add_17 : decode cX1_add 17 = .ok (.invokevirtual 30, 3) := by decide +kernel
theorem dX1_add_20 : decode cX1_add 20 = .ok (.aload_n 0, 1) := by decide +kernel
theorem dX1_add_21 : decode cX1_add 21 = .ok (.getfield 20, 3) := by decide +kernel
theorem dX1_add_24 : decode cX1_add 24 = .ok (.iload_n 1, 1) := by decide +kernel
theorem dX1_add_25 : decode cX1_add 25 = .ok (.iconst 1, 1) := by decide +kernel
theorem dX1_add_26 : decode cX1_add 26 = .ok (.invokevirtual 34, 3) := by decide +kernel
theorem dX1_add_29 : decode cX1_add 29 = .ok (.return_, 1) := by decide +kernel
theorem dX1_takeFirst_0 : decode cX1_takeFirst 0 = .ok (.aload_n 0, 1) := by decide +kernel
theorem dX1_takeFirst_1 : decode cX1_takeFirst 1 = .ok (.iload_n 1, 1) := by decide +kernel
theorem dX1_takeFirst_2 : decode cX1_takeFirst 2 = .ok (.iconst 0, 1) := by decide +kernel
theorem dX1_takeFirst_3 : decode cX1_takeFirst 3 = .ok (.invokevirtual 37, 3) := by decide +kernel
theorem dX1_takeFirst_6 : decode cX1_takeFirst 6 = .ok (.istore_n 2, 1) := by decide +kernel
theorem dX1_takeFirst_7 : decode cX1_takeFirst 7 = .ok (.iconst 1, 1) := by decide +kernel
theorem dX1_takeFirst_8 : decode cX1_takeFirst 8 = .ok (.istore_n 3, 1) := by decide +kernel
theorem dX1_takeFirst_9 : decode cX1_takeFirst 9 = .ok (.iload_n 3, 1) := by decide +kernel
theorem dX1_takeFirst_10 : decode cX1_takeFirst 10 = .ok (.aload_n 0, 1) := by decide +kernel
theorem dX1_takeFirst_11 : decode cX1_takeFirst 11 = .ok (.getfield 20, 3) := by decide +kernel
theorem dX1_takeFirst_14 : decode cX1_takeFirst 14 = .ok (.iload_n 1, 1) := by decide +kernel
theorem dX1_takeFirst_15 : decode cX1_takeFirst 15 = .ok (.invokevirtual 26, 3) := by decide +kernel
theorem dX1_takeFirst_18 : decode cX1_takeFirst 18 = .ok (.if_icmp .ge 29, 3) := by decide +kernel
theorem dX1_takeFirst_21 : decode cX1_takeFirst 21 = .ok (.aload_n 0, 1) := by decide +kernel
theorem dX1_takeFirst_22 : decode cX1_takeFirst 22 = .ok (.getfield 23, 3) := by decide +kernel
theorem dX1_takeFirst_25 : decode cX1_takeFirst 25 = .ok (.iload_n 1, 1) := by decide +kernel
theorem dX1_takeFirst_26 : decode cX1_takeFirst 26 = .ok (.iconst 3, 1) := by decide +kernel
theorem dX1_takeFirst_27 : decode cX1_takeFirst 27 = .ok (.imul, 1) := by decide +kernel
theorem dX1_takeFirst_28 : decode cX1_takeFirst 28 = .ok (.iload_n 3, 1) := by decide +kernel
theorem dX1_takeFirst_29 : decode cX1_takeFirst 29 = .ok (.iadd, 1) := by decide +kernel
theorem dX1_takeFirst_30 : decode cX1_takeFirst 30 = .ok (.iconst 1, 1) := by decide +kernel
theorem dX1_takeFirst_31 : decode cX1_takeFirst 31 = .ok (.isub, 1) := by decide +kernel
theorem dX1_takeFirst_32 : decode cX1_takeFirst 32 = .ok (.aload_n 0, 1) := by decide +kernel
theorem dX1_takeFirst_33 : decode cX1_takeFirst 33 = .ok (.iload_n 1, 1) := by decide +kernel
theorem dX1_takeFirst_34 : decode cX1_takeFirst 34 = .ok (.iload_n 3, 1) := by decide +kernel
theorem dX1_takeFirst_35 : decode cX1_takeFirst 35 = .ok (.invokevirtual 37, 3) := by decide +kernel
theorem dX1_takeFirst_38 : decode cX1_takeFirst 38 = .ok (.invokevirtual 30, 3) := by decide +kernel
theorem dX1_takeFirst_41 : decode cX1_takeFirst 41 = .ok (.iinc 3 1, 3) := by decide +kernel
theorem dX1_takeFirst_44 : decode cX1_takeFirst 44 = .ok (.goto (-35), 3) := by decide +kernel
theorem dX1_takeFirst_47 : decode cX1_takeFirst 47 = .ok (.aload_n 0, 1) := by decide +kernel
theorem dX1_takeFirst_48 : decode cX1_takeFirst 48 = .ok (.getfield 20, 3) := by decide +kernel
theorem dX1_takeFirst_51 : decode cX1_takeFirst 51 = .ok (.iload_n 1, 1) := by decide +kernel
theorem dX1_takeFirst_52 : decode cX1_takeFirst 52 = .ok (.iconst (-1), 1) := by decide +kernel
theorem dX1_takeFirst_53 : decode cX1_takeFirst 53 = .ok (.invokevirtual 34, 3) := by decide +kernel
theorem dX1_takeFirst_56 : decode cX1_takeFirst 56 = .ok (.iload_n 2, 1) := by decide +kernel
theorem dX1_takeFirst_57 : decode cX1_takeFirst 57 = .ok (.ireturn, 1) := by decide +kernel
theorem dX1_copy_0 : decode cX1_copy 0 = .ok (.aload_n 0, 1) := by decide +kernel
theorem dX1_copy_1 : decode cX1_copy 1 = .ok (.getfield 14, 3) := by decide +kernel
theorem dX1_copy_4 : decode cX1_copy 4 = .ok (.aload_n 1, 1) := by decide +kernel
theorem dX1_copy_5 : decode cX1_copy 5 = .ok (.getfield 14, 3) := by decide +kernel
theorem dX1_copy_8 : decode cX1_copy 8 = .ok (.invokevirtual 40, 3) := by decide +kernel
theorem dX1_copy_11 : decode cX1_copy 11 = .ok (.aload_n 0, 1) := by decide +kernel
theorem dX1_copy_12 : decode cX1_copy 12 = .ok (.getfield 20, 3) := by decide +kernel
theorem dX1_copy_15 : decode cX1_copy 15 = .ok (.aload_n 1, 1) := by decide +kernel
theorem dX1_copy_16 : decode cX1_copy 16 = .ok (.getfield 20, 3) := by decide +kernel
theorem dX1_copy_19 : decode cX1_copy 19 = .ok (.invokevirtual 40, 3) := by decide +kernel
theorem dX1_copy_22 : decode cX1_copy 22 = .ok (.aload_n 0, 1) := by decide +kernel
theorem dX1_copy_23 : decode cX1_copy 23 = .ok (.getfield 23, 3) := by decide +kernel
theorem dX1_copy_26 : decode cX1_copy 26 = .ok (.aload_n 1, 1) := by decide +kernel
theorem dX1_copy_27 : decode cX1_copy 27 = .ok (.getfield 23, 3) := by decide +kernel
theorem dX1_copy_30 : decode cX1_copy 30 = .ok (.invokevirtual 40, 3) := by decide +kernel
theorem dX1_copy_33 : decode cX1_copy 33 = .ok (.return_, 1) := by decide +kernel
theorem dX2_init_0 : decode cX2_init 0 = .ok (.aload_n 0, 1) := by decide +kernel
theorem dX2_init_1 : decode cX2_init 1 = .ok (.invokespecial 3, 3) := by decide +kernel
theorem dX2_init_4 : decode cX2_init 4 = .ok (.aload_n 0, 1) := by decide +kernel
theorem dX2_init_5 : decode cX2_init 5 = .ok (.aload_n 1, 1) := by decide +kernel
theorem dX2_init_6 : decode cX2_init 6 = .ok (.putfield 9, 3) := by decide +kernel
theorem dX2_init_9 : decode cX2_init 9 = .ok (.aload_n 0, 1) := by decide +kernel
theorem dX2_init_10 : decode cX2_init 10 = .ok (.aload_n 1, 1) := by decide +kernel
theorem dX2_init_11 : decode cX2_init 11 = .ok (.getfield 15, 3) := by decide +kernel
theorem dX2_init_14 : decode cX2_init 14 = .ok (.putfield 21, 3) := by decide +kernel
theorem dX2_init_17 : decode cX2_init 17 = .ok (.aload_n 0, 1) := by decide +kernel
theorem dX2_init_18 : decode cX2_init 18 = .ok (.aload_n 1, 1) := by decide +kernel
theorem dX2_init_19 : decode cX2_init 19 = .ok (.getfield 22, 3) := by decide +kernel
theorem dX2_init_22 : decode cX2_init 22 = .ok (.putfield 26, 3) := by decide +kernel
theorem dX2_init_25 : decode cX2_init 25 = .ok (.return_, 1) := by decide +kernel
theorem dX2_send_0 : decode cX2_send 0 = .ok (.aload_n 0, 1) := by decide +kernel
theorem dX2_send_1 : decode cX2_send 1 = .ok (.iload_n 2, 1) := by decide +kernel
theorem dX2_send_2 : decode cX2_send 2 = .ok (.invokevirtual 27, 3) := by decide +kernel
theorem dX2_send_5 : decode cX2_send 5 = .ok (.istore_n 3, 1) := by decide +kernel
theorem dX2_send_6 : decode cX2_send 6 = .ok (.aload_n 0, 1) := by decide +kernel
theorem dX2_send_7 : decode cX2_send 7 = .ok (.getfield 21, 3) := by decide +kernel
theorem dX2_send_10 : decode cX2_send 10 = .ok (.getfield 31, 3) := by decide +kernel
theorem dX2_send_13 : decode cX2_send 13 = .ok (.iload_n 1, 1) := by decide +kernel
theorem dX2_send_14 : decode cX2_send 14 = .ok (.invokevirtual 37, 3) := by decide +kernel
theorem dX2_send_17 : decode cX2_send 17 = .ok (.istore 4, 2) := by decide +kernel
theorem dX2_send_19 : decode cX2_send 19 = .ok (.iload_n 3, 1) := by decide +kernel
theorem dX2_send_20 : decode cX2_send 20 = .ok (.iconst (-1), 1) := by decide +kernel
theorem dX2_send_21 : decode cX2_send 21 = .ok (.if_icmp .eq 45, 3) := by decide +kernel
theorem dX2_send_24 : decode cX2_send 24 = .ok (.aload_n 0, 1) := by decide +kernel
theorem dX2_send_25 : decode cX2_send 25 = .ok (.getfield 21, 3) := by decide +kernel
theorem dX2_send_28 : decode cX2_send 28 = .ok (.getfield 42, 3) := by decide +kernel
theorem dX2_send_31 : decode cX2_send 31 = .ok (.iload_n 3, 1) := by decide +kernel
theorem dX2_send_32 : decode cX2_send 32 = .ok (.invokevirtual 37, 3) := by decide +kernel
theorem dX2_send_35 : decode cX2_send 35 = .ok (.iconst 4, 1) := by decide +kernel
theorem dX2_send_36 : decode cX2_send 36 = .ok (.if_icmp .ne 7, 3) := by decide +kernel
theorem dX2_send_39 : decode cX2_send 39 = .ok (.iconst 1, 1) := by decide +kernel
theorem dX2_send_40 : decode cX2_send 40 = .ok (.goto 4, 3) := by decide +kernel
theorem dX2_send_43 : decode cX2_send 43 = .ok (.iconst 0, 1) := by decide +kernel
theorem dX2_send_44 : decode cX2_send 44 = .ok (.istore 5, 2) := by decide +kernel
theorem dX2_send_46 : decode cX2_send 46 = .ok (.aload_n 0, 1) := by decide +kernel
theorem dX2_send_47 : decode cX2_send 47 = .ok (.getfield 9, 3) := by decide +kernel
theorem dX2_send_50 : decode cX2_send 50 = .ok (.iload_n 3, 1) := by decide +kernel
theorem dX2_send_51 : decode cX2_send 51 = .ok (.invokevirtual 45, 3) := by decide +kernel
theorem dX2_send_54 : decode cX2_send 54 = .ok (.aload_n 0, 1) := by decide +kernel
theorem dX2_send_55 : decode cX2_send 55 = .ok (.iload_n 3, 1) := by decide +kernel
theorem dX2_send_56 : decode cX2_send 56 = .ok (.iload 4, 2) := by decide +kernel
theorem dX2_send_58 : decode cX2_send 58 = .ok (.iload 5, 2) := by decide +kernel
theorem dX2_send_60 : decode cX2_send 60 = .ok (.invokevirtual 49, 3) := by decide +kernel
theorem dX2_send_63 : decode cX2_send 63 = .ok (.goto 50, 3) := by decide +kernel
theorem dX2_send_66 : decode cX2_send 66 = .ok (.aload_n 0, 1) := by decide +kernel
theorem dX2_send_67 : decode cX2_send 67 = .ok (.getfield 26, 3) := by decide +kernel
theorem dX2_send_70 : decode cX2_send 70 = .ok (.iload_n 2, 1) := by decide +kernel
theorem dX2_send_71 : decode cX2_send 71 = .ok (.invokevirtual 53, 3) := by decide +kernel
theorem dX2_send_74 : decode cX2_send 74 = .ok (.ifCond .eq 16, 3) := by decide +kernel
theorem dX2_send_77 : decode cX2_send 77 = .ok (.aload_n 0, 1) := by decide +kernel
theorem dX2_send_78 : decode cX2_send 78 = .ok (.getfield 26, 3) := by decide +kernel
theorem dX2_send_81 : decode cX2_send 81 = .ok (.iload_n 2, 1) := by decide +kernel
theorem dX2_send_82 : decode cX2_send 82 = .ok (.iload 4, 2) := by decide +kernel
theorem dX2_send_84 : decode cX2_send 84 = .ok (.invokevirtual 59, 3) := by decide +kernel
theorem dX2_send_87 : decode cX2_send 87 = .ok (.goto 26, 3) := by decide +kernel
theorem dX2_send_90 : decode cX2_send 90 = .ok (.aload_n 0, 1) := by decide +kernel
theorem dX2_send_91 : decode cX2_send 91 = .ok (.getfield 21, 3) := by decide +kernel
theorem dX2_send_94 : decode cX2_send 94 = .ok (.iload_n 1, 1) := by decide +kernel
theorem dX2_send_95 : decode cX2_send 95 = .ok (.iconst 2, 1) := by decide +kernel
theorem dX2_send_96 : decode cX2_send 96 = .ok (.iload_n 2, 1) := by decide +kernel
theorem dX2_send_97 : decode cX2_send 97 = .ok (.iload_n 2, 1) := by decide +kernel
theorem dX2_send_98 : decode cX2_send 98 = .ok (.aload_n 0, 1) := by decide +kernel
theorem dX2_send_99 : decode cX2_send 99 = .ok (.getfield 9, 3) := by decide +kernel
theorem dX2_send_102 : decode cX2_send 102 = .ok (.getfield 63, 3) := by decide +kernel
theorem dX2_send_105 : decode cX2_send 105 = .ok (.bipush 6, 2) := by decide +kernel
theorem dX2_send_107 : decode cX2_send 107 = .ok (.invokevirtual 37, 3) := by decide +kernel
theorem dX2_send_110 : decode cX2_send 110 = .ok (.invokevirtual 66, 3) := by decide +kernel
theorem dX2_send_113 : decode cX2_send 113 = .ok (.return_, 1) := by decide +kernel
theorem dX2_receive_0 : decode cX2_receive 0 = .ok (.aload_n 0, 1) := by decide +kernel
theorem dX2_receive_1 : decode cX2_receive 1 = .ok (.iload_n 1, 1) := by decide +kernel
theorem dX2_receive_2 : decode cX2_receive 2 = .ok (.iload_n 2, 1) := by decide +kernel
theorem dX2_receive_3 : decode cX2_receive 3 = .ok (.iconst 0, 1) := by decide +kernel
theorem dX2_receive_4 : decode cX2_receive 4 = .ok (.invokevirtual 70, 3) := by decide +kernel
theorem dX2_receive_7 : decode cX2_receive 7 = .ok (.ifCond .ne 26, 3) := by decide +kernel
theorem dX2_receive_10 : decode cX2_receive 10 = .ok (.aload_n 0, 1) := by decide +kernel
theorem dX2_receive_11 : decode cX2_receive 11 = .ok (.getfield 21, 3) := by decide +kernel
theorem dX2_receive_14 : decode cX2_receive 14 = .ok (.iload_n 1, 1) := by decide +kernel
theorem dX2_receive_15 : decode cX2_receive 15 = .ok (.iconst 3, 1) := by decide +kernel
theorem dX2_receive_16 : decode cX2_receive 16 = .ok (.iload_n 2, 1) := by decide +kernel
theorem dX2_receive_17 : decode cX2_receive 17 = .ok (.iload_n 2, 1) := by decide +kernel
theorem dX2_receive_18 : decode cX2_receive 18 = .ok (.aload_n 0, 1) := by decide +kernel
theorem dX2_receive_19 : decode cX2_receive 19 = .ok (.getfield 9, 3) := by decide +kernel
theorem dX2_receive_22 : decode cX2_receive 22 = .ok (.getfield 63, 3) := by decide +kernel
theorem dX2_receive_25 : decode cX2_receive 25 = .ok (.bipush 6, 2) := by decide +kernel
theorem dX2_receive_27 : decode cX2_receive 27 = .ok (.invokevirtual 37, 3) := by decide +kernel
theorem dX2_receive_30 : decode cX2_receive 30 = .ok (.invokevirtual 66, 3) := by decide +kernel
theorem dX2_receive_33 : decode cX2_receive 33 = .ok (.return_, 1) := by decide +kernel
theorem dX2_choose_0 : decode cX2_choose 0 = .ok (.aload_n 0, 1) := by decide +kernel
theorem dX2_choose_1 : decode cX2_choose 1 = .ok (.getfield 21, 3) := by decide +kernel
theorem dX2_choose_4 : decode cX2_choose 4 = .ok (.getfield 74, 3) := by decide +kernel
theorem dX2_choose_7 : decode cX2_choose 7 = .ok (.iload_n 1, 1) := by decide +kernel
theorem dX2_choose_8 : decode cX2_choose 8 = .ok (.invokevirtual 37, 3) := by decide +kernel
theorem dX2_choose_11 : decode cX2_choose 11 = .ok (.iconst 2, 1) := by decide +kernel
theorem dX2_choose_12 : decode cX2_choose 12 = .ok (.irem, 1) := by decide +kernel
theorem dX2_choose_13 : decode cX2_choose 13 = .ok (.ifCond .ne 7, 3) := by decide +kernel
theorem dX2_choose_16 : decode cX2_choose 16 = .ok (.iconst 1, 1) := by decide +kernel
theorem dX2_choose_17 : decode cX2_choose 17 = .ok (.goto 4, 3) := by decide +kernel
theorem dX2_choose_20 : decode cX2_choose 20 = .ok (.iconst 0, 1) := by decide +kernel
theorem dX2_choose_21 : decode cX2_choose 21 = .ok (.istore 4, 2) := by decide +kernel
theorem dX2_choose_23 : decode cX2_choose 23 = .ok (.iload 4, 2) := by decide +kernel
theorem dX2_choose_25 : decode cX2_choose 25 = .ok (.ifCond .eq 7, 3) := by decide +kernel
theorem dX2_choose_28 : decode cX2_choose 28 = .ok (.iload_n 2, 1) := by decide +kernel
theorem dX2_choose_29 : decode cX2_choose 29 = .ok (.goto 4, 3) := by decide +kernel
theorem dX2_choose_32 : decode cX2_choose 32 = .ok (.iload_n 3, 1) := by decide +kernel
theorem dX2_choose_33 : decode cX2_choose 33 = .ok (.istore 5, 2) := by decide +kernel
theorem dX2_choose_35 : decode cX2_choose 35 = .ok (.iload 4, 2) := by decide +kernel
theorem dX2_choose_37 : decode cX2_choose 37 = .ok (.ifCond .eq 7, 3) := by decide +kernel
theorem dX2_choose_40 : decode cX2_choose 40 = .ok (.iload_n 3, 1) := by decide +kernel
theorem dX2_choose_41 : decode cX2_choose 41 = .ok (.goto 4, 3) := by decide +kernel
theorem dX2_choose_44 : decode cX2_choose 44 = .ok (.iload_n 2, 1) := by decide +kernel
theorem dX2_choose_45 : decode cX2_choose 45 = .ok (.istore 6, 2) := by decide +kernel
theorem dX2_choose_47 : decode cX2_choose 47 = .ok (.aload_n 0, 1) := by decide +kernel
theorem dX2_choose_48 : decode cX2_choose 48 = .ok (.iload_n 1, 1) := by decide +kernel
theorem dX2_choose_49 : decode cX2_choose 49 = .ok (.iload 5, 2) := by decide +kernel
theorem dX2_choose_51 : decode cX2_choose 51 = .ok (.iconst 1, 1) := by decide +kernel
theorem dX2_choose_52 : decode cX2_choose 52 = .ok (.invokevirtual 70, 3) := by decide +kernel
theorem dX2_choose_55 : decode cX2_choose 55 = .ok (.ifCond .ne 37, 3) := by decide +kernel
theorem dX2_choose_58 : decode cX2_choose 58 = .ok (.aload_n 0, 1) := by decide +kernel
theorem dX2_choose_59 : decode cX2_choose 59 = .ok (.iload_n 1, 1) := by decide +kernel
theorem dX2_choose_60 : decode cX2_choose 60 = .ok (.iload 6, 2) := by decide +kernel
theorem dX2_choose_62 : decode cX2_choose 62 = .ok (.iconst 1, 1) := by decide +kernel
theorem dX2_choose_63 : decode cX2_choose 63 = .ok (.invokevirtual 70, 3) := by decide +kernel
theorem dX2_choose_66 : decode cX2_choose 66 = .ok (.ifCond .ne 26, 3) := by decide +kernel
theorem dX2_choose_69 : decode cX2_choose 69 = .ok (.aload_n 0, 1) := by decide +kernel
theorem dX2_choose_70 : decode cX2_choose 70 = .ok (.getfield 21, 3) := by decide +kernel
theorem dX2_choose_73 : decode cX2_choose 73 = .ok (.iload_n 1, 1) := by decide +kernel
theorem dX2_choose_74 : decode cX2_choose 74 = .ok (.iconst 4, 1) := by decide +kernel
theorem dX2_choose_75 : decode cX2_choose 75 = .ok (.iload_n 2, 1) := by decide +kernel
theorem dX2_choose_76 : decode cX2_choose 76 = .ok (.iload_n 3, 1) := by decide +kernel
theorem dX2_choose_77 : decode cX2_choose 77 = .ok (.aload_n 0, 1) := by decide +kernel
theorem dX2_choose_78 : decode cX2_choose 78 = .ok (.getfield 9, 3) := by decide +kernel
theorem dX2_choose_81 : decode cX2_choose 81 = .ok (.getfield 63, 3) := by decide +kernel
theorem dX2_choose_84 : decode cX2_choose 84 = .ok (.bipush 6, 2) := by decide +kernel
theorem dX2_choose_86 : decode cX2_choose 86 = .ok (.invokevirtual 37, 3) := by decide +kernel
theorem dX2_choose_89 : decode cX2_choose 89 = .ok (.invokevirtual 66, 3) := by decide +kernel
theorem dX2_choose_92 : decode cX2_choose 92 = .ok (.return_, 1) := by decide +kernel
theorem dX2_takeNumber_0 : decode cX2_takeNumber 0 = .ok (.aload_n 0, 1) := by decide +kernel
theorem dX2_takeNumber_1 : decode cX2_takeNumber 1 = .ok (.iload_n 2, 1) := by decide +kernel
theorem dX2_takeNumber_2 : decode cX2_takeNumber 2 = .ok (.invokevirtual 77, 3) := by decide +kernel
theorem dX2_takeNumber_5 : decode cX2_takeNumber 5 = .ok (.istore 4, 2) := by decide +kernel
theorem dX2_takeNumber_7 : decode cX2_takeNumber 7 = .ok (.aload_n 0, 1) := by decide +kernel
theorem dX2_takeNumber_8 : decode cX2_takeNumber 8 = .ok (.getfield 21, 3) := by decide +kernel
theorem dX2_takeNumber_11 : decode cX2_takeNumber 11 = .ok (.getfield 31, 3) := by decide +kernel
theorem dX2_takeNumber_14 : decode cX2_takeNumber 14 = .ok (.iload 4, 2) := by decide +kernel
theorem dX2_takeNumber_16 : decode cX2_takeNumber 16 = .ok (.invokevirtual 37, 3) := by decide +kernel
theorem dX2_takeNumber_19 : decode cX2_takeNumber 19 = .ok (.istore 5, 2) := by decide +kernel
theorem dX2_takeNumber_21 : decode cX2_takeNumber 21 = .ok (.aload_n 0, 1) := by decide +kernel
theorem dX2_takeNumber_22 : decode cX2_takeNumber 22 = .ok (.getfield 26, 3) := by decide +kernel
theorem dX2_takeNumber_25 : decode cX2_takeNumber 25 = .ok (.getfield 80, 3) := by decide +kernel
theorem dX2_takeNumber_28 : decode cX2_takeNumber 28 = .ok (.iload_n 2, 1) := by decide +kernel
theorem dX2_takeNumber_29 : decode cX2_takeNumber 29 = .ok (.invokevirtual 37, 3) := by decide +kernel
theorem dX2_takeNumber_32 : decode cX2_takeNumber 32 = .ok (.ifCond .le 36, 3) := by decide +kernel
theorem dX2_takeNumber_35 : decode cX2_takeNumber 35 = .ok (.aload_n 0, 1) := by decide +kernel
theorem dX2_takeNumber_36 : decode cX2_takeNumber 36 = .ok (.getfield 26, 3) := by decide +kernel
theorem dX2_takeNumber_39 : decode cX2_takeNumber 39 = .ok (.iload_n 2, 1) := by decide +kernel
theorem dX2_takeNumber_40 : decode cX2_takeNumber 40 = .ok (.invokevirtual 83, 3) := by decide +kernel
theorem dX2_takeNumber_43 : decode cX2_takeNumber 43 = .ok (.istore 6, 2) := by decide +kernel
theorem dX2_takeNumber_45 : decode cX2_takeNumber 45 = .ok (.iload 4, 2) := by decide +kernel
theorem dX2_takeNumber_47 : decode cX2_takeNumber 47 = .ok (.iconst (-1), 1) := by decide +kernel
theorem dX2_takeNumber_48 : decode cX2_takeNumber 48 = .ok (.if_icmp .eq 13, 3) := by decide +kernel
theorem dX2_takeNumber_51 : decode cX2_takeNumber 51 = .ok (.aload_n 0, 1) := by decide +kernel
theorem dX2_takeNumber_52 : decode cX2_takeNumber 52 = .ok (.getfield 26, 3) := by decide +kernel
theorem dX2_takeNumber_55 : decode cX2_takeNumber 55 = .ok (.iload_n 2, 1) := by decide +kernel
theorem dX2_takeNumber_56 : decode cX2_takeNumber 56 = .ok (.iload 5, 2) := by decide +kernel
theorem dX2_takeNumber_58 : decode cX2_takeNumber 58 = .ok (.invokevirtual 59, 3) := by decide +kernel
theorem dX2_takeNumber_61 : decode cX2_takeNumber 61 = .ok (.iload 6, 2) := by decide +kernel
theorem dX2_takeNumber_63 : decode cX2_takeNumber 63 = .ok (.istore 5, 2) := by decide +kernel
theorem dX2_takeNumber_65 : decode cX2_takeNumber 65 = .ok (.goto 11, 3) := by decide +kernel
theorem dX2_takeNumber_68 : decode cX2_takeNumber 68 = .ok (.iload 4, 2) := by decide +kernel
theorem dX2_takeNumber_70 : decode cX2_takeNumber 70 = .ok (.iconst (-1), 1) := by decide +kernel
theorem dX2_takeNumber_71 : decode cX2_takeNumber 71 = .ok (.if_icmp .ne 5, 3) := by decide +kernel
theorem dX2_takeNumber_74 : decode cX2_takeNumber 74 = .ok (.iconst 0, 1) := by decide +kernel
theorem dX2_takeNumber_75 : decode cX2_takeNumber 75 = .ok (.ireturn, 1) := by decide +kernel
theorem dX2_takeNumber_76 : decode cX2_takeNumber 76 = .ok (.iload 4, 2) := by decide +kernel
theorem dX2_takeNumber_78 : decode cX2_takeNumber 78 = .ok (.iconst (-1), 1) := by decide +kernel
theorem dX2_takeNumber_79 : decode cX2_takeNumber 79 = .ok (.if_icmp .eq 12, 3) := by decide +kernel
theorem dX2_takeNumber_82 : decode cX2_takeNumber 82 = .ok (.aload_n 0, 1) := by decide +kernel
theorem dX2_takeNumber_83 : decode cX2_takeNumber 83 = .ok (.getfield 9, 3) := by decide +kernel
theorem dX2_takeNumber_86 : decode cX2_takeNumber 86 = .ok (.iload 4, 2) := by decide +kernel
theorem dX2_takeNumber_88 : decode cX2_takeNumber 88 = .ok (.invokevirtual 45, 3) := by decide +kernel
theorem dX2_takeNumber_91 : decode cX2_takeNumber 91 = .ok (.aload_n 0, 1) := by decide +kernel
theorem dX2_takeNumber_92 : decode cX2_takeNumber 92 = .ok (.iload_n 1, 1) := by decide +kernel
theorem dX2_takeNumber_93 : decode cX2_takeNumber 93 = .ok (.iload 5, 2) := by decide +kernel
theorem dX2_takeNumber_95 : decode cX2_takeNumber 95 = .ok (.iload_n 3, 1) := by decide +kernel
theorem dX2_takeNumber_96 : decode cX2_takeNumber 96 = .ok (.invokevirtual 49, 3) := by decide +kernel
theorem dX2_takeNumber_99 : decode cX2_takeNumber 99 = .ok (.iconst 1, 1) := by decide +kernel
theorem dX2_takeNumber_100 : decode cX2_takeNumber 100 = .ok (.ireturn, 1) := by decide +kernel
theorem dX2_receiveNumber_0 : decode cX2_receiveNumber 0 = .ok (.aload_n 0, 1) := by decide +kernel
theorem dX2_receiveNumber_1 : decode cX2_receiveNumber 1 = .ok (.getfield 21, 3) := by decide +kernel
theorem dX2_receiveNumber_4 : decode cX2_receiveNumber 4 = .ok (.getfield 31, 3) := by decide +kernel
theorem dX2_receiveNumber_7 : decode cX2_receiveNumber 7 = .ok (.iload_n 1, 1) := by decide +kernel
theorem dX2_receiveNumber_8 : decode cX2_receiveNumber 8 = .ok (.iload_n 2, 1) := by decide +kernel
theorem dX2_receiveNumber_9 : decode cX2_receiveNumber 9 = .ok (.invokevirtual 86, 3) := by decide +kernel
theorem dX2_receiveNumber_12 : decode cX2_receiveNumber 12 = .ok (.aload_n 0, 1) := by decide +kernel
theorem dX2_receiveNumber_13 : decode cX2_receiveNumber 13 = .ok (.getfield 9, 3) := by decide +kernel
theorem dX2_receiveNumber_16 : decode cX2_receiveNumber 16 = .ok (.getfield 63, 3) := by decide +kernel
theorem dX2_receiveNumber_19 : decode cX2_receiveNumber 19 = .ok (.bipush 10, 2) := by decide +kernel
theorem dX2_receiveNumber_21 : decode cX2_receiveNumber 21 = .ok (.iconst 1, 1) := by decide +kernel
theorem dX2_receiveNumber_22 : decode cX2_receiveNumber 22 = .ok (.invokevirtual 89, 3) := by decide +kernel
theorem dX2_receiveNumber_25 : decode cX2_receiveNumber 25 = .ok (.iload_n 3, 1) := by decide +kernel
theorem dX2_receiveNumber_26 : decode cX2_receiveNumber 26 = .ok (.ifCond .eq 15, 3) := by decide +kernel
theorem dX2_receiveNumber_29 : decode cX2_receiveNumber 29 = .ok (.aload_n 0, 1) := by decide +kernel
theorem dX2_receiveNumber_30 : decode cX2_receiveNumber 30 = .ok (.getfield 21, 3) := by decide +kernel
theorem dX2_receiveNumber_33 : decode cX2_receiveNumber 33 = .ok (.getfield 74, 3) := by decide +kernel
theorem dX2_receiveNumber_36 : decode cX2_receiveNumber 36 = .ok (.iload_n 1, 1) := by decide +kernel
theorem dX2_receiveNumber_37 : decode cX2_receiveNumber 37 = .ok (.iconst 1, 1) := by decide +kernel
theorem dX2_receiveNumber_38 : decode cX2_receiveNumber 38 = .ok (.invokevirtual 89, 3) := by decide +kernel
theorem dX2_receiveNumber_41 : decode cX2_receiveNumber 41 = .ok (.return_, 1) := by decide +kernel
theorem dX2_longestTaker_0 : decode cX2_longestTaker 0 = .ok (.iconst (-1), 1) := by decide +kernel
theorem dX2_longestTaker_1 : decode cX2_longestTaker 1 = .ok (.istore_n 2, 1) := by decide +kernel
theorem dX2_longestTaker_2 : decode cX2_longestTaker 2 = .ok (.iconst 0, 1) := by decide +kernel
theorem dX2_longestTaker_3 : decode cX2_longestTaker 3 = .ok (.istore_n 3, 1) := by decide +kernel
theorem dX2_longestTaker_4 : decode cX2_longestTaker 4 = .ok (.iload_n 3, 1) := by decide +kernel
theorem dX2_longestTaker_5 : decode cX2_longestTaker 5 = .ok (.aload_n 0, 1) := by decide +kernel
theorem dX2_longestTaker_6 : decode cX2_longestTaker 6 = .ok (.getfield 21, 3) := by decide +kernel
theorem dX2_longestTaker_9 : decode cX2_longestTaker 9 = .ok (.getfield 92, 3) := by decide +kernel
theorem dX2_longestTaker_12 : decode cX2_longestTaker 12 = .ok (.if_icmp .ge 32, 3) := by decide +kernel
theorem dX2_longestTaker_15 : decode cX2_longestTaker 15 = .ok (.aload_n 0, 1) := by decide +kernel
theorem dX2_longestTaker_16 : decode cX2_longestTaker 16 = .ok (.getfield 21, 3) := by decide +kernel
theorem dX2_longestTaker_19 : decode cX2_longestTaker 19 = .ok (.iload_n 3, 1) := by decide +kernel
theorem dX2_longestTaker_20 : decode cX2_longestTaker 20 = .ok (.iload_n 1, 1) := by decide +kernel
theorem dX2_longestTaker_21 : decode cX2_longestTaker 21 = .ok (.invokevirtual 96, 3) := by decide +kernel
theorem dX2_longestTaker_24 : decode cX2_longestTaker 24 = .ok (.ifCond .eq 14, 3) := by decide +kernel
theorem dX2_longestTaker_27 : decode cX2_longestTaker 27 = .ok (.aload_n 0, 1) := by decide +kernel
theorem dX2_longestTaker_28 : decode cX2_longestTaker 28 = .ok (.iload_n 3, 1) := by decide +kernel
theorem dX2_longestTaker_29 : decode cX2_longestTaker 29 = .ok (.iload_n 2, 1) := by decide +kernel
theorem dX2_longestTaker_30 : decode cX2_longestTaker 30 = .ok (.invokevirtual 100, 3) := by decide +kernel
theorem dX2_longestTaker_33 : decode cX2_longestTaker 33 = .ok (.ifCond .eq 5, 3) := by decide +kernel
theorem dX2_longestTaker_36 : decode cX2_longestTaker 36 = .ok (.iload_n 3, 1) := by decide +kernel
theorem dX2_longestTaker_37 : decode cX2_longestTaker 37 = .ok (.istore_n 2, 1) := by decide +kernel
theorem dX2_longestTaker_38 : decode cX2_longestTaker 38 = .ok (.iinc 3 1, 3) := by decide +kernel
theorem dX2_longestTaker_41 : decode cX2_longestTaker 41 = .ok (.goto (-37), 3) := by decide +kernel
theorem dX2_longestTaker_44 : decode cX2_longestTaker 44 = .ok (.iload_n 2, 1) := by decide +kernel
theorem dX2_longestTaker_45 : decode cX2_longestTaker 45 = .ok (.ireturn, 1) := by decide +kernel
theorem dX2_longestSender_0 : decode cX2_longestSender 0 = .ok (.iconst (-1), 1) := by decide +kernel
theorem dX2_longestSender_1 : decode cX2_longestSender 1 = .ok (.istore_n 2, 1) := by decide +kernel
theorem dX2_longestSender_2 : decode cX2_longestSender 2 = .ok (.iconst 0, 1) := by decide +kernel
theorem dX2_longestSender_3 : decode cX2_longestSender 3 = .ok (.istore_n 3, 1) := by decide +kernel
theorem dX2_longestSender_4 : decode cX2_longestSender 4 = .ok (.iload_n 3, 1) := by decide +kernel
theorem dX2_longestSender_5 : decode cX2_longestSender 5 = .ok (.aload_n 0, 1) := by decide +kernel
theorem dX2_longestSender_6 : decode cX2_longestSender 6 = .ok (.getfield 21, 3) := by decide +kernel
theorem dX2_longestSender_9 : decode cX2_longestSender 9 = .ok (.getfield 92, 3) := by decide +kernel
theorem dX2_longestSender_12 : decode cX2_longestSender 12 = .ok (.if_icmp .ge 32, 3) := by decide +kernel
theorem dX2_longestSender_15 : decode cX2_longestSender 15 = .ok (.aload_n 0, 1) := by decide +kernel
theorem dX2_longestSender_16 : decode cX2_longestSender 16 = .ok (.getfield 21, 3) := by decide +kernel
theorem dX2_longestSender_19 : decode cX2_longestSender 19 = .ok (.iload_n 3, 1) := by decide +kernel
theorem dX2_longestSender_20 : decode cX2_longestSender 20 = .ok (.iload_n 1, 1) := by decide +kernel
theorem dX2_longestSender_21 : decode cX2_longestSender 21 = .ok (.invokevirtual 103, 3) := by decide +kernel
theorem dX2_longestSender_24 : decode cX2_longestSender 24 = .ok (.ifCond .eq 14, 3) := by decide +kernel
theorem dX2_longestSender_27 : decode cX2_longestSender 27 = .ok (.aload_n 0, 1) := by decide +kernel
theorem dX2_longestSender_28 : decode cX2_longestSender 28 = .ok (.iload_n 3, 1) := by decide +kernel
theorem dX2_longestSender_29 : decode cX2_longestSender 29 = .ok (.iload_n 2, 1) := by decide +kernel
theorem dX2_longestSender_30 : decode cX2_longestSender 30 = .ok (.invokevirtual 100, 3) := by decide +kernel
theorem dX2_longestSender_33 : decode cX2_longestSender 33 = .ok (.ifCond .eq 5, 3) := by decide +kernel
theorem dX2_longestSender_36 : decode cX2_longestSender 36 = .ok (.iload_n 3, 1) := by decide +kernel
theorem dX2_longestSender_37 : decode cX2_longestSender 37 = .ok (.istore_n 2, 1) := by decide +kernel
theorem dX2_longestSender_38 : decode cX2_longestSender 38 = .ok (.iinc 3 1, 3) := by decide +kernel
theorem dX2_longestSender_41 : decode cX2_longestSender 41 = .ok (.goto (-37), 3) := by decide +kernel
theorem dX2_longestSender_44 : decode cX2_longestSender 44 = .ok (.iload_n 2, 1) := by decide +kernel
theorem dX2_longestSender_45 : decode cX2_longestSender 45 = .ok (.ireturn, 1) := by decide +kernel
theorem dX2_waitsLonger_0 : decode cX2_waitsLonger 0 = .ok (.iload_n 2, 1) := by decide +kernel
theorem dX2_waitsLonger_1 : decode cX2_waitsLonger 1 = .ok (.iconst (-1), 1) := by decide +kernel
theorem dX2_waitsLonger_2 : decode cX2_waitsLonger 2 = .ok (.if_icmp .eq 28, 3) := by decide +kernel
theorem dX2_waitsLonger_5 : decode cX2_waitsLonger 5 = .ok (.aload_n 0, 1) := by decide +kernel
theorem dX2_waitsLonger_6 : decode cX2_waitsLonger 6 = .ok (.getfield 21, 3) := by decide +kernel
theorem dX2_waitsLonger_9 : decode cX2_waitsLonger 9 = .ok (.getfield 106, 3) := by decide +kernel
theorem dX2_waitsLonger_12 : decode cX2_waitsLonger 12 = .ok (.iload_n 1, 1) := by decide +kernel
theorem dX2_waitsLonger_13 : decode cX2_waitsLonger 13 = .ok (.invokevirtual 37, 3) := by decide +kernel
theorem dX2_waitsLonger_16 : decode cX2_waitsLonger 16 = .ok (.aload_n 0, 1) := by decide +kernel
theorem dX2_waitsLonger_17 : decode cX2_waitsLonger 17 = .ok (.getfield 21, 3) := by decide +kernel
theorem dX2_waitsLonger_20 : decode cX2_waitsLonger 20 = .ok (.getfield 106, 3) := by decide +kernel
theorem dX2_waitsLonger_23 : decode cX2_waitsLonger 23 = .ok (.iload_n 2, 1) := by decide +kernel
theorem dX2_waitsLonger_24 : decode cX2_waitsLonger 24 = .ok (.invokevirtual 37, 3) := by decide +kernel
theorem dX2_waitsLonger_27 : decode cX2_waitsLonger 27 = .ok (.if_icmp .ge 7, 3) := by decide +kernel
theorem dX2_waitsLonger_30 : decode cX2_waitsLonger 30 = .ok (.iconst 1, 1) := by decide +kernel
theorem dX2_waitsLonger_31 : decode cX2_waitsLonger 31 = .ok (.goto 4, 3) := by decide +kernel
theorem dX2_waitsLonger_34 : decode cX2_waitsLonger 34 = .ok (.iconst 0, 1) := by decide +kernel
theorem dX2_waitsLonger_35 : decode cX2_waitsLonger 35 = .ok (.ireturn, 1) := by decide +kernel
theorem dX3_init_0 : decode cX3_init 0 = .ok (.aload_n 0, 1) := by decide +kernel
theorem dX3_init_1 : decode cX3_init 1 = .ok (.invokespecial 3, 3) := by decide +kernel
theorem dX3_init_4 : decode cX3_init 4 = .ok (.aload_n 0, 1) := by decide +kernel
theorem dX3_init_5 : decode cX3_init 5 = .ok (.new 9, 3) := by decide +kernel
theorem dX3_init_8 : decode cX3_init 8 = .ok (.dup, 1) := by decide +kernel
theorem dX3_init_9 : decode cX3_init 9 = .ok (.sipush 660, 3) := by decide +kernel
theorem dX3_init_12 : decode cX3_init 12 = .ok (.invokespecial 11, 3) := by decide +kernel
theorem dX3_init_15 : decode cX3_init 15 = .ok (.putfield 14, 3) := by decide +kernel
theorem dX3_init_18 : decode cX3_init 18 = .ok (.aload_n 0, 1) := by decide +kernel
theorem dX3_init_19 : decode cX3_init 19 = .ok (.new 9, 3) := by decide +kernel
theorem dX3_init_22 : decode cX3_init 22 = .ok (.dup, 1) := by decide +kernel
theorem dX3_init_23 : decode cX3_init 23 = .ok (.sipush 660, 3) := by decide +kernel
theorem dX3_init_26 : decode cX3_init 26 = .ok (.invokespecial 11, 3) := by decide +kernel
theorem dX3_init_29 : decode cX3_init 29 = .ok (.putfield 20, 3) := by decide +kernel
theorem dX3_init_32 : decode cX3_init 32 = .ok (.aload_n 0, 1) := by decide +kernel
theorem dX3_init_33 : decode cX3_init 33 = .ok (.new 9, 3) := by decide +kernel
theorem dX3_init_36 : decode cX3_init 36 = .ok (.dup, 1) := by decide +kernel
theorem dX3_init_37 : decode cX3_init 37 = .ok (.sipush 660, 3) := by decide +kernel
theorem dX3_init_40 : decode cX3_init 40 = .ok (.invokespecial 11, 3) := by decide +kernel
theorem dX3_init_43 : decode cX3_init 43 = .ok (.putfield 23, 3) := by decide +kernel
theorem dX3_init_46 : decode cX3_init 46 = .ok (.return_, 1) := by decide +kernel
theorem dX3_add_0 : decode cX3_add 0 = .ok (.aload_n 0, 1) := by decide +kernel
theorem dX3_add_1 : decode cX3_add 1 = .ok (.getfield 14, 3) := by decide +kernel
theorem dX3_add_4 : decode cX3_add 4 = .ok (.invokevirtual 26, 3) := by decide +kernel
theorem dX3_add_7 : decode cX3_add 7 = .ok (.istore 4, 2) := by decide +kernel
theorem dX3_add_9 : decode cX3_add 9 = .ok (.aload_n 0, 1) := by decide +kernel
theorem dX3_add_10 : decode cX3_add 10 = .ok (.getfield 14, 3) := by decide +kernel
theorem dX3_add_13 : decode cX3_add 13 = .ok (.iload_n 1, 1) := by decide +kernel
theorem dX3_add_14 : decode cX3_add 14 = .ok (.invokevirtual 30, 3) := by decide +kernel
theorem dX3_add_17 : decode cX3_add 17 = .ok (.aload_n 0, 1) := by decide +kernel
theorem dX3_add_18 : decode cX3_add 18 = .ok (.getfield 20, 3) := by decide +kernel
theorem dX3_add_21 : decode cX3_add 21 = .ok (.iload_n 2, 1) := by decide +kernel
theorem dX3_add_22 : decode cX3_add 22 = .ok (.invokevirtual 30, 3) := by decide +kernel
theorem dX3_add_25 : decode cX3_add 25 = .ok (.aload_n 0, 1) := by decide +kernel
theorem dX3_add_26 : decode cX3_add 26 = .ok (.getfield 23, 3) := by decide +kernel
theorem dX3_add_29 : decode cX3_add 29 = .ok (.iload_n 3, 1) := by decide +kernel
theorem dX3_add_30 : decode cX3_add 30 = .ok (.invokevirtual 30, 3) := by decide +kernel
theorem dX3_add_33 : decode cX3_add 33 = .ok (.iload 4, 2) := by decide +kernel
theorem dX3_add_35 : decode cX3_add 35 = .ok (.ireturn, 1) := by decide +kernel
theorem dX3_under_0 : decode cX3_under 0 = .ok (.iload_n 2, 1) := by decide +kernel
theorem dX3_under_1 : decode cX3_under 1 = .ok (.ifCond .ge 7, 3) := by decide +kernel
theorem dX3_under_4 : decode cX3_under 4 = .ok (.iconst (-1), 1) := by decide +kernel
theorem dX3_under_5 : decode cX3_under 5 = .ok (.goto 4, 3) := by decide +kernel
theorem dX3_under_8 : decode cX3_under 8 = .ok (.iload_n 1, 1) := by decide +kernel
theorem dX3_under_9 : decode cX3_under 9 = .ok (.istore_n 3, 1) := by decide +kernel
theorem dX3_under_10 : decode cX3_under 10 = .ok (.iconst 0, 1) := by decide +kernel
theorem dX3_under_11 : decode cX3_under 11 = .ok (.istore 4, 2) := by decide +kernel
theorem dX3_under_13 : decode cX3_under 13 = .ok (.iload 4, 2) := by decide +kernel
theorem dX3_under_15 : decode cX3_under 15 = .ok (.iload_n 2, 1) := by decide +kernel
theorem dX3_under_16 : decode cX3_under 16 = .ok (.if_icmp .ge 23, 3) := by decide +kernel
theorem dX3_under_19 : decode cX3_under 19 = .ok (.iload_n 3, 1) := by decide +kernel
theorem dX3_under_20 : decode cX3_under 20 = .ok (.iconst (-1), 1) := by decide +kernel
theorem dX3_under_21 : decode cX3_under 21 = .ok (.if_icmp .eq 18, 3) := by decide +kernel
theorem dX3_under_24 : decode cX3_under 24 = .ok (.aload_n 0, 1) := by decide +kernel
theorem dX3_under_25 : decode cX3_under 25 = .ok (.getfield 23, 3) := by decide +kernel
theorem dX3_under_28 : decode cX3_under 28 = .ok (.iload_n 3, 1) := by decide +kernel
theorem dX3_under_29 : decode cX3_under 29 = .ok (.invokevirtual 33, 3) := by decide +kernel
theorem dX3_under_32 : decode cX3_under 32 = .ok (.istore_n 3, 1) := by decide +kernel
theorem dX3_under_33 : decode cX3_under 33 = .ok (.iinc 4 1, 3) := by decide +kernel
theorem dX3_under_36 : decode cX3_under 36 = .ok (.goto (-23), 3) := by decide +kernel
theorem dX3_under_39 : decode cX3_under 39 = .ok (.iload_n 3, 1) := by decide +kernel
theorem dX3_under_40 : decode cX3_under 40 = .ok (.ireturn, 1) := by decide +kernel
theorem dX3_codeOfFirstCause_0 : decode cX3_codeOfFirstCause 0 = .ok (.iload_n 1, 1) := by decide +kernel
theorem dX3_codeOfFirstCause_1 : decode cX3_codeOfFirstCause 1 = .ok (.istore_n 2, 1) := by decide +kernel
theorem dX3_codeOfFirstCause_2 : decode cX3_codeOfFirstCause 2 = .ok (.iconst 0, 1) := by decide +kernel
theorem dX3_codeOfFirstCause_3 : decode cX3_codeOfFirstCause 3 = .ok (.istore_n 3, 1) := by decide +kernel
theorem dX3_codeOfFirstCause_4 : decode cX3_codeOfFirstCause 4 = .ok (.iload_n 3, 1) := by decide +kernel
theorem dX3_codeOfFirstCause_5 : decode cX3_codeOfFirstCause 5 = .ok (.sipush 660, 3) := by decide +kernel
theorem dX3_codeOfFirstCause_8 : decode cX3_codeOfFirstCause 8 = .ok (.if_icmp .ge 30, 3) := by decide +kernel
theorem dX3_codeOfFirstCause_11 : decode cX3_codeOfFirstCause 11 = .ok (.aload_n 0, 1) := by decide +kernel
theorem dX3_codeOfFirstCause_12 : decode cX3_codeOfFirstCause 12 = .ok (.getfield 23, 3) := by decide +kernel
theorem dX3_codeOfFirstCause_15 : decode cX3_codeOfFirstCause 15 = .ok (.iload_n 2, 1) := by decide +kernel
theorem dX3_codeOfFirstCause_16 : decode cX3_codeOfFirstCause 16 = .ok (.invokevirtual 33, 3) := by decide +kernel
theorem dX3_codeOfFirstCause_19 : decode cX3_codeOfFirstCause 19 = .ok (.iconst (-1), 1) := by decide +kernel
theorem dX3_codeOfFirstCause_20 : decode cX3_codeOfFirstCause 20 = .ok (.if_icmp .eq 18, 3) := by decide +kernel
theorem dX3_codeOfFirstCause_23 : decode cX3_codeOfFirstCause 23 = .ok (.aload_n 0, 1) := by decide +kernel
theorem dX3_codeOfFirstCause_24 : decode cX3_codeOfFirstCause 24 = .ok (.getfield 23, 3) := by decide +kernel
theorem dX3_codeOfFirstCause_27 : decode cX3_codeOfFirstCause 27 = .ok (.iload_n 2, 1) := by decide +kernel
theorem dX3_codeOfFirstCause_28 : decode cX3_codeOfFirstCause 28 = .ok (.invokevirtual 33, 3) := by decide +kernel
theorem dX3_codeOfFirstCause_31 : decode cX3_codeOfFirstCause 31 = .ok (.istore_n 2, 1) := by decide +kernel
theorem dX3_codeOfFirstCause_32 : decode cX3_codeOfFirstCause 32 = .ok (.iinc 3 1, 3) := by decide +kernel
theorem dX3_codeOfFirstCause_35 : decode cX3_codeOfFirstCause 35 = .ok (.goto (-31), 3) := by decide +kernel
theorem dX3_codeOfFirstCause_38 : decode cX3_codeOfFirstCause 38 = .ok (.aload_n 0, 1) := by decide +kernel
theorem dX3_codeOfFirstCause_39 : decode cX3_codeOfFirstCause 39 = .ok (.getfield 14, 3) := by decide +kernel
theorem dX3_codeOfFirstCause_42 : decode cX3_codeOfFirstCause 42 = .ok (.iload_n 2, 1) := by decide +kernel
theorem dX3_codeOfFirstCause_43 : decode cX3_codeOfFirstCause 43 = .ok (.invokevirtual 33, 3) := by decide +kernel
theorem dX3_codeOfFirstCause_46 : decode cX3_codeOfFirstCause 46 = .ok (.ireturn, 1) := by decide +kernel
theorem dX3_clear_0 : decode cX3_clear 0 = .ok (.aload_n 0, 1) := by decide +kernel
theorem dX3_clear_1 : decode cX3_clear 1 = .ok (.getfield 14, 3) := by decide +kernel
theorem dX3_clear_4 : decode cX3_clear 4 = .ok (.invokevirtual 37, 3) := by decide +kernel
theorem dX3_clear_7 : decode cX3_clear 7 = .ok (.aload_n 0, 1) := by decide +kernel
theorem dX3_clear_8 : decode cX3_clear 8 = .ok (.getfield 20, 3) := by decide +kernel
theorem dX3_clear_11 : decode cX3_clear 11 = .ok (.invokevirtual 37, 3) := by decide +kernel
theorem dX3_clear_14 : decode cX3_clear 14 = .ok (.aload_n 0, 1) := by decide +kernel
theorem dX3_clear_15 : decode cX3_clear 15 = .ok (.getfield 23, 3) := by decide +kernel
theorem dX3_clear_18 : decode cX3_clear 18 = .ok (.invokevirtual 37, 3) := by decide +kernel
theorem dX3_clear_21 : decode cX3_clear 21 = .ok (.return_, 1) := by decide +kernel
theorem dX3_copy_0 : decode cX3_copy 0 = .ok (.aload_n 0, 1) := by decide +kernel
theorem dX3_copy_1 : decode cX3_copy 1 = .ok (.getfield 14, 3) := by decide +kernel
theorem dX3_copy_4 : decode cX3_copy 4 = .ok (.aload_n 1, 1) := by decide +kernel
theorem dX3_copy_5 : decode cX3_copy 5 = .ok (.getfield 14, 3) := by decide +kernel
theorem dX3_copy_8 : decode cX3_copy 8 = .ok (.invokevirtual 40, 3) := by decide +kernel
theorem dX3_copy_11 : decode cX3_copy 11 = .ok (.aload_n 0, 1) := by decide +kernel
theorem dX3_copy_12 : decode cX3_copy 12 = .ok (.getfield 20, 3) := by decide +kernel
theorem dX3_copy_15 : decode cX3_copy 15 = .ok (.aload_n 1, 1) := by decide +kernel
theorem dX3_copy_16 : decode cX3_copy 16 = .ok (.getfield 20, 3) := by decide +kernel
theorem dX3_copy_19 : decode cX3_copy 19 = .ok (.invokevirtual 40, 3) := by decide +kernel
theorem dX3_copy_22 : decode cX3_copy 22 = .ok (.aload_n 0, 1) := by decide +kernel
theorem dX3_copy_23 : decode cX3_copy 23 = .ok (.getfield 23, 3) := by decide +kernel
theorem dX3_copy_26 : decode cX3_copy 26 = .ok (.aload_n 1, 1) := by decide +kernel
theorem dX3_copy_27 : decode cX3_copy 27 = .ok (.getfield 23, 3) := by decide +kernel
theorem dX3_copy_30 : decode cX3_copy 30 = .ok (.invokevirtual 40, 3) := by decide +kernel
theorem dX3_copy_33 : decode cX3_copy 33 = .ok (.return_, 1) := by decide +kernel
theorem dX4_init_0 : decode cX4_init 0 = .ok (.aload_n 0, 1) := by decide +kernel
theorem dX4_init_1 : decode cX4_init 1 = .ok (.invokespecial 3, 3) := by decide +kernel
theorem dX4_init_4 : decode cX4_init 4 = .ok (.aload_n 0, 1) := by decide +kernel
theorem dX4_init_5 : decode cX4_init 5 = .ok (.iload_n 1, 1) := by decide +kernel
theorem dX4_init_6 : decode cX4_init 6 = .ok (.iconst 0, 1) := by decide +kernel
theorem dX4_init_7 : decode cX4_init 7 = .ok (.invokestatic 9, 3) := by decide +kernel
theorem dX4_init_10 : decode cX4_init 10 = .ok (.newarray .int, 2) := by decide +kernel
theorem dX4_init_12 : decode cX4_init 12 = .ok (.putfield 15, 3) := by decide +kernel
theorem dX4_init_15 : decode cX4_init 15 = .ok (.return_, 1) := by decide +kernel
theorem dX4_size_0 : decode cX4_size 0 = .ok (.aload_n 0, 1) := by decide +kernel
theorem dX4_size_1 : decode cX4_size 1 = .ok (.getfield 21, 3) := by decide +kernel
theorem dX4_size_4 : decode cX4_size 4 = .ok (.ireturn, 1) := by decide +kernel
theorem dX4_has_0 : decode cX4_has 0 = .ok (.iload_n 1, 1) := by decide +kernel
theorem dX4_has_1 : decode cX4_has 1 = .ok (.ifCond .lt 15, 3) := by decide +kernel
theorem dX4_has_4 : decode cX4_has 4 = .ok (.iload_n 1, 1) := by decide +kernel
theorem dX4_has_5 : decode cX4_has 5 = .ok (.aload_n 0, 1) := by decide +kernel
theorem dX4_has_6 : decode cX4_has 6 = .ok (.getfield 21, 3) := by decide +kernel
theorem dX4_has_9 : decode cX4_has 9 = .ok (.if_icmp .ge 7, 3) := by decide +kernel
theorem dX4_has_12 : decode cX4_has 12 = .ok (.iconst 1, 1) := by decide +kernel
theorem dX4_has_13 : decode cX4_has 13 = .ok (.goto 4, 3) := by decide +kernel
theorem dX4_has_16 : decode cX4_has 16 = .ok (.iconst 0, 1) := by decide +kernel
theorem dX4_has_17 : decode cX4_has 17 = .ok (.ireturn, 1) := by decide +kernel
theorem dX4_at_0 : decode cX4_at 0 = .ok (.iload_n 1, 1) := by decide +kernel
theorem dX4_at_1 : decode cX4_at 1 = .ok (.ifCond .lt 29, 3) := by decide +kernel
theorem dX4_at_4 : decode cX4_at 4 = .ok (.iload_n 1, 1) := by decide +kernel
theorem dX4_at_5 : decode cX4_at 5 = .ok (.aload_n 0, 1) := by decide +kernel
theorem dX4_at_6 : decode cX4_at 6 = .ok (.getfield 21, 3) := by decide +kernel
theorem dX4_at_9 : decode cX4_at 9 = .ok (.if_icmp .ge 21, 3) := by decide +kernel
theorem dX4_at_12 : decode cX4_at 12 = .ok (.iload_n 1, 1) := by decide +kernel
theorem dX4_at_13 : decode cX4_at 13 = .ok (.aload_n 0, 1) := by decide +kernel
theorem dX4_at_14 : decode cX4_at 14 = .ok (.getfield 15, 3) := by decide +kernel
theorem dX4_at_17 : decode cX4_at 17 = .ok (.arraylength, 1) := by decide +kernel
theorem dX4_at_18 : decode cX4_at 18 = .ok (.if_icmp .ge 12, 3) := by decide +kernel
theorem dX4_at_21 : decode cX4_at 21 = .ok (.aload_n 0, 1) := by decide +kernel
theorem dX4_at_22 : decode cX4_at 22 = .ok (.getfield 15, 3) := by decide +kernel
theorem dX4_at_25 : decode cX4_at 25 = .ok (.iload_n 1, 1) := by decide +kernel
theorem dX4_at_26 : decode cX4_at 26 = .ok (.iaload, 1) := by decide +kernel
theorem dX4_at_27 : decode cX4_at 27 = .ok (.goto 4, 3) := by decide +kernel
theorem dX4_at_30 : decode cX4_at 30 = .ok (.iconst (-1), 1) := by decide +kernel
theorem dX4_at_31 : decode cX4_at 31 = .ok (.ireturn, 1) := by decide +kernel
theorem dX4_add_0 : decode cX4_add 0 = .ok (.aload_n 0, 1) := by decide +kernel
theorem dX4_add_1 : decode cX4_add 1 = .ok (.getfield 21, 3) := by decide +kernel
theorem dX4_add_4 : decode cX4_add 4 = .ok (.ifCond .lt 35, 3) := by decide +kernel
theorem dX4_add_7 : decode cX4_add 7 = .ok (.aload_n 0, 1) := by decide +kernel
theorem dX4_add_8 : decode cX4_add 8 = .ok (.getfield 21, 3) := by decide +kernel
theorem dX4_add_11 : decode cX4_add 11 = .ok (.aload_n 0, 1) := by decide +kernel
theorem dX4_add_12 : decode cX4_add 12 = .ok (.getfield 15, 3) := by decide +kernel
theorem dX4_add_15 : decode cX4_add 15 = .ok (.arraylength, 1) := by decide +kernel
theorem dX4_add_16 : decode cX4_add 16 = .ok (.if_icmp .ge 23, 3) := by decide +kernel
theorem dX4_add_19 : decode cX4_add 19 = .ok (.aload_n 0, 1) := by decide +kernel
theorem dX4_add_20 : decode cX4_add 20 = .ok (.getfield 15, 3) := by decide +kernel
theorem dX4_add_23 : decode cX4_add 23 = .ok (.aload_n 0, 1) := by decide +kernel
theorem dX4_add_24 : decode cX4_add 24 = .ok (.getfield 21, 3) := by decide +kernel
theorem dX4_add_27 : decode cX4_add 27 = .ok (.iload_n 1, 1) := by decide +kernel
theorem dX4_add_28 : decode cX4_add 28 = .ok (.iastore, 1) := by decide +kernel
theorem dX4_add_29 : decode cX4_add 29 = .ok (.aload_n 0, 1) := by decide +kernel
theorem dX4_add_30 : decode cX4_add 30 = .ok (.dup, 1) := by decide +kernel
theorem dX4_add_31 : decode cX4_add 31 = .ok (.getfield 21, 3) := by decide +kernel
theorem dX4_add_34 : decode cX4_add 34 = .ok (.iconst 1, 1) := by decide +kernel
theorem dX4_add_35 : decode cX4_add 35 = .ok (.iadd, 1) := by decide +kernel
theorem dX4_add_36 : decode cX4_add 36 = .ok (.putfield 21, 3) := by decide +kernel
theorem dX4_add_39 : decode cX4_add 39 = .ok (.return_, 1) := by decide +kernel
theorem dX4_takeFirst_0 : decode cX4_takeFirst 0 = .ok (.aload_n 0, 1) := by decide +kernel
theorem dX4_takeFirst_1 : decode cX4_takeFirst 1 = .ok (.iconst 0, 1) := by decide +kernel
theorem dX4_takeFirst_2 : decode cX4_takeFirst 2 = .ok (.invokevirtual 25, 3) := by decide +kernel
theorem dX4_takeFirst_5 : decode cX4_takeFirst 5 = .ok (.istore_n 1, 1) := by decide +kernel
theorem dX4_takeFirst_6 : decode cX4_takeFirst 6 = .ok (.iconst 1, 1) := by decide +kernel
theorem dX4_takeFirst_7 : decode cX4_takeFirst 7 = .ok (.istore_n 2, 1) := by decide +kernel
theorem dX4_takeFirst_8 : decode cX4_takeFirst 8 = .ok (.iload_n 2, 1) := by decide +kernel
theorem dX4_takeFirst_9 : decode cX4_takeFirst 9 = .ok (.aload_n 0, 1) := by decide +kernel
theorem dX4_takeFirst_10 : decode cX4_takeFirst 10 = .ok (.getfield 21, 3) := by decide +kernel
theorem dX4_takeFirst_13 : decode cX4_takeFirst 13 = .ok (.if_icmp .ge 32, 3) := by decide +kernel
theorem dX4_takeFirst_16 : decode cX4_takeFirst 16 = .ok (.iload_n 2, 1) := by decide +kernel
theorem dX4_takeFirst_17 : decode cX4_takeFirst 17 = .ok (.aload_n 0, 1) := by decide +kernel
theorem dX4_takeFirst_18 : decode cX4_takeFirst 18 = .ok (.getfield 15, 3) := by decide +kernel
theorem dX4_takeFirst_21 : decode cX4_takeFirst 21 = .ok (.arraylength, 1) := by decide +kernel
theorem dX4_takeFirst_22 : decode cX4_takeFirst 22 = .ok (.if_icmp .ge 23, 3) := by decide +kernel
theorem dX4_takeFirst_25 : decode cX4_takeFirst 25 = .ok (.aload_n 0, 1) := by decide +kernel
theorem dX4_takeFirst_26 : decode cX4_takeFirst 26 = .ok (.getfield 15, 3) := by decide +kernel
theorem dX4_takeFirst_29 : decode cX4_takeFirst 29 = .ok (.iload_n 2, 1) := by decide +kernel
theorem dX4_takeFirst_30 : decode cX4_takeFirst 30 = .ok (.iconst 1, 1) := by decide +kernel
theorem dX4_takeFirst_31 : decode cX4_takeFirst 31 = .ok (.isub, 1) := by decide +kernel
theorem dX4_takeFirst_32 : decode cX4_takeFirst 32 = .ok (.aload_n 0, 1) := by decide +kernel
theorem dX4_takeFirst_33 : decode cX4_takeFirst 33 = .ok (.getfield 15, 3) := by decide +kernel
theorem dX4_takeFirst_36 : decode cX4_takeFirst 36 = .ok (.iload_n 2, 1) := by decide +kernel
theorem dX4_takeFirst_37 : decode cX4_takeFirst 37 = .ok (.iaload, 1) := by decide +kernel
theorem dX4_takeFirst_38 : decode cX4_takeFirst 38 = .ok (.iastore, 1) := by decide +kernel
theorem dX4_takeFirst_39 : decode cX4_takeFirst 39 = .ok (.iinc 2 1, 3) := by decide +kernel
theorem dX4_takeFirst_42 : decode cX4_takeFirst 42 = .ok (.goto (-34), 3) := by decide +kernel
theorem dX4_takeFirst_45 : decode cX4_takeFirst 45 = .ok (.aload_n 0, 1) := by decide +kernel
theorem dX4_takeFirst_46 : decode cX4_takeFirst 46 = .ok (.aload_n 0, 1) := by decide +kernel
theorem dX4_takeFirst_47 : decode cX4_takeFirst 47 = .ok (.getfield 21, 3) := by decide +kernel
theorem dX4_takeFirst_50 : decode cX4_takeFirst 50 = .ok (.iconst 1, 1) := by decide +kernel
theorem dX4_takeFirst_51 : decode cX4_takeFirst 51 = .ok (.isub, 1) := by decide +kernel
theorem dX4_takeFirst_52 : decode cX4_takeFirst 52 = .ok (.iconst 0, 1) := by decide +kernel
theorem dX4_takeFirst_53 : decode cX4_takeFirst 53 = .ok (.invokestatic 9, 3) := by decide +kernel
theorem dX4_takeFirst_56 : decode cX4_takeFirst 56 = .ok (.putfield 21, 3) := by decide +kernel
theorem dX4_takeFirst_59 : decode cX4_takeFirst 59 = .ok (.iload_n 1, 1) := by decide +kernel
theorem dX4_takeFirst_60 : decode cX4_takeFirst 60 = .ok (.ireturn, 1) := by decide +kernel
theorem dX4_clear_0 : decode cX4_clear 0 = .ok (.aload_n 0, 1) := by decide +kernel
theorem dX4_clear_1 : decode cX4_clear 1 = .ok (.iconst 0, 1) := by decide +kernel
theorem dX4_clear_2 : decode cX4_clear 2 = .ok (.putfield 21, 3) := by decide +kernel
theorem dX4_clear_5 : decode cX4_clear 5 = .ok (.return_, 1) := by decide +kernel
theorem dX4_copy_0 : decode cX4_copy 0 = .ok (.aload_n 0, 1) := by decide +kernel
theorem dX4_copy_1 : decode cX4_copy 1 = .ok (.getfield 15, 3) := by decide +kernel
theorem dX4_copy_4 : decode cX4_copy 4 = .ok (.arraylength, 1) := by decide +kernel
theorem dX4_copy_5 : decode cX4_copy 5 = .ok (.aload_n 1, 1) := by decide +kernel
theorem dX4_copy_6 : decode cX4_copy 6 = .ok (.getfield 15, 3) := by decide +kernel
theorem dX4_copy_9 : decode cX4_copy 9 = .ok (.arraylength, 1) := by decide +kernel
theorem dX4_copy_10 : decode cX4_copy 10 = .ok (.invokestatic 29, 3) := by decide +kernel
theorem dX4_copy_13 : decode cX4_copy 13 = .ok (.istore_n 2, 1) := by decide +kernel
theorem dX4_copy_14 : decode cX4_copy 14 = .ok (.aload_n 1, 1) := by decide +kernel
theorem dX4_copy_15 : decode cX4_copy 15 = .ok (.getfield 15, 3) := by decide +kernel
theorem dX4_copy_18 : decode cX4_copy 18 = .ok (.iconst 0, 1) := by decide +kernel
theorem dX4_copy_19 : decode cX4_copy 19 = .ok (.aload_n 0, 1) := by decide +kernel
theorem dX4_copy_20 : decode cX4_copy 20 = .ok (.getfield 15, 3) := by decide +kernel
theorem dX4_copy_23 : decode cX4_copy 23 = .ok (.iconst 0, 1) := by decide +kernel
theorem dX4_copy_24 : decode cX4_copy 24 = .ok (.iload_n 2, 1) := by decide +kernel
theorem dX4_copy_25 : decode cX4_copy 25 = .ok (.invokestatic 32, 3) := by decide +kernel
theorem dX4_copy_28 : decode cX4_copy 28 = .ok (.aload_n 0, 1) := by decide +kernel
theorem dX4_copy_29 : decode cX4_copy 29 = .ok (.aload_n 1, 1) := by decide +kernel
theorem dX4_copy_30 : decode cX4_copy 30 = .ok (.getfield 21, 3) := by decide +kernel
theorem dX4_copy_33 : decode cX4_copy 33 = .ok (.iload_n 2, 1) := by decide +kernel
theorem dX4_copy_34 : decode cX4_copy 34 = .ok (.invokestatic 29, 3) := by decide +kernel
theorem dX4_copy_37 : decode cX4_copy 37 = .ok (.putfield 21, 3) := by decide +kernel
theorem dX4_copy_40 : decode cX4_copy 40 = .ok (.return_, 1) := by decide +kernel
theorem dX5_init_0 : decode cX5_init 0 = .ok (.aload_n 0, 1) := by decide +kernel
theorem dX5_init_1 : decode cX5_init 1 = .ok (.invokespecial 3, 3) := by decide +kernel
theorem dX5_init_4 : decode cX5_init 4 = .ok (.aload_n 0, 1) := by decide +kernel
theorem dX5_init_5 : decode cX5_init 5 = .ok (.new 9, 3) := by decide +kernel
theorem dX5_init_8 : decode cX5_init 8 = .ok (.dup, 1) := by decide +kernel
theorem dX5_init_9 : decode cX5_init 9 = .ok (.bipush 6, 2) := by decide +kernel
theorem dX5_init_11 : decode cX5_init 11 = .ok (.invokespecial 11, 3) := by decide +kernel
theorem dX5_init_14 : decode cX5_init 14 = .ok (.putfield 14, 3) := by decide +kernel
theorem dX5_init_17 : decode cX5_init 17 = .ok (.aload_n 0, 1) := by decide +kernel
theorem dX5_init_18 : decode cX5_init 18 = .ok (.new 20, 3) := by decide +kernel
theorem dX5_init_21 : decode cX5_init 21 = .ok (.dup, 1) := by decide +kernel
theorem dX5_init_22 : decode cX5_init 22 = .ok (.bipush 6, 2) := by decide +kernel
theorem dX5_init_24 : decode cX5_init 24 = .ok (.invokespecial 22, 3) := by decide +kernel
theorem dX5_init_27 : decode cX5_init 27 = .ok (.putfield 23, 3) := by decide +kernel
theorem dX5_init_30 : decode cX5_init 30 = .ok (.aload_n 0, 1) := by decide +kernel
theorem dX5_init_31 : decode cX5_init 31 = .ok (.new 27, 3) := by decide +kernel
theorem dX5_init_34 : decode cX5_init 34 = .ok (.dup, 1) := by decide +kernel
theorem dX5_init_35 : decode cX5_init 35 = .ok (.bipush 60, 2) := by decide +kernel
theorem dX5_init_37 : decode cX5_init 37 = .ok (.invokespecial 29, 3) := by decide +kernel
theorem dX5_init_40 : decode cX5_init 40 = .ok (.putfield 30, 3) := by decide +kernel
theorem dX5_init_43 : decode cX5_init 43 = .ok (.aload_n 0, 1) := by decide +kernel
theorem dX5_init_44 : decode cX5_init 44 = .ok (.new 27, 3) := by decide +kernel
theorem dX5_init_47 : decode cX5_init 47 = .ok (.dup, 1) := by decide +kernel
theorem dX5_init_48 : decode cX5_init 48 = .ok (.bipush 60, 2) := by decide +kernel
theorem dX5_init_50 : decode cX5_init 50 = .ok (.invokespecial 29, 3) := by decide +kernel
theorem dX5_init_53 : decode cX5_init 53 = .ok (.putfield 34, 3) := by decide +kernel
theorem dX5_init_56 : decode cX5_init 56 = .ok (.aload_n 0, 1) := by decide +kernel
theorem dX5_init_57 : decode cX5_init 57 = .ok (.aload_n 1, 1) := by decide +kernel
theorem dX5_init_58 : decode cX5_init 58 = .ok (.putfield 37, 3) := by decide +kernel
theorem dX5_init_61 : decode cX5_init 61 = .ok (.return_, 1) := by decide +kernel
theorem dX5_commands_0 : decode cX5_commands 0 = .ok (.aload_n 0, 1) := by decide +kernel
theorem dX5_commands_1 : decode cX5_commands 1 = .ok (.getfield 40, 3) := by decide +kernel
theorem dX5_commands_4 : decode cX5_commands 4 = .ok (.ireturn, 1) := by decide +kernel
theorem dX5_read_0 : decode cX5_read 0 = .ok (.aload_n 0, 1) := by decide +kernel
theorem dX5_read_1 : decode cX5_read 1 = .ok (.getfield 23, 3) := by decide +kernel
theorem dX5_read_4 : decode cX5_read 4 = .ok (.invokevirtual 44, 3) := by decide +kernel
theorem dX5_read_7 : decode cX5_read 7 = .ok (.aload_n 0, 1) := by decide +kernel
theorem dX5_read_8 : decode cX5_read 8 = .ok (.getfield 30, 3) := by decide +kernel
theorem dX5_read_11 : decode cX5_read 11 = .ok (.invokevirtual 47, 3) := by decide +kernel
theorem dX5_read_14 : decode cX5_read 14 = .ok (.aload_n 0, 1) := by decide +kernel
theorem dX5_read_15 : decode cX5_read 15 = .ok (.getfield 34, 3) := by decide +kernel
theorem dX5_read_18 : decode cX5_read 18 = .ok (.invokevirtual 47, 3) := by decide +kernel
theorem dX5_read_21 : decode cX5_read 21 = .ok (.aload_n 0, 1) := by decide +kernel
theorem dX5_read_22 : decode cX5_read 22 = .ok (.iconst 0, 1) := by decide +kernel
theorem dX5_read_23 : decode cX5_read 23 = .ok (.putfield 48, 3) := by decide +kernel
theorem dX5_read_26 : decode cX5_read 26 = .ok (.aload_n 0, 1) := by decide +kernel
theorem dX5_read_27 : decode cX5_read 27 = .ok (.iconst 0, 1) := by decide +kernel
theorem dX5_read_28 : decode cX5_read 28 = .ok (.putfield 40, 3) := by decide +kernel
theorem dX5_read_31 : decode cX5_read 31 = .ok (.aload_n 0, 1) := by decide +kernel
theorem dX5_read_32 : decode cX5_read 32 = .ok (.getfield 40, 3) := by decide +kernel
theorem dX5_read_35 : decode cX5_read 35 = .ok (.bipush 60, 2) := by decide +kernel
theorem dX5_read_37 : decode cX5_read 37 = .ok (.if_icmp .ge 51, 3) := by decide +kernel
theorem dX5_read_40 : decode cX5_read 40 = .ok (.aload_n 0, 1) := by decide +kernel
theorem dX5_read_41 : decode cX5_read 41 = .ok (.getfield 40, 3) := by decide +kernel
theorem dX5_read_44 : decode cX5_read 44 = .ok (.ifCond .le 19, 3) := by decide +kernel
theorem dX5_read_47 : decode cX5_read 47 = .ok (.aload_n 0, 1) := by decide +kernel
theorem dX5_read_48 : decode cX5_read 48 = .ok (.getfield 48, 3) := by decide +kernel
theorem dX5_read_51 : decode cX5_read 51 = .ok (.aload_n 0, 1) := by decide +kernel
theorem dX5_read_52 : decode cX5_read 52 = .ok (.getfield 37, 3) := by decide +kernel
theorem dX5_read_55 : decode cX5_read 55 = .ok (.invokevirtual 51, 3) := by decide +kernel
theorem dX5_read_58 : decode cX5_read 58 = .ok (.if_icmp .lt 5, 3) := by decide +kernel
theorem dX5_read_61 : decode cX5_read 61 = .ok (.iconst (-1), 1) := by decide +kernel
theorem dX5_read_62 : decode cX5_read 62 = .ok (.ireturn, 1) := by decide +kernel
theorem dX5_read_63 : decode cX5_read 63 = .ok (.aload_n 0, 1) := by decide +kernel
theorem dX5_read_64 : decode cX5_read 64 = .ok (.invokevirtual 55, 3) := by decide +kernel
theorem dX5_read_67 : decode cX5_read 67 = .ok (.ifCond .ne 8, 3) := by decide +kernel
theorem dX5_read_70 : decode cX5_read 70 = .ok (.aload_n 0, 1) := by decide +kernel
theorem dX5_read_71 : decode cX5_read 71 = .ok (.getfield 48, 3) := by decide +kernel
theorem dX5_read_74 : decode cX5_read 74 = .ok (.ireturn, 1) := by decide +kernel
theorem dX5_read_75 : decode cX5_read 75 = .ok (.aload_n 0, 1) := by decide +kernel
theorem dX5_read_76 : decode cX5_read 76 = .ok (.dup, 1) := by decide +kernel
theorem dX5_read_77 : decode cX5_read 77 = .ok (.getfield 40, 3) := by decide +kernel
theorem dX5_read_80 : decode cX5_read 80 = .ok (.iconst 1, 1) := by decide +kernel
theorem dX5_read_81 : decode cX5_read 81 = .ok (.iadd, 1) := by decide +kernel
theorem dX5_read_82 : decode cX5_read 82 = .ok (.putfield 40, 3) := by decide +kernel
theorem dX5_read_85 : decode cX5_read 85 = .ok (.goto (-54), 3) := by decide +kernel
theorem dX5_read_88 : decode cX5_read 88 = .ok (.iconst (-1), 1) := by decide +kernel
theorem dX5_read_89 : decode cX5_read 89 = .ok (.ireturn, 1) := by decide +kernel
theorem dX5_readCommand_0 : decode cX5_readCommand 0 = .ok (.aload_n 0, 1) := by decide +kernel
theorem dX5_readCommand_1 : decode cX5_readCommand 1 = .ok (.getfield 37, 3) := by decide +kernel
theorem dX5_readCommand_4 : decode cX5_readCommand 4 = .ok (.aload_n 0, 1) := by decide +kernel
theorem dX5_readCommand_5 : decode cX5_readCommand 5 = .ok (.getfield 48, 3) := by decide +kernel
theorem dX5_readCommand_8 : decode cX5_readCommand 8 = .ok (.invokevirtual 59, 3) := by decide +kernel
theorem dX5_readCommand_11 : decode cX5_readCommand 11 = .ok (.bipush 35, 2) := by decide +kernel
theorem dX5_readCommand_13 : decode cX5_readCommand 13 = .ok (.if_icmp .ne 10, 3) := by decide +kernel
theorem dX5_readCommand_16 : decode cX5_readCommand 16 = .ok (.aload_n 0, 1) := by decide +kernel
theorem dX5_readCommand_17 : decode cX5_readCommand 17 = .ok (.invokevirtual 63, 3) := by decide +kernel
theorem dX5_readCommand_20 : decode cX5_readCommand 20 = .ok (.goto 7, 3) := by decide +kernel
theorem dX5_readCommand_23 : decode cX5_readCommand 23 = .ok (.aload_n 0, 1) := by decide +kernel
theorem dX5_readCommand_24 : decode cX5_readCommand 24 = .ok (.invokevirtual 66, 3) := by decide +kernel
theorem dX5_readCommand_27 : decode cX5_readCommand 27 = .ok (.ireturn, 1) := by decide +kernel
theorem dX5_readRoom_0 : decode cX5_readRoom 0 = .ok (.aload_n 0, 1) := by decide +kernel
theorem dX5_readRoom_1 : decode cX5_readRoom 1 = .ok (.dup, 1) := by decide +kernel
theorem dX5_readRoom_2 : decode cX5_readRoom 2 = .ok (.getfield 48, 3) := by decide +kernel
theorem dX5_readRoom_5 : decode cX5_readRoom 5 = .ok (.iconst 1, 1) := by decide +kernel
theorem dX5_readRoom_6 : decode cX5_readRoom 6 = .ok (.iadd, 1) := by decide +kernel
theorem dX5_readRoom_7 : decode cX5_readRoom 7 = .ok (.putfield 48, 3) := by decide +kernel
theorem dX5_readRoom_10 : decode cX5_readRoom 10 = .ok (.aload_n 0, 1) := by decide +kernel
theorem dX5_readRoom_11 : decode cX5_readRoom 11 = .ok (.getfield 48, 3) := by decide +kernel
theorem dX5_readRoom_14 : decode cX5_readRoom 14 = .ok (.istore_n 1, 1) := by decide +kernel
theorem dX5_readRoom_15 : decode cX5_readRoom 15 = .ok (.aload_n 0, 1) := by decide +kernel
theorem dX5_readRoom_16 : decode cX5_readRoom 16 = .ok (.bipush 48, 2) := by decide +kernel
theorem dX5_readRoom_18 : decode cX5_readRoom 18 = .ok (.bipush 51, 2) := by decide +kernel
theorem dX5_readRoom_20 : decode cX5_readRoom 20 = .ok (.invokevirtual 69, 3) := by decide +kernel
theorem dX5_readRoom_23 : decode cX5_readRoom 23 = .ok (.ifCond .eq 25, 3) := by decide +kernel
theorem dX5_readRoom_26 : decode cX5_readRoom 26 = .ok (.aload_n 0, 1) := by decide +kernel
theorem dX5_readRoom_27 : decode cX5_readRoom 27 = .ok (.bipush 48, 2) := by decide +kernel
theorem dX5_readRoom_29 : decode cX5_readRoom 29 = .ok (.bipush 51, 2) := by decide +kernel
theorem dX5_readRoom_31 : decode cX5_readRoom 31 = .ok (.invokevirtual 69, 3) := by decide +kernel
theorem dX5_readRoom_34 : decode cX5_readRoom 34 = .ok (.ifCond .eq 14, 3) := by decide +kernel
theorem dX5_readRoom_37 : decode cX5_readRoom 37 = .ok (.aload_n 0, 1) := by decide +kernel
theorem dX5_readRoom_38 : decode cX5_readRoom 38 = .ok (.bipush 59, 2) := by decide +kernel
theorem dX5_readRoom_40 : decode cX5_readRoom 40 = .ok (.bipush 59, 2) := by decide +kernel
theorem dX5_readRoom_42 : decode cX5_readRoom 42 = .ok (.invokevirtual 69, 3) := by decide +kernel
theorem dX5_readRoom_45 : decode cX5_readRoom 45 = .ok (.ifCond .ne 5, 3) := by decide +kernel
theorem dX5_readRoom_48 : decode cX5_readRoom 48 = .ok (.iconst 0, 1) := by decide +kernel
theorem dX5_readRoom_49 : decode cX5_readRoom 49 = .ok (.ireturn, 1) := by decide +kernel
theorem dX5_readRoom_50 : decode cX5_readRoom 50 = .ok (.aload_n 0, 1) := by decide +kernel
theorem dX5_readRoom_51 : decode cX5_readRoom 51 = .ok (.getfield 30, 3) := by decide +kernel
theorem dX5_readRoom_54 : decode cX5_readRoom 54 = .ok (.aload_n 0, 1) := by decide +kernel
theorem dX5_readRoom_55 : decode cX5_readRoom 55 = .ok (.iload_n 1, 1) := by decide +kernel
theorem dX5_readRoom_56 : decode cX5_readRoom 56 = .ok (.invokevirtual 73, 3) := by decide +kernel
theorem dX5_readRoom_59 : decode cX5_readRoom 59 = .ok (.invokevirtual 76, 3) := by decide +kernel
theorem dX5_readRoom_62 : decode cX5_readRoom 62 = .ok (.aload_n 0, 1) := by decide +kernel
theorem dX5_readRoom_63 : decode cX5_readRoom 63 = .ok (.getfield 34, 3) := by decide +kernel
theorem dX5_readRoom_66 : decode cX5_readRoom 66 = .ok (.aload_n 0, 1) := by decide +kernel
theorem dX5_readRoom_67 : decode cX5_readRoom 67 = .ok (.iload_n 1, 1) := by decide +kernel
theorem dX5_readRoom_68 : decode cX5_readRoom 68 = .ok (.iconst 1, 1) := by decide +kernel
theorem dX5_readRoom_69 : decode cX5_readRoom 69 = .ok (.iadd, 1) := by decide +kernel
theorem dX5_readRoom_70 : decode cX5_readRoom 70 = .ok (.invokevirtual 73, 3) := by decide +kernel
theorem dX5_readRoom_73 : decode cX5_readRoom 73 = .ok (.invokevirtual 76, 3) := by decide +kernel
theorem dX5_readRoom_76 : decode cX5_readRoom 76 = .ok (.iconst 1, 1) := by decide +kernel
theorem dX5_readRoom_77 : decode cX5_readRoom 77 = .ok (.ireturn, 1) := by decide +kernel
theorem dX5_readProgram_0 : decode cX5_readProgram 0 = .ok (.aload_n 0, 1) := by decide +kernel
theorem dX5_readProgram_1 : decode cX5_readProgram 1 = .ok (.aload_n 0, 1) := by decide +kernel
theorem dX5_readProgram_2 : decode cX5_readProgram 2 = .ok (.getfield 48, 3) := by decide +kernel
theorem dX5_readProgram_5 : decode cX5_readProgram 5 = .ok (.invokevirtual 73, 3) := by decide +kernel
theorem dX5_readProgram_8 : decode cX5_readProgram 8 = .ok (.istore_n 1, 1) := by decide +kernel
theorem dX5_readProgram_9 : decode cX5_readProgram 9 = .ok (.aload_n 0, 1) := by decide +kernel
theorem dX5_readProgram_10 : decode cX5_readProgram 10 = .ok (.bipush 48, 2) := by decide +kernel
theorem dX5_readProgram_12 : decode cX5_readProgram 12 = .ok (.bipush 53, 2) := by decide +kernel
theorem dX5_readProgram_14 : decode cX5_readProgram 14 = .ok (.invokevirtual 69, 3) := by decide +kernel
theorem dX5_readProgram_17 : decode cX5_readProgram 17 = .ok (.ifCond .eq 14, 3) := by decide +kernel
theorem dX5_readProgram_20 : decode cX5_readProgram 20 = .ok (.aload_n 0, 1) := by decide +kernel
theorem dX5_readProgram_21 : decode cX5_readProgram 21 = .ok (.bipush 58, 2) := by decide +kernel
theorem dX5_readProgram_23 : decode cX5_readProgram 23 = .ok (.bipush 58, 2) := by decide +kernel
theorem dX5_readProgram_25 : decode cX5_readProgram 25 = .ok (.invokevirtual 69, 3) := by decide +kernel
theorem dX5_readProgram_28 : decode cX5_readProgram 28 = .ok (.ifCond .ne 5, 3) := by decide +kernel
theorem dX5_readProgram_31 : decode cX5_readProgram 31 = .ok (.iconst 0, 1) := by decide +kernel
theorem dX5_readProgram_32 : decode cX5_readProgram 32 = .ok (.ireturn, 1) := by decide +kernel
theorem dX5_readProgram_33 : decode cX5_readProgram 33 = .ok (.aload_n 0, 1) := by decide +kernel
theorem dX5_readProgram_34 : decode cX5_readProgram 34 = .ok (.getfield 14, 3) := by decide +kernel
theorem dX5_readProgram_37 : decode cX5_readProgram 37 = .ok (.iload_n 1, 1) := by decide +kernel
theorem dX5_readProgram_38 : decode cX5_readProgram 38 = .ok (.invokevirtual 79, 3) := by decide +kernel
theorem dX5_readProgram_41 : decode cX5_readProgram 41 = .ok (.aload_n 0, 1) := by decide +kernel
theorem dX5_readProgram_42 : decode cX5_readProgram 42 = .ok (.getfield 23, 3) := by decide +kernel
theorem dX5_readProgram_45 : decode cX5_readProgram 45 = .ok (.iload_n 1, 1) := by decide +kernel
theorem dX5_readProgram_46 : decode cX5_readProgram 46 = .ok (.iconst 1, 1) := by decide +kernel
theorem dX5_readProgram_47 : decode cX5_readProgram 47 = .ok (.invokevirtual 82, 3) := by decide +kernel
theorem dX5_readProgram_50 : decode cX5_readProgram 50 = .ok (.aload_n 0, 1) := by decide +kernel
theorem dX5_readProgram_51 : decode cX5_readProgram 51 = .ok (.iload_n 1, 1) := by decide +kernel
theorem dX5_readProgram_52 : decode cX5_readProgram 52 = .ok (.invokevirtual 86, 3) := by decide +kernel
theorem dX5_readProgram_55 : decode cX5_readProgram 55 = .ok (.ireturn, 1) := by decide +kernel
theorem dX5_readInstructions_0 : decode cX5_readInstructions 0 = .ok (.iconst 0, 1) := by decide +kernel
theorem dX5_readInstructions_1 : decode cX5_readInstructions 1 = .ok (.istore_n 2, 1) := by decide +kernel
theorem dX5_readInstructions_2 : decode cX5_readInstructions 2 = .ok (.iconst 0, 1) := by decide +kernel
theorem dX5_readInstructions_3 : decode cX5_readInstructions 3 = .ok (.istore_n 3, 1) := by decide +kernel
theorem dX5_readInstructions_4 : decode cX5_readInstructions 4 = .ok (.iconst 0, 1) := by decide +kernel
theorem dX5_readInstructions_5 : decode cX5_readInstructions 5 = .ok (.istore 4, 2) := by decide +kernel
theorem dX5_readInstructions_7 : decode cX5_readInstructions 7 = .ok (.iload 4, 2) := by decide +kernel
theorem dX5_readInstructions_9 : decode cX5_readInstructions 9 = .ok (.bipush 24, 2) := by decide +kernel
theorem dX5_readInstructions_11 : decode cX5_readInstructions 11 = .ok (.if_icmp .gt 152, 3) := by decide +kernel
theorem dX5_readInstructions_14 : decode cX5_readInstructions 14 = .ok (.aload_n 0, 1) := by decide +kernel
theorem dX5_readInstructions_15 : decode cX5_readInstructions 15 = .ok (.getfield 48, 3) := by decide +kernel
theorem dX5_readInstructions_18 : decode cX5_readInstructions 18 = .ok (.istore 5, 2) := by decide +kernel
theorem dX5_readInstructions_20 : decode cX5_readInstructions 20 = .ok (.aload_n 0, 1) := by decide +kernel
theorem dX5_readInstructions_21 : decode cX5_readInstructions 21 = .ok (.getfield 37, 3) := by decide +kernel
theorem dX5_readInstructions_24 : decode cX5_readInstructions 24 = .ok (.iload 5, 2) := by decide +kernel
theorem dX5_readInstructions_26 : decode cX5_readInstructions 26 = .ok (.invokevirtual 59, 3) := by decide +kernel
theorem dX5_readInstructions_29 : decode cX5_readInstructions 29 = .ok (.istore 6, 2) := by decide +kernel
theorem dX5_readInstructions_31 : decode cX5_readInstructions 31 = .ok (.iload 6, 2) := by decide +kernel
theorem dX5_readInstructions_33 : decode cX5_readInstructions 33 = .ok (.bipush 59, 2) := by decide +kernel
theorem dX5_readInstructions_35 : decode cX5_readInstructions 35 = .ok (.if_icmp .ne 20, 3) := by decide +kernel
theorem dX5_readInstructions_38 : decode cX5_readInstructions 38 = .ok (.iload_n 2, 1) := by decide +kernel
theorem dX5_readInstructions_39 : decode cX5_readInstructions 39 = .ok (.ifCond .ne 16, 3) := by decide +kernel
theorem dX5_readInstructions_42 : decode cX5_readInstructions 42 = .ok (.iload_n 3, 1) := by decide +kernel
theorem dX5_readInstructions_43 : decode cX5_readInstructions 43 = .ok (.ifCond .ne 12, 3) := by decide +kernel
theorem dX5_readInstructions_46 : decode cX5_readInstructions 46 = .ok (.aload_n 0, 1) := by decide +kernel
theorem dX5_readInstructions_47 : decode cX5_readInstructions 47 = .ok (.bipush 59, 2) := by decide +kernel
theorem dX5_readInstructions_49 : decode cX5_readInstructions 49 = .ok (.bipush 59, 2) := by decide +kernel
theorem dX5_readInstructions_51 : decode cX5_readInstructions 51 = .ok (.invokevirtual 69, 3) := by decide +kernel
theorem dX5_readInstructions_54 : decode cX5_readInstructions 54 = .ok (.ireturn, 1) := by decide +kernel
theorem dX5_readInstructions_55 : decode cX5_readInstructions 55 = .ok (.iload 4, 2) := by decide +kernel
theorem dX5_readInstructions_57 : decode cX5_readInstructions 57 = .ok (.bipush 24, 2) := by decide +kernel
theorem dX5_readInstructions_59 : decode cX5_readInstructions 59 = .ok (.if_icmp .eq 13, 3) := by decide +kernel
theorem dX5_readInstructions_62 : decode cX5_readInstructions 62 = .ok (.iload 6, 2) := by decide +kernel
theorem dX5_readInstructions_64 : decode cX5_readInstructions 64 = .ok (.iload_n 2, 1) := by decide +kernel
theorem dX5_readInstructions_65 : decode cX5_readInstructions 65 = .ok (.iload_n 3, 1) := by decide +kernel
theorem dX5_readInstructions_66 : decode cX5_readInstructions 66 = .ok (.invokestatic 90, 3) := by decide +kernel
theorem dX5_readInstructions_69 : decode cX5_readInstructions 69 = .ok (.ifCond .ne 5, 3) := by decide +kernel
theorem dX5_readInstructions_72 : decode cX5_readInstructions 72 = .ok (.iconst 0, 1) := by decide +kernel
theorem dX5_readInstructions_73 : decode cX5_readInstructions 73 = .ok (.ireturn, 1) := by decide +kernel
theorem dX5_readInstructions_74 : decode cX5_readInstructions 74 = .ok (.aload_n 0, 1) := by decide +kernel
theorem dX5_readInstructions_75 : decode cX5_readInstructions 75 = .ok (.dup, 1) := by decide +kernel
theorem dX5_readInstructions_76 : decode cX5_readInstructions 76 = .ok (.getfield 48, 3) := by decide +kernel
theorem dX5_readInstructions_79 : decode cX5_readInstructions 79 = .ok (.iconst 1, 1) := by decide +kernel
theorem dX5_readInstructions_80 : decode cX5_readInstructions 80 = .ok (.iadd, 1) := by decide +kernel
theorem dX5_readInstructions_81 : decode cX5_readInstructions 81 = .ok (.putfield 48, 3) := by decide +kernel
theorem dX5_readInstructions_84 : decode cX5_readInstructions 84 = .ok (.aload_n 0, 1) := by decide +kernel
theorem dX5_readInstructions_85 : decode cX5_readInstructions 85 = .ok (.iload 6, 2) := by decide +kernel
theorem dX5_readInstructions_87 : decode cX5_readInstructions 87 = .ok (.invokevirtual 94, 3) := by decide +kernel
theorem dX5_readInstructions_90 : decode cX5_readInstructions 90 = .ok (.ifCond .ne 5, 3) := by decide +kernel
theorem dX5_readInstructions_93 : decode cX5_readInstructions 93 = .ok (.iconst 0, 1) := by decide +kernel
theorem dX5_readInstructions_94 : decode cX5_readInstructions 94 = .ok (.ireturn, 1) := by decide +kernel
theorem dX5_readInstructions_95 : decode cX5_readInstructions 95 = .ok (.aload_n 0, 1) := by decide +kernel
theorem dX5_readInstructions_96 : decode cX5_readInstructions 96 = .ok (.getfield 14, 3) := by decide +kernel
theorem dX5_readInstructions_99 : decode cX5_readInstructions 99 = .ok (.iload_n 1, 1) := by decide +kernel
theorem dX5_readInstructions_100 : decode cX5_readInstructions 100 = .ok (.bipush 100, 2) := by decide +kernel
theorem dX5_readInstructions_102 : decode cX5_readInstructions 102 = .ok (.iload 6, 2) := by decide +kernel
theorem dX5_readInstructions_104 : decode cX5_readInstructions 104 = .ok (.imul, 1) := by decide +kernel
theorem dX5_readInstructions_105 : decode cX5_readInstructions 105 = .ok (.aload_n 0, 1) := by decide +kernel
theorem dX5_readInstructions_106 : decode cX5_readInstructions 106 = .ok (.iload 5, 2) := by decide +kernel
theorem dX5_readInstructions_108 : decode cX5_readInstructions 108 = .ok (.iconst 1, 1) := by decide +kernel
theorem dX5_readInstructions_109 : decode cX5_readInstructions 109 = .ok (.iadd, 1) := by decide +kernel
theorem dX5_readInstructions_110 : decode cX5_readInstructions 110 = .ok (.invokevirtual 97, 3) := by decide +kernel
theorem dX5_readInstructions_113 : decode cX5_readInstructions 113 = .ok (.iadd, 1) := by decide +kernel
theorem dX5_readInstructions_114 : decode cX5_readInstructions 114 = .ok (.invokevirtual 100, 3) := by decide +kernel
theorem dX5_readInstructions_117 : decode cX5_readInstructions 117 = .ok (.iload_n 2, 1) := by decide +kernel
theorem dX5_readInstructions_118 : decode cX5_readInstructions 118 = .ok (.iload 6, 2) := by decide +kernel
theorem dX5_readInstructions_120 : decode cX5_readInstructions 120 = .ok (.invokestatic 102, 3) := by decide +kernel
theorem dX5_readInstructions_123 : decode cX5_readInstructions 123 = .ok (.ifCond .eq 7, 3) := by decide +kernel
theorem dX5_readInstructions_126 : decode cX5_readInstructions 126 = .ok (.iconst 1, 1) := by decide +kernel
theorem dX5_readInstructions_127 : decode cX5_readInstructions 127 = .ok (.goto 15, 3) := by decide +kernel
theorem dX5_readInstructions_130 : decode cX5_readInstructions 130 = .ok (.iload 6, 2) := by decide +kernel
theorem dX5_readInstructions_132 : decode cX5_readInstructions 132 = .ok (.bipush 41, 2) := by decide +kernel
theorem dX5_readInstructions_134 : decode cX5_readInstructions 134 = .ok (.if_icmp .ne 7, 3) := by decide +kernel
theorem dX5_readInstructions_137 : decode cX5_readInstructions 137 = .ok (.iconst (-1), 1) := by decide +kernel
theorem dX5_readInstructions_138 : decode cX5_readInstructions 138 = .ok (.goto 4, 3) := by decide +kernel
theorem dX5_readInstructions_141 : decode cX5_readInstructions 141 = .ok (.iconst 0, 1) := by decide +kernel
theorem dX5_readInstructions_142 : decode cX5_readInstructions 142 = .ok (.iadd, 1) := by decide +kernel
theorem dX5_readInstructions_143 : decode cX5_readInstructions 143 = .ok (.istore_n 2, 1) := by decide +kernel
theorem dX5_readInstructions_144 : decode cX5_readInstructions 144 = .ok (.iload 6, 2) := by decide +kernel
theorem dX5_readInstructions_146 : decode cX5_readInstructions 146 = .ok (.bipush 122, 2) := by decide +kernel
theorem dX5_readInstructions_148 : decode cX5_readInstructions 148 = .ok (.if_icmp .ne 7, 3) := by decide +kernel
theorem dX5_readInstructions_151 : decode cX5_readInstructions 151 = .ok (.iconst 1, 1) := by decide +kernel
theorem dX5_readInstructions_152 : decode cX5_readInstructions 152 = .ok (.goto 4, 3) := by decide +kernel
theorem dX5_readInstructions_155 : decode cX5_readInstructions 155 = .ok (.iconst 0, 1) := by decide +kernel
theorem dX5_readInstructions_156 : decode cX5_readInstructions 156 = .ok (.istore_n 3, 1) := by decide +kernel
theorem dX5_readInstructions_157 : decode cX5_readInstructions 157 = .ok (.iinc 4 1, 3) := by decide +kernel
theorem dX5_readInstructions_160 : decode cX5_readInstructions 160 = .ok (.goto (-153), 3) := by decide +kernel
theorem dX5_readInstructions_163 : decode cX5_readInstructions 163 = .ok (.iconst 0, 1) := by decide +kernel
theorem dX5_readInstructions_164 : decode cX5_readInstructions 164 = .ok (.ireturn, 1) := by decide +kernel
theorem dX5_mayStand_0 : decode cX5_mayStand 0 = .ok (.iload_n 0, 1) := by decide +kernel
theorem dX5_mayStand_1 : decode cX5_mayStand 1 = .ok (.lookupswitch 180 #[(33, 178), (40, 139), (41, 154), (43, 178), (45, 178), (60, 178), (62, 178), (63, 178), (91, 139), (94, 154), (112, 168), (119, 178), (120, 168), (121, 178), (122, 178), (123, 139)], 139) := by decide +kernel
theorem dX5_mayStand_140 : decode cX5_mayStand 140 = .ok (.iload_n 1, 1) := by decide +kernel
theorem dX5_mayStand_141 : decode cX5_mayStand 141 = .ok (.iconst 5, 1) := by decide +kernel
theorem dX5_mayStand_142 : decode cX5_mayStand 142 = .ok (.if_icmp .ge 11, 3) := by decide +kernel
theorem dX5_mayStand_145 : decode cX5_mayStand 145 = .ok (.iload_n 2, 1) := by decide +kernel
theorem dX5_mayStand_146 : decode cX5_mayStand 146 = .ok (.ifCond .ne 7, 3) := by decide +kernel
theorem dX5_mayStand_149 : decode cX5_mayStand 149 = .ok (.iconst 1, 1) := by decide +kernel
theorem dX5_mayStand_150 : decode cX5_mayStand 150 = .ok (.goto 4, 3) := by decide +kernel
theorem dX5_mayStand_153 : decode cX5_mayStand 153 = .ok (.iconst 0, 1) := by decide +kernel
theorem dX5_mayStand_154 : decode cX5_mayStand 154 = .ok (.ireturn, 1) := by decide +kernel
theorem dX5_mayStand_155 : decode cX5_mayStand 155 = .ok (.iload_n 1, 1) := by decide +kernel
theorem dX5_mayStand_156 : decode cX5_mayStand 156 = .ok (.ifCond .le 11, 3) := by decide +kernel
theorem dX5_mayStand_159 : decode cX5_mayStand 159 = .ok (.iload_n 2, 1) := by decide +kernel
theorem dX5_mayStand_160 : decode cX5_mayStand 160 = .ok (.ifCond .ne 7, 3) := by decide +kernel
theorem dX5_mayStand_163 : decode cX5_mayStand 163 = .ok (.iconst 1, 1) := by decide +kernel
theorem dX5_mayStand_164 : decode cX5_mayStand 164 = .ok (.goto 4, 3) := by decide +kernel
theorem dX5_mayStand_167 : decode cX5_mayStand 167 = .ok (.iconst 0, 1) := by decide +kernel
theorem dX5_mayStand_168 : decode cX5_mayStand 168 = .ok (.ireturn, 1) := by decide +kernel
theorem dX5_mayStand_169 : decode cX5_mayStand 169 = .ok (.iload_n 1, 1) := by decide +kernel
theorem dX5_mayStand_170 : decode cX5_mayStand 170 = .ok (.ifCond .le 7, 3) := by decide +kernel
theorem dX5_mayStand_173 : decode cX5_mayStand 173 = .ok (.iconst 1, 1) := by decide +kernel
theorem dX5_mayStand_174 : decode cX5_mayStand 174 = .ok (.goto 4, 3) := by decide +kernel
theorem dX5_mayStand_177 : decode cX5_mayStand 177 = .ok (.iconst 0, 1) := by decide +kernel
theorem dX5_mayStand_178 : decode cX5_mayStand 178 = .ok (.ireturn, 1) := by decide +kernel
theorem dX5_mayStand_179 : decode cX5_mayStand 179 = .ok (.iconst 1, 1) := by decide +kernel
theorem dX5_mayStand_180 : decode cX5_mayStand 180 = .ok (.ireturn, 1) := by decide +kernel
theorem dX5_mayStand_181 : decode cX5_mayStand 181 = .ok (.iconst 0, 1) := by decide +kernel
theorem dX5_mayStand_182 : decode cX5_mayStand 182 = .ok (.ireturn, 1) := by decide +kernel
theorem dX5_passOperand_0 : decode cX5_passOperand 0 = .ok (.iload_n 1, 1) := by decide +kernel
theorem dX5_passOperand_1 : decode cX5_passOperand 1 = .ok (.lookupswitch 146 #[(33, 91), (43, 91), (45, 91), (60, 109), (62, 109), (63, 118), (91, 91), (94, 100), (112, 100), (119, 91)], 91) := by decide +kernel
theorem dX5_passOperand_92 : decode cX5_passOperand 92 = .ok (.aload_n 0, 1) := by decide +kernel
theorem dX5_passOperand_93 : decode cX5_passOperand 93 = .ok (.bipush 49, 2) := by decide +kernel
theorem dX5_passOperand_95 : decode cX5_passOperand 95 = .ok (.bipush 57, 2) := by decide +kernel
theorem dX5_passOperand_97 : decode cX5_passOperand 97 = .ok (.invokevirtual 69, 3) := by decide +kernel
theorem dX5_passOperand_100 : decode cX5_passOperand 100 = .ok (.ireturn, 1) := by decide +kernel
theorem dX5_passOperand_101 : decode cX5_passOperand 101 = .ok (.aload_n 0, 1) := by decide +kernel
theorem dX5_passOperand_102 : decode cX5_passOperand 102 = .ok (.bipush 48, 2) := by decide +kernel
theorem dX5_passOperand_104 : decode cX5_passOperand 104 = .ok (.bipush 53, 2) := by decide +kernel
theorem dX5_passOperand_106 : decode cX5_passOperand 106 = .ok (.invokevirtual 69, 3) := by decide +kernel
theorem dX5_passOperand_109 : decode cX5_passOperand 109 = .ok (.ireturn, 1) := by decide +kernel
theorem dX5_passOperand_110 : decode cX5_passOperand 110 = .ok (.aload_n 0, 1) := by decide +kernel
theorem dX5_passOperand_111 : decode cX5_passOperand 111 = .ok (.bipush 48, 2) := by decide +kernel
theorem dX5_passOperand_113 : decode cX5_passOperand 113 = .ok (.bipush 51, 2) := by decide +kernel
theorem dX5_passOperand_115 : decode cX5_passOperand 115 = .ok (.invokevirtual 69, 3) := by decide +kernel
theorem dX5_passOperand_118 : decode cX5_passOperand 118 = .ok (.ireturn, 1) := by decide +kernel
theorem dX5_passOperand_119 : decode cX5_passOperand 119 = .ok (.aload_n 0, 1) := by decide +kernel
theorem dX5_passOperand_120 : decode cX5_passOperand 120 = .ok (.bipush 48, 2) := by decide +kernel
theorem dX5_passOperand_122 : decode cX5_passOperand 122 = .ok (.bipush 51, 2) := by decide +kernel
theorem dX5_passOperand_124 : decode cX5_passOperand 124 = .ok (.invokevirtual 69, 3) := by decide +kernel
theorem dX5_passOperand_127 : decode cX5_passOperand 127 = .ok (.ifCond .eq 18, 3) := by decide +kernel
theorem dX5_passOperand_130 : decode cX5_passOperand 130 = .ok (.aload_n 0, 1) := by decide +kernel
theorem dX5_passOperand_131 : decode cX5_passOperand 131 = .ok (.bipush 48, 2) := by decide +kernel
theorem dX5_passOperand_133 : decode cX5_passOperand 133 = .ok (.bipush 51, 2) := by decide +kernel
theorem dX5_passOperand_135 : decode cX5_passOperand 135 = .ok (.invokevirtual 69, 3) := by decide +kernel
theorem dX5_passOperand_138 : decode cX5_passOperand 138 = .ok (.ifCond .eq 7, 3) := by decide +kernel
theorem dX5_passOperand_141 : decode cX5_passOperand 141 = .ok (.iconst 1, 1) := by decide +kernel
theorem dX5_passOperand_142 : decode cX5_passOperand 142 = .ok (.goto 4, 3) := by decide +kernel
theorem dX5_passOperand_145 : decode cX5_passOperand 145 = .ok (.iconst 0, 1) := by decide +kernel
theorem dX5_passOperand_146 : decode cX5_passOperand 146 = .ok (.ireturn, 1) := by decide +kernel
theorem dX5_passOperand_147 : decode cX5_passOperand 147 = .ok (.iconst 1, 1) := by decide +kernel
theorem dX5_passOperand_148 : decode cX5_passOperand 148 = .ok (.ireturn, 1) := by decide +kernel
theorem dX5_pass_0 : decode cX5_pass 0 = .ok (.aload_n 0, 1) := by decide +kernel
theorem dX5_pass_1 : decode cX5_pass 1 = .ok (.getfield 37, 3) := by decide +kernel
theorem dX5_pass_4 : decode cX5_pass 4 = .ok (.aload_n 0, 1) := by decide +kernel
theorem dX5_pass_5 : decode cX5_pass 5 = .ok (.getfield 48, 3) := by decide +kernel
theorem dX5_pass_8 : decode cX5_pass 8 = .ok (.invokevirtual 59, 3) := by decide +kernel
theorem dX5_pass_11 : decode cX5_pass 11 = .ok (.istore_n 3, 1) := by decide +kernel
theorem dX5_pass_12 : decode cX5_pass 12 = .ok (.iload_n 3, 1) := by decide +kernel
theorem dX5_pass_13 : decode cX5_pass 13 = .ok (.iload_n 1, 1) := by decide +kernel
theorem dX5_pass_14 : decode cX5_pass 14 = .ok (.if_icmp .lt 8, 3) := by decide +kernel
theorem dX5_pass_17 : decode cX5_pass 17 = .ok (.iload_n 3, 1) := by decide +kernel
theorem dX5_pass_18 : decode cX5_pass 18 = .ok (.iload_n 2, 1) := by decide +kernel
theorem dX5_pass_19 : decode cX5_pass 19 = .ok (.if_icmp .le 5, 3) := by decide +kernel
theorem dX5_pass_22 : decode cX5_pass 22 = .ok (.iconst 0, 1) := by decide +kernel
theorem dX5_pass_23 : decode cX5_pass 23 = .ok (.ireturn, 1) := by decide +kernel
theorem dX5_pass_24 : decode cX5_pass 24 = .ok (.aload_n 0, 1) := by decide +kernel
theorem dX5_pass_25 : decode cX5_pass 25 = .ok (.dup, 1) := by decide +kernel
theorem dX5_pass_26 : decode cX5_pass 26 = .ok (.getfield 48, 3) := by decide +kernel
theorem dX5_pass_29 : decode cX5_pass 29 = .ok (.iconst 1, 1) := by decide +kernel
theorem dX5_pass_30 : decode cX5_pass 30 = .ok (.iadd, 1) := by decide +kernel
theorem dX5_pass_31 : decode cX5_pass 31 = .ok (.putfield 48, 3) := by decide +kernel
theorem dX5_pass_34 : decode cX5_pass 34 = .ok (.iconst 1, 1) := by decide +kernel
theorem dX5_pass_35 : decode cX5_pass 35 = .ok (.ireturn, 1) := by decide +kernel
theorem dX5_operandFrom_0 : decode cX5_operandFrom 0 = .ok (.iconst 0, 1) := by decide +kernel
theorem dX5_operandFrom_1 : decode cX5_operandFrom 1 = .ok (.istore_n 2, 1) := by decide +kernel
theorem dX5_operandFrom_2 : decode cX5_operandFrom 2 = .ok (.iload_n 1, 1) := by decide +kernel
theorem dX5_operandFrom_3 : decode cX5_operandFrom 3 = .ok (.istore_n 3, 1) := by decide +kernel
theorem dX5_operandFrom_4 : decode cX5_operandFrom 4 = .ok (.iload_n 3, 1) := by decide +kernel
theorem dX5_operandFrom_5 : decode cX5_operandFrom 5 = .ok (.aload_n 0, 1) := by decide +kernel
theorem dX5_operandFrom_6 : decode cX5_operandFrom 6 = .ok (.getfield 48, 3) := by decide +kernel
theorem dX5_operandFrom_9 : decode cX5_operandFrom 9 = .ok (.if_icmp .ge 20, 3) := by decide +kernel
theorem dX5_operandFrom_12 : decode cX5_operandFrom 12 = .ok (.bipush 10, 2) := by decide +kernel
theorem dX5_operandFrom_14 : decode cX5_operandFrom 14 = .ok (.iload_n 2, 1) := by decide +kernel
theorem dX5_operandFrom_15 : decode cX5_operandFrom 15 = .ok (.imul, 1) := by decide +kernel
theorem dX5_operandFrom_16 : decode cX5_operandFrom 16 = .ok (.aload_n 0, 1) := by decide +kernel
theorem dX5_operandFrom_17 : decode cX5_operandFrom 17 = .ok (.iload_n 3, 1) := by decide +kernel
theorem dX5_operandFrom_18 : decode cX5_operandFrom 18 = .ok (.invokevirtual 73, 3) := by decide +kernel
theorem dX5_operandFrom_21 : decode cX5_operandFrom 21 = .ok (.iadd, 1) := by decide +kernel
theorem dX5_operandFrom_22 : decode cX5_operandFrom 22 = .ok (.istore_n 2, 1) := by decide +kernel
theorem dX5_operandFrom_23 : decode cX5_operandFrom 23 = .ok (.iinc 3 1, 3) := by decide +kernel
theorem dX5_operandFrom_26 : decode cX5_operandFrom 26 = .ok (.goto (-22), 3) := by decide +kernel
theorem dX5_operandFrom_29 : decode cX5_operandFrom 29 = .ok (.iload_n 2, 1) := by decide +kernel
theorem dX5_operandFrom_30 : decode cX5_operandFrom 30 = .ok (.ireturn, 1) := by decide +kernel
theorem dX5_digit_0 : decode cX5_digit 0 = .ok (.aload_n 0, 1) := by decide +kernel
theorem dX5_digit_1 : decode cX5_digit 1 = .ok (.getfield 37, 3) := by decide +kernel
theorem dX5_digit_4 : decode cX5_digit 4 = .ok (.iload_n 1, 1) := by decide +kernel
theorem dX5_digit_5 : decode cX5_digit 5 = .ok (.invokevirtual 59, 3) := by decide +kernel
theorem dX5_digit_8 : decode cX5_digit 8 = .ok (.bipush 48, 2) := by decide +kernel
theorem dX5_digit_10 : decode cX5_digit 10 = .ok (.isub, 1) := by decide +kernel
theorem dX5_digit_11 : decode cX5_digit 11 = .ok (.ireturn, 1) := by decide +kernel
theorem dX5_roomsSuit_0 : decode cX5_roomsSuit 0 = .ok (.aload_n 0, 1) := by decide +kernel
theorem dX5_roomsSuit_1 : decode cX5_roomsSuit 1 = .ok (.getfield 30, 3) := by decide +kernel
theorem dX5_roomsSuit_4 : decode cX5_roomsSuit 4 = .ok (.invokevirtual 51, 3) := by decide +kernel
theorem dX5_roomsSuit_7 : decode cX5_roomsSuit 7 = .ok (.ifCond .le 12, 3) := by decide +kernel
theorem dX5_roomsSuit_10 : decode cX5_roomsSuit 10 = .ok (.aload_n 1, 1) := by decide +kernel
theorem dX5_roomsSuit_11 : decode cX5_roomsSuit 11 = .ok (.invokevirtual 105, 3) := by decide +kernel
theorem dX5_roomsSuit_14 : decode cX5_roomsSuit 14 = .ok (.ifCond .le 5, 3) := by decide +kernel
theorem dX5_roomsSuit_17 : decode cX5_roomsSuit 17 = .ok (.iconst 0, 1) := by decide +kernel
theorem dX5_roomsSuit_18 : decode cX5_roomsSuit 18 = .ok (.ireturn, 1) := by decide +kernel
theorem dX5_roomsSuit_19 : decode cX5_roomsSuit 19 = .ok (.iconst 0, 1) := by decide +kernel
theorem dX5_roomsSuit_20 : decode cX5_roomsSuit 20 = .ok (.istore_n 2, 1) := by decide +kernel
theorem dX5_roomsSuit_21 : decode cX5_roomsSuit 21 = .ok (.iload_n 2, 1) := by decide +kernel
theorem dX5_roomsSuit_22 : decode cX5_roomsSuit 22 = .ok (.aload_n 0, 1) := by decide +kernel
theorem dX5_roomsSuit_23 : decode cX5_roomsSuit 23 = .ok (.getfield 30, 3) := by decide +kernel
theorem dX5_roomsSuit_26 : decode cX5_roomsSuit 26 = .ok (.invokevirtual 51, 3) := by decide +kernel
theorem dX5_roomsSuit_29 : decode cX5_roomsSuit 29 = .ok (.if_icmp .ge 40, 3) := by decide +kernel
theorem dX5_roomsSuit_32 : decode cX5_roomsSuit 32 = .ok (.aload_n 0, 1) := by decide +kernel
theorem dX5_roomsSuit_33 : decode cX5_roomsSuit 33 = .ok (.getfield 34, 3) := by decide +kernel
theorem dX5_roomsSuit_36 : decode cX5_roomsSuit 36 = .ok (.iload_n 2, 1) := by decide +kernel
theorem dX5_roomsSuit_37 : decode cX5_roomsSuit 37 = .ok (.invokevirtual 59, 3) := by decide +kernel
theorem dX5_roomsSuit_40 : decode cX5_roomsSuit 40 = .ok (.aload_n 1, 1) := by decide +kernel
theorem dX5_roomsSuit_41 : decode cX5_roomsSuit 41 = .ok (.getfield 110, 3) := by decide +kernel
theorem dX5_roomsSuit_44 : decode cX5_roomsSuit 44 = .ok (.getfield 114, 3) := by decide +kernel
theorem dX5_roomsSuit_47 : decode cX5_roomsSuit 47 = .ok (.aload_n 0, 1) := by decide +kernel
theorem dX5_roomsSuit_48 : decode cX5_roomsSuit 48 = .ok (.getfield 30, 3) := by decide +kernel
theorem dX5_roomsSuit_51 : decode cX5_roomsSuit 51 = .ok (.iload_n 2, 1) := by decide +kernel
theorem dX5_roomsSuit_52 : decode cX5_roomsSuit 52 = .ok (.invokevirtual 59, 3) := by decide +kernel
theorem dX5_roomsSuit_55 : decode cX5_roomsSuit 55 = .ok (.invokevirtual 119, 3) := by decide +kernel
theorem dX5_roomsSuit_58 : decode cX5_roomsSuit 58 = .ok (.if_icmp .ge 5, 3) := by decide +kernel
theorem dX5_roomsSuit_61 : decode cX5_roomsSuit 61 = .ok (.iconst 0, 1) := by decide +kernel
theorem dX5_roomsSuit_62 : decode cX5_roomsSuit 62 = .ok (.ireturn, 1) := by decide +kernel
theorem dX5_roomsSuit_63 : decode cX5_roomsSuit 63 = .ok (.iinc 2 1, 3) := by decide +kernel
theorem dX5_roomsSuit_66 : decode cX5_roomsSuit 66 = .ok (.goto (-45), 3) := by decide +kernel
theorem dX5_roomsSuit_69 : decode cX5_roomsSuit 69 = .ok (.iconst 1, 1) := by decide +kernel
theorem dX5_roomsSuit_70 : decode cX5_roomsSuit 70 = .ok (.ireturn, 1) := by decide +kernel
theorem dX5_writeTo_0 : decode cX5_writeTo 0 = .ok (.iconst 0, 1) := by decide +kernel
theorem dX5_writeTo_1 : decode cX5_writeTo 1 = .ok (.istore_n 2, 1) := by decide +kernel
theorem dX5_writeTo_2 : decode cX5_writeTo 2 = .ok (.iload_n 2, 1) := by decide +kernel
theorem dX5_writeTo_3 : decode cX5_writeTo 3 = .ok (.bipush 6, 2) := by decide +kernel
theorem dX5_writeTo_5 : decode cX5_writeTo 5 = .ok (.if_icmp .ge 34, 3) := by decide +kernel
theorem dX5_writeTo_8 : decode cX5_writeTo 8 = .ok (.aload_n 0, 1) := by decide +kernel
theorem dX5_writeTo_9 : decode cX5_writeTo 9 = .ok (.getfield 23, 3) := by decide +kernel
theorem dX5_writeTo_12 : decode cX5_writeTo 12 = .ok (.iload_n 2, 1) := by decide +kernel
theorem dX5_writeTo_13 : decode cX5_writeTo 13 = .ok (.invokevirtual 119, 3) := by decide +kernel
theorem dX5_writeTo_16 : decode cX5_writeTo 16 = .ok (.iconst 1, 1) := by decide +kernel
theorem dX5_writeTo_17 : decode cX5_writeTo 17 = .ok (.if_icmp .ne 16, 3) := by decide +kernel
theorem dX5_writeTo_20 : decode cX5_writeTo 20 = .ok (.aload_n 1, 1) := by decide +kernel
theorem dX5_writeTo_21 : decode cX5_writeTo 21 = .ok (.getfield 120, 3) := by decide +kernel
theorem dX5_writeTo_24 : decode cX5_writeTo 24 = .ok (.iload_n 2, 1) := by decide +kernel
theorem dX5_writeTo_25 : decode cX5_writeTo 25 = .ok (.aload_n 0, 1) := by decide +kernel
theorem dX5_writeTo_26 : decode cX5_writeTo 26 = .ok (.getfield 14, 3) := by decide +kernel
theorem dX5_writeTo_29 : decode cX5_writeTo 29 = .ok (.iload_n 2, 1) := by decide +kernel
theorem dX5_writeTo_30 : decode cX5_writeTo 30 = .ok (.invokevirtual 123, 3) := by decide +kernel
theorem dX5_writeTo_33 : decode cX5_writeTo 33 = .ok (.iinc 2 1, 3) := by decide +kernel
theorem dX5_writeTo_36 : decode cX5_writeTo 36 = .ok (.goto (-34), 3) := by decide +kernel
theorem dX5_writeTo_39 : decode cX5_writeTo 39 = .ok (.iconst 0, 1) := by decide +kernel
theorem dX5_writeTo_40 : decode cX5_writeTo 40 = .ok (.istore_n 2, 1) := by decide +kernel
theorem dX5_writeTo_41 : decode cX5_writeTo 41 = .ok (.iload_n 2, 1) := by decide +kernel
theorem dX5_writeTo_42 : decode cX5_writeTo 42 = .ok (.aload_n 0, 1) := by decide +kernel
theorem dX5_writeTo_43 : decode cX5_writeTo 43 = .ok (.getfield 30, 3) := by decide +kernel
theorem dX5_writeTo_46 : decode cX5_writeTo 46 = .ok (.invokevirtual 51, 3) := by decide +kernel
theorem dX5_writeTo_49 : decode cX5_writeTo 49 = .ok (.if_icmp .ge 35, 3) := by decide +kernel
theorem dX5_writeTo_52 : decode cX5_writeTo 52 = .ok (.aload_n 1, 1) := by decide +kernel
theorem dX5_writeTo_53 : decode cX5_writeTo 53 = .ok (.getfield 110, 3) := by decide +kernel
theorem dX5_writeTo_56 : decode cX5_writeTo 56 = .ok (.getfield 127, 3) := by decide +kernel
theorem dX5_writeTo_59 : decode cX5_writeTo 59 = .ok (.aload_n 0, 1) := by decide +kernel
theorem dX5_writeTo_60 : decode cX5_writeTo 60 = .ok (.getfield 30, 3) := by decide +kernel
theorem dX5_writeTo_63 : decode cX5_writeTo 63 = .ok (.iload_n 2, 1) := by decide +kernel
theorem dX5_writeTo_64 : decode cX5_writeTo 64 = .ok (.invokevirtual 59, 3) := by decide +kernel
theorem dX5_writeTo_67 : decode cX5_writeTo 67 = .ok (.aload_n 0, 1) := by decide +kernel
theorem dX5_writeTo_68 : decode cX5_writeTo 68 = .ok (.getfield 34, 3) := by decide +kernel
theorem dX5_writeTo_71 : decode cX5_writeTo 71 = .ok (.iload_n 2, 1) := by decide +kernel
theorem dX5_writeTo_72 : decode cX5_writeTo 72 = .ok (.invokevirtual 59, 3) := by decide +kernel
theorem dX5_writeTo_75 : decode cX5_writeTo 75 = .ok (.invokevirtual 82, 3) := by decide +kernel
theorem dX5_writeTo_78 : decode cX5_writeTo 78 = .ok (.iinc 2 1, 3) := by decide +kernel
theorem dX5_writeTo_81 : decode cX5_writeTo 81 = .ok (.goto (-40), 3) := by decide +kernel
theorem dX5_writeTo_84 : decode cX5_writeTo 84 = .ok (.return_, 1) := by decide +kernel
theorem dX6_init_0 : decode cX6_init 0 = .ok (.aload_n 0, 1) := by decide +kernel
theorem dX6_init_1 : decode cX6_init 1 = .ok (.invokespecial 1, 3) := by decide +kernel
theorem dX6_init_4 : decode cX6_init 4 = .ok (.aload_n 0, 1) := by decide +kernel
theorem dX6_init_5 : decode cX6_init 5 = .ok (.iload_n 1, 1) := by decide +kernel
theorem dX6_init_6 : decode cX6_init 6 = .ok (.iconst 0, 1) := by decide +kernel
theorem dX6_init_7 : decode cX6_init 7 = .ok (.invokestatic 7, 3) := by decide +kernel
theorem dX6_init_10 : decode cX6_init 10 = .ok (.newarray .int, 2) := by decide +kernel
theorem dX6_init_12 : decode cX6_init 12 = .ok (.putfield 13, 3) := by decide +kernel
theorem dX6_init_15 : decode cX6_init 15 = .ok (.return_, 1) := by decide +kernel
theorem dX6_at_0 : decode cX6_at 0 = .ok (.iload_n 1, 1) := by decide +kernel
theorem dX6_at_1 : decode cX6_at 1 = .ok (.ifCond .lt 21, 3) := by decide +kernel
theorem dX6_at_4 : decode cX6_at 4 = .ok (.iload_n 1, 1) := by decide +kernel
theorem dX6_at_5 : decode cX6_at 5 = .ok (.aload_n 0, 1) := by decide +kernel
theorem dX6_at_6 : decode cX6_at 6 = .ok (.getfield 13, 3) := by decide +kernel
theorem dX6_at_9 : decode cX6_at 9 = .ok (.arraylength, 1) := by decide +kernel
theorem dX6_at_10 : decode cX6_at 10 = .ok (.if_icmp .ge 12, 3) := by decide +kernel
theorem dX6_at_13 : decode cX6_at 13 = .ok (.aload_n 0, 1) := by decide +kernel
theorem dX6_at_14 : decode cX6_at 14 = .ok (.getfield 13, 3) := by decide +kernel
theorem dX6_at_17 : decode cX6_at 17 = .ok (.iload_n 1, 1) := by decide +kernel
theorem dX6_at_18 : decode cX6_at 18 = .ok (.iaload, 1) := by decide +kernel
theorem dX6_at_19 : decode cX6_at 19 = .ok (.goto 4, 3) := by decide +kernel
theorem dX6_at_22 : decode cX6_at 22 = .ok (.iconst 0, 1) := by decide +kernel
theorem dX6_at_23 : decode cX6_at 23 = .ok (.ireturn, 1) := by decide +kernel
theorem dX6_put_0 : decode cX6_put 0 = .ok (.iload_n 1, 1) := by decide +kernel
theorem dX6_put_1 : decode cX6_put 1 = .ok (.ifCond .lt 19, 3) := by decide +kernel
theorem dX6_put_4 : decode cX6_put 4 = .ok (.iload_n 1, 1) := by decide +kernel
theorem dX6_put_5 : decode cX6_put 5 = .ok (.aload_n 0, 1) := by decide +kernel
theorem dX6_put_6 : decode cX6_put 6 = .ok (.getfield 13, 3) := by decide +kernel
theorem dX6_put_9 : decode cX6_put 9 = .ok (.arraylength, 1) := by decide +kernel
theorem dX6_put_10 : decode cX6_put 10 = .ok (.if_icmp .ge 10, 3) := by decide +kernel
theorem dX6_put_13 : decode cX6_put 13 = .ok (.aload_n 0, 1) := by decide +kernel
theorem dX6_put_14 : decode cX6_put 14 = .ok (.getfield 13, 3) := by decide +kernel
theorem dX6_put_17 : decode cX6_put 17 = .ok (.iload_n 1, 1) := by decide +kernel
theorem dX6_put_18 : decode cX6_put 18 = .ok (.iload_n 2, 1) := by decide +kernel
theorem dX6_put_19 : decode cX6_put 19 = .ok (.iastore, 1) := by decide +kernel
theorem dX6_put_20 : decode cX6_put 20 = .ok (.return_, 1) := by decide +kernel
theorem dX6_change_0 : decode cX6_change 0 = .ok (.iload_n 1, 1) := by decide +kernel
theorem dX6_change_1 : decode cX6_change 1 = .ok (.ifCond .lt 22, 3) := by decide +kernel
theorem dX6_change_4 : decode cX6_change 4 = .ok (.iload_n 1, 1) := by decide +kernel
theorem dX6_change_5 : decode cX6_change 5 = .ok (.aload_n 0, 1) := by decide +kernel
theorem dX6_change_6 : decode cX6_change 6 = .ok (.getfield 13, 3) := by decide +kernel
theorem dX6_change_9 : decode cX6_change 9 = .ok (.arraylength, 1) := by decide +kernel
theorem dX6_change_10 : decode cX6_change 10 = .ok (.if_icmp .ge 13, 3) := by decide +kernel
theorem dX6_change_13 : decode cX6_change 13 = .ok (.aload_n 0, 1) := by decide +kernel
theorem dX6_change_14 : decode cX6_change 14 = .ok (.getfield 13, 3) := by decide +kernel
theorem dX6_change_17 : decode cX6_change 17 = .ok (.iload_n 1, 1) := by decide +kernel
theorem dX6_change_18 : decode cX6_change 18 = .ok (.dup2, 1) := by decide +kernel
theorem dX6_change_19 : decode cX6_change 19 = .ok (.iaload, 1) := by decide +kernel
theorem dX6_change_20 : decode cX6_change 20 = .ok (.iload_n 2, 1) := by decide +kernel
theorem dX6_change_21 : decode cX6_change 21 = .ok (.iadd, 1) := by decide +kernel
theorem dX6_change_22 : decode cX6_change 22 = .ok (.iastore, 1) := by decide +kernel
theorem dX6_change_23 : decode cX6_change 23 = .ok (.return_, 1) := by decide +kernel
theorem dX6_clear_0 : decode cX6_clear 0 = .ok (.iconst 0, 1) := by decide +kernel
theorem dX6_clear_1 : decode cX6_clear 1 = .ok (.istore_n 1, 1) := by decide +kernel
theorem dX6_clear_2 : decode cX6_clear 2 = .ok (.iload_n 1, 1) := by decide +kernel
theorem dX6_clear_3 : decode cX6_clear 3 = .ok (.aload_n 0, 1) := by decide +kernel
theorem dX6_clear_4 : decode cX6_clear 4 = .ok (.getfield 13, 3) := by decide +kernel
theorem dX6_clear_7 : decode cX6_clear 7 = .ok (.arraylength, 1) := by decide +kernel
theorem dX6_clear_8 : decode cX6_clear 8 = .ok (.if_icmp .ge 16, 3) := by decide +kernel
theorem dX6_clear_11 : decode cX6_clear 11 = .ok (.aload_n 0, 1) := by decide +kernel
theorem dX6_clear_12 : decode cX6_clear 12 = .ok (.getfield 13, 3) := by decide +kernel
theorem dX6_clear_15 : decode cX6_clear 15 = .ok (.iload_n 1, 1) := by decide +kernel
theorem dX6_clear_16 : decode cX6_clear 16 = .ok (.iconst 0, 1) := by decide +kernel
theorem dX6_clear_17 : decode cX6_clear 17 = .ok (.iastore, 1) := by decide +kernel
theorem dX6_clear_18 : decode cX6_clear 18 = .ok (.iinc 1 1, 3) := by decide +kernel
theorem dX6_clear_21 : decode cX6_clear 21 = .ok (.goto (-19), 3) := by decide +kernel
theorem dX6_clear_24 : decode cX6_clear 24 = .ok (.return_, 1) := by decide +kernel
theorem dX6_copy_0 : decode cX6_copy 0 = .ok (.aload_n 1, 1) := by decide +kernel
theorem dX6_copy_1 : decode cX6_copy 1 = .ok (.getfield 13, 3) := by decide +kernel
theorem dX6_copy_4 : decode cX6_copy 4 = .ok (.iconst 0, 1) := by decide +kernel
theorem dX6_copy_5 : decode cX6_copy 5 = .ok (.aload_n 0, 1) := by decide +kernel
theorem dX6_copy_6 : decode cX6_copy 6 = .ok (.getfield 13, 3) := by decide +kernel
theorem dX6_copy_9 : decode cX6_copy 9 = .ok (.iconst 0, 1) := by decide +kernel
theorem dX6_copy_10 : decode cX6_copy 10 = .ok (.aload_n 0, 1) := by decide +kernel
theorem dX6_copy_11 : decode cX6_copy 11 = .ok (.getfield 13, 3) := by decide +kernel
theorem dX6_copy_14 : decode cX6_copy 14 = .ok (.arraylength, 1) := by decide +kernel
theorem dX6_copy_15 : decode cX6_copy 15 = .ok (.aload_n 1, 1) := by decide +kernel
theorem dX6_copy_16 : decode cX6_copy 16 = .ok (.getfield 13, 3) := by decide +kernel
theorem dX6_copy_19 : decode cX6_copy 19 = .ok (.arraylength, 1) := by decide +kernel
theorem dX6_copy_20 : decode cX6_copy 20 = .ok (.invokestatic 19, 3) := by decide +kernel
theorem dX6_copy_23 : decode cX6_copy 23 = .ok (.invokestatic 22, 3) := by decide +kernel
theorem dX6_copy_26 : decode cX6_copy 26 = .ok (.return_, 1) := by decide +kernel
theorem dX7_init_0 : decode cX7_init 0 = .ok (.aload_n 0, 1) := by decide +kernel
theorem dX7_init_1 : decode cX7_init 1 = .ok (.invokespecial 3, 3) := by decide +kernel
theorem dX7_init_4 : decode cX7_init 4 = .ok (.aload_n 0, 1) := by decide +kernel
theorem dX7_init_5 : decode cX7_init 5 = .ok (.aload_n 1, 1) := by decide +kernel
theorem dX7_init_6 : decode cX7_init 6 = .ok (.putfield 9, 3) := by decide +kernel
theorem dX7_init_9 : decode cX7_init 9 = .ok (.aload_n 0, 1) := by decide +kernel
theorem dX7_init_10 : decode cX7_init 10 = .ok (.aload_n 1, 1) := by decide +kernel
theorem dX7_init_11 : decode cX7_init 11 = .ok (.getfield 15, 3) := by decide +kernel
theorem dX7_init_14 : decode cX7_init 14 = .ok (.putfield 21, 3) := by decide +kernel
theorem dX7_init_17 : decode cX7_init 17 = .ok (.aload_n 0, 1) := by decide +kernel
theorem dX7_init_18 : decode cX7_init 18 = .ok (.aload_n 1, 1) := by decide +kernel
theorem dX7_init_19 : decode cX7_init 19 = .ok (.getfield 22, 3) := by decide +kernel
theorem dX7_init_22 : decode cX7_init 22 = .ok (.putfield 26, 3) := by decide +kernel
theorem dX7_init_25 : decode cX7_init 25 = .ok (.aload_n 0, 1) := by decide +kernel
theorem dX7_init_26 : decode cX7_init 26 = .ok (.new 27, 3) := by decide +kernel
theorem dX7_init_29 : decode cX7_init 29 = .ok (.dup, 1) := by decide +kernel
theorem dX7_init_30 : decode cX7_init 30 = .ok (.aload_n 1, 1) := by decide +kernel
theorem dX7_init_31 : decode cX7_init 31 = .ok (.invokespecial 29, 3) := by decide +kernel
theorem dX7_init_34 : decode cX7_init 34 = .ok (.putfield 32, 3) := by decide +kernel
theorem dX7_init_37 : decode cX7_init 37 = .ok (.return_, 1) := by decide +kernel
theorem dX7_upcoming_0 : decode cX7_upcoming 0 = .ok (.aload_n 0, 1) := by decide +kernel
theorem dX7_upcoming_1 : decode cX7_upcoming 1 = .ok (.getfield 9, 3) := by decide +kernel
theorem dX7_upcoming_4 : decode cX7_upcoming 4 = .ok (.getfield 36, 3) := by decide +kernel
theorem dX7_upcoming_7 : decode cX7_upcoming 7 = .ok (.invokevirtual 40, 3) := by decide +kernel
theorem dX7_upcoming_10 : decode cX7_upcoming 10 = .ok (.ifCond .le 15, 3) := by decide +kernel
theorem dX7_upcoming_13 : decode cX7_upcoming 13 = .ok (.aload_n 0, 1) := by decide +kernel
theorem dX7_upcoming_14 : decode cX7_upcoming 14 = .ok (.getfield 9, 3) := by decide +kernel
theorem dX7_upcoming_17 : decode cX7_upcoming 17 = .ok (.getfield 36, 3) := by decide +kernel
theorem dX7_upcoming_20 : decode cX7_upcoming 20 = .ok (.iconst 0, 1) := by decide +kernel
theorem dX7_upcoming_21 : decode cX7_upcoming 21 = .ok (.invokevirtual 46, 3) := by decide +kernel
theorem dX7_upcoming_24 : decode cX7_upcoming 24 = .ok (.ireturn, 1) := by decide +kernel
theorem dX7_upcoming_25 : decode cX7_upcoming 25 = .ok (.aload_n 0, 1) := by decide +kernel
theorem dX7_upcoming_26 : decode cX7_upcoming 26 = .ok (.invokevirtual 50, 3) := by decide +kernel
theorem dX7_upcoming_29 : decode cX7_upcoming 29 = .ok (.iconst (-1), 1) := by decide +kernel
theorem dX7_upcoming_30 : decode cX7_upcoming 30 = .ok (.if_icmp .eq 6, 3) := by decide +kernel
theorem dX7_upcoming_33 : decode cX7_upcoming 33 = .ok (.bipush 100, 2) := by decide +kernel
theorem dX7_upcoming_35 : decode cX7_upcoming 35 = .ok (.ireturn, 1) := by decide +kernel
theorem dX7_upcoming_36 : decode cX7_upcoming 36 = .ok (.aload_n 0, 1) := by decide +kernel
theorem dX7_upcoming_37 : decode cX7_upcoming 37 = .ok (.getfield 9, 3) := by decide +kernel
theorem dX7_upcoming_40 : decode cX7_upcoming 40 = .ok (.invokevirtual 53, 3) := by decide +kernel
theorem dX7_upcoming_43 : decode cX7_upcoming 43 = .ok (.ifCond .ne 9, 3) := by decide +kernel
theorem dX7_upcoming_46 : decode cX7_upcoming 46 = .ok (.sipush 200, 3) := by decide +kernel
theorem dX7_upcoming_49 : decode cX7_upcoming 49 = .ok (.goto 6, 3) := by decide +kernel
theorem dX7_upcoming_52 : decode cX7_upcoming 52 = .ok (.sipush 300, 3) := by decide +kernel
theorem dX7_upcoming_55 : decode cX7_upcoming 55 = .ok (.ireturn, 1) := by decide +kernel
theorem dX7_makeTurn_0 : decode cX7_makeTurn 0 = .ok (.aload_n 0, 1) := by decide +kernel
theorem dX7_makeTurn_1 : decode cX7_makeTurn 1 = .ok (.getfield 9, 3) := by decide +kernel
theorem dX7_makeTurn_4 : decode cX7_makeTurn 4 = .ok (.getfield 36, 3) := by decide +kernel
theorem dX7_makeTurn_7 : decode cX7_makeTurn 7 = .ok (.invokevirtual 40, 3) := by decide +kernel
theorem dX7_makeTurn_10 : decode cX7_makeTurn 10 = .ok (.ifCond .ne 8, 3) := by decide +kernel
theorem dX7_makeTurn_13 : decode cX7_makeTurn 13 = .ok (.aload_n 0, 1) := by decide +kernel
theorem dX7_makeTurn_14 : decode cX7_makeTurn 14 = .ok (.invokevirtual 56, 3) := by decide +kernel
theorem dX7_makeTurn_17 : decode cX7_makeTurn 17 = .ok (.ireturn, 1) := by decide +kernel
theorem dX7_makeTurn_18 : decode cX7_makeTurn 18 = .ok (.aload_n 0, 1) := by decide +kernel
theorem dX7_makeTurn_19 : decode cX7_makeTurn 19 = .ok (.getfield 9, 3) := by decide +kernel
theorem dX7_makeTurn_22 : decode cX7_makeTurn 22 = .ok (.getfield 60, 3) := by decide +kernel
theorem dX7_makeTurn_25 : decode cX7_makeTurn 25 = .ok (.bipush 6, 2) := by decide +kernel
theorem dX7_makeTurn_27 : decode cX7_makeTurn 27 = .ok (.iconst 1, 1) := by decide +kernel
theorem dX7_makeTurn_28 : decode cX7_makeTurn 28 = .ok (.invokevirtual 64, 3) := by decide +kernel
theorem dX7_makeTurn_31 : decode cX7_makeTurn 31 = .ok (.aload_n 0, 1) := by decide +kernel
theorem dX7_makeTurn_32 : decode cX7_makeTurn 32 = .ok (.getfield 9, 3) := by decide +kernel
theorem dX7_makeTurn_35 : decode cX7_makeTurn 35 = .ok (.getfield 36, 3) := by decide +kernel
theorem dX7_makeTurn_38 : decode cX7_makeTurn 38 = .ok (.invokevirtual 70, 3) := by decide +kernel
theorem dX7_makeTurn_41 : decode cX7_makeTurn 41 = .ok (.istore_n 1, 1) := by decide +kernel
theorem dX7_makeTurn_42 : decode cX7_makeTurn 42 = .ok (.aload_n 0, 1) := by decide +kernel
theorem dX7_makeTurn_43 : decode cX7_makeTurn 43 = .ok (.getfield 21, 3) := by decide +kernel
theorem dX7_makeTurn_46 : decode cX7_makeTurn 46 = .ok (.iload_n 1, 1) := by decide +kernel
theorem dX7_makeTurn_47 : decode cX7_makeTurn 47 = .ok (.invokevirtual 73, 3) := by decide +kernel
theorem dX7_makeTurn_50 : decode cX7_makeTurn 50 = .ok (.ifCond .eq 11, 3) := by decide +kernel
theorem dX7_makeTurn_53 : decode cX7_makeTurn 53 = .ok (.aload_n 0, 1) := by decide +kernel
theorem dX7_makeTurn_54 : decode cX7_makeTurn 54 = .ok (.iload_n 1, 1) := by decide +kernel
theorem dX7_makeTurn_55 : decode cX7_makeTurn 55 = .ok (.invokevirtual 79, 3) := by decide +kernel
theorem dX7_makeTurn_58 : decode cX7_makeTurn 58 = .ok (.goto 117, 3) := by decide +kernel
theorem dX7_makeTurn_61 : decode cX7_makeTurn 61 = .ok (.aload_n 0, 1) := by decide +kernel
theorem dX7_makeTurn_62 : decode cX7_makeTurn 62 = .ok (.getfield 21, 3) := by decide +kernel
theorem dX7_makeTurn_65 : decode cX7_makeTurn 65 = .ok (.iload_n 1, 1) := by decide +kernel
theorem dX7_makeTurn_66 : decode cX7_makeTurn 66 = .ok (.invokevirtual 83, 3) := by decide +kernel
theorem dX7_makeTurn_69 : decode cX7_makeTurn 69 = .ok (.ifCond .eq 25, 3) := by decide +kernel
theorem dX7_makeTurn_72 : decode cX7_makeTurn 72 = .ok (.aload_n 0, 1) := by decide +kernel
theorem dX7_makeTurn_73 : decode cX7_makeTurn 73 = .ok (.getfield 21, 3) := by decide +kernel
theorem dX7_makeTurn_76 : decode cX7_makeTurn 76 = .ok (.getfield 86, 3) := by decide +kernel
theorem dX7_makeTurn_79 : decode cX7_makeTurn 79 = .ok (.iload_n 1, 1) := by decide +kernel
theorem dX7_makeTurn_80 : decode cX7_makeTurn 80 = .ok (.invokevirtual 89, 3) := by decide +kernel
theorem dX7_makeTurn_83 : decode cX7_makeTurn 83 = .ok (.ifCond .le 11, 3) := by decide +kernel
theorem dX7_makeTurn_86 : decode cX7_makeTurn 86 = .ok (.aload_n 0, 1) := by decide +kernel
theorem dX7_makeTurn_87 : decode cX7_makeTurn 87 = .ok (.iload_n 1, 1) := by decide +kernel
theorem dX7_makeTurn_88 : decode cX7_makeTurn 88 = .ok (.invokevirtual 90, 3) := by decide +kernel
theorem dX7_makeTurn_91 : decode cX7_makeTurn 91 = .ok (.goto 84, 3) := by decide +kernel
theorem dX7_makeTurn_94 : decode cX7_makeTurn 94 = .ok (.aload_n 0, 1) := by decide +kernel
theorem dX7_makeTurn_95 : decode cX7_makeTurn 95 = .ok (.getfield 21, 3) := by decide +kernel
theorem dX7_makeTurn_98 : decode cX7_makeTurn 98 = .ok (.iload_n 1, 1) := by decide +kernel
theorem dX7_makeTurn_99 : decode cX7_makeTurn 99 = .ok (.invokevirtual 83, 3) := by decide +kernel
theorem dX7_makeTurn_102 : decode cX7_makeTurn 102 = .ok (.ifCond .eq 33, 3) := by decide +kernel
theorem dX7_makeTurn_105 : decode cX7_makeTurn 105 = .ok (.aload_n 0, 1) := by decide +kernel
theorem dX7_makeTurn_106 : decode cX7_makeTurn 106 = .ok (.iload_n 1, 1) := by decide +kernel
theorem dX7_makeTurn_107 : decode cX7_makeTurn 107 = .ok (.aload_n 0, 1) := by decide +kernel
theorem dX7_makeTurn_108 : decode cX7_makeTurn 108 = .ok (.getfield 21, 3) := by decide +kernel
theorem dX7_makeTurn_111 : decode cX7_makeTurn 111 = .ok (.getfield 93, 3) := by decide +kernel
theorem dX7_makeTurn_114 : decode cX7_makeTurn 114 = .ok (.iload_n 1, 1) := by decide +kernel
theorem dX7_makeTurn_115 : decode cX7_makeTurn 115 = .ok (.invokevirtual 89, 3) := by decide +kernel
theorem dX7_makeTurn_118 : decode cX7_makeTurn 118 = .ok (.iconst 3, 1) := by decide +kernel
theorem dX7_makeTurn_119 : decode cX7_makeTurn 119 = .ok (.if_icmp .ne 8, 3) := by decide +kernel
theorem dX7_makeTurn_122 : decode cX7_makeTurn 122 = .ok (.bipush 7, 2) := by decide +kernel
theorem dX7_makeTurn_124 : decode cX7_makeTurn 124 = .ok (.goto 5, 3) := by decide +kernel
theorem dX7_makeTurn_127 : decode cX7_makeTurn 127 = .ok (.bipush 8, 2) := by decide +kernel
theorem dX7_makeTurn_129 : decode cX7_makeTurn 129 = .ok (.invokevirtual 96, 3) := by decide +kernel
theorem dX7_makeTurn_132 : decode cX7_makeTurn 132 = .ok (.goto 43, 3) := by decide +kernel
theorem dX7_makeTurn_135 : decode cX7_makeTurn 135 = .ok (.aload_n 0, 1) := by decide +kernel
theorem dX7_makeTurn_136 : decode cX7_makeTurn 136 = .ok (.getfield 21, 3) := by decide +kernel
theorem dX7_makeTurn_139 : decode cX7_makeTurn 139 = .ok (.getfield 99, 3) := by decide +kernel
theorem dX7_makeTurn_142 : decode cX7_makeTurn 142 = .ok (.iload_n 1, 1) := by decide +kernel
theorem dX7_makeTurn_143 : decode cX7_makeTurn 143 = .ok (.invokevirtual 89, 3) := by decide +kernel
theorem dX7_makeTurn_146 : decode cX7_makeTurn 146 = .ok (.aload_n 0, 1) := by decide +kernel
theorem dX7_makeTurn_147 : decode cX7_makeTurn 147 = .ok (.getfield 21, 3) := by decide +kernel
theorem dX7_makeTurn_150 : decode cX7_makeTurn 150 = .ok (.getfield 102, 3) := by decide +kernel
theorem dX7_makeTurn_153 : decode cX7_makeTurn 153 = .ok (.iload_n 1, 1) := by decide +kernel
theorem dX7_makeTurn_154 : decode cX7_makeTurn 154 = .ok (.invokevirtual 106, 3) := by decide +kernel
theorem dX7_makeTurn_157 : decode cX7_makeTurn 157 = .ok (.if_icmp .lt 13, 3) := by decide +kernel
theorem dX7_makeTurn_160 : decode cX7_makeTurn 160 = .ok (.aload_n 0, 1) := by decide +kernel
theorem dX7_makeTurn_161 : decode cX7_makeTurn 161 = .ok (.iload_n 1, 1) := by decide +kernel
theorem dX7_makeTurn_162 : decode cX7_makeTurn 162 = .ok (.bipush 6, 2) := by decide +kernel
theorem dX7_makeTurn_164 : decode cX7_makeTurn 164 = .ok (.invokevirtual 96, 3) := by decide +kernel
theorem dX7_makeTurn_167 : decode cX7_makeTurn 167 = .ok (.goto 8, 3) := by decide +kernel
theorem dX7_makeTurn_170 : decode cX7_makeTurn 170 = .ok (.aload_n 0, 1) := by decide +kernel
theorem dX7_makeTurn_171 : decode cX7_makeTurn 171 = .ok (.iload_n 1, 1) := by decide +kernel
theorem dX7_makeTurn_172 : decode cX7_makeTurn 172 = .ok (.invokevirtual 111, 3) := by decide +kernel
theorem dX7_makeTurn_175 : decode cX7_makeTurn 175 = .ok (.aload_n 0, 1) := by decide +kernel
theorem dX7_makeTurn_176 : decode cX7_makeTurn 176 = .ok (.getfield 21, 3) := by decide +kernel
theorem dX7_makeTurn_179 : decode cX7_makeTurn 179 = .ok (.getfield 114, 3) := by decide +kernel
theorem dX7_makeTurn_182 : decode cX7_makeTurn 182 = .ok (.iload_n 1, 1) := by decide +kernel
theorem dX7_makeTurn_183 : decode cX7_makeTurn 183 = .ok (.invokevirtual 89, 3) := by decide +kernel
theorem dX7_makeTurn_186 : decode cX7_makeTurn 186 = .ok (.ifCond .ne 14, 3) := by decide +kernel
theorem dX7_makeTurn_189 : decode cX7_makeTurn 189 = .ok (.aload_n 0, 1) := by decide +kernel
theorem dX7_makeTurn_190 : decode cX7_makeTurn 190 = .ok (.getfield 9, 3) := by decide +kernel
theorem dX7_makeTurn_193 : decode cX7_makeTurn 193 = .ok (.getfield 36, 3) := by decide +kernel
theorem dX7_makeTurn_196 : decode cX7_makeTurn 196 = .ok (.iload_n 1, 1) := by decide +kernel
theorem dX7_makeTurn_197 : decode cX7_makeTurn 197 = .ok (.invokevirtual 117, 3) := by decide +kernel
theorem dX7_makeTurn_200 : decode cX7_makeTurn 200 = .ok (.iconst 1, 1) := by decide +kernel
theorem dX7_makeTurn_201 : decode cX7_makeTurn 201 = .ok (.ireturn, 1) := by decide +kernel
theorem dX7_continueCleanup_0 : decode cX7_continueCleanup 0 = .ok (.aload_n 0, 1) := by decide +kernel
theorem dX7_continueCleanup_1 : decode cX7_continueCleanup 1 = .ok (.getfield 21, 3) := by decide +kernel
theorem dX7_continueCleanup_4 : decode cX7_continueCleanup 4 = .ok (.iload_n 1, 1) := by decide +kernel
theorem dX7_continueCleanup_5 : decode cX7_continueCleanup 5 = .ok (.invokevirtual 120, 3) := by decide +kernel
theorem dX7_continueCleanup_8 : decode cX7_continueCleanup 8 = .ok (.istore_n 2, 1) := by decide +kernel
theorem dX7_continueCleanup_9 : decode cX7_continueCleanup 9 = .ok (.aload_n 0, 1) := by decide +kernel
theorem dX7_continueCleanup_10 : decode cX7_continueCleanup 10 = .ok (.getfield 21, 3) := by decide +kernel
theorem dX7_continueCleanup_13 : decode cX7_continueCleanup 13 = .ok (.getfield 123, 3) := by decide +kernel
theorem dX7_continueCleanup_16 : decode cX7_continueCleanup 16 = .ok (.iload_n 1, 1) := by decide +kernel
theorem dX7_continueCleanup_17 : decode cX7_continueCleanup 17 = .ok (.invokevirtual 89, 3) := by decide +kernel
theorem dX7_continueCleanup_20 : decode cX7_continueCleanup 20 = .ok (.istore_n 3, 1) := by decide +kernel
theorem dX7_continueCleanup_21 : decode cX7_continueCleanup 21 = .ok (.iload_n 3, 1) := by decide +kernel
theorem dX7_continueCleanup_22 : decode cX7_continueCleanup 22 = .ok (.aload_n 0, 1) := by decide +kernel
theorem dX7_continueCleanup_23 : decode cX7_continueCleanup 23 = .ok (.getfield 26, 3) := by decide +kernel
theorem dX7_continueCleanup_26 : decode cX7_continueCleanup 26 = .ok (.getfield 126, 3) := by decide +kernel
theorem dX7_continueCleanup_29 : decode cX7_continueCleanup 29 = .ok (.iload_n 2, 1) := by decide +kernel
theorem dX7_continueCleanup_30 : decode cX7_continueCleanup 30 = .ok (.invokevirtual 106, 3) := by decide +kernel
theorem dX7_continueCleanup_33 : decode cX7_continueCleanup 33 = .ok (.if_icmp .lt 16, 3) := by decide +kernel
theorem dX7_continueCleanup_36 : decode cX7_continueCleanup 36 = .ok (.aload_n 0, 1) := by decide +kernel
theorem dX7_continueCleanup_37 : decode cX7_continueCleanup 37 = .ok (.getfield 21, 3) := by decide +kernel
theorem dX7_continueCleanup_40 : decode cX7_continueCleanup 40 = .ok (.getfield 123, 3) := by decide +kernel
theorem dX7_continueCleanup_43 : decode cX7_continueCleanup 43 = .ok (.iload_n 1, 1) := by decide +kernel
theorem dX7_continueCleanup_44 : decode cX7_continueCleanup 44 = .ok (.iconst (-1), 1) := by decide +kernel
theorem dX7_continueCleanup_45 : decode cX7_continueCleanup 45 = .ok (.invokevirtual 131, 3) := by decide +kernel
theorem dX7_continueCleanup_48 : decode cX7_continueCleanup 48 = .ok (.return_, 1) := by decide +kernel
theorem dX7_continueCleanup_49 : decode cX7_continueCleanup 49 = .ok (.aload_n 0, 1) := by decide +kernel
theorem dX7_continueCleanup_50 : decode cX7_continueCleanup 50 = .ok (.getfield 26, 3) := by decide +kernel
theorem dX7_continueCleanup_53 : decode cX7_continueCleanup 53 = .ok (.getfield 126, 3) := by decide +kernel
theorem dX7_continueCleanup_56 : decode cX7_continueCleanup 56 = .ok (.iload_n 2, 1) := by decide +kernel
theorem dX7_continueCleanup_57 : decode cX7_continueCleanup 57 = .ok (.iload_n 3, 1) := by decide +kernel
theorem dX7_continueCleanup_58 : decode cX7_continueCleanup 58 = .ok (.invokevirtual 134, 3) := by decide +kernel
theorem dX7_continueCleanup_61 : decode cX7_continueCleanup 61 = .ok (.istore 4, 2) := by decide +kernel
theorem dX7_continueCleanup_63 : decode cX7_continueCleanup 63 = .ok (.iload 4, 2) := by decide +kernel
theorem dX7_continueCleanup_65 : decode cX7_continueCleanup 65 = .ok (.invokestatic 137, 3) := by decide +kernel
theorem dX7_continueCleanup_68 : decode cX7_continueCleanup 68 = .ok (.istore 5, 2) := by decide +kernel
theorem dX7_continueCleanup_70 : decode cX7_continueCleanup 70 = .ok (.aload_n 0, 1) := by decide +kernel
theorem dX7_continueCleanup_71 : decode cX7_continueCleanup 71 = .ok (.getfield 21, 3) := by decide +kernel
theorem dX7_continueCleanup_74 : decode cX7_continueCleanup 74 = .ok (.getfield 123, 3) := by decide +kernel
theorem dX7_continueCleanup_77 : decode cX7_continueCleanup 77 = .ok (.iload_n 1, 1) := by decide +kernel
theorem dX7_continueCleanup_78 : decode cX7_continueCleanup 78 = .ok (.iload_n 3, 1) := by decide +kernel
theorem dX7_continueCleanup_79 : decode cX7_continueCleanup 79 = .ok (.aload_n 0, 1) := by decide +kernel
theorem dX7_continueCleanup_80 : decode cX7_continueCleanup 80 = .ok (.iload_n 1, 1) := by decide +kernel
theorem dX7_continueCleanup_81 : decode cX7_continueCleanup 81 = .ok (.iload 5, 2) := by decide +kernel
theorem dX7_continueCleanup_83 : decode cX7_continueCleanup 83 = .ok (.invokevirtual 140, 3) := by decide +kernel
theorem dX7_continueCleanup_86 : decode cX7_continueCleanup 86 = .ok (.iadd, 1) := by decide +kernel
theorem dX7_continueCleanup_87 : decode cX7_continueCleanup 87 = .ok (.invokevirtual 131, 3) := by decide +kernel
theorem dX7_continueCleanup_90 : decode cX7_continueCleanup 90 = .ok (.iload 5, 2) := by decide +kernel
theorem dX7_continueCleanup_92 : decode cX7_continueCleanup 92 = .ok (.bipush 33, 2) := by decide +kernel
theorem dX7_continueCleanup_94 : decode cX7_continueCleanup 94 = .ok (.if_icmp .ne 16, 3) := by decide +kernel
theorem dX7_continueCleanup_97 : decode cX7_continueCleanup 97 = .ok (.aload_n 0, 1) := by decide +kernel
theorem dX7_continueCleanup_98 : decode cX7_continueCleanup 98 = .ok (.iload_n 1, 1) := by decide +kernel
theorem dX7_continueCleanup_99 : decode cX7_continueCleanup 99 = .ok (.iload 4, 2) := by decide +kernel
theorem dX7_continueCleanup_101 : decode cX7_continueCleanup 101 = .ok (.invokestatic 143, 3) := by decide +kernel
theorem dX7_continueCleanup_104 : decode cX7_continueCleanup 104 = .ok (.invokevirtual 146, 3) := by decide +kernel
theorem dX7_continueCleanup_107 : decode cX7_continueCleanup 107 = .ok (.goto 15, 3) := by decide +kernel
theorem dX7_continueCleanup_110 : decode cX7_continueCleanup 110 = .ok (.aload_n 0, 1) := by decide +kernel
theorem dX7_continueCleanup_111 : decode cX7_continueCleanup 111 = .ok (.iload_n 1, 1) := by decide +kernel
theorem dX7_continueCleanup_112 : decode cX7_continueCleanup 112 = .ok (.iload 5, 2) := by decide +kernel
theorem dX7_continueCleanup_114 : decode cX7_continueCleanup 114 = .ok (.iload 4, 2) := by decide +kernel
theorem dX7_continueCleanup_116 : decode cX7_continueCleanup 116 = .ok (.invokestatic 143, 3) := by decide +kernel
theorem dX7_continueCleanup_119 : decode cX7_continueCleanup 119 = .ok (.invokevirtual 149, 3) := by decide +kernel
theorem dX7_continueCleanup_122 : decode cX7_continueCleanup 122 = .ok (.return_, 1) := by decide +kernel
theorem dX7_stepOver_0 : decode cX7_stepOver 0 = .ok (.iload_n 2, 1) := by decide +kernel
theorem dX7_stepOver_1 : decode cX7_stepOver 1 = .ok (.bipush 122, 2) := by decide +kernel
theorem dX7_stepOver_3 : decode cX7_stepOver 3 = .ok (.if_icmp .ne 21, 3) := by decide +kernel
theorem dX7_stepOver_6 : decode cX7_stepOver 6 = .ok (.aload_n 0, 1) := by decide +kernel
theorem dX7_stepOver_7 : decode cX7_stepOver 7 = .ok (.getfield 21, 3) := by decide +kernel
theorem dX7_stepOver_10 : decode cX7_stepOver 10 = .ok (.getfield 153, 3) := by decide +kernel
theorem dX7_stepOver_13 : decode cX7_stepOver 13 = .ok (.iload_n 1, 1) := by decide +kernel
theorem dX7_stepOver_14 : decode cX7_stepOver 14 = .ok (.invokevirtual 89, 3) := by decide +kernel
theorem dX7_stepOver_17 : decode cX7_stepOver 17 = .ok (.ifCond .ne 7, 3) := by decide +kernel
theorem dX7_stepOver_20 : decode cX7_stepOver 20 = .ok (.iconst 2, 1) := by decide +kernel
theorem dX7_stepOver_21 : decode cX7_stepOver 21 = .ok (.goto 4, 3) := by decide +kernel
theorem dX7_stepOver_24 : decode cX7_stepOver 24 = .ok (.iconst 1, 1) := by decide +kernel
theorem dX7_stepOver_25 : decode cX7_stepOver 25 = .ok (.ireturn, 1) := by decide +kernel
theorem dX7_failInCleanup_0 : decode cX7_failInCleanup 0 = .ok (.aload_n 0, 1) := by decide +kernel
theorem dX7_failInCleanup_1 : decode cX7_failInCleanup 1 = .ok (.getfield 21, 3) := by decide +kernel
theorem dX7_failInCleanup_4 : decode cX7_failInCleanup 4 = .ok (.getfield 123, 3) := by decide +kernel
theorem dX7_failInCleanup_7 : decode cX7_failInCleanup 7 = .ok (.iload_n 1, 1) := by decide +kernel
theorem dX7_failInCleanup_8 : decode cX7_failInCleanup 8 = .ok (.iconst (-1), 1) := by decide +kernel
theorem dX7_failInCleanup_9 : decode cX7_failInCleanup 9 = .ok (.invokevirtual 131, 3) := by decide +kernel
theorem dX7_failInCleanup_12 : decode cX7_failInCleanup 12 = .ok (.aload_n 0, 1) := by decide +kernel
theorem dX7_failInCleanup_13 : decode cX7_failInCleanup 13 = .ok (.getfield 21, 3) := by decide +kernel
theorem dX7_failInCleanup_16 : decode cX7_failInCleanup 16 = .ok (.getfield 93, 3) := by decide +kernel
theorem dX7_failInCleanup_19 : decode cX7_failInCleanup 19 = .ok (.iload_n 1, 1) := by decide +kernel
theorem dX7_failInCleanup_20 : decode cX7_failInCleanup 20 = .ok (.invokevirtual 89, 3) := by decide +kernel
theorem dX7_failInCleanup_23 : decode cX7_failInCleanup 23 = .ok (.istore_n 3, 1) := by decide +kernel
theorem dX7_failInCleanup_24 : decode cX7_failInCleanup 24 = .ok (.iload_n 3, 1) := by decide +kernel
theorem dX7_failInCleanup_25 : decode cX7_failInCleanup 25 = .ok (.ifCond .ne 26, 3) := by decide +kernel
theorem dX7_failInCleanup_28 : decode cX7_failInCleanup 28 = .ok (.aload_n 0, 1) := by decide +kernel
theorem dX7_failInCleanup_29 : decode cX7_failInCleanup 29 = .ok (.getfield 9, 3) := by decide +kernel
theorem dX7_failInCleanup_32 : decode cX7_failInCleanup 32 = .ok (.iload_n 1, 1) := by decide +kernel
theorem dX7_failInCleanup_33 : decode cX7_failInCleanup 33 = .ok (.iload_n 2, 1) := by decide +kernel
theorem dX7_failInCleanup_34 : decode cX7_failInCleanup 34 = .ok (.iconst (-1), 1) := by decide +kernel
theorem dX7_failInCleanup_35 : decode cX7_failInCleanup 35 = .ok (.aload_n 0, 1) := by decide +kernel
theorem dX7_failInCleanup_36 : decode cX7_failInCleanup 36 = .ok (.getfield 21, 3) := by decide +kernel
theorem dX7_failInCleanup_39 : decode cX7_failInCleanup 39 = .ok (.iload_n 1, 1) := by decide +kernel
theorem dX7_failInCleanup_40 : decode cX7_failInCleanup 40 = .ok (.invokevirtual 156, 3) := by decide +kernel
theorem dX7_failInCleanup_43 : decode cX7_failInCleanup 43 = .ok (.iconst 1, 1) := by decide +kernel
theorem dX7_failInCleanup_44 : decode cX7_failInCleanup 44 = .ok (.isub, 1) := by decide +kernel
theorem dX7_failInCleanup_45 : decode cX7_failInCleanup 45 = .ok (.invokevirtual 159, 3) := by decide +kernel
theorem dX7_failInCleanup_48 : decode cX7_failInCleanup 48 = .ok (.goto 62, 3) := by decide +kernel
theorem dX7_failInCleanup_51 : decode cX7_failInCleanup 51 = .ok (.iload_n 3, 1) := by decide +kernel
theorem dX7_failInCleanup_52 : decode cX7_failInCleanup 52 = .ok (.iconst 3, 1) := by decide +kernel
theorem dX7_failInCleanup_53 : decode cX7_failInCleanup 53 = .ok (.if_icmp .ne 44, 3) := by decide +kernel
theorem dX7_failInCleanup_56 : decode cX7_failInCleanup 56 = .ok (.aload_n 0, 1) := by decide +kernel
theorem dX7_failInCleanup_57 : decode cX7_failInCleanup 57 = .ok (.getfield 9, 3) := by decide +kernel
theorem dX7_failInCleanup_60 : decode cX7_failInCleanup 60 = .ok (.getfield 163, 3) := by decide +kernel
theorem dX7_failInCleanup_63 : decode cX7_failInCleanup 63 = .ok (.iload_n 2, 1) := by decide +kernel
theorem dX7_failInCleanup_64 : decode cX7_failInCleanup 64 = .ok (.iload_n 1, 1) := by decide +kernel
theorem dX7_failInCleanup_65 : decode cX7_failInCleanup 65 = .ok (.aload_n 0, 1) := by decide +kernel
theorem dX7_failInCleanup_66 : decode cX7_failInCleanup 66 = .ok (.getfield 21, 3) := by decide +kernel
theorem dX7_failInCleanup_69 : decode cX7_failInCleanup 69 = .ok (.getfield 167, 3) := by decide +kernel
theorem dX7_failInCleanup_72 : decode cX7_failInCleanup 72 = .ok (.iload_n 1, 1) := by decide +kernel
theorem dX7_failInCleanup_73 : decode cX7_failInCleanup 73 = .ok (.invokevirtual 89, 3) := by decide +kernel
theorem dX7_failInCleanup_76 : decode cX7_failInCleanup 76 = .ok (.invokevirtual 170, 3) := by decide +kernel
theorem dX7_failInCleanup_79 : decode cX7_failInCleanup 79 = .ok (.istore 4, 2) := by decide +kernel
theorem dX7_failInCleanup_81 : decode cX7_failInCleanup 81 = .ok (.aload_n 0, 1) := by decide +kernel
theorem dX7_failInCleanup_82 : decode cX7_failInCleanup 82 = .ok (.getfield 21, 3) := by decide +kernel
theorem dX7_failInCleanup_85 : decode cX7_failInCleanup 85 = .ok (.getfield 167, 3) := by decide +kernel
theorem dX7_failInCleanup_88 : decode cX7_failInCleanup 88 = .ok (.iload_n 1, 1) := by decide +kernel
theorem dX7_failInCleanup_89 : decode cX7_failInCleanup 89 = .ok (.iload 4, 2) := by decide +kernel
theorem dX7_failInCleanup_91 : decode cX7_failInCleanup 91 = .ok (.invokevirtual 131, 3) := by decide +kernel
theorem dX7_failInCleanup_94 : decode cX7_failInCleanup 94 = .ok (.goto 16, 3) := by decide +kernel
theorem dX7_failInCleanup_97 : decode cX7_failInCleanup 97 = .ok (.aload_n 0, 1) := by decide +kernel
theorem dX7_failInCleanup_98 : decode cX7_failInCleanup 98 = .ok (.getfield 9, 3) := by decide +kernel
theorem dX7_failInCleanup_101 : decode cX7_failInCleanup 101 = .ok (.getfield 60, 3) := by decide +kernel
theorem dX7_failInCleanup_104 : decode cX7_failInCleanup 104 = .ok (.bipush 9, 2) := by decide +kernel
theorem dX7_failInCleanup_106 : decode cX7_failInCleanup 106 = .ok (.iconst 1, 1) := by decide +kernel
theorem dX7_failInCleanup_107 : decode cX7_failInCleanup 107 = .ok (.invokevirtual 64, 3) := by decide +kernel
theorem dX7_failInCleanup_110 : decode cX7_failInCleanup 110 = .ok (.return_, 1) := by decide +kernel
theorem dX7_leaveInnermost_0 : decode cX7_leaveInnermost 0 = .ok (.aload_n 0, 1) := by decide +kernel
theorem dX7_leaveInnermost_1 : decode cX7_leaveInnermost 1 = .ok (.getfield 21, 3) := by decide +kernel
theorem dX7_leaveInnermost_4 : decode cX7_leaveInnermost 4 = .ok (.iload_n 1, 1) := by decide +kernel
theorem dX7_leaveInnermost_5 : decode cX7_leaveInnermost 5 = .ok (.invokevirtual 120, 3) := by decide +kernel
theorem dX7_leaveInnermost_8 : decode cX7_leaveInnermost 8 = .ok (.istore_n 2, 1) := by decide +kernel
theorem dX7_leaveInnermost_9 : decode cX7_leaveInnermost 9 = .ok (.aload_n 0, 1) := by decide +kernel
theorem dX7_leaveInnermost_10 : decode cX7_leaveInnermost 10 = .ok (.getfield 26, 3) := by decide +kernel
theorem dX7_leaveInnermost_13 : decode cX7_leaveInnermost 13 = .ok (.getfield 175, 3) := by decide +kernel
theorem dX7_leaveInnermost_16 : decode cX7_leaveInnermost 16 = .ok (.iload_n 2, 1) := by decide +kernel
theorem dX7_leaveInnermost_17 : decode cX7_leaveInnermost 17 = .ok (.invokevirtual 89, 3) := by decide +kernel
theorem dX7_leaveInnermost_20 : decode cX7_leaveInnermost 20 = .ok (.ifCond .ne 23, 3) := by decide +kernel
theorem dX7_leaveInnermost_23 : decode cX7_leaveInnermost 23 = .ok (.aload_n 0, 1) := by decide +kernel
theorem dX7_leaveInnermost_24 : decode cX7_leaveInnermost 24 = .ok (.getfield 26, 3) := by decide +kernel
theorem dX7_leaveInnermost_27 : decode cX7_leaveInnermost 27 = .ok (.getfield 175, 3) := by decide +kernel
theorem dX7_leaveInnermost_30 : decode cX7_leaveInnermost 30 = .ok (.iload_n 2, 1) := by decide +kernel
theorem dX7_leaveInnermost_31 : decode cX7_leaveInnermost 31 = .ok (.iconst 1, 1) := by decide +kernel
theorem dX7_leaveInnermost_32 : decode cX7_leaveInnermost 32 = .ok (.invokevirtual 131, 3) := by decide +kernel
theorem dX7_leaveInnermost_35 : decode cX7_leaveInnermost 35 = .ok (.aload_n 0, 1) := by decide +kernel
theorem dX7_leaveInnermost_36 : decode cX7_leaveInnermost 36 = .ok (.getfield 9, 3) := by decide +kernel
theorem dX7_leaveInnermost_39 : decode cX7_leaveInnermost 39 = .ok (.iload_n 2, 1) := by decide +kernel
theorem dX7_leaveInnermost_40 : decode cX7_leaveInnermost 40 = .ok (.invokevirtual 178, 3) := by decide +kernel
theorem dX7_leaveInnermost_43 : decode cX7_leaveInnermost 43 = .ok (.aload_n 0, 1) := by decide +kernel
theorem dX7_leaveInnermost_44 : decode cX7_leaveInnermost 44 = .ok (.iload_n 1, 1) := by decide +kernel
theorem dX7_leaveInnermost_45 : decode cX7_leaveInnermost 45 = .ok (.iload_n 2, 1) := by decide +kernel
theorem dX7_leaveInnermost_46 : decode cX7_leaveInnermost 46 = .ok (.invokevirtual 181, 3) := by decide +kernel
theorem dX7_leaveInnermost_49 : decode cX7_leaveInnermost 49 = .ok (.ifCond .eq 34, 3) := by decide +kernel
theorem dX7_leaveInnermost_52 : decode cX7_leaveInnermost 52 = .ok (.aload_n 0, 1) := by decide +kernel
theorem dX7_leaveInnermost_53 : decode cX7_leaveInnermost 53 = .ok (.getfield 26, 3) := by decide +kernel
theorem dX7_leaveInnermost_56 : decode cX7_leaveInnermost 56 = .ok (.getfield 185, 3) := by decide +kernel
theorem dX7_leaveInnermost_59 : decode cX7_leaveInnermost 59 = .ok (.iload_n 2, 1) := by decide +kernel
theorem dX7_leaveInnermost_60 : decode cX7_leaveInnermost 60 = .ok (.invokevirtual 89, 3) := by decide +kernel
theorem dX7_leaveInnermost_63 : decode cX7_leaveInnermost 63 = .ok (.aload_n 0, 1) := by decide +kernel
theorem dX7_leaveInnermost_64 : decode cX7_leaveInnermost 64 = .ok (.getfield 21, 3) := by decide +kernel
theorem dX7_leaveInnermost_67 : decode cX7_leaveInnermost 67 = .ok (.getfield 188, 3) := by decide +kernel
theorem dX7_leaveInnermost_70 : decode cX7_leaveInnermost 70 = .ok (.iload_n 1, 1) := by decide +kernel
theorem dX7_leaveInnermost_71 : decode cX7_leaveInnermost 71 = .ok (.invokevirtual 89, 3) := by decide +kernel
theorem dX7_leaveInnermost_74 : decode cX7_leaveInnermost 74 = .ok (.if_icmp .ne 9, 3) := by decide +kernel
theorem dX7_leaveInnermost_77 : decode cX7_leaveInnermost 77 = .ok (.aload_n 0, 1) := by decide +kernel
theorem dX7_leaveInnermost_78 : decode cX7_leaveInnermost 78 = .ok (.iload_n 1, 1) := by decide +kernel
theorem dX7_leaveInnermost_79 : decode cX7_leaveInnermost 79 = .ok (.iload_n 2, 1) := by decide +kernel
theorem dX7_leaveInnermost_80 : decode cX7_leaveInnermost 80 = .ok (.invokevirtual 191, 3) := by decide +kernel
theorem dX7_leaveInnermost_83 : decode cX7_leaveInnermost 83 = .ok (.return_, 1) := by decide +kernel
theorem dX7_goOnBehind_0 : decode cX7_goOnBehind 0 = .ok (.aload_n 0, 1) := by decide +kernel
theorem dX7_goOnBehind_1 : decode cX7_goOnBehind 1 = .ok (.getfield 21, 3) := by decide +kernel
theorem dX7_goOnBehind_4 : decode cX7_goOnBehind 4 = .ok (.getfield 93, 3) := by decide +kernel
theorem dX7_goOnBehind_7 : decode cX7_goOnBehind 7 = .ok (.iload_n 1, 1) := by decide +kernel
theorem dX7_goOnBehind_8 : decode cX7_goOnBehind 8 = .ok (.invokevirtual 89, 3) := by decide +kernel
theorem dX7_goOnBehind_11 : decode cX7_goOnBehind 11 = .ok (.iconst 3, 1) := by decide +kernel
theorem dX7_goOnBehind_12 : decode cX7_goOnBehind 12 = .ok (.if_icmp .ne 7, 3) := by decide +kernel
theorem dX7_goOnBehind_15 : decode cX7_goOnBehind 15 = .ok (.iconst 1, 1) := by decide +kernel
theorem dX7_goOnBehind_16 : decode cX7_goOnBehind 16 = .ok (.goto 4, 3) := by decide +kernel
theorem dX7_goOnBehind_19 : decode cX7_goOnBehind 19 = .ok (.iconst 0, 1) := by decide +kernel
theorem dX7_goOnBehind_20 : decode cX7_goOnBehind 20 = .ok (.istore_n 3, 1) := by decide +kernel
theorem dX7_goOnBehind_21 : decode cX7_goOnBehind 21 = .ok (.aload_n 0, 1) := by decide +kernel
theorem dX7_goOnBehind_22 : decode cX7_goOnBehind 22 = .ok (.getfield 21, 3) := by decide +kernel
theorem dX7_goOnBehind_25 : decode cX7_goOnBehind 25 = .ok (.getfield 167, 3) := by decide +kernel
theorem dX7_goOnBehind_28 : decode cX7_goOnBehind 28 = .ok (.iload_n 1, 1) := by decide +kernel
theorem dX7_goOnBehind_29 : decode cX7_goOnBehind 29 = .ok (.invokevirtual 89, 3) := by decide +kernel
theorem dX7_goOnBehind_32 : decode cX7_goOnBehind 32 = .ok (.istore 4, 2) := by decide +kernel
theorem dX7_goOnBehind_34 : decode cX7_goOnBehind 34 = .ok (.aload_n 0, 1) := by decide +kernel
theorem dX7_goOnBehind_35 : decode cX7_goOnBehind 35 = .ok (.getfield 21, 3) := by decide +kernel
theorem dX7_goOnBehind_38 : decode cX7_goOnBehind 38 = .ok (.getfield 153, 3) := by decide +kernel
theorem dX7_goOnBehind_41 : decode cX7_goOnBehind 41 = .ok (.iload_n 1, 1) := by decide +kernel
theorem dX7_goOnBehind_42 : decode cX7_goOnBehind 42 = .ok (.iload_n 3, 1) := by decide +kernel
theorem dX7_goOnBehind_43 : decode cX7_goOnBehind 43 = .ok (.ifCond .eq 18, 3) := by decide +kernel
theorem dX7_goOnBehind_46 : decode cX7_goOnBehind 46 = .ok (.aload_n 0, 1) := by decide +kernel
theorem dX7_goOnBehind_47 : decode cX7_goOnBehind 47 = .ok (.getfield 9, 3) := by decide +kernel
theorem dX7_goOnBehind_50 : decode cX7_goOnBehind 50 = .ok (.getfield 163, 3) := by decide +kernel
theorem dX7_goOnBehind_53 : decode cX7_goOnBehind 53 = .ok (.iload 4, 2) := by decide +kernel
theorem dX7_goOnBehind_55 : decode cX7_goOnBehind 55 = .ok (.invokevirtual 194, 3) := by decide +kernel
theorem dX7_goOnBehind_58 : decode cX7_goOnBehind 58 = .ok (.goto 4, 3) := by decide +kernel
theorem dX7_goOnBehind_61 : decode cX7_goOnBehind 61 = .ok (.iconst (-1), 1) := by decide +kernel
theorem dX7_goOnBehind_62 : decode cX7_goOnBehind 62 = .ok (.invokevirtual 131, 3) := by decide +kernel
theorem dX7_goOnBehind_65 : decode cX7_goOnBehind 65 = .ok (.aload_n 0, 1) := by decide +kernel
theorem dX7_goOnBehind_66 : decode cX7_goOnBehind 66 = .ok (.getfield 21, 3) := by decide +kernel
theorem dX7_goOnBehind_69 : decode cX7_goOnBehind 69 = .ok (.getfield 99, 3) := by decide +kernel
theorem dX7_goOnBehind_72 : decode cX7_goOnBehind 72 = .ok (.iload_n 1, 1) := by decide +kernel
theorem dX7_goOnBehind_73 : decode cX7_goOnBehind 73 = .ok (.aload_n 0, 1) := by decide +kernel
theorem dX7_goOnBehind_74 : decode cX7_goOnBehind 74 = .ok (.getfield 26, 3) := by decide +kernel
theorem dX7_goOnBehind_77 : decode cX7_goOnBehind 77 = .ok (.getfield 197, 3) := by decide +kernel
theorem dX7_goOnBehind_80 : decode cX7_goOnBehind 80 = .ok (.iload_n 2, 1) := by decide +kernel
theorem dX7_goOnBehind_81 : decode cX7_goOnBehind 81 = .ok (.invokevirtual 89, 3) := by decide +kernel
theorem dX7_goOnBehind_84 : decode cX7_goOnBehind 84 = .ok (.invokevirtual 131, 3) := by decide +kernel
theorem dX7_goOnBehind_87 : decode cX7_goOnBehind 87 = .ok (.aload_n 0, 1) := by decide +kernel
theorem dX7_goOnBehind_88 : decode cX7_goOnBehind 88 = .ok (.getfield 21, 3) := by decide +kernel
theorem dX7_goOnBehind_91 : decode cX7_goOnBehind 91 = .ok (.iload_n 1, 1) := by decide +kernel
theorem dX7_goOnBehind_92 : decode cX7_goOnBehind 92 = .ok (.iconst 0, 1) := by decide +kernel
theorem dX7_goOnBehind_93 : decode cX7_goOnBehind 93 = .ok (.bipush (-2), 2) := by decide +kernel
theorem dX7_goOnBehind_95 : decode cX7_goOnBehind 95 = .ok (.iconst (-1), 1) := by decide +kernel
theorem dX7_goOnBehind_96 : decode cX7_goOnBehind 96 = .ok (.invokevirtual 200, 3) := by decide +kernel
theorem dX7_goOnBehind_99 : decode cX7_goOnBehind 99 = .ok (.return_, 1) := by decide +kernel
theorem dX7_endScope_0 : decode cX7_endScope 0 = .ok (.aload_n 0, 1) := by decide +kernel
theorem dX7_endScope_1 : decode cX7_endScope 1 = .ok (.getfield 26, 3) := by decide +kernel
theorem dX7_endScope_4 : decode cX7_endScope 4 = .ok (.getfield 203, 3) := by decide +kernel
theorem dX7_endScope_7 : decode cX7_endScope 7 = .ok (.iload_n 2, 1) := by decide +kernel
theorem dX7_endScope_8 : decode cX7_endScope 8 = .ok (.invokevirtual 89, 3) := by decide +kernel
theorem dX7_endScope_11 : decode cX7_endScope 11 = .ok (.ifCond .le 17, 3) := by decide +kernel
theorem dX7_endScope_14 : decode cX7_endScope 14 = .ok (.aload_n 0, 1) := by decide +kernel
theorem dX7_endScope_15 : decode cX7_endScope 15 = .ok (.getfield 21, 3) := by decide +kernel
theorem dX7_endScope_18 : decode cX7_endScope 18 = .ok (.getfield 114, 3) := by decide +kernel
theorem dX7_endScope_21 : decode cX7_endScope 21 = .ok (.iload_n 1, 1) := by decide +kernel
theorem dX7_endScope_22 : decode cX7_endScope 22 = .ok (.iconst 5, 1) := by decide +kernel
theorem dX7_endScope_23 : decode cX7_endScope 23 = .ok (.invokevirtual 131, 3) := by decide +kernel
theorem dX7_endScope_26 : decode cX7_endScope 26 = .ok (.iconst 0, 1) := by decide +kernel
theorem dX7_endScope_27 : decode cX7_endScope 27 = .ok (.ireturn, 1) := by decide +kernel
theorem dX7_endScope_28 : decode cX7_endScope 28 = .ok (.aload_n 0, 1) := by decide +kernel
theorem dX7_endScope_29 : decode cX7_endScope 29 = .ok (.getfield 26, 3) := by decide +kernel
theorem dX7_endScope_32 : decode cX7_endScope 32 = .ok (.getfield 206, 3) := by decide +kernel
theorem dX7_endScope_35 : decode cX7_endScope 35 = .ok (.iload_n 2, 1) := by decide +kernel
theorem dX7_endScope_36 : decode cX7_endScope 36 = .ok (.invokevirtual 89, 3) := by decide +kernel
theorem dX7_endScope_39 : decode cX7_endScope 39 = .ok (.iconst 1, 1) := by decide +kernel
theorem dX7_endScope_40 : decode cX7_endScope 40 = .ok (.if_icmp .ne 42, 3) := by decide +kernel
theorem dX7_endScope_43 : decode cX7_endScope 43 = .ok (.aload_n 0, 1) := by decide +kernel
theorem dX7_endScope_44 : decode cX7_endScope 44 = .ok (.getfield 26, 3) := by decide +kernel
theorem dX7_endScope_47 : decode cX7_endScope 47 = .ok (.getfield 206, 3) := by decide +kernel
theorem dX7_endScope_50 : decode cX7_endScope 50 = .ok (.iload_n 2, 1) := by decide +kernel
theorem dX7_endScope_51 : decode cX7_endScope 51 = .ok (.iconst 2, 1) := by decide +kernel
theorem dX7_endScope_52 : decode cX7_endScope 52 = .ok (.invokevirtual 131, 3) := by decide +kernel
theorem dX7_endScope_55 : decode cX7_endScope 55 = .ok (.aload_n 0, 1) := by decide +kernel
theorem dX7_endScope_56 : decode cX7_endScope 56 = .ok (.getfield 21, 3) := by decide +kernel
theorem dX7_endScope_59 : decode cX7_endScope 59 = .ok (.getfield 123, 3) := by decide +kernel
theorem dX7_endScope_62 : decode cX7_endScope 62 = .ok (.iload_n 1, 1) := by decide +kernel
theorem dX7_endScope_63 : decode cX7_endScope 63 = .ok (.iconst 0, 1) := by decide +kernel
theorem dX7_endScope_64 : decode cX7_endScope 64 = .ok (.invokevirtual 131, 3) := by decide +kernel
theorem dX7_endScope_67 : decode cX7_endScope 67 = .ok (.aload_n 0, 1) := by decide +kernel
theorem dX7_endScope_68 : decode cX7_endScope 68 = .ok (.getfield 9, 3) := by decide +kernel
theorem dX7_endScope_71 : decode cX7_endScope 71 = .ok (.getfield 60, 3) := by decide +kernel
theorem dX7_endScope_74 : decode cX7_endScope 74 = .ok (.bipush 8, 2) := by decide +kernel
theorem dX7_endScope_76 : decode cX7_endScope 76 = .ok (.iconst 1, 1) := by decide +kernel
theorem dX7_endScope_77 : decode cX7_endScope 77 = .ok (.invokevirtual 64, 3) := by decide +kernel
theorem dX7_endScope_80 : decode cX7_endScope 80 = .ok (.iconst 0, 1) := by decide +kernel
theorem dX7_endScope_81 : decode cX7_endScope 81 = .ok (.ireturn, 1) := by decide +kernel
theorem dX7_endScope_82 : decode cX7_endScope 82 = .ok (.aload_n 0, 1) := by decide +kernel
theorem dX7_endScope_83 : decode cX7_endScope 83 = .ok (.getfield 26, 3) := by decide +kernel
theorem dX7_endScope_86 : decode cX7_endScope 86 = .ok (.getfield 175, 3) := by decide +kernel
theorem dX7_endScope_89 : decode cX7_endScope 89 = .ok (.iload_n 2, 1) := by decide +kernel
theorem dX7_endScope_90 : decode cX7_endScope 90 = .ok (.iconst 2, 1) := by decide +kernel
theorem dX7_endScope_91 : decode cX7_endScope 91 = .ok (.invokevirtual 131, 3) := by decide +kernel
theorem dX7_endScope_94 : decode cX7_endScope 94 = .ok (.aload_n 0, 1) := by decide +kernel
theorem dX7_endScope_95 : decode cX7_endScope 95 = .ok (.getfield 21, 3) := by decide +kernel
theorem dX7_endScope_98 : decode cX7_endScope 98 = .ok (.getfield 86, 3) := by decide +kernel
theorem dX7_endScope_101 : decode cX7_endScope 101 = .ok (.iload_n 1, 1) := by decide +kernel
theorem dX7_endScope_102 : decode cX7_endScope 102 = .ok (.iconst (-1), 1) := by decide +kernel
theorem dX7_endScope_103 : decode cX7_endScope 103 = .ok (.invokevirtual 64, 3) := by decide +kernel
theorem dX7_endScope_106 : decode cX7_endScope 106 = .ok (.iconst 1, 1) := by decide +kernel
theorem dX7_endScope_107 : decode cX7_endScope 107 = .ok (.ireturn, 1) := by decide +kernel
theorem dX7_endTask_0 : decode cX7_endTask 0 = .ok (.aload_n 0, 1) := by decide +kernel
theorem dX7_endTask_1 : decode cX7_endTask 1 = .ok (.getfield 21, 3) := by decide +kernel
theorem dX7_endTask_4 : decode cX7_endTask 4 = .ok (.getfield 114, 3) := by decide +kernel
theorem dX7_endTask_7 : decode cX7_endTask 7 = .ok (.iload_n 1, 1) := by decide +kernel
theorem dX7_endTask_8 : decode cX7_endTask 8 = .ok (.iload_n 2, 1) := by decide +kernel
theorem dX7_endTask_9 : decode cX7_endTask 9 = .ok (.invokevirtual 131, 3) := by decide +kernel
theorem dX7_endTask_12 : decode cX7_endTask 12 = .ok (.aload_n 0, 1) := by decide +kernel
theorem dX7_endTask_13 : decode cX7_endTask 13 = .ok (.getfield 9, 3) := by decide +kernel
theorem dX7_endTask_16 : decode cX7_endTask 16 = .ok (.getfield 209, 3) := by decide +kernel
theorem dX7_endTask_19 : decode cX7_endTask 19 = .ok (.iload_n 1, 1) := by decide +kernel
theorem dX7_endTask_20 : decode cX7_endTask 20 = .ok (.invokevirtual 117, 3) := by decide +kernel
theorem dX7_endTask_23 : decode cX7_endTask 23 = .ok (.aload_n 0, 1) := by decide +kernel
theorem dX7_endTask_24 : decode cX7_endTask 24 = .ok (.getfield 21, 3) := by decide +kernel
theorem dX7_endTask_27 : decode cX7_endTask 27 = .ok (.getfield 212, 3) := by decide +kernel
theorem dX7_endTask_30 : decode cX7_endTask 30 = .ok (.iload_n 1, 1) := by decide +kernel
theorem dX7_endTask_31 : decode cX7_endTask 31 = .ok (.invokevirtual 89, 3) := by decide +kernel
theorem dX7_endTask_34 : decode cX7_endTask 34 = .ok (.istore_n 3, 1) := by decide +kernel
theorem dX7_endTask_35 : decode cX7_endTask 35 = .ok (.iload_n 3, 1) := by decide +kernel
theorem dX7_endTask_36 : decode cX7_endTask 36 = .ok (.iconst (-1), 1) := by decide +kernel
theorem dX7_endTask_37 : decode cX7_endTask 37 = .ok (.if_icmp .ne 4, 3) := by decide +kernel
theorem dX7_endTask_40 : decode cX7_endTask 40 = .ok (.return_, 1) := by decide +kernel
theorem dX7_endTask_41 : decode cX7_endTask 41 = .ok (.aload_n 0, 1) := by decide +kernel
theorem dX7_endTask_42 : decode cX7_endTask 42 = .ok (.getfield 26, 3) := by decide +kernel
theorem dX7_endTask_45 : decode cX7_endTask 45 = .ok (.getfield 203, 3) := by decide +kernel
theorem dX7_endTask_48 : decode cX7_endTask 48 = .ok (.iload_n 3, 1) := by decide +kernel
theorem dX7_endTask_49 : decode cX7_endTask 49 = .ok (.iconst (-1), 1) := by decide +kernel
theorem dX7_endTask_50 : decode cX7_endTask 50 = .ok (.invokevirtual 64, 3) := by decide +kernel
theorem dX7_endTask_53 : decode cX7_endTask 53 = .ok (.aload_n 0, 1) := by decide +kernel
theorem dX7_endTask_54 : decode cX7_endTask 54 = .ok (.getfield 26, 3) := by decide +kernel
theorem dX7_endTask_57 : decode cX7_endTask 57 = .ok (.getfield 215, 3) := by decide +kernel
theorem dX7_endTask_60 : decode cX7_endTask 60 = .ok (.iload_n 3, 1) := by decide +kernel
theorem dX7_endTask_61 : decode cX7_endTask 61 = .ok (.invokevirtual 89, 3) := by decide +kernel
theorem dX7_endTask_64 : decode cX7_endTask 64 = .ok (.istore 4, 2) := by decide +kernel
theorem dX7_endTask_66 : decode cX7_endTask 66 = .ok (.iload_n 2, 1) := by decide +kernel
theorem dX7_endTask_67 : decode cX7_endTask 67 = .ok (.bipush 7, 2) := by decide +kernel
theorem dX7_endTask_69 : decode cX7_endTask 69 = .ok (.if_icmp .ne 21, 3) := by decide +kernel
theorem dX7_endTask_72 : decode cX7_endTask 72 = .ok (.aload_n 0, 1) := by decide +kernel
theorem dX7_endTask_73 : decode cX7_endTask 73 = .ok (.iload 4, 2) := by decide +kernel
theorem dX7_endTask_75 : decode cX7_endTask 75 = .ok (.iload_n 3, 1) := by decide +kernel
theorem dX7_endTask_76 : decode cX7_endTask 76 = .ok (.aload_n 0, 1) := by decide +kernel
theorem dX7_endTask_77 : decode cX7_endTask 77 = .ok (.getfield 21, 3) := by decide +kernel
theorem dX7_endTask_80 : decode cX7_endTask 80 = .ok (.getfield 167, 3) := by decide +kernel
theorem dX7_endTask_83 : decode cX7_endTask 83 = .ok (.iload_n 1, 1) := by decide +kernel
theorem dX7_endTask_84 : decode cX7_endTask 84 = .ok (.invokevirtual 89, 3) := by decide +kernel
theorem dX7_endTask_87 : decode cX7_endTask 87 = .ok (.invokevirtual 218, 3) := by decide +kernel
theorem dX7_endTask_90 : decode cX7_endTask 90 = .ok (.aload_n 0, 1) := by decide +kernel
theorem dX7_endTask_91 : decode cX7_endTask 91 = .ok (.getfield 21, 3) := by decide +kernel
theorem dX7_endTask_94 : decode cX7_endTask 94 = .ok (.getfield 114, 3) := by decide +kernel
theorem dX7_endTask_97 : decode cX7_endTask 97 = .ok (.iload 4, 2) := by decide +kernel
theorem dX7_endTask_99 : decode cX7_endTask 99 = .ok (.invokevirtual 89, 3) := by decide +kernel
theorem dX7_endTask_102 : decode cX7_endTask 102 = .ok (.iconst 5, 1) := by decide +kernel
theorem dX7_endTask_103 : decode cX7_endTask 103 = .ok (.if_icmp .ne 20, 3) := by decide +kernel
theorem dX7_endTask_106 : decode cX7_endTask 106 = .ok (.aload_n 0, 1) := by decide +kernel
theorem dX7_endTask_107 : decode cX7_endTask 107 = .ok (.getfield 21, 3) := by decide +kernel
theorem dX7_endTask_110 : decode cX7_endTask 110 = .ok (.iload 4, 2) := by decide +kernel
theorem dX7_endTask_112 : decode cX7_endTask 112 = .ok (.invokevirtual 120, 3) := by decide +kernel
theorem dX7_endTask_115 : decode cX7_endTask 115 = .ok (.iload_n 3, 1) := by decide +kernel
theorem dX7_endTask_116 : decode cX7_endTask 116 = .ok (.if_icmp .ne 7, 3) := by decide +kernel
theorem dX7_endTask_119 : decode cX7_endTask 119 = .ok (.iconst 1, 1) := by decide +kernel
theorem dX7_endTask_120 : decode cX7_endTask 120 = .ok (.goto 4, 3) := by decide +kernel
theorem dX7_endTask_123 : decode cX7_endTask 123 = .ok (.iconst 0, 1) := by decide +kernel
theorem dX7_endTask_124 : decode cX7_endTask 124 = .ok (.istore 5, 2) := by decide +kernel
theorem dX7_endTask_126 : decode cX7_endTask 126 = .ok (.iload 5, 2) := by decide +kernel
theorem dX7_endTask_128 : decode cX7_endTask 128 = .ok (.ifCond .eq 26, 3) := by decide +kernel
theorem dX7_endTask_131 : decode cX7_endTask 131 = .ok (.aload_n 0, 1) := by decide +kernel
theorem dX7_endTask_132 : decode cX7_endTask 132 = .ok (.getfield 26, 3) := by decide +kernel
theorem dX7_endTask_135 : decode cX7_endTask 135 = .ok (.getfield 203, 3) := by decide +kernel
theorem dX7_endTask_138 : decode cX7_endTask 138 = .ok (.iload_n 3, 1) := by decide +kernel
theorem dX7_endTask_139 : decode cX7_endTask 139 = .ok (.invokevirtual 89, 3) := by decide +kernel
theorem dX7_endTask_142 : decode cX7_endTask 142 = .ok (.ifCond .ne 12, 3) := by decide +kernel
theorem dX7_endTask_145 : decode cX7_endTask 145 = .ok (.aload_n 0, 1) := by decide +kernel
theorem dX7_endTask_146 : decode cX7_endTask 146 = .ok (.getfield 9, 3) := by decide +kernel
theorem dX7_endTask_149 : decode cX7_endTask 149 = .ok (.iload 4, 2) := by decide +kernel
theorem dX7_endTask_151 : decode cX7_endTask 151 = .ok (.invokevirtual 221, 3) := by decide +kernel
theorem dX7_endTask_154 : decode cX7_endTask 154 = .ok (.return_, 1) := by decide +kernel
theorem dX7_failOwner_0 : decode cX7_failOwner 0 = .ok (.aload_n 0, 1) := by decide +kernel
theorem dX7_failOwner_1 : decode cX7_failOwner 1 = .ok (.getfield 26, 3) := by decide +kernel
theorem dX7_failOwner_4 : decode cX7_failOwner 4 = .ok (.getfield 175, 3) := by decide +kernel
theorem dX7_failOwner_7 : decode cX7_failOwner 7 = .ok (.iload_n 2, 1) := by decide +kernel
theorem dX7_failOwner_8 : decode cX7_failOwner 8 = .ok (.invokevirtual 89, 3) := by decide +kernel
theorem dX7_failOwner_11 : decode cX7_failOwner 11 = .ok (.ifCond .ne 28, 3) := by decide +kernel
theorem dX7_failOwner_14 : decode cX7_failOwner 14 = .ok (.aload_n 0, 1) := by decide +kernel
theorem dX7_failOwner_15 : decode cX7_failOwner 15 = .ok (.getfield 9, 3) := by decide +kernel
theorem dX7_failOwner_18 : decode cX7_failOwner 18 = .ok (.iload_n 1, 1) := by decide +kernel
theorem dX7_failOwner_19 : decode cX7_failOwner 19 = .ok (.bipush 10, 2) := by decide +kernel
theorem dX7_failOwner_21 : decode cX7_failOwner 21 = .ok (.iload_n 3, 1) := by decide +kernel
theorem dX7_failOwner_22 : decode cX7_failOwner 22 = .ok (.aload_n 0, 1) := by decide +kernel
theorem dX7_failOwner_23 : decode cX7_failOwner 23 = .ok (.getfield 26, 3) := by decide +kernel
theorem dX7_failOwner_26 : decode cX7_failOwner 26 = .ok (.getfield 185, 3) := by decide +kernel
theorem dX7_failOwner_29 : decode cX7_failOwner 29 = .ok (.iload_n 2, 1) := by decide +kernel
theorem dX7_failOwner_30 : decode cX7_failOwner 30 = .ok (.invokevirtual 89, 3) := by decide +kernel
theorem dX7_failOwner_33 : decode cX7_failOwner 33 = .ok (.invokevirtual 159, 3) := by decide +kernel
theorem dX7_failOwner_36 : decode cX7_failOwner 36 = .ok (.goto 16, 3) := by decide +kernel
theorem dX7_failOwner_39 : decode cX7_failOwner 39 = .ok (.aload_n 0, 1) := by decide +kernel
theorem dX7_failOwner_40 : decode cX7_failOwner 40 = .ok (.getfield 9, 3) := by decide +kernel
theorem dX7_failOwner_43 : decode cX7_failOwner 43 = .ok (.getfield 60, 3) := by decide +kernel
theorem dX7_failOwner_46 : decode cX7_failOwner 46 = .ok (.bipush 9, 2) := by decide +kernel
theorem dX7_failOwner_48 : decode cX7_failOwner 48 = .ok (.iconst 1, 1) := by decide +kernel
theorem dX7_failOwner_49 : decode cX7_failOwner 49 = .ok (.invokevirtual 64, 3) := by decide +kernel
theorem dX7_failOwner_52 : decode cX7_failOwner 52 = .ok (.return_, 1) := by decide +kernel
theorem dX7_executeNext_0 : decode cX7_executeNext 0 = .ok (.aload_n 0, 1) := by decide +kernel
theorem dX7_executeNext_1 : decode cX7_executeNext 1 = .ok (.getfield 21, 3) := by decide +kernel
theorem dX7_executeNext_4 : decode cX7_executeNext 4 = .ok (.getfield 99, 3) := by decide +kernel
theorem dX7_executeNext_7 : decode cX7_executeNext 7 = .ok (.iload_n 1, 1) := by decide +kernel
theorem dX7_executeNext_8 : decode cX7_executeNext 8 = .ok (.invokevirtual 89, 3) := by decide +kernel
theorem dX7_executeNext_11 : decode cX7_executeNext 11 = .ok (.istore_n 2, 1) := by decide +kernel
theorem dX7_executeNext_12 : decode cX7_executeNext 12 = .ok (.aload_n 0, 1) := by decide +kernel
theorem dX7_executeNext_13 : decode cX7_executeNext 13 = .ok (.getfield 21, 3) := by decide +kernel
theorem dX7_executeNext_16 : decode cX7_executeNext 16 = .ok (.getfield 102, 3) := by decide +kernel
theorem dX7_executeNext_19 : decode cX7_executeNext 19 = .ok (.iload_n 1, 1) := by decide +kernel
theorem dX7_executeNext_20 : decode cX7_executeNext 20 = .ok (.iload_n 2, 1) := by decide +kernel
theorem dX7_executeNext_21 : decode cX7_executeNext 21 = .ok (.invokevirtual 134, 3) := by decide +kernel
theorem dX7_executeNext_24 : decode cX7_executeNext 24 = .ok (.istore_n 3, 1) := by decide +kernel
theorem dX7_executeNext_25 : decode cX7_executeNext 25 = .ok (.iload_n 3, 1) := by decide +kernel
theorem dX7_executeNext_26 : decode cX7_executeNext 26 = .ok (.invokestatic 137, 3) := by decide +kernel
theorem dX7_executeNext_29 : decode cX7_executeNext 29 = .ok (.istore 4, 2) := by decide +kernel
theorem dX7_executeNext_31 : decode cX7_executeNext 31 = .ok (.iload_n 3, 1) := by decide +kernel
theorem dX7_executeNext_32 : decode cX7_executeNext 32 = .ok (.invokestatic 143, 3) := by decide +kernel
theorem dX7_executeNext_35 : decode cX7_executeNext 35 = .ok (.istore 5, 2) := by decide +kernel
theorem dX7_executeNext_37 : decode cX7_executeNext 37 = .ok (.iload 4, 2) := by decide +kernel
theorem dX7_executeNext_39 : decode cX7_executeNext 39 = .ok (.bipush 41, 2) := by decide +kernel
theorem dX7_executeNext_41 : decode cX7_executeNext 41 = .ok (.if_icmp .eq 23, 3) := by decide +kernel
theorem dX7_executeNext_44 : decode cX7_executeNext 44 = .ok (.aload_n 0, 1) := by decide +kernel
theorem dX7_executeNext_45 : decode cX7_executeNext 45 = .ok (.getfield 21, 3) := by decide +kernel
theorem dX7_executeNext_48 : decode cX7_executeNext 48 = .ok (.getfield 99, 3) := by decide +kernel
theorem dX7_executeNext_51 : decode cX7_executeNext 51 = .ok (.iload_n 1, 1) := by decide +kernel
theorem dX7_executeNext_52 : decode cX7_executeNext 52 = .ok (.iload_n 2, 1) := by decide +kernel
theorem dX7_executeNext_53 : decode cX7_executeNext 53 = .ok (.aload_n 0, 1) := by decide +kernel
theorem dX7_executeNext_54 : decode cX7_executeNext 54 = .ok (.iload_n 1, 1) := by decide +kernel
theorem dX7_executeNext_55 : decode cX7_executeNext 55 = .ok (.iload 4, 2) := by decide +kernel
theorem dX7_executeNext_57 : decode cX7_executeNext 57 = .ok (.invokevirtual 140, 3) := by decide +kernel
theorem dX7_executeNext_60 : decode cX7_executeNext 60 = .ok (.iadd, 1) := by decide +kernel
theorem dX7_executeNext_61 : decode cX7_executeNext 61 = .ok (.invokevirtual 131, 3) := by decide +kernel
theorem dX7_executeNext_64 : decode cX7_executeNext 64 = .ok (.iload 4, 2) := by decide +kernel
theorem dX7_executeNext_66 : decode cX7_executeNext 66 = .ok (.lookupswitch 225 #[(33, 203), (40, 106), (41, 98), (60, 169), (62, 156), (63, 182), (91, 106), (94, 118), (112, 128), (120, 138), (123, 106)], 98) := by decide +kernel
theorem dX7_executeNext_164 : decode cX7_executeNext 164 = .ok (.aload_n 0, 1) := by decide +kernel
theorem dX7_executeNext_165 : decode cX7_executeNext 165 = .ok (.iload_n 1, 1) := by decide +kernel
theorem dX7_executeNext_166 : decode cX7_executeNext 166 = .ok (.invokevirtual 224, 3) := by decide +kernel
theorem dX7_executeNext_169 : decode cX7_executeNext 169 = .ok (.goto 131, 3) := by decide +kernel
theorem dX7_executeNext_172 : decode cX7_executeNext 172 = .ok (.aload_n 0, 1) := by decide +kernel
theorem dX7_executeNext_173 : decode cX7_executeNext 173 = .ok (.iload_n 1, 1) := by decide +kernel
theorem dX7_executeNext_174 : decode cX7_executeNext 174 = .ok (.iload 4, 2) := by decide +kernel
theorem dX7_executeNext_176 : decode cX7_executeNext 176 = .ok (.iload 5, 2) := by decide +kernel
theorem dX7_executeNext_178 : decode cX7_executeNext 178 = .ok (.invokevirtual 227, 3) := by decide +kernel
theorem dX7_executeNext_181 : decode cX7_executeNext 181 = .ok (.goto 119, 3) := by decide +kernel
theorem dX7_executeNext_184 : decode cX7_executeNext 184 = .ok (.aload_n 0, 1) := by decide +kernel
theorem dX7_executeNext_185 : decode cX7_executeNext 185 = .ok (.iload_n 1, 1) := by decide +kernel
theorem dX7_executeNext_186 : decode cX7_executeNext 186 = .ok (.iload 5, 2) := by decide +kernel
theorem dX7_executeNext_188 : decode cX7_executeNext 188 = .ok (.invokevirtual 230, 3) := by decide +kernel
theorem dX7_executeNext_191 : decode cX7_executeNext 191 = .ok (.goto 109, 3) := by decide +kernel
theorem dX7_executeNext_194 : decode cX7_executeNext 194 = .ok (.aload_n 0, 1) := by decide +kernel
theorem dX7_executeNext_195 : decode cX7_executeNext 195 = .ok (.iload_n 1, 1) := by decide +kernel
theorem dX7_executeNext_196 : decode cX7_executeNext 196 = .ok (.iload 5, 2) := by decide +kernel
theorem dX7_executeNext_198 : decode cX7_executeNext 198 = .ok (.invokevirtual 233, 3) := by decide +kernel
theorem dX7_executeNext_201 : decode cX7_executeNext 201 = .ok (.goto 99, 3) := by decide +kernel
theorem dX7_executeNext_204 : decode cX7_executeNext 204 = .ok (.aload_n 0, 1) := by decide +kernel
theorem dX7_executeNext_205 : decode cX7_executeNext 205 = .ok (.getfield 9, 3) := by decide +kernel
theorem dX7_executeNext_208 : decode cX7_executeNext 208 = .ok (.aload_n 0, 1) := by decide +kernel
theorem dX7_executeNext_209 : decode cX7_executeNext 209 = .ok (.getfield 21, 3) := by decide +kernel
theorem dX7_executeNext_212 : decode cX7_executeNext 212 = .ok (.iload_n 1, 1) := by decide +kernel
theorem dX7_executeNext_213 : decode cX7_executeNext 213 = .ok (.invokevirtual 120, 3) := by decide +kernel
theorem dX7_executeNext_216 : decode cX7_executeNext 216 = .ok (.invokevirtual 178, 3) := by decide +kernel
theorem dX7_executeNext_219 : decode cX7_executeNext 219 = .ok (.goto 81, 3) := by decide +kernel
theorem dX7_executeNext_222 : decode cX7_executeNext 222 = .ok (.aload_n 0, 1) := by decide +kernel
theorem dX7_executeNext_223 : decode cX7_executeNext 223 = .ok (.getfield 32, 3) := by decide +kernel
theorem dX7_executeNext_226 : decode cX7_executeNext 226 = .ok (.iload_n 1, 1) := by decide +kernel
theorem dX7_executeNext_227 : decode cX7_executeNext 227 = .ok (.iload 5, 2) := by decide +kernel
theorem dX7_executeNext_229 : decode cX7_executeNext 229 = .ok (.invokevirtual 236, 3) := by decide +kernel
theorem dX7_executeNext_232 : decode cX7_executeNext 232 = .ok (.goto 68, 3) := by decide +kernel
theorem dX7_executeNext_235 : decode cX7_executeNext 235 = .ok (.aload_n 0, 1) := by decide +kernel
theorem dX7_executeNext_236 : decode cX7_executeNext 236 = .ok (.getfield 32, 3) := by decide +kernel
theorem dX7_executeNext_239 : decode cX7_executeNext 239 = .ok (.iload_n 1, 1) := by decide +kernel
theorem dX7_executeNext_240 : decode cX7_executeNext 240 = .ok (.iload 5, 2) := by decide +kernel
theorem dX7_executeNext_242 : decode cX7_executeNext 242 = .ok (.invokevirtual 239, 3) := by decide +kernel
theorem dX7_executeNext_245 : decode cX7_executeNext 245 = .ok (.goto 55, 3) := by decide +kernel
theorem dX7_executeNext_248 : decode cX7_executeNext 248 = .ok (.aload_n 0, 1) := by decide +kernel
theorem dX7_executeNext_249 : decode cX7_executeNext 249 = .ok (.getfield 32, 3) := by decide +kernel
theorem dX7_executeNext_252 : decode cX7_executeNext 252 = .ok (.iload_n 1, 1) := by decide +kernel
theorem dX7_executeNext_253 : decode cX7_executeNext 253 = .ok (.iload 5, 2) := by decide +kernel
theorem dX7_executeNext_255 : decode cX7_executeNext 255 = .ok (.bipush 10, 2) := by decide +kernel
theorem dX7_executeNext_257 : decode cX7_executeNext 257 = .ok (.idiv, 1) := by decide +kernel
theorem dX7_executeNext_258 : decode cX7_executeNext 258 = .ok (.iload 5, 2) := by decide +kernel
theorem dX7_executeNext_260 : decode cX7_executeNext 260 = .ok (.bipush 10, 2) := by decide +kernel
theorem dX7_executeNext_262 : decode cX7_executeNext 262 = .ok (.irem, 1) := by decide +kernel
theorem dX7_executeNext_263 : decode cX7_executeNext 263 = .ok (.invokevirtual 242, 3) := by decide +kernel
theorem dX7_executeNext_266 : decode cX7_executeNext 266 = .ok (.goto 34, 3) := by decide +kernel
theorem dX7_executeNext_269 : decode cX7_executeNext 269 = .ok (.aload_n 0, 1) := by decide +kernel
theorem dX7_executeNext_270 : decode cX7_executeNext 270 = .ok (.getfield 9, 3) := by decide +kernel
theorem dX7_executeNext_273 : decode cX7_executeNext 273 = .ok (.iload_n 1, 1) := by decide +kernel
theorem dX7_executeNext_274 : decode cX7_executeNext 274 = .ok (.iload 5, 2) := by decide +kernel
theorem dX7_executeNext_276 : decode cX7_executeNext 276 = .ok (.iconst (-1), 1) := by decide +kernel
theorem dX7_executeNext_277 : decode cX7_executeNext 277 = .ok (.aload_n 0, 1) := by decide +kernel
theorem dX7_executeNext_278 : decode cX7_executeNext 278 = .ok (.getfield 21, 3) := by decide +kernel
theorem dX7_executeNext_281 : decode cX7_executeNext 281 = .ok (.iload_n 1, 1) := by decide +kernel
theorem dX7_executeNext_282 : decode cX7_executeNext 282 = .ok (.invokevirtual 156, 3) := by decide +kernel
theorem dX7_executeNext_285 : decode cX7_executeNext 285 = .ok (.invokevirtual 159, 3) := by decide +kernel
theorem dX7_executeNext_288 : decode cX7_executeNext 288 = .ok (.goto 12, 3) := by decide +kernel
theorem dX7_executeNext_291 : decode cX7_executeNext 291 = .ok (.aload_n 0, 1) := by decide +kernel
theorem dX7_executeNext_292 : decode cX7_executeNext 292 = .ok (.iload_n 1, 1) := by decide +kernel
theorem dX7_executeNext_293 : decode cX7_executeNext 293 = .ok (.iload 4, 2) := by decide +kernel
theorem dX7_executeNext_295 : decode cX7_executeNext 295 = .ok (.iload 5, 2) := by decide +kernel
theorem dX7_executeNext_297 : decode cX7_executeNext 297 = .ok (.invokevirtual 149, 3) := by decide +kernel
theorem dX7_executeNext_300 : decode cX7_executeNext 300 = .ok (.return_, 1) := by decide +kernel
theorem dX7_executeSimple_0 : decode cX7_executeSimple 0 = .ok (.iload_n 2, 1) := by decide +kernel
theorem dX7_executeSimple_1 : decode cX7_executeSimple 1 = .ok (.bipush 43, 2) := by decide +kernel
theorem dX7_executeSimple_3 : decode cX7_executeSimple 3 = .ok (.if_icmp .ne 18, 3) := by decide +kernel
theorem dX7_executeSimple_6 : decode cX7_executeSimple 6 = .ok (.aload_n 0, 1) := by decide +kernel
theorem dX7_executeSimple_7 : decode cX7_executeSimple 7 = .ok (.getfield 21, 3) := by decide +kernel
theorem dX7_executeSimple_10 : decode cX7_executeSimple 10 = .ok (.getfield 153, 3) := by decide +kernel
theorem dX7_executeSimple_13 : decode cX7_executeSimple 13 = .ok (.iload_n 1, 1) := by decide +kernel
theorem dX7_executeSimple_14 : decode cX7_executeSimple 14 = .ok (.iload_n 3, 1) := by decide +kernel
theorem dX7_executeSimple_15 : decode cX7_executeSimple 15 = .ok (.invokevirtual 64, 3) := by decide +kernel
theorem dX7_executeSimple_18 : decode cX7_executeSimple 18 = .ok (.goto 52, 3) := by decide +kernel
theorem dX7_executeSimple_21 : decode cX7_executeSimple 21 = .ok (.iload_n 2, 1) := by decide +kernel
theorem dX7_executeSimple_22 : decode cX7_executeSimple 22 = .ok (.bipush 45, 2) := by decide +kernel
theorem dX7_executeSimple_24 : decode cX7_executeSimple 24 = .ok (.if_icmp .ne 19, 3) := by decide +kernel
theorem dX7_executeSimple_27 : decode cX7_executeSimple 27 = .ok (.aload_n 0, 1) := by decide +kernel
theorem dX7_executeSimple_28 : decode cX7_executeSimple 28 = .ok (.getfield 21, 3) := by decide +kernel
theorem dX7_executeSimple_31 : decode cX7_executeSimple 31 = .ok (.getfield 153, 3) := by decide +kernel
theorem dX7_executeSimple_34 : decode cX7_executeSimple 34 = .ok (.iload_n 1, 1) := by decide +kernel
theorem dX7_executeSimple_35 : decode cX7_executeSimple 35 = .ok (.iload_n 3, 1) := by decide +kernel
theorem dX7_executeSimple_36 : decode cX7_executeSimple 36 = .ok (.ineg, 1) := by decide +kernel
theorem dX7_executeSimple_37 : decode cX7_executeSimple 37 = .ok (.invokevirtual 64, 3) := by decide +kernel
theorem dX7_executeSimple_40 : decode cX7_executeSimple 40 = .ok (.goto 30, 3) := by decide +kernel
theorem dX7_executeSimple_43 : decode cX7_executeSimple 43 = .ok (.iload_n 2, 1) := by decide +kernel
theorem dX7_executeSimple_44 : decode cX7_executeSimple 44 = .ok (.bipush 119, 2) := by decide +kernel
theorem dX7_executeSimple_46 : decode cX7_executeSimple 46 = .ok (.if_icmp .ne 24, 3) := by decide +kernel
theorem dX7_executeSimple_49 : decode cX7_executeSimple 49 = .ok (.aload_n 0, 1) := by decide +kernel
theorem dX7_executeSimple_50 : decode cX7_executeSimple 50 = .ok (.getfield 21, 3) := by decide +kernel
theorem dX7_executeSimple_53 : decode cX7_executeSimple 53 = .ok (.iload_n 1, 1) := by decide +kernel
theorem dX7_executeSimple_54 : decode cX7_executeSimple 54 = .ok (.aload_n 0, 1) := by decide +kernel
theorem dX7_executeSimple_55 : decode cX7_executeSimple 55 = .ok (.getfield 9, 3) := by decide +kernel
theorem dX7_executeSimple_58 : decode cX7_executeSimple 58 = .ok (.getfield 60, 3) := by decide +kernel
theorem dX7_executeSimple_61 : decode cX7_executeSimple 61 = .ok (.iconst 5, 1) := by decide +kernel
theorem dX7_executeSimple_62 : decode cX7_executeSimple 62 = .ok (.invokevirtual 89, 3) := by decide +kernel
theorem dX7_executeSimple_65 : decode cX7_executeSimple 65 = .ok (.iload_n 3, 1) := by decide +kernel
theorem dX7_executeSimple_66 : decode cX7_executeSimple 66 = .ok (.iadd, 1) := by decide +kernel
theorem dX7_executeSimple_67 : decode cX7_executeSimple 67 = .ok (.invokevirtual 245, 3) := by decide +kernel
theorem dX7_executeSimple_70 : decode cX7_executeSimple 70 = .ok (.return_, 1) := by decide +kernel
theorem dX7_closeScope_0 : decode cX7_closeScope 0 = .ok (.aload_n 0, 1) := by decide +kernel
theorem dX7_closeScope_1 : decode cX7_closeScope 1 = .ok (.iload_n 1, 1) := by decide +kernel
theorem dX7_closeScope_2 : decode cX7_closeScope 2 = .ok (.aload_n 0, 1) := by decide +kernel
theorem dX7_closeScope_3 : decode cX7_closeScope 3 = .ok (.getfield 21, 3) := by decide +kernel
theorem dX7_closeScope_6 : decode cX7_closeScope 6 = .ok (.iload_n 1, 1) := by decide +kernel
theorem dX7_closeScope_7 : decode cX7_closeScope 7 = .ok (.invokevirtual 120, 3) := by decide +kernel
theorem dX7_closeScope_10 : decode cX7_closeScope 10 = .ok (.invokevirtual 181, 3) := by decide +kernel
theorem dX7_closeScope_13 : decode cX7_closeScope 13 = .ok (.ifCond .eq 15, 3) := by decide +kernel
theorem dX7_closeScope_16 : decode cX7_closeScope 16 = .ok (.aload_n 0, 1) := by decide +kernel
theorem dX7_closeScope_17 : decode cX7_closeScope 17 = .ok (.getfield 21, 3) := by decide +kernel
theorem dX7_closeScope_20 : decode cX7_closeScope 20 = .ok (.getfield 99, 3) := by decide +kernel
theorem dX7_closeScope_23 : decode cX7_closeScope 23 = .ok (.iload_n 1, 1) := by decide +kernel
theorem dX7_closeScope_24 : decode cX7_closeScope 24 = .ok (.iconst 1, 1) := by decide +kernel
theorem dX7_closeScope_25 : decode cX7_closeScope 25 = .ok (.invokevirtual 64, 3) := by decide +kernel
theorem dX7_closeScope_28 : decode cX7_closeScope 28 = .ok (.return_, 1) := by decide +kernel
theorem dX7_openScope_0 : decode cX7_openScope 0 = .ok (.aload_n 0, 1) := by decide +kernel
theorem dX7_openScope_1 : decode cX7_openScope 1 = .ok (.getfield 26, 3) := by decide +kernel
theorem dX7_openScope_4 : decode cX7_openScope 4 = .ok (.getfield 248, 3) := by decide +kernel
theorem dX7_openScope_7 : decode cX7_openScope 7 = .ok (.bipush 60, 2) := by decide +kernel
theorem dX7_openScope_9 : decode cX7_openScope 9 = .ok (.if_icmp .lt 23, 3) := by decide +kernel
theorem dX7_openScope_12 : decode cX7_openScope 12 = .ok (.aload_n 0, 1) := by decide +kernel
theorem dX7_openScope_13 : decode cX7_openScope 13 = .ok (.getfield 9, 3) := by decide +kernel
theorem dX7_openScope_16 : decode cX7_openScope 16 = .ok (.iload_n 1, 1) := by decide +kernel
theorem dX7_openScope_17 : decode cX7_openScope 17 = .ok (.bipush 12, 2) := by decide +kernel
theorem dX7_openScope_19 : decode cX7_openScope 19 = .ok (.iconst (-1), 1) := by decide +kernel
theorem dX7_openScope_20 : decode cX7_openScope 20 = .ok (.aload_n 0, 1) := by decide +kernel
theorem dX7_openScope_21 : decode cX7_openScope 21 = .ok (.getfield 21, 3) := by decide +kernel
theorem dX7_openScope_24 : decode cX7_openScope 24 = .ok (.iload_n 1, 1) := by decide +kernel
theorem dX7_openScope_25 : decode cX7_openScope 25 = .ok (.invokevirtual 156, 3) := by decide +kernel
theorem dX7_openScope_28 : decode cX7_openScope 28 = .ok (.invokevirtual 159, 3) := by decide +kernel
theorem dX7_openScope_31 : decode cX7_openScope 31 = .ok (.return_, 1) := by decide +kernel
theorem dX7_openScope_32 : decode cX7_openScope 32 = .ok (.iload_n 2, 1) := by decide +kernel
theorem dX7_openScope_33 : decode cX7_openScope 33 = .ok (.bipush 123, 2) := by decide +kernel
theorem dX7_openScope_35 : decode cX7_openScope 35 = .ok (.if_icmp .ne 7, 3) := by decide +kernel
theorem dX7_openScope_38 : decode cX7_openScope 38 = .ok (.iconst 2, 1) := by decide +kernel
theorem dX7_openScope_39 : decode cX7_openScope 39 = .ok (.goto 14, 3) := by decide +kernel
theorem dX7_openScope_42 : decode cX7_openScope 42 = .ok (.iload_n 2, 1) := by decide +kernel
theorem dX7_openScope_43 : decode cX7_openScope 43 = .ok (.bipush 91, 2) := by decide +kernel
theorem dX7_openScope_45 : decode cX7_openScope 45 = .ok (.if_icmp .ne 7, 3) := by decide +kernel
theorem dX7_openScope_48 : decode cX7_openScope 48 = .ok (.iconst 1, 1) := by decide +kernel
theorem dX7_openScope_49 : decode cX7_openScope 49 = .ok (.goto 4, 3) := by decide +kernel
theorem dX7_openScope_52 : decode cX7_openScope 52 = .ok (.iconst 0, 1) := by decide +kernel
theorem dX7_openScope_53 : decode cX7_openScope 53 = .ok (.istore 4, 2) := by decide +kernel
theorem dX7_openScope_55 : decode cX7_openScope 55 = .ok (.iload 4, 2) := by decide +kernel
theorem dX7_openScope_57 : decode cX7_openScope 57 = .ok (.iconst 1, 1) := by decide +kernel
theorem dX7_openScope_58 : decode cX7_openScope 58 = .ok (.if_icmp .ne 19, 3) := by decide +kernel
theorem dX7_openScope_61 : decode cX7_openScope 61 = .ok (.aload_n 0, 1) := by decide +kernel
theorem dX7_openScope_62 : decode cX7_openScope 62 = .ok (.getfield 9, 3) := by decide +kernel
theorem dX7_openScope_65 : decode cX7_openScope 65 = .ok (.getfield 60, 3) := by decide +kernel
theorem dX7_openScope_68 : decode cX7_openScope 68 = .ok (.iconst 5, 1) := by decide +kernel
theorem dX7_openScope_69 : decode cX7_openScope 69 = .ok (.invokevirtual 89, 3) := by decide +kernel
theorem dX7_openScope_72 : decode cX7_openScope 72 = .ok (.iload_n 3, 1) := by decide +kernel
theorem dX7_openScope_73 : decode cX7_openScope 73 = .ok (.iadd, 1) := by decide +kernel
theorem dX7_openScope_74 : decode cX7_openScope 74 = .ok (.goto 4, 3) := by decide +kernel
theorem dX7_openScope_77 : decode cX7_openScope 77 = .ok (.iconst (-1), 1) := by decide +kernel
theorem dX7_openScope_78 : decode cX7_openScope 78 = .ok (.istore 5, 2) := by decide +kernel
theorem dX7_openScope_80 : decode cX7_openScope 80 = .ok (.aload_n 0, 1) := by decide +kernel
theorem dX7_openScope_81 : decode cX7_openScope 81 = .ok (.getfield 21, 3) := by decide +kernel
theorem dX7_openScope_84 : decode cX7_openScope 84 = .ok (.getfield 102, 3) := by decide +kernel
theorem dX7_openScope_87 : decode cX7_openScope 87 = .ok (.iload_n 1, 1) := by decide +kernel
theorem dX7_openScope_88 : decode cX7_openScope 88 = .ok (.aload_n 0, 1) := by decide +kernel
theorem dX7_openScope_89 : decode cX7_openScope 89 = .ok (.getfield 21, 3) := by decide +kernel
theorem dX7_openScope_92 : decode cX7_openScope 92 = .ok (.getfield 99, 3) := by decide +kernel
theorem dX7_openScope_95 : decode cX7_openScope 95 = .ok (.iload_n 1, 1) := by decide +kernel
theorem dX7_openScope_96 : decode cX7_openScope 96 = .ok (.invokevirtual 89, 3) := by decide +kernel
theorem dX7_openScope_99 : decode cX7_openScope 99 = .ok (.invokevirtual 252, 3) := by decide +kernel
theorem dX7_openScope_102 : decode cX7_openScope 102 = .ok (.istore 6, 2) := by decide +kernel
theorem dX7_openScope_104 : decode cX7_openScope 104 = .ok (.aload_n 0, 1) := by decide +kernel
theorem dX7_openScope_105 : decode cX7_openScope 105 = .ok (.getfield 21, 3) := by decide +kernel
theorem dX7_openScope_108 : decode cX7_openScope 108 = .ok (.iload_n 1, 1) := by decide +kernel
theorem dX7_openScope_109 : decode cX7_openScope 109 = .ok (.aload_n 0, 1) := by decide +kernel
theorem dX7_openScope_110 : decode cX7_openScope 110 = .ok (.getfield 26, 3) := by decide +kernel
theorem dX7_openScope_113 : decode cX7_openScope 113 = .ok (.iload_n 1, 1) := by decide +kernel
theorem dX7_openScope_114 : decode cX7_openScope 114 = .ok (.aload_n 0, 1) := by decide +kernel
theorem dX7_openScope_115 : decode cX7_openScope 115 = .ok (.getfield 21, 3) := by decide +kernel
theorem dX7_openScope_118 : decode cX7_openScope 118 = .ok (.getfield 86, 3) := by decide +kernel
theorem dX7_openScope_121 : decode cX7_openScope 121 = .ok (.iload_n 1, 1) := by decide +kernel
theorem dX7_openScope_122 : decode cX7_openScope 122 = .ok (.invokevirtual 89, 3) := by decide +kernel
theorem dX7_openScope_125 : decode cX7_openScope 125 = .ok (.iload 4, 2) := by decide +kernel
theorem dX7_openScope_127 : decode cX7_openScope 127 = .ok (.iload 5, 2) := by decide +kernel
theorem dX7_openScope_129 : decode cX7_openScope 129 = .ok (.iload 6, 2) := by decide +kernel
theorem dX7_openScope_131 : decode cX7_openScope 131 = .ok (.invokevirtual 255, 3) := by decide +kernel
theorem dX7_openScope_134 : decode cX7_openScope 134 = .ok (.invokevirtual 258, 3) := by decide +kernel
theorem dX7_openScope_137 : decode cX7_openScope 137 = .ok (.return_, 1) := by decide +kernel
theorem dX7_setCleanup_0 : decode cX7_setCleanup 0 = .ok (.aload_n 0, 1) := by decide +kernel
theorem dX7_setCleanup_1 : decode cX7_setCleanup 1 = .ok (.getfield 21, 3) := by decide +kernel
theorem dX7_setCleanup_4 : decode cX7_setCleanup 4 = .ok (.iload_n 1, 1) := by decide +kernel
theorem dX7_setCleanup_5 : decode cX7_setCleanup 5 = .ok (.invokevirtual 120, 3) := by decide +kernel
theorem dX7_setCleanup_8 : decode cX7_setCleanup 8 = .ok (.istore_n 3, 1) := by decide +kernel
theorem dX7_setCleanup_9 : decode cX7_setCleanup 9 = .ok (.aload_n 0, 1) := by decide +kernel
theorem dX7_setCleanup_10 : decode cX7_setCleanup 10 = .ok (.getfield 26, 3) := by decide +kernel
theorem dX7_setCleanup_13 : decode cX7_setCleanup 13 = .ok (.getfield 206, 3) := by decide +kernel
theorem dX7_setCleanup_16 : decode cX7_setCleanup 16 = .ok (.iload_n 3, 1) := by decide +kernel
theorem dX7_setCleanup_17 : decode cX7_setCleanup 17 = .ok (.iconst 1, 1) := by decide +kernel
theorem dX7_setCleanup_18 : decode cX7_setCleanup 18 = .ok (.invokevirtual 131, 3) := by decide +kernel
theorem dX7_setCleanup_21 : decode cX7_setCleanup 21 = .ok (.aload_n 0, 1) := by decide +kernel
theorem dX7_setCleanup_22 : decode cX7_setCleanup 22 = .ok (.getfield 26, 3) := by decide +kernel
theorem dX7_setCleanup_25 : decode cX7_setCleanup 25 = .ok (.getfield 126, 3) := by decide +kernel
theorem dX7_setCleanup_28 : decode cX7_setCleanup 28 = .ok (.iload_n 3, 1) := by decide +kernel
theorem dX7_setCleanup_29 : decode cX7_setCleanup 29 = .ok (.aload_n 0, 1) := by decide +kernel
theorem dX7_setCleanup_30 : decode cX7_setCleanup 30 = .ok (.getfield 9, 3) := by decide +kernel
theorem dX7_setCleanup_33 : decode cX7_setCleanup 33 = .ok (.getfield 261, 3) := by decide +kernel
theorem dX7_setCleanup_36 : decode cX7_setCleanup 36 = .ok (.iload_n 2, 1) := by decide +kernel
theorem dX7_setCleanup_37 : decode cX7_setCleanup 37 = .ok (.invokevirtual 264, 3) := by decide +kernel
theorem dX7_setCleanup_40 : decode cX7_setCleanup 40 = .ok (.return_, 1) := by decide +kernel
theorem dX7_startChild_0 : decode cX7_startChild 0 = .ok (.aload_n 0, 1) := by decide +kernel
theorem dX7_startChild_1 : decode cX7_startChild 1 = .ok (.getfield 21, 3) := by decide +kernel
theorem dX7_startChild_4 : decode cX7_startChild 4 = .ok (.iload_n 1, 1) := by decide +kernel
theorem dX7_startChild_5 : decode cX7_startChild 5 = .ok (.invokevirtual 120, 3) := by decide +kernel
theorem dX7_startChild_8 : decode cX7_startChild 8 = .ok (.istore_n 3, 1) := by decide +kernel
theorem dX7_startChild_9 : decode cX7_startChild 9 = .ok (.aload_n 0, 1) := by decide +kernel
theorem dX7_startChild_10 : decode cX7_startChild 10 = .ok (.getfield 9, 3) := by decide +kernel
theorem dX7_startChild_13 : decode cX7_startChild 13 = .ok (.iload_n 2, 1) := by decide +kernel
theorem dX7_startChild_14 : decode cX7_startChild 14 = .ok (.iload_n 3, 1) := by decide +kernel
theorem dX7_startChild_15 : decode cX7_startChild 15 = .ok (.invokevirtual 268, 3) := by decide +kernel
theorem dX7_startChild_18 : decode cX7_startChild 18 = .ok (.iconst (-1), 1) := by decide +kernel
theorem dX7_startChild_19 : decode cX7_startChild 19 = .ok (.if_icmp .ne 25, 3) := by decide +kernel
theorem dX7_startChild_22 : decode cX7_startChild 22 = .ok (.aload_n 0, 1) := by decide +kernel
theorem dX7_startChild_23 : decode cX7_startChild 23 = .ok (.getfield 9, 3) := by decide +kernel
theorem dX7_startChild_26 : decode cX7_startChild 26 = .ok (.iload_n 1, 1) := by decide +kernel
theorem dX7_startChild_27 : decode cX7_startChild 27 = .ok (.bipush 11, 2) := by decide +kernel
theorem dX7_startChild_29 : decode cX7_startChild 29 = .ok (.iconst (-1), 1) := by decide +kernel
theorem dX7_startChild_30 : decode cX7_startChild 30 = .ok (.aload_n 0, 1) := by decide +kernel
theorem dX7_startChild_31 : decode cX7_startChild 31 = .ok (.getfield 21, 3) := by decide +kernel
theorem dX7_startChild_34 : decode cX7_startChild 34 = .ok (.iload_n 1, 1) := by decide +kernel
theorem dX7_startChild_35 : decode cX7_startChild 35 = .ok (.invokevirtual 156, 3) := by decide +kernel
theorem dX7_startChild_38 : decode cX7_startChild 38 = .ok (.invokevirtual 159, 3) := by decide +kernel
theorem dX7_startChild_41 : decode cX7_startChild 41 = .ok (.goto 11, 3) := by decide +kernel
theorem dX7_startChild_44 : decode cX7_startChild 44 = .ok (.aload_n 0, 1) := by decide +kernel
theorem dX7_startChild_45 : decode cX7_startChild 45 = .ok (.getfield 26, 3) := by decide +kernel
theorem dX7_startChild_48 : decode cX7_startChild 48 = .ok (.iload_n 3, 1) := by decide +kernel
theorem dX7_startChild_49 : decode cX7_startChild 49 = .ok (.invokevirtual 271, 3) := by decide +kernel
theorem dX7_startChild_52 : decode cX7_startChild 52 = .ok (.return_, 1) := by decide +kernel
theorem dX7_nextTime_0 : decode cX7_nextTime 0 = .ok (.iconst (-1), 1) := by decide +kernel
theorem dX7_nextTime_1 : decode cX7_nextTime 1 = .ok (.istore_n 1, 1) := by decide +kernel
theorem dX7_nextTime_2 : decode cX7_nextTime 2 = .ok (.iconst 0, 1) := by decide +kernel
theorem dX7_nextTime_3 : decode cX7_nextTime 3 = .ok (.istore_n 2, 1) := by decide +kernel
theorem dX7_nextTime_4 : decode cX7_nextTime 4 = .ok (.iload_n 2, 1) := by decide +kernel
theorem dX7_nextTime_5 : decode cX7_nextTime 5 = .ok (.aload_n 0, 1) := by decide +kernel
theorem dX7_nextTime_6 : decode cX7_nextTime 6 = .ok (.getfield 21, 3) := by decide +kernel
theorem dX7_nextTime_9 : decode cX7_nextTime 9 = .ok (.getfield 274, 3) := by decide +kernel
theorem dX7_nextTime_12 : decode cX7_nextTime 12 = .ok (.if_icmp .ge 40, 3) := by decide +kernel
theorem dX7_nextTime_15 : decode cX7_nextTime 15 = .ok (.aload_n 0, 1) := by decide +kernel
theorem dX7_nextTime_16 : decode cX7_nextTime 16 = .ok (.getfield 21, 3) := by decide +kernel
theorem dX7_nextTime_19 : decode cX7_nextTime 19 = .ok (.getfield 114, 3) := by decide +kernel
theorem dX7_nextTime_22 : decode cX7_nextTime 22 = .ok (.iload_n 2, 1) := by decide +kernel
theorem dX7_nextTime_23 : decode cX7_nextTime 23 = .ok (.invokevirtual 89, 3) := by decide +kernel
theorem dX7_nextTime_26 : decode cX7_nextTime 26 = .ok (.iconst 1, 1) := by decide +kernel
theorem dX7_nextTime_27 : decode cX7_nextTime 27 = .ok (.if_icmp .ne 19, 3) := by decide +kernel
theorem dX7_nextTime_30 : decode cX7_nextTime 30 = .ok (.iload_n 1, 1) := by decide +kernel
theorem dX7_nextTime_31 : decode cX7_nextTime 31 = .ok (.aload_n 0, 1) := by decide +kernel
theorem dX7_nextTime_32 : decode cX7_nextTime 32 = .ok (.getfield 21, 3) := by decide +kernel
theorem dX7_nextTime_35 : decode cX7_nextTime 35 = .ok (.getfield 275, 3) := by decide +kernel
theorem dX7_nextTime_38 : decode cX7_nextTime 38 = .ok (.iload_n 2, 1) := by decide +kernel
theorem dX7_nextTime_39 : decode cX7_nextTime 39 = .ok (.invokevirtual 89, 3) := by decide +kernel
theorem dX7_nextTime_42 : decode cX7_nextTime 42 = .ok (.invokestatic 278, 3) := by decide +kernel
theorem dX7_nextTime_45 : decode cX7_nextTime 45 = .ok (.istore_n 1, 1) := by decide +kernel
theorem dX7_nextTime_46 : decode cX7_nextTime 46 = .ok (.iinc 2 1, 3) := by decide +kernel
theorem dX7_nextTime_49 : decode cX7_nextTime 49 = .ok (.goto (-45), 3) := by decide +kernel
theorem dX7_nextTime_52 : decode cX7_nextTime 52 = .ok (.iconst 0, 1) := by decide +kernel
theorem dX7_nextTime_53 : decode cX7_nextTime 53 = .ok (.istore_n 2, 1) := by decide +kernel
theorem dX7_nextTime_54 : decode cX7_nextTime 54 = .ok (.iload_n 2, 1) := by decide +kernel
theorem dX7_nextTime_55 : decode cX7_nextTime 55 = .ok (.aload_n 0, 1) := by decide +kernel
theorem dX7_nextTime_56 : decode cX7_nextTime 56 = .ok (.getfield 26, 3) := by decide +kernel
theorem dX7_nextTime_59 : decode cX7_nextTime 59 = .ok (.getfield 248, 3) := by decide +kernel
theorem dX7_nextTime_62 : decode cX7_nextTime 62 = .ok (.if_icmp .ge 61, 3) := by decide +kernel
theorem dX7_nextTime_65 : decode cX7_nextTime 65 = .ok (.aload_n 0, 1) := by decide +kernel
theorem dX7_nextTime_66 : decode cX7_nextTime 66 = .ok (.getfield 26, 3) := by decide +kernel
theorem dX7_nextTime_69 : decode cX7_nextTime 69 = .ok (.iload_n 2, 1) := by decide +kernel
theorem dX7_nextTime_70 : decode cX7_nextTime 70 = .ok (.invokevirtual 281, 3) := by decide +kernel
theorem dX7_nextTime_73 : decode cX7_nextTime 73 = .ok (.ifCond .ne 44, 3) := by decide +kernel
theorem dX7_nextTime_76 : decode cX7_nextTime 76 = .ok (.aload_n 0, 1) := by decide +kernel
theorem dX7_nextTime_77 : decode cX7_nextTime 77 = .ok (.getfield 26, 3) := by decide +kernel
theorem dX7_nextTime_80 : decode cX7_nextTime 80 = .ok (.getfield 284, 3) := by decide +kernel
theorem dX7_nextTime_83 : decode cX7_nextTime 83 = .ok (.iload_n 2, 1) := by decide +kernel
theorem dX7_nextTime_84 : decode cX7_nextTime 84 = .ok (.invokevirtual 89, 3) := by decide +kernel
theorem dX7_nextTime_87 : decode cX7_nextTime 87 = .ok (.aload_n 0, 1) := by decide +kernel
theorem dX7_nextTime_88 : decode cX7_nextTime 88 = .ok (.getfield 9, 3) := by decide +kernel
theorem dX7_nextTime_91 : decode cX7_nextTime 91 = .ok (.getfield 60, 3) := by decide +kernel
theorem dX7_nextTime_94 : decode cX7_nextTime 94 = .ok (.iconst 5, 1) := by decide +kernel
theorem dX7_nextTime_95 : decode cX7_nextTime 95 = .ok (.invokevirtual 89, 3) := by decide +kernel
theorem dX7_nextTime_98 : decode cX7_nextTime 98 = .ok (.if_icmp .le 19, 3) := by decide +kernel
theorem dX7_nextTime_101 : decode cX7_nextTime 101 = .ok (.iload_n 1, 1) := by decide +kernel
theorem dX7_nextTime_102 : decode cX7_nextTime 102 = .ok (.aload_n 0, 1) := by decide +kernel
theorem dX7_nextTime_103 : decode cX7_nextTime 103 = .ok (.getfield 26, 3) := by decide +kernel
theorem dX7_nextTime_106 : decode cX7_nextTime 106 = .ok (.getfield 284, 3) := by decide +kernel
theorem dX7_nextTime_109 : decode cX7_nextTime 109 = .ok (.iload_n 2, 1) := by decide +kernel
theorem dX7_nextTime_110 : decode cX7_nextTime 110 = .ok (.invokevirtual 89, 3) := by decide +kernel
theorem dX7_nextTime_113 : decode cX7_nextTime 113 = .ok (.invokestatic 278, 3) := by decide +kernel
theorem dX7_nextTime_116 : decode cX7_nextTime 116 = .ok (.istore_n 1, 1) := by decide +kernel
theorem dX7_nextTime_117 : decode cX7_nextTime 117 = .ok (.iinc 2 1, 3) := by decide +kernel
theorem dX7_nextTime_120 : decode cX7_nextTime 120 = .ok (.goto (-66), 3) := by decide +kernel
theorem dX7_nextTime_123 : decode cX7_nextTime 123 = .ok (.iload_n 1, 1) := by decide +kernel
theorem dX7_nextTime_124 : decode cX7_nextTime 124 = .ok (.ireturn, 1) := by decide +kernel
theorem dX7_sooner_0 : decode cX7_sooner 0 = .ok (.iload_n 0, 1) := by decide +kernel
theorem dX7_sooner_1 : decode cX7_sooner 1 = .ok (.iconst (-1), 1) := by decide +kernel
theorem dX7_sooner_2 : decode cX7_sooner 2 = .ok (.if_icmp .ne 7, 3) := by decide +kernel
theorem dX7_sooner_5 : decode cX7_sooner 5 = .ok (.iload_n 1, 1) := by decide +kernel
theorem dX7_sooner_6 : decode cX7_sooner 6 = .ok (.goto 8, 3) := by decide +kernel
theorem dX7_sooner_9 : decode cX7_sooner 9 = .ok (.iload_n 0, 1) := by decide +kernel
theorem dX7_sooner_10 : decode cX7_sooner 10 = .ok (.iload_n 1, 1) := by decide +kernel
theorem dX7_sooner_11 : decode cX7_sooner 11 = .ok (.invokestatic 287, 3) := by decide +kernel
theorem dX7_sooner_14 : decode cX7_sooner 14 = .ok (.ireturn, 1) := by decide +kernel
theorem dX7_passTime_0 : decode cX7_passTime 0 = .ok (.aload_n 0, 1) := by decide +kernel
theorem dX7_passTime_1 : decode cX7_passTime 1 = .ok (.invokevirtual 50, 3) := by decide +kernel
theorem dX7_passTime_4 : decode cX7_passTime 4 = .ok (.istore_n 1, 1) := by decide +kernel
theorem dX7_passTime_5 : decode cX7_passTime 5 = .ok (.iload_n 1, 1) := by decide +kernel
theorem dX7_passTime_6 : decode cX7_passTime 6 = .ok (.iconst (-1), 1) := by decide +kernel
theorem dX7_passTime_7 : decode cX7_passTime 7 = .ok (.if_icmp .ne 5, 3) := by decide +kernel
theorem dX7_passTime_10 : decode cX7_passTime 10 = .ok (.iconst 0, 1) := by decide +kernel
theorem dX7_passTime_11 : decode cX7_passTime 11 = .ok (.ireturn, 1) := by decide +kernel
theorem dX7_passTime_12 : decode cX7_passTime 12 = .ok (.aload_n 0, 1) := by decide +kernel
theorem dX7_passTime_13 : decode cX7_passTime 13 = .ok (.getfield 9, 3) := by decide +kernel
theorem dX7_passTime_16 : decode cX7_passTime 16 = .ok (.getfield 60, 3) := by decide +kernel
theorem dX7_passTime_19 : decode cX7_passTime 19 = .ok (.bipush 6, 2) := by decide +kernel
theorem dX7_passTime_21 : decode cX7_passTime 21 = .ok (.iconst 1, 1) := by decide +kernel
theorem dX7_passTime_22 : decode cX7_passTime 22 = .ok (.invokevirtual 64, 3) := by decide +kernel
theorem dX7_passTime_25 : decode cX7_passTime 25 = .ok (.aload_n 0, 1) := by decide +kernel
theorem dX7_passTime_26 : decode cX7_passTime 26 = .ok (.getfield 9, 3) := by decide +kernel
theorem dX7_passTime_29 : decode cX7_passTime 29 = .ok (.getfield 60, 3) := by decide +kernel
theorem dX7_passTime_32 : decode cX7_passTime 32 = .ok (.bipush 7, 2) := by decide +kernel
theorem dX7_passTime_34 : decode cX7_passTime 34 = .ok (.iconst 1, 1) := by decide +kernel
theorem dX7_passTime_35 : decode cX7_passTime 35 = .ok (.invokevirtual 64, 3) := by decide +kernel
theorem dX7_passTime_38 : decode cX7_passTime 38 = .ok (.aload_n 0, 1) := by decide +kernel
theorem dX7_passTime_39 : decode cX7_passTime 39 = .ok (.getfield 9, 3) := by decide +kernel
theorem dX7_passTime_42 : decode cX7_passTime 42 = .ok (.getfield 60, 3) := by decide +kernel
theorem dX7_passTime_45 : decode cX7_passTime 45 = .ok (.iconst 5, 1) := by decide +kernel
theorem dX7_passTime_46 : decode cX7_passTime 46 = .ok (.iload_n 1, 1) := by decide +kernel
theorem dX7_passTime_47 : decode cX7_passTime 47 = .ok (.invokevirtual 131, 3) := by decide +kernel
theorem dX7_passTime_50 : decode cX7_passTime 50 = .ok (.aload_n 0, 1) := by decide +kernel
theorem dX7_passTime_51 : decode cX7_passTime 51 = .ok (.iload_n 1, 1) := by decide +kernel
theorem dX7_passTime_52 : decode cX7_passTime 52 = .ok (.invokevirtual 292, 3) := by decide +kernel
theorem dX7_passTime_55 : decode cX7_passTime 55 = .ok (.aload_n 0, 1) := by decide +kernel
theorem dX7_passTime_56 : decode cX7_passTime 56 = .ok (.iload_n 1, 1) := by decide +kernel
theorem dX7_passTime_57 : decode cX7_passTime 57 = .ok (.invokevirtual 295, 3) := by decide +kernel
theorem dX7_passTime_60 : decode cX7_passTime 60 = .ok (.iconst 1, 1) := by decide +kernel
theorem dX7_passTime_61 : decode cX7_passTime 61 = .ok (.ireturn, 1) := by decide +kernel
theorem dX7_wakeTasks_0 : decode cX7_wakeTasks 0 = .ok (.iconst 0, 1) := by decide +kernel
theorem dX7_wakeTasks_1 : decode cX7_wakeTasks 1 = .ok (.istore_n 2, 1) := by decide +kernel
theorem dX7_wakeTasks_2 : decode cX7_wakeTasks 2 = .ok (.iload_n 2, 1) := by decide +kernel
theorem dX7_wakeTasks_3 : decode cX7_wakeTasks 3 = .ok (.aload_n 0, 1) := by decide +kernel
theorem dX7_wakeTasks_4 : decode cX7_wakeTasks 4 = .ok (.getfield 21, 3) := by decide +kernel
theorem dX7_wakeTasks_7 : decode cX7_wakeTasks 7 = .ok (.getfield 274, 3) := by decide +kernel
theorem dX7_wakeTasks_10 : decode cX7_wakeTasks 10 = .ok (.if_icmp .ge 47, 3) := by decide +kernel
theorem dX7_wakeTasks_13 : decode cX7_wakeTasks 13 = .ok (.aload_n 0, 1) := by decide +kernel
theorem dX7_wakeTasks_14 : decode cX7_wakeTasks 14 = .ok (.getfield 21, 3) := by decide +kernel
theorem dX7_wakeTasks_17 : decode cX7_wakeTasks 17 = .ok (.getfield 114, 3) := by decide +kernel
theorem dX7_wakeTasks_20 : decode cX7_wakeTasks 20 = .ok (.iload_n 2, 1) := by decide +kernel
theorem dX7_wakeTasks_21 : decode cX7_wakeTasks 21 = .ok (.invokevirtual 89, 3) := by decide +kernel
theorem dX7_wakeTasks_24 : decode cX7_wakeTasks 24 = .ok (.iconst 1, 1) := by decide +kernel
theorem dX7_wakeTasks_25 : decode cX7_wakeTasks 25 = .ok (.if_icmp .ne 26, 3) := by decide +kernel
theorem dX7_wakeTasks_28 : decode cX7_wakeTasks 28 = .ok (.aload_n 0, 1) := by decide +kernel
theorem dX7_wakeTasks_29 : decode cX7_wakeTasks 29 = .ok (.getfield 21, 3) := by decide +kernel
theorem dX7_wakeTasks_32 : decode cX7_wakeTasks 32 = .ok (.getfield 275, 3) := by decide +kernel
theorem dX7_wakeTasks_35 : decode cX7_wakeTasks 35 = .ok (.iload_n 2, 1) := by decide +kernel
theorem dX7_wakeTasks_36 : decode cX7_wakeTasks 36 = .ok (.invokevirtual 89, 3) := by decide +kernel
theorem dX7_wakeTasks_39 : decode cX7_wakeTasks 39 = .ok (.iload_n 1, 1) := by decide +kernel
theorem dX7_wakeTasks_40 : decode cX7_wakeTasks 40 = .ok (.if_icmp .ne 11, 3) := by decide +kernel
theorem dX7_wakeTasks_43 : decode cX7_wakeTasks 43 = .ok (.aload_n 0, 1) := by decide +kernel
theorem dX7_wakeTasks_44 : decode cX7_wakeTasks 44 = .ok (.getfield 9, 3) := by decide +kernel
theorem dX7_wakeTasks_47 : decode cX7_wakeTasks 47 = .ok (.iload_n 2, 1) := by decide +kernel
theorem dX7_wakeTasks_48 : decode cX7_wakeTasks 48 = .ok (.invokevirtual 221, 3) := by decide +kernel
theorem dX7_wakeTasks_51 : decode cX7_wakeTasks 51 = .ok (.iinc 2 1, 3) := by decide +kernel
theorem dX7_wakeTasks_54 : decode cX7_wakeTasks 54 = .ok (.goto (-52), 3) := by decide +kernel
theorem dX7_wakeTasks_57 : decode cX7_wakeTasks 57 = .ok (.return_, 1) := by decide +kernel
theorem dX7_passDeadlines_0 : decode cX7_passDeadlines 0 = .ok (.iconst 0, 1) := by decide +kernel
theorem dX7_passDeadlines_1 : decode cX7_passDeadlines 1 = .ok (.istore_n 2, 1) := by decide +kernel
theorem dX7_passDeadlines_2 : decode cX7_passDeadlines 2 = .ok (.iload_n 2, 1) := by decide +kernel
theorem dX7_passDeadlines_3 : decode cX7_passDeadlines 3 = .ok (.aload_n 0, 1) := by decide +kernel
theorem dX7_passDeadlines_4 : decode cX7_passDeadlines 4 = .ok (.getfield 26, 3) := by decide +kernel
theorem dX7_passDeadlines_7 : decode cX7_passDeadlines 7 = .ok (.getfield 248, 3) := by decide +kernel
theorem dX7_passDeadlines_10 : decode cX7_passDeadlines 10 = .ok (.if_icmp .ge 96, 3) := by decide +kernel
theorem dX7_passDeadlines_13 : decode cX7_passDeadlines 13 = .ok (.aload_n 0, 1) := by decide +kernel
theorem dX7_passDeadlines_14 : decode cX7_passDeadlines 14 = .ok (.getfield 26, 3) := by decide +kernel
theorem dX7_passDeadlines_17 : decode cX7_passDeadlines 17 = .ok (.iload_n 2, 1) := by decide +kernel
theorem dX7_passDeadlines_18 : decode cX7_passDeadlines 18 = .ok (.invokevirtual 281, 3) := by decide +kernel
theorem dX7_passDeadlines_21 : decode cX7_passDeadlines 21 = .ok (.ifCond .ne 79, 3) := by decide +kernel
theorem dX7_passDeadlines_24 : decode cX7_passDeadlines 24 = .ok (.aload_n 0, 1) := by decide +kernel
theorem dX7_passDeadlines_25 : decode cX7_passDeadlines 25 = .ok (.getfield 26, 3) := by decide +kernel
theorem dX7_passDeadlines_28 : decode cX7_passDeadlines 28 = .ok (.getfield 284, 3) := by decide +kernel
theorem dX7_passDeadlines_31 : decode cX7_passDeadlines 31 = .ok (.iload_n 2, 1) := by decide +kernel
theorem dX7_passDeadlines_32 : decode cX7_passDeadlines 32 = .ok (.invokevirtual 89, 3) := by decide +kernel
theorem dX7_passDeadlines_35 : decode cX7_passDeadlines 35 = .ok (.iload_n 1, 1) := by decide +kernel
theorem dX7_passDeadlines_36 : decode cX7_passDeadlines 36 = .ok (.if_icmp .eq 6, 3) := by decide +kernel
theorem dX7_passDeadlines_39 : decode cX7_passDeadlines 39 = .ok (.goto 61, 3) := by decide +kernel
theorem dX7_passDeadlines_42 : decode cX7_passDeadlines 42 = .ok (.aload_n 0, 1) := by decide +kernel
theorem dX7_passDeadlines_43 : decode cX7_passDeadlines 43 = .ok (.getfield 9, 3) := by decide +kernel
theorem dX7_passDeadlines_46 : decode cX7_passDeadlines 46 = .ok (.getfield 60, 3) := by decide +kernel
theorem dX7_passDeadlines_49 : decode cX7_passDeadlines 49 = .ok (.bipush 11, 2) := by decide +kernel
theorem dX7_passDeadlines_51 : decode cX7_passDeadlines 51 = .ok (.iconst 1, 1) := by decide +kernel
theorem dX7_passDeadlines_52 : decode cX7_passDeadlines 52 = .ok (.invokevirtual 64, 3) := by decide +kernel
theorem dX7_passDeadlines_55 : decode cX7_passDeadlines 55 = .ok (.aload_n 0, 1) := by decide +kernel
theorem dX7_passDeadlines_56 : decode cX7_passDeadlines 56 = .ok (.getfield 26, 3) := by decide +kernel
theorem dX7_passDeadlines_59 : decode cX7_passDeadlines 59 = .ok (.getfield 175, 3) := by decide +kernel
theorem dX7_passDeadlines_62 : decode cX7_passDeadlines 62 = .ok (.iload_n 2, 1) := by decide +kernel
theorem dX7_passDeadlines_63 : decode cX7_passDeadlines 63 = .ok (.invokevirtual 89, 3) := by decide +kernel
theorem dX7_passDeadlines_66 : decode cX7_passDeadlines 66 = .ok (.ifCond .ne 34, 3) := by decide +kernel
theorem dX7_passDeadlines_69 : decode cX7_passDeadlines 69 = .ok (.aload_n 0, 1) := by decide +kernel
theorem dX7_passDeadlines_70 : decode cX7_passDeadlines 70 = .ok (.getfield 9, 3) := by decide +kernel
theorem dX7_passDeadlines_73 : decode cX7_passDeadlines 73 = .ok (.aload_n 0, 1) := by decide +kernel
theorem dX7_passDeadlines_74 : decode cX7_passDeadlines 74 = .ok (.getfield 26, 3) := by decide +kernel
theorem dX7_passDeadlines_77 : decode cX7_passDeadlines 77 = .ok (.getfield 215, 3) := by decide +kernel
theorem dX7_passDeadlines_80 : decode cX7_passDeadlines 80 = .ok (.iload_n 2, 1) := by decide +kernel
theorem dX7_passDeadlines_81 : decode cX7_passDeadlines 81 = .ok (.invokevirtual 89, 3) := by decide +kernel
theorem dX7_passDeadlines_84 : decode cX7_passDeadlines 84 = .ok (.iconst 2, 1) := by decide +kernel
theorem dX7_passDeadlines_85 : decode cX7_passDeadlines 85 = .ok (.aload_n 0, 1) := by decide +kernel
theorem dX7_passDeadlines_86 : decode cX7_passDeadlines 86 = .ok (.getfield 26, 3) := by decide +kernel
theorem dX7_passDeadlines_89 : decode cX7_passDeadlines 89 = .ok (.getfield 185, 3) := by decide +kernel
theorem dX7_passDeadlines_92 : decode cX7_passDeadlines 92 = .ok (.iload_n 2, 1) := by decide +kernel
theorem dX7_passDeadlines_93 : decode cX7_passDeadlines 93 = .ok (.invokevirtual 89, 3) := by decide +kernel
theorem dX7_passDeadlines_96 : decode cX7_passDeadlines 96 = .ok (.iconst (-1), 1) := by decide +kernel
theorem dX7_passDeadlines_97 : decode cX7_passDeadlines 97 = .ok (.invokevirtual 298, 3) := by decide +kernel
theorem dX7_passDeadlines_100 : decode cX7_passDeadlines 100 = .ok (.iinc 2 1, 3) := by decide +kernel
theorem dX7_passDeadlines_103 : decode cX7_passDeadlines 103 = .ok (.goto (-101), 3) := by decide +kernel
theorem dX7_passDeadlines_106 : decode cX7_passDeadlines 106 = .ok (.return_, 1) := by decide +kernel
theorem dX8_init_0 : decode cX8_init 0 = .ok (.aload_n 0, 1) := by decide +kernel
theorem dX8_init_1 : decode cX8_init 1 = .ok (.invokespecial 3, 3) := by decide +kernel
theorem dX8_init_4 : decode cX8_init 4 = .ok (.aload_n 0, 1) := by decide +kernel
theorem dX8_init_5 : decode cX8_init 5 = .ok (.new 9, 3) := by decide +kernel
theorem dX8_init_8 : decode cX8_init 8 = .ok (.dup, 1) := by decide +kernel
theorem dX8_init_9 : decode cX8_init 9 = .ok (.bipush 60, 2) := by decide +kernel
theorem dX8_init_11 : decode cX8_init 11 = .ok (.invokespecial 11, 3) := by decide +kernel
theorem dX8_init_14 : decode cX8_init 14 = .ok (.putfield 14, 3) := by decide +kernel
theorem dX8_init_17 : decode cX8_init 17 = .ok (.aload_n 0, 1) := by decide +kernel
theorem dX8_init_18 : decode cX8_init 18 = .ok (.new 9, 3) := by decide +kernel
theorem dX8_init_21 : decode cX8_init 21 = .ok (.dup, 1) := by decide +kernel
theorem dX8_init_22 : decode cX8_init 22 = .ok (.bipush 60, 2) := by decide +kernel
theorem dX8_init_24 : decode cX8_init 24 = .ok (.invokespecial 11, 3) := by decide +kernel
theorem dX8_init_27 : decode cX8_init 27 = .ok (.putfield 20, 3) := by decide +kernel
theorem dX8_init_30 : decode cX8_init 30 = .ok (.aload_n 0, 1) := by decide +kernel
theorem dX8_init_31 : decode cX8_init 31 = .ok (.new 9, 3) := by decide +kernel
theorem dX8_init_34 : decode cX8_init 34 = .ok (.dup, 1) := by decide +kernel
theorem dX8_init_35 : decode cX8_init 35 = .ok (.bipush 60, 2) := by decide +kernel
theorem dX8_init_37 : decode cX8_init 37 = .ok (.invokespecial 11, 3) := by decide +kernel
theorem dX8_init_40 : decode cX8_init 40 = .ok (.putfield 23, 3) := by decide +kernel
theorem dX8_init_43 : decode cX8_init 43 = .ok (.aload_n 0, 1) := by decide +kernel
theorem dX8_init_44 : decode cX8_init 44 = .ok (.new 9, 3) := by decide +kernel
theorem dX8_init_47 : decode cX8_init 47 = .ok (.dup, 1) := by decide +kernel
theorem dX8_init_48 : decode cX8_init 48 = .ok (.bipush 60, 2) := by decide +kernel
theorem dX8_init_50 : decode cX8_init 50 = .ok (.invokespecial 11, 3) := by decide +kernel
theorem dX8_init_53 : decode cX8_init 53 = .ok (.putfield 26, 3) := by decide +kernel
theorem dX8_init_56 : decode cX8_init 56 = .ok (.aload_n 0, 1) := by decide +kernel
theorem dX8_init_57 : decode cX8_init 57 = .ok (.new 9, 3) := by decide +kernel
theorem dX8_init_60 : decode cX8_init 60 = .ok (.dup, 1) := by decide +kernel
theorem dX8_init_61 : decode cX8_init 61 = .ok (.bipush 60, 2) := by decide +kernel
theorem dX8_init_63 : decode cX8_init 63 = .ok (.invokespecial 11, 3) := by decide +kernel
theorem dX8_init_66 : decode cX8_init 66 = .ok (.putfield 29, 3) := by decide +kernel
theorem dX8_init_69 : decode cX8_init 69 = .ok (.aload_n 0, 1) := by decide +kernel
theorem dX8_init_70 : decode cX8_init 70 = .ok (.new 9, 3) := by decide +kernel
theorem dX8_init_73 : decode cX8_init 73 = .ok (.dup, 1) := by decide +kernel
theorem dX8_init_74 : decode cX8_init 74 = .ok (.bipush 60, 2) := by decide +kernel
theorem dX8_init_76 : decode cX8_init 76 = .ok (.invokespecial 11, 3) := by decide +kernel
theorem dX8_init_79 : decode cX8_init 79 = .ok (.putfield 32, 3) := by decide +kernel
theorem dX8_init_82 : decode cX8_init 82 = .ok (.aload_n 0, 1) := by decide +kernel
theorem dX8_init_83 : decode cX8_init 83 = .ok (.new 9, 3) := by decide +kernel
theorem dX8_init_86 : decode cX8_init 86 = .ok (.dup, 1) := by decide +kernel
theorem dX8_init_87 : decode cX8_init 87 = .ok (.bipush 60, 2) := by decide +kernel
theorem dX8_init_89 : decode cX8_init 89 = .ok (.invokespecial 11, 3) := by decide +kernel
theorem dX8_init_92 : decode cX8_init 92 = .ok (.putfield 35, 3) := by decide +kernel
theorem dX8_init_95 : decode cX8_init 95 = .ok (.aload_n 0, 1) := by decide +kernel
theorem dX8_init_96 : decode cX8_init 96 = .ok (.new 9, 3) := by decide +kernel
theorem dX8_init_99 : decode cX8_init 99 = .ok (.dup, 1) := by decide +kernel
theorem dX8_init_100 : decode cX8_init 100 = .ok (.bipush 60, 2) := by decide +kernel
theorem dX8_init_102 : decode cX8_init 102 = .ok (.invokespecial 11, 3) := by decide +kernel
theorem dX8_init_105 : decode cX8_init 105 = .ok (.putfield 38, 3) := by decide +kernel
theorem dX8_init_108 : decode cX8_init 108 = .ok (.aload_n 0, 1) := by decide +kernel
theorem dX8_init_109 : decode cX8_init 109 = .ok (.new 9, 3) := by decide +kernel
theorem dX8_init_112 : decode cX8_init 112 = .ok (.dup, 1) := by decide +kernel
theorem dX8_init_113 : decode cX8_init 113 = .ok (.bipush 60, 2) := by decide +kernel
theorem dX8_init_115 : decode cX8_init 115 = .ok (.invokespecial 11, 3) := by decide +kernel
theorem dX8_init_118 : decode cX8_init 118 = .ok (.putfield 41, 3) := by decide +kernel
theorem dX8_init_121 : decode cX8_init 121 = .ok (.aload_n 0, 1) := by decide +kernel
theorem dX8_init_122 : decode cX8_init 122 = .ok (.new 44, 3) := by decide +kernel
theorem dX8_init_125 : decode cX8_init 125 = .ok (.dup, 1) := by decide +kernel
theorem dX8_init_126 : decode cX8_init 126 = .ok (.bipush 60, 2) := by decide +kernel
theorem dX8_init_128 : decode cX8_init 128 = .ok (.invokespecial 46, 3) := by decide +kernel
theorem dX8_init_131 : decode cX8_init 131 = .ok (.putfield 47, 3) := by decide +kernel
theorem dX8_init_134 : decode cX8_init 134 = .ok (.return_, 1) := by decide +kernel
theorem dX8_has_0 : decode cX8_has 0 = .ok (.iload_n 1, 1) := by decide +kernel
theorem dX8_has_1 : decode cX8_has 1 = .ok (.ifCond .lt 15, 3) := by decide +kernel
theorem dX8_has_4 : decode cX8_has 4 = .ok (.iload_n 1, 1) := by decide +kernel
theorem dX8_has_5 : decode cX8_has 5 = .ok (.aload_n 0, 1) := by decide +kernel
theorem dX8_has_6 : decode cX8_has 6 = .ok (.getfield 51, 3) := by decide +kernel
theorem dX8_has_9 : decode cX8_has 9 = .ok (.if_icmp .ge 7, 3) := by decide +kernel
theorem dX8_has_12 : decode cX8_has 12 = .ok (.iconst 1, 1) := by decide +kernel
theorem dX8_has_13 : decode cX8_has 13 = .ok (.goto 4, 3) := by decide +kernel
theorem dX8_has_16 : decode cX8_has 16 = .ok (.iconst 0, 1) := by decide +kernel
theorem dX8_has_17 : decode cX8_has 17 = .ok (.ireturn, 1) := by decide +kernel
theorem dX8_add_0 : decode cX8_add 0 = .ok (.aload_n 0, 1) := by decide +kernel
theorem dX8_add_1 : decode cX8_add 1 = .ok (.getfield 51, 3) := by decide +kernel
theorem dX8_add_4 : decode cX8_add 4 = .ok (.istore 6, 2) := by decide +kernel
theorem dX8_add_6 : decode cX8_add 6 = .ok (.aload_n 0, 1) := by decide +kernel
theorem dX8_add_7 : decode cX8_add 7 = .ok (.dup, 1) := by decide +kernel
theorem dX8_add_8 : decode cX8_add 8 = .ok (.getfield 51, 3) := by decide +kernel
theorem dX8_add_11 : decode cX8_add 11 = .ok (.iconst 1, 1) := by decide +kernel
theorem dX8_add_12 : decode cX8_add 12 = .ok (.iadd, 1) := by decide +kernel
theorem dX8_add_13 : decode cX8_add 13 = .ok (.putfield 51, 3) := by decide +kernel
theorem dX8_add_16 : decode cX8_add 16 = .ok (.aload_n 0, 1) := by decide +kernel
theorem dX8_add_17 : decode cX8_add 17 = .ok (.getfield 14, 3) := by decide +kernel
theorem dX8_add_20 : decode cX8_add 20 = .ok (.iload 6, 2) := by decide +kernel
theorem dX8_add_22 : decode cX8_add 22 = .ok (.iload_n 1, 1) := by decide +kernel
theorem dX8_add_23 : decode cX8_add 23 = .ok (.invokevirtual 55, 3) := by decide +kernel
theorem dX8_add_26 : decode cX8_add 26 = .ok (.aload_n 0, 1) := by decide +kernel
theorem dX8_add_27 : decode cX8_add 27 = .ok (.getfield 20, 3) := by decide +kernel
theorem dX8_add_30 : decode cX8_add 30 = .ok (.iload 6, 2) := by decide +kernel
theorem dX8_add_32 : decode cX8_add 32 = .ok (.iload_n 2, 1) := by decide +kernel
theorem dX8_add_33 : decode cX8_add 33 = .ok (.invokevirtual 55, 3) := by decide +kernel
theorem dX8_add_36 : decode cX8_add 36 = .ok (.aload_n 0, 1) := by decide +kernel
theorem dX8_add_37 : decode cX8_add 37 = .ok (.getfield 23, 3) := by decide +kernel
theorem dX8_add_40 : decode cX8_add 40 = .ok (.iload 6, 2) := by decide +kernel
theorem dX8_add_42 : decode cX8_add 42 = .ok (.iload_n 3, 1) := by decide +kernel
theorem dX8_add_43 : decode cX8_add 43 = .ok (.invokevirtual 55, 3) := by decide +kernel
theorem dX8_add_46 : decode cX8_add 46 = .ok (.aload_n 0, 1) := by decide +kernel
theorem dX8_add_47 : decode cX8_add 47 = .ok (.getfield 26, 3) := by decide +kernel
theorem dX8_add_50 : decode cX8_add 50 = .ok (.iload 6, 2) := by decide +kernel
theorem dX8_add_52 : decode cX8_add 52 = .ok (.iconst 0, 1) := by decide +kernel
theorem dX8_add_53 : decode cX8_add 53 = .ok (.invokevirtual 55, 3) := by decide +kernel
theorem dX8_add_56 : decode cX8_add 56 = .ok (.aload_n 0, 1) := by decide +kernel
theorem dX8_add_57 : decode cX8_add 57 = .ok (.getfield 29, 3) := by decide +kernel
theorem dX8_add_60 : decode cX8_add 60 = .ok (.iload 6, 2) := by decide +kernel
theorem dX8_add_62 : decode cX8_add 62 = .ok (.iconst 0, 1) := by decide +kernel
theorem dX8_add_63 : decode cX8_add 63 = .ok (.invokevirtual 55, 3) := by decide +kernel
theorem dX8_add_66 : decode cX8_add 66 = .ok (.aload_n 0, 1) := by decide +kernel
theorem dX8_add_67 : decode cX8_add 67 = .ok (.getfield 32, 3) := by decide +kernel
theorem dX8_add_70 : decode cX8_add 70 = .ok (.iload 6, 2) := by decide +kernel
theorem dX8_add_72 : decode cX8_add 72 = .ok (.iconst 0, 1) := by decide +kernel
theorem dX8_add_73 : decode cX8_add 73 = .ok (.invokevirtual 55, 3) := by decide +kernel
theorem dX8_add_76 : decode cX8_add 76 = .ok (.aload_n 0, 1) := by decide +kernel
theorem dX8_add_77 : decode cX8_add 77 = .ok (.getfield 35, 3) := by decide +kernel
theorem dX8_add_80 : decode cX8_add 80 = .ok (.iload 6, 2) := by decide +kernel
theorem dX8_add_82 : decode cX8_add 82 = .ok (.iload 4, 2) := by decide +kernel
theorem dX8_add_84 : decode cX8_add 84 = .ok (.invokevirtual 55, 3) := by decide +kernel
theorem dX8_add_87 : decode cX8_add 87 = .ok (.aload_n 0, 1) := by decide +kernel
theorem dX8_add_88 : decode cX8_add 88 = .ok (.getfield 38, 3) := by decide +kernel
theorem dX8_add_91 : decode cX8_add 91 = .ok (.iload 6, 2) := by decide +kernel
theorem dX8_add_93 : decode cX8_add 93 = .ok (.iconst 0, 1) := by decide +kernel
theorem dX8_add_94 : decode cX8_add 94 = .ok (.invokevirtual 55, 3) := by decide +kernel
theorem dX8_add_97 : decode cX8_add 97 = .ok (.aload_n 0, 1) := by decide +kernel
theorem dX8_add_98 : decode cX8_add 98 = .ok (.getfield 41, 3) := by decide +kernel
theorem dX8_add_101 : decode cX8_add 101 = .ok (.iload 6, 2) := by decide +kernel
theorem dX8_add_103 : decode cX8_add 103 = .ok (.iload 5, 2) := by decide +kernel
theorem dX8_add_105 : decode cX8_add 105 = .ok (.invokevirtual 55, 3) := by decide +kernel
theorem dX8_add_108 : decode cX8_add 108 = .ok (.iload 6, 2) := by decide +kernel
theorem dX8_add_110 : decode cX8_add 110 = .ok (.ireturn, 1) := by decide +kernel
theorem dX8_addChild_0 : decode cX8_addChild 0 = .ok (.aload_n 0, 1) := by decide +kernel
theorem dX8_addChild_1 : decode cX8_addChild 1 = .ok (.getfield 29, 3) := by decide +kernel
theorem dX8_addChild_4 : decode cX8_addChild 4 = .ok (.iload_n 1, 1) := by decide +kernel
theorem dX8_addChild_5 : decode cX8_addChild 5 = .ok (.iconst 1, 1) := by decide +kernel
theorem dX8_addChild_6 : decode cX8_addChild 6 = .ok (.invokevirtual 59, 3) := by decide +kernel
theorem dX8_addChild_9 : decode cX8_addChild 9 = .ok (.aload_n 0, 1) := by decide +kernel
theorem dX8_addChild_10 : decode cX8_addChild 10 = .ok (.getfield 32, 3) := by decide +kernel
theorem dX8_addChild_13 : decode cX8_addChild 13 = .ok (.iload_n 1, 1) := by decide +kernel
theorem dX8_addChild_14 : decode cX8_addChild 14 = .ok (.iconst 1, 1) := by decide +kernel
theorem dX8_addChild_15 : decode cX8_addChild 15 = .ok (.invokevirtual 59, 3) := by decide +kernel
theorem dX8_addChild_18 : decode cX8_addChild 18 = .ok (.return_, 1) := by decide +kernel
theorem dX8_hasEnded_0 : decode cX8_hasEnded 0 = .ok (.aload_n 0, 1) := by decide +kernel
theorem dX8_hasEnded_1 : decode cX8_hasEnded 1 = .ok (.getfield 26, 3) := by decide +kernel
theorem dX8_hasEnded_4 : decode cX8_hasEnded 4 = .ok (.iload_n 1, 1) := by decide +kernel
theorem dX8_hasEnded_5 : decode cX8_hasEnded 5 = .ok (.invokevirtual 62, 3) := by decide +kernel
theorem dX8_hasEnded_8 : decode cX8_hasEnded 8 = .ok (.iconst 2, 1) := by decide +kernel
theorem dX8_hasEnded_9 : decode cX8_hasEnded 9 = .ok (.if_icmp .ne 7, 3) := by decide +kernel
theorem dX8_hasEnded_12 : decode cX8_hasEnded 12 = .ok (.iconst 1, 1) := by decide +kernel
theorem dX8_hasEnded_13 : decode cX8_hasEnded 13 = .ok (.goto 4, 3) := by decide +kernel
theorem dX8_hasEnded_16 : decode cX8_hasEnded 16 = .ok (.iconst 0, 1) := by decide +kernel
theorem dX8_hasEnded_17 : decode cX8_hasEnded 17 = .ok (.ireturn, 1) := by decide +kernel
theorem dX8_countNotEnded_0 : decode cX8_countNotEnded 0 = .ok (.iconst 0, 1) := by decide +kernel
theorem dX8_countNotEnded_1 : decode cX8_countNotEnded 1 = .ok (.istore_n 1, 1) := by decide +kernel
theorem dX8_countNotEnded_2 : decode cX8_countNotEnded 2 = .ok (.iconst 0, 1) := by decide +kernel
theorem dX8_countNotEnded_3 : decode cX8_countNotEnded 3 = .ok (.istore_n 2, 1) := by decide +kernel
theorem dX8_countNotEnded_4 : decode cX8_countNotEnded 4 = .ok (.iload_n 2, 1) := by decide +kernel
theorem dX8_countNotEnded_5 : decode cX8_countNotEnded 5 = .ok (.aload_n 0, 1) := by decide +kernel
theorem dX8_countNotEnded_6 : decode cX8_countNotEnded 6 = .ok (.getfield 51, 3) := by decide +kernel
theorem dX8_countNotEnded_9 : decode cX8_countNotEnded 9 = .ok (.if_icmp .ge 20, 3) := by decide +kernel
theorem dX8_countNotEnded_12 : decode cX8_countNotEnded 12 = .ok (.aload_n 0, 1) := by decide +kernel
theorem dX8_countNotEnded_13 : decode cX8_countNotEnded 13 = .ok (.iload_n 2, 1) := by decide +kernel
theorem dX8_countNotEnded_14 : decode cX8_countNotEnded 14 = .ok (.invokevirtual 66, 3) := by decide +kernel
theorem dX8_countNotEnded_17 : decode cX8_countNotEnded 17 = .ok (.ifCond .ne 6, 3) := by decide +kernel
theorem dX8_countNotEnded_20 : decode cX8_countNotEnded 20 = .ok (.iinc 1 1, 3) := by decide +kernel
theorem dX8_countNotEnded_23 : decode cX8_countNotEnded 23 = .ok (.iinc 2 1, 3) := by decide +kernel
theorem dX8_countNotEnded_26 : decode cX8_countNotEnded 26 = .ok (.goto (-22), 3) := by decide +kernel
theorem dX8_countNotEnded_29 : decode cX8_countNotEnded 29 = .ok (.iload_n 1, 1) := by decide +kernel
theorem dX8_countNotEnded_30 : decode cX8_countNotEnded 30 = .ok (.ireturn, 1) := by decide +kernel
theorem dX8_property_0 : decode cX8_property 0 = .ok (.iload_n 2, 1) := by decide +kernel
theorem dX8_property_1 : decode cX8_property 1 = .ok (.tableswitch 106 0 6 #[43, 52, 61, 70, 79, 88, 97], 43) := by decide +kernel
theorem dX8_property_44 : decode cX8_property 44 = .ok (.aload_n 0, 1) := by decide +kernel
theorem dX8_property_45 : decode cX8_property 45 = .ok (.getfield 14, 3) := by decide +kernel
theorem dX8_property_48 : decode cX8_property 48 = .ok (.iload_n 1, 1) := by decide +kernel
theorem dX8_property_49 : decode cX8_property 49 = .ok (.invokevirtual 62, 3) := by decide +kernel
theorem dX8_property_52 : decode cX8_property 52 = .ok (.ireturn, 1) := by decide +kernel
theorem dX8_property_53 : decode cX8_property 53 = .ok (.aload_n 0, 1) := by decide +kernel
theorem dX8_property_54 : decode cX8_property 54 = .ok (.getfield 20, 3) := by decide +kernel
theorem dX8_property_57 : decode cX8_property 57 = .ok (.iload_n 1, 1) := by decide +kernel
theorem dX8_property_58 : decode cX8_property 58 = .ok (.invokevirtual 62, 3) := by decide +kernel
theorem dX8_property_61 : decode cX8_property 61 = .ok (.ireturn, 1) := by decide +kernel
theorem dX8_property_62 : decode cX8_property 62 = .ok (.aload_n 0, 1) := by decide +kernel
theorem dX8_property_63 : decode cX8_property 63 = .ok (.getfield 23, 3) := by decide +kernel
theorem dX8_property_66 : decode cX8_property 66 = .ok (.iload_n 1, 1) := by decide +kernel
theorem dX8_property_67 : decode cX8_property 67 = .ok (.invokevirtual 62, 3) := by decide +kernel
theorem dX8_property_70 : decode cX8_property 70 = .ok (.ireturn, 1) := by decide +kernel
theorem dX8_property_71 : decode cX8_property 71 = .ok (.aload_n 0, 1) := by decide +kernel
theorem dX8_property_72 : decode cX8_property 72 = .ok (.getfield 26, 3) := by decide +kernel
theorem dX8_property_75 : decode cX8_property 75 = .ok (.iload_n 1, 1) := by decide +kernel
theorem dX8_property_76 : decode cX8_property 76 = .ok (.invokevirtual 62, 3) := by decide +kernel
theorem dX8_property_79 : decode cX8_property 79 = .ok (.ireturn, 1) := by decide +kernel
theorem dX8_property_80 : decode cX8_property 80 = .ok (.aload_n 0, 1) := by decide +kernel
theorem dX8_property_81 : decode cX8_property 81 = .ok (.getfield 29, 3) := by decide +kernel
theorem dX8_property_84 : decode cX8_property 84 = .ok (.iload_n 1, 1) := by decide +kernel
theorem dX8_property_85 : decode cX8_property 85 = .ok (.invokevirtual 62, 3) := by decide +kernel
theorem dX8_property_88 : decode cX8_property 88 = .ok (.ireturn, 1) := by decide +kernel
theorem dX8_property_89 : decode cX8_property 89 = .ok (.aload_n 0, 1) := by decide +kernel
theorem dX8_property_90 : decode cX8_property 90 = .ok (.getfield 32, 3) := by decide +kernel
theorem dX8_property_93 : decode cX8_property 93 = .ok (.iload_n 1, 1) := by decide +kernel
theorem dX8_property_94 : decode cX8_property 94 = .ok (.invokevirtual 62, 3) := by decide +kernel
theorem dX8_property_97 : decode cX8_property 97 = .ok (.ireturn, 1) := by decide +kernel
theorem dX8_property_98 : decode cX8_property 98 = .ok (.aload_n 0, 1) := by decide +kernel
theorem dX8_property_99 : decode cX8_property 99 = .ok (.getfield 35, 3) := by decide +kernel
theorem dX8_property_102 : decode cX8_property 102 = .ok (.iload_n 1, 1) := by decide +kernel
theorem dX8_property_103 : decode cX8_property 103 = .ok (.invokevirtual 62, 3) := by decide +kernel
theorem dX8_property_106 : decode cX8_property 106 = .ok (.ireturn, 1) := by decide +kernel
theorem dX8_property_107 : decode cX8_property 107 = .ok (.aload_n 0, 1) := by decide +kernel
theorem dX8_property_108 : decode cX8_property 108 = .ok (.getfield 38, 3) := by decide +kernel
theorem dX8_property_111 : decode cX8_property 111 = .ok (.iload_n 1, 1) := by decide +kernel
theorem dX8_property_112 : decode cX8_property 112 = .ok (.invokevirtual 62, 3) := by decide +kernel
theorem dX8_property_115 : decode cX8_property 115 = .ok (.ireturn, 1) := by decide +kernel
theorem dX8_copy_0 : decode cX8_copy 0 = .ok (.aload_n 0, 1) := by decide +kernel
theorem dX8_copy_1 : decode cX8_copy 1 = .ok (.aload_n 1, 1) := by decide +kernel
theorem dX8_copy_2 : decode cX8_copy 2 = .ok (.getfield 51, 3) := by decide +kernel
theorem dX8_copy_5 : decode cX8_copy 5 = .ok (.putfield 51, 3) := by decide +kernel
theorem dX8_copy_8 : decode cX8_copy 8 = .ok (.aload_n 0, 1) := by decide +kernel
theorem dX8_copy_9 : decode cX8_copy 9 = .ok (.getfield 14, 3) := by decide +kernel
theorem dX8_copy_12 : decode cX8_copy 12 = .ok (.aload_n 1, 1) := by decide +kernel
theorem dX8_copy_13 : decode cX8_copy 13 = .ok (.getfield 14, 3) := by decide +kernel
theorem dX8_copy_16 : decode cX8_copy 16 = .ok (.invokevirtual 70, 3) := by decide +kernel
theorem dX8_copy_19 : decode cX8_copy 19 = .ok (.aload_n 0, 1) := by decide +kernel
theorem dX8_copy_20 : decode cX8_copy 20 = .ok (.getfield 20, 3) := by decide +kernel
theorem dX8_copy_23 : decode cX8_copy 23 = .ok (.aload_n 1, 1) := by decide +kernel
theorem dX8_copy_24 : decode cX8_copy 24 = .ok (.getfield 20, 3) := by decide +kernel
theorem dX8_copy_27 : decode cX8_copy 27 = .ok (.invokevirtual 70, 3) := by decide +kernel
theorem dX8_copy_30 : decode cX8_copy 30 = .ok (.aload_n 0, 1) := by decide +kernel
theorem dX8_copy_31 : decode cX8_copy 31 = .ok (.getfield 23, 3) := by decide +kernel
theorem dX8_copy_34 : decode cX8_copy 34 = .ok (.aload_n 1, 1) := by decide +kernel
theorem dX8_copy_35 : decode cX8_copy 35 = .ok (.getfield 23, 3) := by decide +kernel
theorem dX8_copy_38 : decode cX8_copy 38 = .ok (.invokevirtual 70, 3) := by decide +kernel
theorem dX8_copy_41 : decode cX8_copy 41 = .ok (.aload_n 0, 1) := by decide +kernel
theorem dX8_copy_42 : decode cX8_copy 42 = .ok (.getfield 26, 3) := by decide +kernel
theorem dX8_copy_45 : decode cX8_copy 45 = .ok (.aload_n 1, 1) := by decide +kernel
theorem dX8_copy_46 : decode cX8_copy 46 = .ok (.getfield 26, 3) := by decide +kernel
theorem dX8_copy_49 : decode cX8_copy 49 = .ok (.invokevirtual 70, 3) := by decide +kernel
theorem dX8_copy_52 : decode cX8_copy 52 = .ok (.aload_n 0, 1) := by decide +kernel
theorem dX8_copy_53 : decode cX8_copy 53 = .ok (.getfield 29, 3) := by decide +kernel
theorem dX8_copy_56 : decode cX8_copy 56 = .ok (.aload_n 1, 1) := by decide +kernel
theorem dX8_copy_57 : decode cX8_copy 57 = .ok (.getfield 29, 3) := by decide +kernel
theorem dX8_copy_60 : decode cX8_copy 60 = .ok (.invokevirtual 70, 3) := by decide +kernel
theorem dX8_copy_63 : decode cX8_copy 63 = .ok (.aload_n 0, 1) := by decide +kernel
theorem dX8_copy_64 : decode cX8_copy 64 = .ok (.getfield 32, 3) := by decide +kernel
theorem dX8_copy_67 : decode cX8_copy 67 = .ok (.aload_n 1, 1) := by decide +kernel
theorem dX8_copy_68 : decode cX8_copy 68 = .ok (.getfield 32, 3) := by decide +kernel
theorem dX8_copy_71 : decode cX8_copy 71 = .ok (.invokevirtual 70, 3) := by decide +kernel
theorem dX8_copy_74 : decode cX8_copy 74 = .ok (.aload_n 0, 1) := by decide +kernel
theorem dX8_copy_75 : decode cX8_copy 75 = .ok (.getfield 35, 3) := by decide +kernel
theorem dX8_copy_78 : decode cX8_copy 78 = .ok (.aload_n 1, 1) := by decide +kernel
theorem dX8_copy_79 : decode cX8_copy 79 = .ok (.getfield 35, 3) := by decide +kernel
theorem dX8_copy_82 : decode cX8_copy 82 = .ok (.invokevirtual 70, 3) := by decide +kernel
theorem dX8_copy_85 : decode cX8_copy 85 = .ok (.aload_n 0, 1) := by decide +kernel
theorem dX8_copy_86 : decode cX8_copy 86 = .ok (.getfield 38, 3) := by decide +kernel
theorem dX8_copy_89 : decode cX8_copy 89 = .ok (.aload_n 1, 1) := by decide +kernel
theorem dX8_copy_90 : decode cX8_copy 90 = .ok (.getfield 38, 3) := by decide +kernel
theorem dX8_copy_93 : decode cX8_copy 93 = .ok (.invokevirtual 70, 3) := by decide +kernel
theorem dX8_copy_96 : decode cX8_copy 96 = .ok (.aload_n 0, 1) := by decide +kernel
theorem dX8_copy_97 : decode cX8_copy 97 = .ok (.getfield 41, 3) := by decide +kernel
theorem dX8_copy_100 : decode cX8_copy 100 = .ok (.aload_n 1, 1) := by decide +kernel
theorem dX8_copy_101 : decode cX8_copy 101 = .ok (.getfield 41, 3) := by decide +kernel
theorem dX8_copy_104 : decode cX8_copy 104 = .ok (.invokevirtual 70, 3) := by decide +kernel
theorem dX8_copy_107 : decode cX8_copy 107 = .ok (.aload_n 0, 1) := by decide +kernel
theorem dX8_copy_108 : decode cX8_copy 108 = .ok (.getfield 47, 3) := by decide +kernel
theorem dX8_copy_111 : decode cX8_copy 111 = .ok (.aload_n 1, 1) := by decide +kernel
theorem dX8_copy_112 : decode cX8_copy 112 = .ok (.getfield 47, 3) := by decide +kernel
theorem dX8_copy_115 : decode cX8_copy 115 = .ok (.invokevirtual 74, 3) := by decide +kernel
theorem dX8_copy_118 : decode cX8_copy 118 = .ok (.return_, 1) := by decide +kernel
theorem dX9_init_0 : decode cX9_init 0 = .ok (.aload_n 0, 1) := by decide +kernel
theorem dX9_init_1 : decode cX9_init 1 = .ok (.invokespecial 3, 3) := by decide +kernel
theorem dX9_init_4 : decode cX9_init 4 = .ok (.aload_n 0, 1) := by decide +kernel
theorem dX9_init_5 : decode cX9_init 5 = .ok (.new 9, 3) := by decide +kernel
theorem dX9_init_8 : decode cX9_init 8 = .ok (.dup, 1) := by decide +kernel
theorem dX9_init_9 : decode cX9_init 9 = .ok (.bipush 24, 2) := by decide +kernel
theorem dX9_init_11 : decode cX9_init 11 = .ok (.invokespecial 11, 3) := by decide +kernel
theorem dX9_init_14 : decode cX9_init 14 = .ok (.putfield 14, 3) := by decide +kernel
theorem dX9_init_17 : decode cX9_init 17 = .ok (.aload_n 0, 1) := by decide +kernel
theorem dX9_init_18 : decode cX9_init 18 = .ok (.new 9, 3) := by decide +kernel
theorem dX9_init_21 : decode cX9_init 21 = .ok (.dup, 1) := by decide +kernel
theorem dX9_init_22 : decode cX9_init 22 = .ok (.bipush 24, 2) := by decide +kernel
theorem dX9_init_24 : decode cX9_init 24 = .ok (.invokespecial 11, 3) := by decide +kernel
theorem dX9_init_27 : decode cX9_init 27 = .ok (.putfield 20, 3) := by decide +kernel
theorem dX9_init_30 : decode cX9_init 30 = .ok (.aload_n 0, 1) := by decide +kernel
theorem dX9_init_31 : decode cX9_init 31 = .ok (.new 9, 3) := by decide +kernel
theorem dX9_init_34 : decode cX9_init 34 = .ok (.dup, 1) := by decide +kernel
theorem dX9_init_35 : decode cX9_init 35 = .ok (.bipush 24, 2) := by decide +kernel
theorem dX9_init_37 : decode cX9_init 37 = .ok (.invokespecial 11, 3) := by decide +kernel
theorem dX9_init_40 : decode cX9_init 40 = .ok (.putfield 23, 3) := by decide +kernel
theorem dX9_init_43 : decode cX9_init 43 = .ok (.aload_n 0, 1) := by decide +kernel
theorem dX9_init_44 : decode cX9_init 44 = .ok (.new 9, 3) := by decide +kernel
theorem dX9_init_47 : decode cX9_init 47 = .ok (.dup, 1) := by decide +kernel
theorem dX9_init_48 : decode cX9_init 48 = .ok (.bipush 24, 2) := by decide +kernel
theorem dX9_init_50 : decode cX9_init 50 = .ok (.invokespecial 11, 3) := by decide +kernel
theorem dX9_init_53 : decode cX9_init 53 = .ok (.putfield 26, 3) := by decide +kernel
theorem dX9_init_56 : decode cX9_init 56 = .ok (.aload_n 0, 1) := by decide +kernel
theorem dX9_init_57 : decode cX9_init 57 = .ok (.new 9, 3) := by decide +kernel
theorem dX9_init_60 : decode cX9_init 60 = .ok (.dup, 1) := by decide +kernel
theorem dX9_init_61 : decode cX9_init 61 = .ok (.bipush 24, 2) := by decide +kernel
theorem dX9_init_63 : decode cX9_init 63 = .ok (.invokespecial 11, 3) := by decide +kernel
theorem dX9_init_66 : decode cX9_init 66 = .ok (.putfield 29, 3) := by decide +kernel
theorem dX9_init_69 : decode cX9_init 69 = .ok (.aload_n 0, 1) := by decide +kernel
theorem dX9_init_70 : decode cX9_init 70 = .ok (.new 9, 3) := by decide +kernel
theorem dX9_init_73 : decode cX9_init 73 = .ok (.dup, 1) := by decide +kernel
theorem dX9_init_74 : decode cX9_init 74 = .ok (.bipush 24, 2) := by decide +kernel
theorem dX9_init_76 : decode cX9_init 76 = .ok (.invokespecial 11, 3) := by decide +kernel
theorem dX9_init_79 : decode cX9_init 79 = .ok (.putfield 32, 3) := by decide +kernel
theorem dX9_init_82 : decode cX9_init 82 = .ok (.aload_n 0, 1) := by decide +kernel
theorem dX9_init_83 : decode cX9_init 83 = .ok (.new 9, 3) := by decide +kernel
theorem dX9_init_86 : decode cX9_init 86 = .ok (.dup, 1) := by decide +kernel
theorem dX9_init_87 : decode cX9_init 87 = .ok (.bipush 24, 2) := by decide +kernel
theorem dX9_init_89 : decode cX9_init 89 = .ok (.invokespecial 11, 3) := by decide +kernel
theorem dX9_init_92 : decode cX9_init 92 = .ok (.putfield 35, 3) := by decide +kernel
theorem dX9_init_95 : decode cX9_init 95 = .ok (.aload_n 0, 1) := by decide +kernel
theorem dX9_init_96 : decode cX9_init 96 = .ok (.new 9, 3) := by decide +kernel
theorem dX9_init_99 : decode cX9_init 99 = .ok (.dup, 1) := by decide +kernel
theorem dX9_init_100 : decode cX9_init 100 = .ok (.bipush 24, 2) := by decide +kernel
theorem dX9_init_102 : decode cX9_init 102 = .ok (.invokespecial 11, 3) := by decide +kernel
theorem dX9_init_105 : decode cX9_init 105 = .ok (.putfield 38, 3) := by decide +kernel
theorem dX9_init_108 : decode cX9_init 108 = .ok (.aload_n 0, 1) := by decide +kernel
theorem dX9_init_109 : decode cX9_init 109 = .ok (.new 9, 3) := by decide +kernel
theorem dX9_init_112 : decode cX9_init 112 = .ok (.dup, 1) := by decide +kernel
theorem dX9_init_113 : decode cX9_init 113 = .ok (.bipush 24, 2) := by decide +kernel
theorem dX9_init_115 : decode cX9_init 115 = .ok (.invokespecial 11, 3) := by decide +kernel
theorem dX9_init_118 : decode cX9_init 118 = .ok (.putfield 41, 3) := by decide +kernel
theorem dX9_init_121 : decode cX9_init 121 = .ok (.aload_n 0, 1) := by decide +kernel
theorem dX9_init_122 : decode cX9_init 122 = .ok (.new 9, 3) := by decide +kernel
theorem dX9_init_125 : decode cX9_init 125 = .ok (.dup, 1) := by decide +kernel
theorem dX9_init_126 : decode cX9_init 126 = .ok (.bipush 24, 2) := by decide +kernel
theorem dX9_init_128 : decode cX9_init 128 = .ok (.invokespecial 11, 3) := by decide +kernel
theorem dX9_init_131 : decode cX9_init 131 = .ok (.putfield 44, 3) := by decide +kernel
theorem dX9_init_134 : decode cX9_init 134 = .ok (.aload_n 0, 1) := by decide +kernel
theorem dX9_init_135 : decode cX9_init 135 = .ok (.new 9, 3) := by decide +kernel
theorem dX9_init_138 : decode cX9_init 138 = .ok (.dup, 1) := by decide +kernel
theorem dX9_init_139 : decode cX9_init 139 = .ok (.bipush 24, 2) := by decide +kernel
theorem dX9_init_141 : decode cX9_init 141 = .ok (.invokespecial 11, 3) := by decide +kernel
theorem dX9_init_144 : decode cX9_init 144 = .ok (.putfield 47, 3) := by decide +kernel
theorem dX9_init_147 : decode cX9_init 147 = .ok (.aload_n 0, 1) := by decide +kernel
theorem dX9_init_148 : decode cX9_init 148 = .ok (.new 9, 3) := by decide +kernel
theorem dX9_init_151 : decode cX9_init 151 = .ok (.dup, 1) := by decide +kernel
theorem dX9_init_152 : decode cX9_init 152 = .ok (.bipush 24, 2) := by decide +kernel
theorem dX9_init_154 : decode cX9_init 154 = .ok (.invokespecial 11, 3) := by decide +kernel
theorem dX9_init_157 : decode cX9_init 157 = .ok (.putfield 50, 3) := by decide +kernel
theorem dX9_init_160 : decode cX9_init 160 = .ok (.aload_n 0, 1) := by decide +kernel
theorem dX9_init_161 : decode cX9_init 161 = .ok (.new 9, 3) := by decide +kernel
theorem dX9_init_164 : decode cX9_init 164 = .ok (.dup, 1) := by decide +kernel
theorem dX9_init_165 : decode cX9_init 165 = .ok (.bipush 24, 2) := by decide +kernel
theorem dX9_init_167 : decode cX9_init 167 = .ok (.invokespecial 11, 3) := by decide +kernel
theorem dX9_init_170 : decode cX9_init 170 = .ok (.putfield 53, 3) := by decide +kernel
theorem dX9_init_173 : decode cX9_init 173 = .ok (.aload_n 0, 1) := by decide +kernel
theorem dX9_init_174 : decode cX9_init 174 = .ok (.new 9, 3) := by decide +kernel
theorem dX9_init_177 : decode cX9_init 177 = .ok (.dup, 1) := by decide +kernel
theorem dX9_init_178 : decode cX9_init 178 = .ok (.bipush 24, 2) := by decide +kernel
theorem dX9_init_180 : decode cX9_init 180 = .ok (.invokespecial 11, 3) := by decide +kernel
theorem dX9_init_183 : decode cX9_init 183 = .ok (.putfield 56, 3) := by decide +kernel
theorem dX9_init_186 : decode cX9_init 186 = .ok (.aload_n 0, 1) := by decide +kernel
theorem dX9_init_187 : decode cX9_init 187 = .ok (.new 9, 3) := by decide +kernel
theorem dX9_init_190 : decode cX9_init 190 = .ok (.dup, 1) := by decide +kernel
theorem dX9_init_191 : decode cX9_init 191 = .ok (.bipush 120, 2) := by decide +kernel
theorem dX9_init_193 : decode cX9_init 193 = .ok (.invokespecial 11, 3) := by decide +kernel
theorem dX9_init_196 : decode cX9_init 196 = .ok (.putfield 59, 3) := by decide +kernel
theorem dX9_init_199 : decode cX9_init 199 = .ok (.aload_n 0, 1) := by decide +kernel
theorem dX9_init_200 : decode cX9_init 200 = .ok (.new 62, 3) := by decide +kernel
theorem dX9_init_203 : decode cX9_init 203 = .ok (.dup, 1) := by decide +kernel
theorem dX9_init_204 : decode cX9_init 204 = .ok (.bipush 24, 2) := by decide +kernel
theorem dX9_init_206 : decode cX9_init 206 = .ok (.invokespecial 64, 3) := by decide +kernel
theorem dX9_init_209 : decode cX9_init 209 = .ok (.putfield 65, 3) := by decide +kernel
theorem dX9_init_212 : decode cX9_init 212 = .ok (.return_, 1) := by decide +kernel
theorem dX9_has_0 : decode cX9_has 0 = .ok (.iload_n 1, 1) := by decide +kernel
theorem dX9_has_1 : decode cX9_has 1 = .ok (.ifCond .lt 15, 3) := by decide +kernel
theorem dX9_has_4 : decode cX9_has 4 = .ok (.iload_n 1, 1) := by decide +kernel
theorem dX9_has_5 : decode cX9_has 5 = .ok (.aload_n 0, 1) := by decide +kernel
theorem dX9_has_6 : decode cX9_has 6 = .ok (.getfield 69, 3) := by decide +kernel
theorem dX9_has_9 : decode cX9_has 9 = .ok (.if_icmp .ge 7, 3) := by decide +kernel
theorem dX9_has_12 : decode cX9_has 12 = .ok (.iconst 1, 1) := by decide +kernel
theorem dX9_has_13 : decode cX9_has 13 = .ok (.goto 4, 3) := by decide +kernel
theorem dX9_has_16 : decode cX9_has 16 = .ok (.iconst 0, 1) := by decide +kernel
theorem dX9_has_17 : decode cX9_has 17 = .ok (.ireturn, 1) := by decide +kernel
theorem dX9_add_0 : decode cX9_add 0 = .ok (.aload_n 0, 1) := by decide +kernel
theorem dX9_add_1 : decode cX9_add 1 = .ok (.getfield 69, 3) := by decide +kernel
theorem dX9_add_4 : decode cX9_add 4 = .ok (.istore_n 2, 1) := by decide +kernel
theorem dX9_add_5 : decode cX9_add 5 = .ok (.aload_n 0, 1) := by decide +kernel
theorem dX9_add_6 : decode cX9_add 6 = .ok (.dup, 1) := by decide +kernel
theorem dX9_add_7 : decode cX9_add 7 = .ok (.getfield 69, 3) := by decide +kernel
theorem dX9_add_10 : decode cX9_add 10 = .ok (.iconst 1, 1) := by decide +kernel
theorem dX9_add_11 : decode cX9_add 11 = .ok (.iadd, 1) := by decide +kernel
theorem dX9_add_12 : decode cX9_add 12 = .ok (.putfield 69, 3) := by decide +kernel
theorem dX9_add_15 : decode cX9_add 15 = .ok (.aload_n 0, 1) := by decide +kernel
theorem dX9_add_16 : decode cX9_add 16 = .ok (.getfield 14, 3) := by decide +kernel
theorem dX9_add_19 : decode cX9_add 19 = .ok (.iload_n 2, 1) := by decide +kernel
theorem dX9_add_20 : decode cX9_add 20 = .ok (.iconst 0, 1) := by decide +kernel
theorem dX9_add_21 : decode cX9_add 21 = .ok (.invokevirtual 73, 3) := by decide +kernel
theorem dX9_add_24 : decode cX9_add 24 = .ok (.aload_n 0, 1) := by decide +kernel
theorem dX9_add_25 : decode cX9_add 25 = .ok (.getfield 20, 3) := by decide +kernel
theorem dX9_add_28 : decode cX9_add 28 = .ok (.iload_n 2, 1) := by decide +kernel
theorem dX9_add_29 : decode cX9_add 29 = .ok (.iconst 0, 1) := by decide +kernel
theorem dX9_add_30 : decode cX9_add 30 = .ok (.invokevirtual 73, 3) := by decide +kernel
theorem dX9_add_33 : decode cX9_add 33 = .ok (.aload_n 0, 1) := by decide +kernel
theorem dX9_add_34 : decode cX9_add 34 = .ok (.getfield 23, 3) := by decide +kernel
theorem dX9_add_37 : decode cX9_add 37 = .ok (.iload_n 2, 1) := by decide +kernel
theorem dX9_add_38 : decode cX9_add 38 = .ok (.iconst 0, 1) := by decide +kernel
theorem dX9_add_39 : decode cX9_add 39 = .ok (.invokevirtual 73, 3) := by decide +kernel
theorem dX9_add_42 : decode cX9_add 42 = .ok (.aload_n 0, 1) := by decide +kernel
theorem dX9_add_43 : decode cX9_add 43 = .ok (.getfield 26, 3) := by decide +kernel
theorem dX9_add_46 : decode cX9_add 46 = .ok (.iload_n 2, 1) := by decide +kernel
theorem dX9_add_47 : decode cX9_add 47 = .ok (.iconst 0, 1) := by decide +kernel
theorem dX9_add_48 : decode cX9_add 48 = .ok (.invokevirtual 73, 3) := by decide +kernel
theorem dX9_add_51 : decode cX9_add 51 = .ok (.aload_n 0, 1) := by decide +kernel
theorem dX9_add_52 : decode cX9_add 52 = .ok (.getfield 29, 3) := by decide +kernel
theorem dX9_add_55 : decode cX9_add 55 = .ok (.iload_n 2, 1) := by decide +kernel
theorem dX9_add_56 : decode cX9_add 56 = .ok (.iload_n 1, 1) := by decide +kernel
theorem dX9_add_57 : decode cX9_add 57 = .ok (.invokevirtual 73, 3) := by decide +kernel
theorem dX9_add_60 : decode cX9_add 60 = .ok (.aload_n 0, 1) := by decide +kernel
theorem dX9_add_61 : decode cX9_add 61 = .ok (.getfield 32, 3) := by decide +kernel
theorem dX9_add_64 : decode cX9_add 64 = .ok (.iload_n 2, 1) := by decide +kernel
theorem dX9_add_65 : decode cX9_add 65 = .ok (.iconst 0, 1) := by decide +kernel
theorem dX9_add_66 : decode cX9_add 66 = .ok (.invokevirtual 73, 3) := by decide +kernel
theorem dX9_add_69 : decode cX9_add 69 = .ok (.aload_n 0, 1) := by decide +kernel
theorem dX9_add_70 : decode cX9_add 70 = .ok (.getfield 44, 3) := by decide +kernel
theorem dX9_add_73 : decode cX9_add 73 = .ok (.iload_n 2, 1) := by decide +kernel
theorem dX9_add_74 : decode cX9_add 74 = .ok (.iconst (-1), 1) := by decide +kernel
theorem dX9_add_75 : decode cX9_add 75 = .ok (.invokevirtual 73, 3) := by decide +kernel
theorem dX9_add_78 : decode cX9_add 78 = .ok (.aload_n 0, 1) := by decide +kernel
theorem dX9_add_79 : decode cX9_add 79 = .ok (.getfield 47, 3) := by decide +kernel
theorem dX9_add_82 : decode cX9_add 82 = .ok (.iload_n 2, 1) := by decide +kernel
theorem dX9_add_83 : decode cX9_add 83 = .ok (.iconst (-1), 1) := by decide +kernel
theorem dX9_add_84 : decode cX9_add 84 = .ok (.invokevirtual 73, 3) := by decide +kernel
theorem dX9_add_87 : decode cX9_add 87 = .ok (.aload_n 0, 1) := by decide +kernel
theorem dX9_add_88 : decode cX9_add 88 = .ok (.iload_n 2, 1) := by decide +kernel
theorem dX9_add_89 : decode cX9_add 89 = .ok (.iconst 0, 1) := by decide +kernel
theorem dX9_add_90 : decode cX9_add 90 = .ok (.bipush (-2), 2) := by decide +kernel
theorem dX9_add_92 : decode cX9_add 92 = .ok (.iconst (-1), 1) := by decide +kernel
theorem dX9_add_93 : decode cX9_add 93 = .ok (.invokevirtual 77, 3) := by decide +kernel
theorem dX9_add_96 : decode cX9_add 96 = .ok (.iload_n 2, 1) := by decide +kernel
theorem dX9_add_97 : decode cX9_add 97 = .ok (.ireturn, 1) := by decide +kernel
theorem dX9_giveReason_0 : decode cX9_giveReason 0 = .ok (.aload_n 0, 1) := by decide +kernel
theorem dX9_giveReason_1 : decode cX9_giveReason 1 = .ok (.getfield 35, 3) := by decide +kernel
theorem dX9_giveReason_4 : decode cX9_giveReason 4 = .ok (.iload_n 1, 1) := by decide +kernel
theorem dX9_giveReason_5 : decode cX9_giveReason 5 = .ok (.iload_n 2, 1) := by decide +kernel
theorem dX9_giveReason_6 : decode cX9_giveReason 6 = .ok (.invokevirtual 73, 3) := by decide +kernel
theorem dX9_giveReason_9 : decode cX9_giveReason 9 = .ok (.aload_n 0, 1) := by decide +kernel
theorem dX9_giveReason_10 : decode cX9_giveReason 10 = .ok (.getfield 38, 3) := by decide +kernel
theorem dX9_giveReason_13 : decode cX9_giveReason 13 = .ok (.iload_n 1, 1) := by decide +kernel
theorem dX9_giveReason_14 : decode cX9_giveReason 14 = .ok (.iload_n 3, 1) := by decide +kernel
theorem dX9_giveReason_15 : decode cX9_giveReason 15 = .ok (.invokevirtual 73, 3) := by decide +kernel
theorem dX9_giveReason_18 : decode cX9_giveReason 18 = .ok (.aload_n 0, 1) := by decide +kernel
theorem dX9_giveReason_19 : decode cX9_giveReason 19 = .ok (.getfield 41, 3) := by decide +kernel
theorem dX9_giveReason_22 : decode cX9_giveReason 22 = .ok (.iload_n 1, 1) := by decide +kernel
theorem dX9_giveReason_23 : decode cX9_giveReason 23 = .ok (.iload 4, 2) := by decide +kernel
theorem dX9_giveReason_25 : decode cX9_giveReason 25 = .ok (.invokevirtual 73, 3) := by decide +kernel
theorem dX9_giveReason_28 : decode cX9_giveReason 28 = .ok (.return_, 1) := by decide +kernel
theorem dX9_hasReason_0 : decode cX9_hasReason 0 = .ok (.aload_n 0, 1) := by decide +kernel
theorem dX9_hasReason_1 : decode cX9_hasReason 1 = .ok (.getfield 35, 3) := by decide +kernel
theorem dX9_hasReason_4 : decode cX9_hasReason 4 = .ok (.iload_n 1, 1) := by decide +kernel
theorem dX9_hasReason_5 : decode cX9_hasReason 5 = .ok (.invokevirtual 81, 3) := by decide +kernel
theorem dX9_hasReason_8 : decode cX9_hasReason 8 = .ok (.ifCond .eq 7, 3) := by decide +kernel
theorem dX9_hasReason_11 : decode cX9_hasReason 11 = .ok (.iconst 1, 1) := by decide +kernel
theorem dX9_hasReason_12 : decode cX9_hasReason 12 = .ok (.goto 4, 3) := by decide +kernel
theorem dX9_hasReason_15 : decode cX9_hasReason 15 = .ok (.iconst 0, 1) := by decide +kernel
theorem dX9_hasReason_16 : decode cX9_hasReason 16 = .ok (.ireturn, 1) := by decide +kernel
theorem dX9_hasEnded_0 : decode cX9_hasEnded 0 = .ok (.aload_n 0, 1) := by decide +kernel
theorem dX9_hasEnded_1 : decode cX9_hasEnded 1 = .ok (.getfield 14, 3) := by decide +kernel
theorem dX9_hasEnded_4 : decode cX9_hasEnded 4 = .ok (.iload_n 1, 1) := by decide +kernel
theorem dX9_hasEnded_5 : decode cX9_hasEnded 5 = .ok (.invokevirtual 81, 3) := by decide +kernel
theorem dX9_hasEnded_8 : decode cX9_hasEnded 8 = .ok (.bipush 6, 2) := by decide +kernel
theorem dX9_hasEnded_10 : decode cX9_hasEnded 10 = .ok (.if_icmp .lt 7, 3) := by decide +kernel
theorem dX9_hasEnded_13 : decode cX9_hasEnded 13 = .ok (.iconst 1, 1) := by decide +kernel
theorem dX9_hasEnded_14 : decode cX9_hasEnded 14 = .ok (.goto 4, 3) := by decide +kernel
theorem dX9_hasEnded_17 : decode cX9_hasEnded 17 = .ok (.iconst 0, 1) := by decide +kernel
theorem dX9_hasEnded_18 : decode cX9_hasEnded 18 = .ok (.ireturn, 1) := by decide +kernel
theorem dX9_executesCleanup_0 : decode cX9_executesCleanup 0 = .ok (.aload_n 0, 1) := by decide +kernel
theorem dX9_executesCleanup_1 : decode cX9_executesCleanup 1 = .ok (.getfield 44, 3) := by decide +kernel
theorem dX9_executesCleanup_4 : decode cX9_executesCleanup 4 = .ok (.iload_n 1, 1) := by decide +kernel
theorem dX9_executesCleanup_5 : decode cX9_executesCleanup 5 = .ok (.invokevirtual 81, 3) := by decide +kernel
theorem dX9_executesCleanup_8 : decode cX9_executesCleanup 8 = .ok (.iconst (-1), 1) := by decide +kernel
theorem dX9_executesCleanup_9 : decode cX9_executesCleanup 9 = .ok (.if_icmp .eq 7, 3) := by decide +kernel
theorem dX9_executesCleanup_12 : decode cX9_executesCleanup 12 = .ok (.iconst 1, 1) := by decide +kernel
theorem dX9_executesCleanup_13 : decode cX9_executesCleanup 13 = .ok (.goto 4, 3) := by decide +kernel
theorem dX9_executesCleanup_16 : decode cX9_executesCleanup 16 = .ok (.iconst 0, 1) := by decide +kernel
theorem dX9_executesCleanup_17 : decode cX9_executesCleanup 17 = .ok (.ireturn, 1) := by decide +kernel
theorem dX9_scopeAt_0 : decode cX9_scopeAt 0 = .ok (.iload_n 2, 1) := by decide +kernel
theorem dX9_scopeAt_1 : decode cX9_scopeAt 1 = .ok (.ifCond .lt 19, 3) := by decide +kernel
theorem dX9_scopeAt_4 : decode cX9_scopeAt 4 = .ok (.iload_n 2, 1) := by decide +kernel
theorem dX9_scopeAt_5 : decode cX9_scopeAt 5 = .ok (.aload_n 0, 1) := by decide +kernel
theorem dX9_scopeAt_6 : decode cX9_scopeAt 6 = .ok (.getfield 26, 3) := by decide +kernel
theorem dX9_scopeAt_9 : decode cX9_scopeAt 9 = .ok (.iload_n 1, 1) := by decide +kernel
theorem dX9_scopeAt_10 : decode cX9_scopeAt 10 = .ok (.invokevirtual 81, 3) := by decide +kernel
theorem dX9_scopeAt_13 : decode cX9_scopeAt 13 = .ok (.if_icmp .ge 7, 3) := by decide +kernel
theorem dX9_scopeAt_16 : decode cX9_scopeAt 16 = .ok (.iconst 1, 1) := by decide +kernel
theorem dX9_scopeAt_17 : decode cX9_scopeAt 17 = .ok (.goto 4, 3) := by decide +kernel
theorem dX9_scopeAt_20 : decode cX9_scopeAt 20 = .ok (.iconst 0, 1) := by decide +kernel
theorem dX9_scopeAt_21 : decode cX9_scopeAt 21 = .ok (.istore_n 3, 1) := by decide +kernel
theorem dX9_scopeAt_22 : decode cX9_scopeAt 22 = .ok (.iload_n 3, 1) := by decide +kernel
theorem dX9_scopeAt_23 : decode cX9_scopeAt 23 = .ok (.ifCond .eq 18, 3) := by decide +kernel
theorem dX9_scopeAt_26 : decode cX9_scopeAt 26 = .ok (.aload_n 0, 1) := by decide +kernel
theorem dX9_scopeAt_27 : decode cX9_scopeAt 27 = .ok (.getfield 59, 3) := by decide +kernel
theorem dX9_scopeAt_30 : decode cX9_scopeAt 30 = .ok (.iload_n 1, 1) := by decide +kernel
theorem dX9_scopeAt_31 : decode cX9_scopeAt 31 = .ok (.iconst 5, 1) := by decide +kernel
theorem dX9_scopeAt_32 : decode cX9_scopeAt 32 = .ok (.imul, 1) := by decide +kernel
theorem dX9_scopeAt_33 : decode cX9_scopeAt 33 = .ok (.iload_n 2, 1) := by decide +kernel
theorem dX9_scopeAt_34 : decode cX9_scopeAt 34 = .ok (.iadd, 1) := by decide +kernel
theorem dX9_scopeAt_35 : decode cX9_scopeAt 35 = .ok (.invokevirtual 81, 3) := by decide +kernel
theorem dX9_scopeAt_38 : decode cX9_scopeAt 38 = .ok (.goto 4, 3) := by decide +kernel
theorem dX9_scopeAt_41 : decode cX9_scopeAt 41 = .ok (.iconst (-1), 1) := by decide +kernel
theorem dX9_scopeAt_42 : decode cX9_scopeAt 42 = .ok (.ireturn, 1) := by decide +kernel
theorem dX9_innermostLevel_0 : decode cX9_innermostLevel 0 = .ok (.aload_n 0, 1) := by decide +kernel
theorem dX9_innermostLevel_1 : decode cX9_innermostLevel 1 = .ok (.getfield 26, 3) := by decide +kernel
theorem dX9_innermostLevel_4 : decode cX9_innermostLevel 4 = .ok (.iload_n 1, 1) := by decide +kernel
theorem dX9_innermostLevel_5 : decode cX9_innermostLevel 5 = .ok (.invokevirtual 81, 3) := by decide +kernel
theorem dX9_innermostLevel_8 : decode cX9_innermostLevel 8 = .ok (.iconst 1, 1) := by decide +kernel
theorem dX9_innermostLevel_9 : decode cX9_innermostLevel 9 = .ok (.isub, 1) := by decide +kernel
theorem dX9_innermostLevel_10 : decode cX9_innermostLevel 10 = .ok (.ireturn, 1) := by decide +kernel
theorem dX9_innermost_0 : decode cX9_innermost 0 = .ok (.aload_n 0, 1) := by decide +kernel
theorem dX9_innermost_1 : decode cX9_innermost 1 = .ok (.iload_n 1, 1) := by decide +kernel
theorem dX9_innermost_2 : decode cX9_innermost 2 = .ok (.aload_n 0, 1) := by decide +kernel
theorem dX9_innermost_3 : decode cX9_innermost 3 = .ok (.getfield 26, 3) := by decide +kernel
theorem dX9_innermost_6 : decode cX9_innermost 6 = .ok (.iload_n 1, 1) := by decide +kernel
theorem dX9_innermost_7 : decode cX9_innermost 7 = .ok (.invokevirtual 81, 3) := by decide +kernel
theorem dX9_innermost_10 : decode cX9_innermost 10 = .ok (.iconst 1, 1) := by decide +kernel
theorem dX9_innermost_11 : decode cX9_innermost 11 = .ok (.isub, 1) := by decide +kernel
theorem dX9_innermost_12 : decode cX9_innermost 12 = .ok (.invokevirtual 85, 3) := by decide +kernel
theorem dX9_innermost_15 : decode cX9_innermost 15 = .ok (.ireturn, 1) := by decide +kernel
theorem dX9_enter_0 : decode cX9_enter 0 = .ok (.aload_n 0, 1) := by decide +kernel
theorem dX9_enter_1 : decode cX9_enter 1 = .ok (.getfield 59, 3) := by decide +kernel
theorem dX9_enter_4 : decode cX9_enter 4 = .ok (.iload_n 1, 1) := by decide +kernel
theorem dX9_enter_5 : decode cX9_enter 5 = .ok (.iconst 5, 1) := by decide +kernel
theorem dX9_enter_6 : decode cX9_enter 6 = .ok (.imul, 1) := by decide +kernel
theorem dX9_enter_7 : decode cX9_enter 7 = .ok (.aload_n 0, 1) := by decide +kernel
theorem dX9_enter_8 : decode cX9_enter 8 = .ok (.getfield 26, 3) := by decide +kernel
theorem dX9_enter_11 : decode cX9_enter 11 = .ok (.iload_n 1, 1) := by decide +kernel
theorem dX9_enter_12 : decode cX9_enter 12 = .ok (.invokevirtual 81, 3) := by decide +kernel
theorem dX9_enter_15 : decode cX9_enter 15 = .ok (.iadd, 1) := by decide +kernel
theorem dX9_enter_16 : decode cX9_enter 16 = .ok (.iload_n 2, 1) := by decide +kernel
theorem dX9_enter_17 : decode cX9_enter 17 = .ok (.invokevirtual 73, 3) := by decide +kernel
theorem dX9_enter_20 : decode cX9_enter 20 = .ok (.aload_n 0, 1) := by decide +kernel
theorem dX9_enter_21 : decode cX9_enter 21 = .ok (.getfield 26, 3) := by decide +kernel
theorem dX9_enter_24 : decode cX9_enter 24 = .ok (.iload_n 1, 1) := by decide +kernel
theorem dX9_enter_25 : decode cX9_enter 25 = .ok (.iconst 1, 1) := by decide +kernel
theorem dX9_enter_26 : decode cX9_enter 26 = .ok (.invokevirtual 89, 3) := by decide +kernel
theorem dX9_enter_29 : decode cX9_enter 29 = .ok (.return_, 1) := by decide +kernel
theorem dX9_sleepUntil_0 : decode cX9_sleepUntil 0 = .ok (.aload_n 0, 1) := by decide +kernel
theorem dX9_sleepUntil_1 : decode cX9_sleepUntil 1 = .ok (.getfield 14, 3) := by decide +kernel
theorem dX9_sleepUntil_4 : decode cX9_sleepUntil 4 = .ok (.iload_n 1, 1) := by decide +kernel
theorem dX9_sleepUntil_5 : decode cX9_sleepUntil 5 = .ok (.iconst 1, 1) := by decide +kernel
theorem dX9_sleepUntil_6 : decode cX9_sleepUntil 6 = .ok (.invokevirtual 73, 3) := by decide +kernel
theorem dX9_sleepUntil_9 : decode cX9_sleepUntil 9 = .ok (.aload_n 0, 1) := by decide +kernel
theorem dX9_sleepUntil_10 : decode cX9_sleepUntil 10 = .ok (.getfield 47, 3) := by decide +kernel
theorem dX9_sleepUntil_13 : decode cX9_sleepUntil 13 = .ok (.iload_n 1, 1) := by decide +kernel
theorem dX9_sleepUntil_14 : decode cX9_sleepUntil 14 = .ok (.iload_n 2, 1) := by decide +kernel
theorem dX9_sleepUntil_15 : decode cX9_sleepUntil 15 = .ok (.invokevirtual 73, 3) := by decide +kernel
theorem dX9_sleepUntil_18 : decode cX9_sleepUntil 18 = .ok (.return_, 1) := by decide +kernel
theorem dX9_waitFor_0 : decode cX9_waitFor 0 = .ok (.aload_n 0, 1) := by decide +kernel
theorem dX9_waitFor_1 : decode cX9_waitFor 1 = .ok (.getfield 14, 3) := by decide +kernel
theorem dX9_waitFor_4 : decode cX9_waitFor 4 = .ok (.iload_n 1, 1) := by decide +kernel
theorem dX9_waitFor_5 : decode cX9_waitFor 5 = .ok (.iload_n 2, 1) := by decide +kernel
theorem dX9_waitFor_6 : decode cX9_waitFor 6 = .ok (.invokevirtual 73, 3) := by decide +kernel
theorem dX9_waitFor_9 : decode cX9_waitFor 9 = .ok (.aload_n 0, 1) := by decide +kernel
theorem dX9_waitFor_10 : decode cX9_waitFor 10 = .ok (.getfield 50, 3) := by decide +kernel
theorem dX9_waitFor_13 : decode cX9_waitFor 13 = .ok (.iload_n 1, 1) := by decide +kernel
theorem dX9_waitFor_14 : decode cX9_waitFor 14 = .ok (.iload_n 3, 1) := by decide +kernel
theorem dX9_waitFor_15 : decode cX9_waitFor 15 = .ok (.invokevirtual 73, 3) := by decide +kernel
theorem dX9_waitFor_18 : decode cX9_waitFor 18 = .ok (.aload_n 0, 1) := by decide +kernel
theorem dX9_waitFor_19 : decode cX9_waitFor 19 = .ok (.getfield 53, 3) := by decide +kernel
theorem dX9_waitFor_22 : decode cX9_waitFor 22 = .ok (.iload_n 1, 1) := by decide +kernel
theorem dX9_waitFor_23 : decode cX9_waitFor 23 = .ok (.iload 4, 2) := by decide +kernel
theorem dX9_waitFor_25 : decode cX9_waitFor 25 = .ok (.invokevirtual 73, 3) := by decide +kernel
theorem dX9_waitFor_28 : decode cX9_waitFor 28 = .ok (.aload_n 0, 1) := by decide +kernel
theorem dX9_waitFor_29 : decode cX9_waitFor 29 = .ok (.getfield 56, 3) := by decide +kernel
theorem dX9_waitFor_32 : decode cX9_waitFor 32 = .ok (.iload_n 1, 1) := by decide +kernel
theorem dX9_waitFor_33 : decode cX9_waitFor 33 = .ok (.iload 5, 2) := by decide +kernel
theorem dX9_waitFor_35 : decode cX9_waitFor 35 = .ok (.invokevirtual 73, 3) := by decide +kernel
theorem dX9_waitFor_38 : decode cX9_waitFor 38 = .ok (.return_, 1) := by decide +kernel
theorem dX9_sendsTo_0 : decode cX9_sendsTo 0 = .ok (.aload_n 0, 1) := by decide +kernel
theorem dX9_sendsTo_1 : decode cX9_sendsTo 1 = .ok (.getfield 14, 3) := by decide +kernel
theorem dX9_sendsTo_4 : decode cX9_sendsTo 4 = .ok (.iload_n 1, 1) := by decide +kernel
theorem dX9_sendsTo_5 : decode cX9_sendsTo 5 = .ok (.invokevirtual 81, 3) := by decide +kernel
theorem dX9_sendsTo_8 : decode cX9_sendsTo 8 = .ok (.iconst 2, 1) := by decide +kernel
theorem dX9_sendsTo_9 : decode cX9_sendsTo 9 = .ok (.if_icmp .ne 19, 3) := by decide +kernel
theorem dX9_sendsTo_12 : decode cX9_sendsTo 12 = .ok (.aload_n 0, 1) := by decide +kernel
theorem dX9_sendsTo_13 : decode cX9_sendsTo 13 = .ok (.getfield 50, 3) := by decide +kernel
theorem dX9_sendsTo_16 : decode cX9_sendsTo 16 = .ok (.iload_n 1, 1) := by decide +kernel
theorem dX9_sendsTo_17 : decode cX9_sendsTo 17 = .ok (.invokevirtual 81, 3) := by decide +kernel
theorem dX9_sendsTo_20 : decode cX9_sendsTo 20 = .ok (.iload_n 2, 1) := by decide +kernel
theorem dX9_sendsTo_21 : decode cX9_sendsTo 21 = .ok (.if_icmp .ne 7, 3) := by decide +kernel
theorem dX9_sendsTo_24 : decode cX9_sendsTo 24 = .ok (.iconst 1, 1) := by decide +kernel
theorem dX9_sendsTo_25 : decode cX9_sendsTo 25 = .ok (.goto 4, 3) := by decide +kernel
theorem dX9_sendsTo_28 : decode cX9_sendsTo 28 = .ok (.iconst 0, 1) := by decide +kernel
theorem dX9_sendsTo_29 : decode cX9_sendsTo 29 = .ok (.ireturn, 1) := by decide +kernel
theorem dX9_takesFrom_0 : decode cX9_takesFrom 0 = .ok (.aload_n 0, 1) := by decide +kernel
theorem dX9_takesFrom_1 : decode cX9_takesFrom 1 = .ok (.getfield 14, 3) := by decide +kernel
theorem dX9_takesFrom_4 : decode cX9_takesFrom 4 = .ok (.iload_n 1, 1) := by decide +kernel
theorem dX9_takesFrom_5 : decode cX9_takesFrom 5 = .ok (.invokevirtual 81, 3) := by decide +kernel
theorem dX9_takesFrom_8 : decode cX9_takesFrom 8 = .ok (.iconst 3, 1) := by decide +kernel
theorem dX9_takesFrom_9 : decode cX9_takesFrom 9 = .ok (.if_icmp .eq 15, 3) := by decide +kernel
theorem dX9_takesFrom_12 : decode cX9_takesFrom 12 = .ok (.aload_n 0, 1) := by decide +kernel
theorem dX9_takesFrom_13 : decode cX9_takesFrom 13 = .ok (.getfield 14, 3) := by decide +kernel
theorem dX9_takesFrom_16 : decode cX9_takesFrom 16 = .ok (.iload_n 1, 1) := by decide +kernel
theorem dX9_takesFrom_17 : decode cX9_takesFrom 17 = .ok (.invokevirtual 81, 3) := by decide +kernel
theorem dX9_takesFrom_20 : decode cX9_takesFrom 20 = .ok (.iconst 4, 1) := by decide +kernel
theorem dX9_takesFrom_21 : decode cX9_takesFrom 21 = .ok (.if_icmp .ne 7, 3) := by decide +kernel
theorem dX9_takesFrom_24 : decode cX9_takesFrom 24 = .ok (.iconst 1, 1) := by decide +kernel
theorem dX9_takesFrom_25 : decode cX9_takesFrom 25 = .ok (.goto 4, 3) := by decide +kernel
theorem dX9_takesFrom_28 : decode cX9_takesFrom 28 = .ok (.iconst 0, 1) := by decide +kernel
theorem dX9_takesFrom_29 : decode cX9_takesFrom 29 = .ok (.istore_n 3, 1) := by decide +kernel
theorem dX9_takesFrom_30 : decode cX9_takesFrom 30 = .ok (.iload_n 3, 1) := by decide +kernel
theorem dX9_takesFrom_31 : decode cX9_takesFrom 31 = .ok (.ifCond .eq 31, 3) := by decide +kernel
theorem dX9_takesFrom_34 : decode cX9_takesFrom 34 = .ok (.aload_n 0, 1) := by decide +kernel
theorem dX9_takesFrom_35 : decode cX9_takesFrom 35 = .ok (.getfield 50, 3) := by decide +kernel
theorem dX9_takesFrom_38 : decode cX9_takesFrom 38 = .ok (.iload_n 1, 1) := by decide +kernel
theorem dX9_takesFrom_39 : decode cX9_takesFrom 39 = .ok (.invokevirtual 81, 3) := by decide +kernel
theorem dX9_takesFrom_42 : decode cX9_takesFrom 42 = .ok (.iload_n 2, 1) := by decide +kernel
theorem dX9_takesFrom_43 : decode cX9_takesFrom 43 = .ok (.if_icmp .eq 15, 3) := by decide +kernel
theorem dX9_takesFrom_46 : decode cX9_takesFrom 46 = .ok (.aload_n 0, 1) := by decide +kernel
theorem dX9_takesFrom_47 : decode cX9_takesFrom 47 = .ok (.getfield 53, 3) := by decide +kernel
theorem dX9_takesFrom_50 : decode cX9_takesFrom 50 = .ok (.iload_n 1, 1) := by decide +kernel
theorem dX9_takesFrom_51 : decode cX9_takesFrom 51 = .ok (.invokevirtual 81, 3) := by decide +kernel
theorem dX9_takesFrom_54 : decode cX9_takesFrom 54 = .ok (.iload_n 2, 1) := by decide +kernel
theorem dX9_takesFrom_55 : decode cX9_takesFrom 55 = .ok (.if_icmp .ne 7, 3) := by decide +kernel
theorem dX9_takesFrom_58 : decode cX9_takesFrom 58 = .ok (.iconst 1, 1) := by decide +kernel
theorem dX9_takesFrom_59 : decode cX9_takesFrom 59 = .ok (.goto 4, 3) := by decide +kernel
theorem dX9_takesFrom_62 : decode cX9_takesFrom 62 = .ok (.iconst 0, 1) := by decide +kernel
theorem dX9_takesFrom_63 : decode cX9_takesFrom 63 = .ok (.ireturn, 1) := by decide +kernel
theorem dX9_countSenders_0 : decode cX9_countSenders 0 = .ok (.iconst 0, 1) := by decide +kernel
theorem dX9_countSenders_1 : decode cX9_countSenders 1 = .ok (.istore_n 2, 1) := by decide +kernel
theorem dX9_countSenders_2 : decode cX9_countSenders 2 = .ok (.iconst 0, 1) := by decide +kernel
theorem dX9_countSenders_3 : decode cX9_countSenders 3 = .ok (.istore_n 3, 1) := by decide +kernel
theorem dX9_countSenders_4 : decode cX9_countSenders 4 = .ok (.iload_n 3, 1) := by decide +kernel
theorem dX9_countSenders_5 : decode cX9_countSenders 5 = .ok (.aload_n 0, 1) := by decide +kernel
theorem dX9_countSenders_6 : decode cX9_countSenders 6 = .ok (.getfield 69, 3) := by decide +kernel
theorem dX9_countSenders_9 : decode cX9_countSenders 9 = .ok (.if_icmp .ge 21, 3) := by decide +kernel
theorem dX9_countSenders_12 : decode cX9_countSenders 12 = .ok (.aload_n 0, 1) := by decide +kernel
theorem dX9_countSenders_13 : decode cX9_countSenders 13 = .ok (.iload_n 3, 1) := by decide +kernel
theorem dX9_countSenders_14 : decode cX9_countSenders 14 = .ok (.iload_n 1, 1) := by decide +kernel
theorem dX9_countSenders_15 : decode cX9_countSenders 15 = .ok (.invokevirtual 92, 3) := by decide +kernel
theorem dX9_countSenders_18 : decode cX9_countSenders 18 = .ok (.ifCond .eq 6, 3) := by decide +kernel
theorem dX9_countSenders_21 : decode cX9_countSenders 21 = .ok (.iinc 2 1, 3) := by decide +kernel
theorem dX9_countSenders_24 : decode cX9_countSenders 24 = .ok (.iinc 3 1, 3) := by decide +kernel
theorem dX9_countSenders_27 : decode cX9_countSenders 27 = .ok (.goto (-23), 3) := by decide +kernel
theorem dX9_countSenders_30 : decode cX9_countSenders 30 = .ok (.iload_n 2, 1) := by decide +kernel
theorem dX9_countSenders_31 : decode cX9_countSenders 31 = .ok (.ireturn, 1) := by decide +kernel
theorem dX9_countTakers_0 : decode cX9_countTakers 0 = .ok (.iconst 0, 1) := by decide +kernel
theorem dX9_countTakers_1 : decode cX9_countTakers 1 = .ok (.istore_n 2, 1) := by decide +kernel
theorem dX9_countTakers_2 : decode cX9_countTakers 2 = .ok (.iconst 0, 1) := by decide +kernel
theorem dX9_countTakers_3 : decode cX9_countTakers 3 = .ok (.istore_n 3, 1) := by decide +kernel
theorem dX9_countTakers_4 : decode cX9_countTakers 4 = .ok (.iload_n 3, 1) := by decide +kernel
theorem dX9_countTakers_5 : decode cX9_countTakers 5 = .ok (.aload_n 0, 1) := by decide +kernel
theorem dX9_countTakers_6 : decode cX9_countTakers 6 = .ok (.getfield 69, 3) := by decide +kernel
theorem dX9_countTakers_9 : decode cX9_countTakers 9 = .ok (.if_icmp .ge 21, 3) := by decide +kernel
theorem dX9_countTakers_12 : decode cX9_countTakers 12 = .ok (.aload_n 0, 1) := by decide +kernel
theorem dX9_countTakers_13 : decode cX9_countTakers 13 = .ok (.iload_n 3, 1) := by decide +kernel
theorem dX9_countTakers_14 : decode cX9_countTakers 14 = .ok (.iload_n 1, 1) := by decide +kernel
theorem dX9_countTakers_15 : decode cX9_countTakers 15 = .ok (.invokevirtual 96, 3) := by decide +kernel
theorem dX9_countTakers_18 : decode cX9_countTakers 18 = .ok (.ifCond .eq 6, 3) := by decide +kernel
theorem dX9_countTakers_21 : decode cX9_countTakers 21 = .ok (.iinc 2 1, 3) := by decide +kernel
theorem dX9_countTakers_24 : decode cX9_countTakers 24 = .ok (.iinc 3 1, 3) := by decide +kernel
theorem dX9_countTakers_27 : decode cX9_countTakers 27 = .ok (.goto (-23), 3) := by decide +kernel
theorem dX9_countTakers_30 : decode cX9_countTakers 30 = .ok (.iload_n 2, 1) := by decide +kernel
theorem dX9_countTakers_31 : decode cX9_countTakers 31 = .ok (.ireturn, 1) := by decide +kernel
theorem dX9_property_0 : decode cX9_property 0 = .ok (.iload_n 2, 1) := by decide +kernel
theorem dX9_property_1 : decode cX9_property 1 = .ok (.tableswitch 137 0 8 #[51, 60, 69, 78, 87, 96, 105, 114, 123], 51) := by decide +kernel
theorem dX9_property_52 : decode cX9_property 52 = .ok (.aload_n 0, 1) := by decide +kernel
theorem dX9_property_53 : decode cX9_property 53 = .ok (.getfield 14, 3) := by decide +kernel
theorem dX9_property_56 : decode cX9_property 56 = .ok (.iload_n 1, 1) := by decide +kernel
theorem dX9_property_57 : decode cX9_property 57 = .ok (.invokevirtual 81, 3) := by decide +kernel
theorem dX9_property_60 : decode cX9_property 60 = .ok (.ireturn, 1) := by decide +kernel
theorem dX9_property_61 : decode cX9_property 61 = .ok (.aload_n 0, 1) := by decide +kernel
theorem dX9_property_62 : decode cX9_property 62 = .ok (.getfield 20, 3) := by decide +kernel
theorem dX9_property_65 : decode cX9_property 65 = .ok (.iload_n 1, 1) := by decide +kernel
theorem dX9_property_66 : decode cX9_property 66 = .ok (.invokevirtual 81, 3) := by decide +kernel
theorem dX9_property_69 : decode cX9_property 69 = .ok (.ireturn, 1) := by decide +kernel
theorem dX9_property_70 : decode cX9_property 70 = .ok (.aload_n 0, 1) := by decide +kernel
theorem dX9_property_71 : decode cX9_property 71 = .ok (.getfield 23, 3) := by decide +kernel
theorem dX9_property_74 : decode cX9_property 74 = .ok (.iload_n 1, 1) := by decide +kernel
theorem dX9_property_75 : decode cX9_property 75 = .ok (.invokevirtual 81, 3) := by decide +kernel
theorem dX9_property_78 : decode cX9_property 78 = .ok (.ireturn, 1) := by decide +kernel
theorem dX9_property_79 : decode cX9_property 79 = .ok (.aload_n 0, 1) := by decide +kernel
theorem dX9_property_80 : decode cX9_property 80 = .ok (.getfield 26, 3) := by decide +kernel
theorem dX9_property_83 : decode cX9_property 83 = .ok (.iload_n 1, 1) := by decide +kernel
theorem dX9_property_84 : decode cX9_property 84 = .ok (.invokevirtual 81, 3) := by decide +kernel
theorem dX9_property_87 : decode cX9_property 87 = .ok (.ireturn, 1) := by decide +kernel
theorem dX9_property_88 : decode cX9_property 88 = .ok (.aload_n 0, 1) := by decide +kernel
theorem dX9_property_89 : decode cX9_property 89 = .ok (.getfield 29, 3) := by decide +kernel
theorem dX9_property_92 : decode cX9_property 92 = .ok (.iload_n 1, 1) := by decide +kernel
theorem dX9_property_93 : decode cX9_property 93 = .ok (.invokevirtual 81, 3) := by decide +kernel
theorem dX9_property_96 : decode cX9_property 96 = .ok (.ireturn, 1) := by decide +kernel
theorem dX9_property_97 : decode cX9_property 97 = .ok (.aload_n 0, 1) := by decide +kernel
theorem dX9_property_98 : decode cX9_property 98 = .ok (.getfield 32, 3) := by decide +kernel
theorem dX9_property_101 : decode cX9_property 101 = .ok (.iload_n 1, 1) := by decide +kernel
theorem dX9_property_102 : decode cX9_property 102 = .ok (.invokevirtual 81, 3) := by decide +kernel
theorem dX9_property_105 : decode cX9_property 105 = .ok (.ireturn, 1) := by decide +kernel
theorem dX9_property_106 : decode cX9_property 106 = .ok (.aload_n 0, 1) := by decide +kernel
theorem dX9_property_107 : decode cX9_property 107 = .ok (.getfield 35, 3) := by decide +kernel
theorem dX9_property_110 : decode cX9_property 110 = .ok (.iload_n 1, 1) := by decide +kernel
theorem dX9_property_111 : decode cX9_property 111 = .ok (.invokevirtual 81, 3) := by decide +kernel
theorem dX9_property_114 : decode cX9_property 114 = .ok (.ireturn, 1) := by decide +kernel
theorem dX9_property_115 : decode cX9_property 115 = .ok (.aload_n 0, 1) := by decide +kernel
theorem dX9_property_116 : decode cX9_property 116 = .ok (.getfield 38, 3) := by decide +kernel
theorem dX9_property_119 : decode cX9_property 119 = .ok (.iload_n 1, 1) := by decide +kernel
theorem dX9_property_120 : decode cX9_property 120 = .ok (.invokevirtual 81, 3) := by decide +kernel
theorem dX9_property_123 : decode cX9_property 123 = .ok (.ireturn, 1) := by decide +kernel
theorem dX9_property_124 : decode cX9_property 124 = .ok (.aload_n 0, 1) := by decide +kernel
theorem dX9_property_125 : decode cX9_property 125 = .ok (.iload_n 1, 1) := by decide +kernel
theorem dX9_property_126 : decode cX9_property 126 = .ok (.invokevirtual 99, 3) := by decide +kernel
theorem dX9_property_129 : decode cX9_property 129 = .ok (.ifCond .eq 7, 3) := by decide +kernel
theorem dX9_property_132 : decode cX9_property 132 = .ok (.iconst 1, 1) := by decide +kernel
theorem dX9_property_133 : decode cX9_property 133 = .ok (.goto 4, 3) := by decide +kernel
theorem dX9_property_136 : decode cX9_property 136 = .ok (.iconst 0, 1) := by decide +kernel
theorem dX9_property_137 : decode cX9_property 137 = .ok (.ireturn, 1) := by decide +kernel
theorem dX9_property_138 : decode cX9_property 138 = .ok (.aload_n 0, 1) := by decide +kernel
theorem dX9_property_139 : decode cX9_property 139 = .ok (.getfield 47, 3) := by decide +kernel
theorem dX9_property_142 : decode cX9_property 142 = .ok (.iload_n 1, 1) := by decide +kernel
theorem dX9_property_143 : decode cX9_property 143 = .ok (.invokevirtual 81, 3) := by decide +kernel
theorem dX9_property_146 : decode cX9_property 146 = .ok (.ireturn, 1) := by decide +kernel
