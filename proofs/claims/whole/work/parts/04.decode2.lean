theorem dX6_weighJustSo_86 : decode cX6_weighJustSo 86 = .ok (.iload 4, 2) := by decide +kernel
theorem dX6_weighJustSo_88 : decode cX6_weighJustSo 88 = .ok (.ishl, 1) := by decide +kernel
theorem dX6_weighJustSo_89 : decode cX6_weighJustSo 89 = .ok (.iconst 1, 1) := by decide +kernel
theorem dX6_weighJustSo_90 : decode cX6_weighJustSo 90 = .ok (.isub, 1) := by decide +kernel
theorem dX6_weighJustSo_91 : decode cX6_weighJustSo 91 = .ok (.if_icmp .ne 7, 3) := by decide +kernel
theorem dX6_weighJustSo_94 : decode cX6_weighJustSo 94 = .ok (.iconst 1, 1) := by decide +kernel
theorem dX6_weighJustSo_95 : decode cX6_weighJustSo 95 = .ok (.goto 4, 3) := by decide +kernel
theorem dX6_weighJustSo_98 : decode cX6_weighJustSo 98 = .ok (.iconst 0, 1) := by decide +kernel
theorem dX6_weighJustSo_99 : decode cX6_weighJustSo 99 = .ok (.ireturn, 1) := by decide +kernel
theorem dX6_unusedPlace_0 : decode cX6_unusedPlace 0 = .ok (.iconst 0, 1) := by decide +kernel
theorem dX6_unusedPlace_1 : decode cX6_unusedPlace 1 = .ok (.istore 4, 2) := by decide +kernel
theorem dX6_unusedPlace_3 : decode cX6_unusedPlace 3 = .ok (.iload 4, 2) := by decide +kernel
theorem dX6_unusedPlace_5 : decode cX6_unusedPlace 5 = .ok (.iload_n 1, 1) := by decide +kernel
theorem dX6_unusedPlace_6 : decode cX6_unusedPlace 6 = .ok (.if_icmp .ge 29, 3) := by decide +kernel
theorem dX6_unusedPlace_9 : decode cX6_unusedPlace 9 = .ok (.iload_n 2, 1) := by decide +kernel
theorem dX6_unusedPlace_10 : decode cX6_unusedPlace 10 = .ok (.iload 4, 2) := by decide +kernel
theorem dX6_unusedPlace_12 : decode cX6_unusedPlace 12 = .ok (.ishr, 1) := by decide +kernel
theorem dX6_unusedPlace_13 : decode cX6_unusedPlace 13 = .ok (.iconst 1, 1) := by decide +kernel
theorem dX6_unusedPlace_14 : decode cX6_unusedPlace 14 = .ok (.iand, 1) := by decide +kernel
theorem dX6_unusedPlace_15 : decode cX6_unusedPlace 15 = .ok (.ifCond .ne 14, 3) := by decide +kernel
theorem dX6_unusedPlace_18 : decode cX6_unusedPlace 18 = .ok (.aload_n 0, 1) := by decide +kernel
theorem dX6_unusedPlace_19 : decode cX6_unusedPlace 19 = .ok (.iload 4, 2) := by decide +kernel
theorem dX6_unusedPlace_21 : decode cX6_unusedPlace 21 = .ok (.iaload, 1) := by decide +kernel
theorem dX6_unusedPlace_22 : decode cX6_unusedPlace 22 = .ok (.iload_n 3, 1) := by decide +kernel
theorem dX6_unusedPlace_23 : decode cX6_unusedPlace 23 = .ok (.if_icmp .ne 6, 3) := by decide +kernel
theorem dX6_unusedPlace_26 : decode cX6_unusedPlace 26 = .ok (.iload 4, 2) := by decide +kernel
theorem dX6_unusedPlace_28 : decode cX6_unusedPlace 28 = .ok (.ireturn, 1) := by decide +kernel
theorem dX6_unusedPlace_29 : decode cX6_unusedPlace 29 = .ok (.iinc 4 1, 3) := by decide +kernel
theorem dX6_unusedPlace_32 : decode cX6_unusedPlace 32 = .ok (.goto (-29), 3) := by decide +kernel
theorem dX6_unusedPlace_35 : decode cX6_unusedPlace 35 = .ok (.iconst (-1), 1) := by decide +kernel
theorem dX6_unusedPlace_36 : decode cX6_unusedPlace 36 = .ok (.ireturn, 1) := by decide +kernel
theorem dX7_init_0 : decode cX7_init 0 = .ok (.aload_n 0, 1) := by decide +kernel
theorem dX7_init_1 : decode cX7_init 1 = .ok (.invokespecial 3, 3) := by decide +kernel
theorem dX7_init_4 : decode cX7_init 4 = .ok (.aload_n 0, 1) := by decide +kernel
theorem dX7_init_5 : decode cX7_init 5 = .ok (.bipush 8, 2) := by decide +kernel
theorem dX7_init_7 : decode cX7_init 7 = .ok (.anewarray 11, 3) := by decide +kernel
theorem dX7_init_10 : decode cX7_init 10 = .ok (.putfield 13, 3) := by decide +kernel
theorem dX7_init_13 : decode cX7_init 13 = .ok (.iconst 0, 1) := by decide +kernel
theorem dX7_init_14 : decode cX7_init 14 = .ok (.istore_n 1, 1) := by decide +kernel
theorem dX7_init_15 : decode cX7_init 15 = .ok (.iload_n 1, 1) := by decide +kernel
theorem dX7_init_16 : decode cX7_init 16 = .ok (.bipush 8, 2) := by decide +kernel
theorem dX7_init_18 : decode cX7_init 18 = .ok (.if_icmp .ge 22, 3) := by decide +kernel
theorem dX7_init_21 : decode cX7_init 21 = .ok (.aload_n 0, 1) := by decide +kernel
theorem dX7_init_22 : decode cX7_init 22 = .ok (.getfield 13, 3) := by decide +kernel
theorem dX7_init_25 : decode cX7_init 25 = .ok (.iload_n 1, 1) := by decide +kernel
theorem dX7_init_26 : decode cX7_init 26 = .ok (.new 11, 3) := by decide +kernel
theorem dX7_init_29 : decode cX7_init 29 = .ok (.dup, 1) := by decide +kernel
theorem dX7_init_30 : decode cX7_init 30 = .ok (.invokespecial 17, 3) := by decide +kernel
theorem dX7_init_33 : decode cX7_init 33 = .ok (.aastore, 1) := by decide +kernel
theorem dX7_init_34 : decode cX7_init 34 = .ok (.iinc 1 1, 3) := by decide +kernel
theorem dX7_init_37 : decode cX7_init 37 = .ok (.goto (-22), 3) := by decide +kernel
theorem dX7_init_40 : decode cX7_init 40 = .ok (.return_, 1) := by decide +kernel
theorem dX7_push_0 : decode cX7_push 0 = .ok (.aload_n 0, 1) := by decide +kernel
theorem dX7_push_1 : decode cX7_push 1 = .ok (.getfield 13, 3) := by decide +kernel
theorem dX7_push_4 : decode cX7_push 4 = .ok (.aload_n 0, 1) := by decide +kernel
theorem dX7_push_5 : decode cX7_push 5 = .ok (.getfield 18, 3) := by decide +kernel
theorem dX7_push_8 : decode cX7_push 8 = .ok (.aload_n 0, 1) := by decide +kernel
theorem dX7_push_9 : decode cX7_push 9 = .ok (.getfield 22, 3) := by decide +kernel
theorem dX7_push_12 : decode cX7_push 12 = .ok (.iadd, 1) := by decide +kernel
theorem dX7_push_13 : decode cX7_push 13 = .ok (.bipush 8, 2) := by decide +kernel
theorem dX7_push_15 : decode cX7_push 15 = .ok (.irem, 1) := by decide +kernel
theorem dX7_push_16 : decode cX7_push 16 = .ok (.aaload, 1) := by decide +kernel
theorem dX7_push_17 : decode cX7_push 17 = .ok (.aload_n 1, 1) := by decide +kernel
theorem dX7_push_18 : decode cX7_push 18 = .ok (.invokevirtual 25, 3) := by decide +kernel
theorem dX7_push_21 : decode cX7_push 21 = .ok (.aload_n 0, 1) := by decide +kernel
theorem dX7_push_22 : decode cX7_push 22 = .ok (.getfield 22, 3) := by decide +kernel
theorem dX7_push_25 : decode cX7_push 25 = .ok (.bipush 8, 2) := by decide +kernel
theorem dX7_push_27 : decode cX7_push 27 = .ok (.if_icmp .ge 16, 3) := by decide +kernel
theorem dX7_push_30 : decode cX7_push 30 = .ok (.aload_n 0, 1) := by decide +kernel
theorem dX7_push_31 : decode cX7_push 31 = .ok (.dup, 1) := by decide +kernel
theorem dX7_push_32 : decode cX7_push 32 = .ok (.getfield 22, 3) := by decide +kernel
theorem dX7_push_35 : decode cX7_push 35 = .ok (.iconst 1, 1) := by decide +kernel
theorem dX7_push_36 : decode cX7_push 36 = .ok (.iadd, 1) := by decide +kernel
theorem dX7_push_37 : decode cX7_push 37 = .ok (.putfield 22, 3) := by decide +kernel
theorem dX7_push_40 : decode cX7_push 40 = .ok (.goto 16, 3) := by decide +kernel
theorem dX7_push_43 : decode cX7_push 43 = .ok (.aload_n 0, 1) := by decide +kernel
theorem dX7_push_44 : decode cX7_push 44 = .ok (.aload_n 0, 1) := by decide +kernel
theorem dX7_push_45 : decode cX7_push 45 = .ok (.getfield 18, 3) := by decide +kernel
theorem dX7_push_48 : decode cX7_push 48 = .ok (.iconst 1, 1) := by decide +kernel
theorem dX7_push_49 : decode cX7_push 49 = .ok (.iadd, 1) := by decide +kernel
theorem dX7_push_50 : decode cX7_push 50 = .ok (.bipush 8, 2) := by decide +kernel
theorem dX7_push_52 : decode cX7_push 52 = .ok (.irem, 1) := by decide +kernel
theorem dX7_push_53 : decode cX7_push 53 = .ok (.putfield 18, 3) := by decide +kernel
theorem dX7_push_56 : decode cX7_push 56 = .ok (.return_, 1) := by decide +kernel
theorem dX7_pop_0 : decode cX7_pop 0 = .ok (.aload_n 0, 1) := by decide +kernel
theorem dX7_pop_1 : decode cX7_pop 1 = .ok (.getfield 22, 3) := by decide +kernel
theorem dX7_pop_4 : decode cX7_pop 4 = .ok (.ifCond .ne 5, 3) := by decide +kernel
theorem dX7_pop_7 : decode cX7_pop 7 = .ok (.iconst (-1), 1) := by decide +kernel
theorem dX7_pop_8 : decode cX7_pop 8 = .ok (.ireturn, 1) := by decide +kernel
theorem dX7_pop_9 : decode cX7_pop 9 = .ok (.aload_n 0, 1) := by decide +kernel
theorem dX7_pop_10 : decode cX7_pop 10 = .ok (.dup, 1) := by decide +kernel
theorem dX7_pop_11 : decode cX7_pop 11 = .ok (.getfield 22, 3) := by decide +kernel
theorem dX7_pop_14 : decode cX7_pop 14 = .ok (.iconst 1, 1) := by decide +kernel
theorem dX7_pop_15 : decode cX7_pop 15 = .ok (.isub, 1) := by decide +kernel
theorem dX7_pop_16 : decode cX7_pop 16 = .ok (.putfield 22, 3) := by decide +kernel
theorem dX7_pop_19 : decode cX7_pop 19 = .ok (.aload_n 1, 1) := by decide +kernel
theorem dX7_pop_20 : decode cX7_pop 20 = .ok (.aload_n 0, 1) := by decide +kernel
theorem dX7_pop_21 : decode cX7_pop 21 = .ok (.getfield 13, 3) := by decide +kernel
theorem dX7_pop_24 : decode cX7_pop 24 = .ok (.aload_n 0, 1) := by decide +kernel
theorem dX7_pop_25 : decode cX7_pop 25 = .ok (.getfield 18, 3) := by decide +kernel
theorem dX7_pop_28 : decode cX7_pop 28 = .ok (.aload_n 0, 1) := by decide +kernel
theorem dX7_pop_29 : decode cX7_pop 29 = .ok (.getfield 22, 3) := by decide +kernel
theorem dX7_pop_32 : decode cX7_pop 32 = .ok (.iadd, 1) := by decide +kernel
theorem dX7_pop_33 : decode cX7_pop 33 = .ok (.bipush 8, 2) := by decide +kernel
theorem dX7_pop_35 : decode cX7_pop 35 = .ok (.irem, 1) := by decide +kernel
theorem dX7_pop_36 : decode cX7_pop 36 = .ok (.aaload, 1) := by decide +kernel
theorem dX7_pop_37 : decode cX7_pop 37 = .ok (.invokevirtual 25, 3) := by decide +kernel
theorem dX7_pop_40 : decode cX7_pop 40 = .ok (.aload_n 0, 1) := by decide +kernel
theorem dX7_pop_41 : decode cX7_pop 41 = .ok (.getfield 22, 3) := by decide +kernel
theorem dX7_pop_44 : decode cX7_pop 44 = .ok (.ireturn, 1) := by decide +kernel
theorem dX8_init_0 : decode cX8_init 0 = .ok (.aload_n 0, 1) := by decide +kernel
theorem dX8_init_1 : decode cX8_init 1 = .ok (.invokespecial 5, 3) := by decide +kernel
theorem dX8_init_4 : decode cX8_init 4 = .ok (.aload_n 0, 1) := by decide +kernel
theorem dX8_init_5 : decode cX8_init 5 = .ok (.bipush 40, 2) := by decide +kernel
theorem dX8_init_7 : decode cX8_init 7 = .ok (.newarray .int, 2) := by decide +kernel
theorem dX8_init_9 : decode cX8_init 9 = .ok (.putfield 11, 3) := by decide +kernel
theorem dX8_init_12 : decode cX8_init 12 = .ok (.aload_n 0, 1) := by decide +kernel
theorem dX8_init_13 : decode cX8_init 13 = .ok (.bipush 40, 2) := by decide +kernel
theorem dX8_init_15 : decode cX8_init 15 = .ok (.newarray .int, 2) := by decide +kernel
theorem dX8_init_17 : decode cX8_init 17 = .ok (.putfield 15, 3) := by decide +kernel
theorem dX8_init_20 : decode cX8_init 20 = .ok (.aload_n 0, 1) := by decide +kernel
theorem dX8_init_21 : decode cX8_init 21 = .ok (.bipush 40, 2) := by decide +kernel
theorem dX8_init_23 : decode cX8_init 23 = .ok (.newarray .int, 2) := by decide +kernel
theorem dX8_init_25 : decode cX8_init 25 = .ok (.putfield 18, 3) := by decide +kernel
theorem dX8_init_28 : decode cX8_init 28 = .ok (.return_, 1) := by decide +kernel
theorem dX8_copy_0 : decode cX8_copy 0 = .ok (.aload_n 0, 1) := by decide +kernel
theorem dX8_copy_1 : decode cX8_copy 1 = .ok (.aload_n 1, 1) := by decide +kernel
theorem dX8_copy_2 : decode cX8_copy 2 = .ok (.getfield 21, 3) := by decide +kernel
theorem dX8_copy_5 : decode cX8_copy 5 = .ok (.putfield 21, 3) := by decide +kernel
theorem dX8_copy_8 : decode cX8_copy 8 = .ok (.aload_n 0, 1) := by decide +kernel
theorem dX8_copy_9 : decode cX8_copy 9 = .ok (.aload_n 1, 1) := by decide +kernel
theorem dX8_copy_10 : decode cX8_copy 10 = .ok (.getfield 25, 3) := by decide +kernel
theorem dX8_copy_13 : decode cX8_copy 13 = .ok (.putfield 25, 3) := by decide +kernel
theorem dX8_copy_16 : decode cX8_copy 16 = .ok (.aload_n 1, 1) := by decide +kernel
theorem dX8_copy_17 : decode cX8_copy 17 = .ok (.getfield 11, 3) := by decide +kernel
theorem dX8_copy_20 : decode cX8_copy 20 = .ok (.iconst 0, 1) := by decide +kernel
theorem dX8_copy_21 : decode cX8_copy 21 = .ok (.aload_n 0, 1) := by decide +kernel
theorem dX8_copy_22 : decode cX8_copy 22 = .ok (.getfield 11, 3) := by decide +kernel
theorem dX8_copy_25 : decode cX8_copy 25 = .ok (.iconst 0, 1) := by decide +kernel
theorem dX8_copy_26 : decode cX8_copy 26 = .ok (.bipush 40, 2) := by decide +kernel
theorem dX8_copy_28 : decode cX8_copy 28 = .ok (.invokestatic 28, 3) := by decide +kernel
theorem dX8_copy_31 : decode cX8_copy 31 = .ok (.aload_n 1, 1) := by decide +kernel
theorem dX8_copy_32 : decode cX8_copy 32 = .ok (.getfield 15, 3) := by decide +kernel
theorem dX8_copy_35 : decode cX8_copy 35 = .ok (.iconst 0, 1) := by decide +kernel
theorem dX8_copy_36 : decode cX8_copy 36 = .ok (.aload_n 0, 1) := by decide +kernel
theorem dX8_copy_37 : decode cX8_copy 37 = .ok (.getfield 15, 3) := by decide +kernel
theorem dX8_copy_40 : decode cX8_copy 40 = .ok (.iconst 0, 1) := by decide +kernel
theorem dX8_copy_41 : decode cX8_copy 41 = .ok (.bipush 40, 2) := by decide +kernel
theorem dX8_copy_43 : decode cX8_copy 43 = .ok (.invokestatic 28, 3) := by decide +kernel
theorem dX8_copy_46 : decode cX8_copy 46 = .ok (.aload_n 1, 1) := by decide +kernel
theorem dX8_copy_47 : decode cX8_copy 47 = .ok (.getfield 18, 3) := by decide +kernel
theorem dX8_copy_50 : decode cX8_copy 50 = .ok (.iconst 0, 1) := by decide +kernel
theorem dX8_copy_51 : decode cX8_copy 51 = .ok (.aload_n 0, 1) := by decide +kernel
theorem dX8_copy_52 : decode cX8_copy 52 = .ok (.getfield 18, 3) := by decide +kernel
theorem dX8_copy_55 : decode cX8_copy 55 = .ok (.iconst 0, 1) := by decide +kernel
theorem dX8_copy_56 : decode cX8_copy 56 = .ok (.bipush 40, 2) := by decide +kernel
theorem dX8_copy_58 : decode cX8_copy 58 = .ok (.invokestatic 28, 3) := by decide +kernel
theorem dX8_copy_61 : decode cX8_copy 61 = .ok (.return_, 1) := by decide +kernel
theorem dX8_read_0 : decode cX8_read 0 = .ok (.aload_n 0, 1) := by decide +kernel
theorem dX8_read_1 : decode cX8_read 1 = .ok (.iconst 0, 1) := by decide +kernel
theorem dX8_read_2 : decode cX8_read 2 = .ok (.putfield 21, 3) := by decide +kernel
theorem dX8_read_5 : decode cX8_read 5 = .ok (.aload_n 0, 1) := by decide +kernel
theorem dX8_read_6 : decode cX8_read 6 = .ok (.iconst 0, 1) := by decide +kernel
theorem dX8_read_7 : decode cX8_read 7 = .ok (.putfield 25, 3) := by decide +kernel
theorem dX8_read_10 : decode cX8_read 10 = .ok (.aload_n 1, 1) := by decide +kernel
theorem dX8_read_11 : decode cX8_read 11 = .ok (.sipush 200, 3) := by decide +kernel
theorem dX8_read_14 : decode cX8_read 14 = .ok (.invokevirtual 34, 3) := by decide +kernel
theorem dX8_read_17 : decode cX8_read 17 = .ok (.aload_n 0, 1) := by decide +kernel
theorem dX8_read_18 : decode cX8_read 18 = .ok (.aload_n 1, 1) := by decide +kernel
theorem dX8_read_19 : decode cX8_read 19 = .ok (.aload_n 2, 1) := by decide +kernel
theorem dX8_read_20 : decode cX8_read 20 = .ok (.iconst 1, 1) := by decide +kernel
theorem dX8_read_21 : decode cX8_read 21 = .ok (.invokevirtual 40, 3) := by decide +kernel
theorem dX8_read_24 : decode cX8_read 24 = .ok (.ifCond .eq 8, 3) := by decide +kernel
theorem dX8_read_27 : decode cX8_read 27 = .ok (.aload_n 1, 1) := by decide +kernel
theorem dX8_read_28 : decode cX8_read 28 = .ok (.invokevirtual 44, 3) := by decide +kernel
theorem dX8_read_31 : decode cX8_read 31 = .ok (.pop, 1) := by decide +kernel
theorem dX8_read_32 : decode cX8_read 32 = .ok (.return_, 1) := by decide +kernel
theorem dX8_readCondition_0 : decode cX8_readCondition 0 = .ok (.iconst 0, 1) := by decide +kernel
theorem dX8_readCondition_1 : decode cX8_readCondition 1 = .ok (.istore 4, 2) := by decide +kernel
theorem dX8_readCondition_3 : decode cX8_readCondition 3 = .ok (.iload 4, 2) := by decide +kernel
theorem dX8_readCondition_5 : decode cX8_readCondition 5 = .ok (.bipush 20, 2) := by decide +kernel
theorem dX8_readCondition_7 : decode cX8_readCondition 7 = .ok (.if_icmp .gt 96, 3) := by decide +kernel
theorem dX8_readCondition_10 : decode cX8_readCondition 10 = .ok (.iconst 0, 1) := by decide +kernel
theorem dX8_readCondition_11 : decode cX8_readCondition 11 = .ok (.istore 5, 2) := by decide +kernel
theorem dX8_readCondition_13 : decode cX8_readCondition 13 = .ok (.iload 5, 2) := by decide +kernel
theorem dX8_readCondition_15 : decode cX8_readCondition 15 = .ok (.bipush 20, 2) := by decide +kernel
theorem dX8_readCondition_17 : decode cX8_readCondition 17 = .ok (.if_icmp .gt 51, 3) := by decide +kernel
theorem dX8_readCondition_20 : decode cX8_readCondition 20 = .ok (.aload_n 0, 1) := by decide +kernel
theorem dX8_readCondition_21 : decode cX8_readCondition 21 = .ok (.aload_n 1, 1) := by decide +kernel
theorem dX8_readCondition_22 : decode cX8_readCondition 22 = .ok (.aload_n 2, 1) := by decide +kernel
theorem dX8_readCondition_23 : decode cX8_readCondition 23 = .ok (.iload_n 3, 1) := by decide +kernel
theorem dX8_readCondition_24 : decode cX8_readCondition 24 = .ok (.invokevirtual 48, 3) := by decide +kernel
theorem dX8_readCondition_27 : decode cX8_readCondition 27 = .ok (.ifCond .ne 5, 3) := by decide +kernel
theorem dX8_readCondition_30 : decode cX8_readCondition 30 = .ok (.iconst 0, 1) := by decide +kernel
theorem dX8_readCondition_31 : decode cX8_readCondition 31 = .ok (.ireturn, 1) := by decide +kernel
theorem dX8_readCondition_32 : decode cX8_readCondition 32 = .ok (.iload 5, 2) := by decide +kernel
theorem dX8_readCondition_34 : decode cX8_readCondition 34 = .ok (.ifCond .le 12, 3) := by decide +kernel
theorem dX8_readCondition_37 : decode cX8_readCondition 37 = .ok (.aload_n 0, 1) := by decide +kernel
theorem dX8_readCondition_38 : decode cX8_readCondition 38 = .ok (.bipush 12, 2) := by decide +kernel
theorem dX8_readCondition_40 : decode cX8_readCondition 40 = .ok (.iconst 0, 1) := by decide +kernel
theorem dX8_readCondition_41 : decode cX8_readCondition 41 = .ok (.iconst 0, 1) := by decide +kernel
theorem dX8_readCondition_42 : decode cX8_readCondition 42 = .ok (.invokevirtual 51, 3) := by decide +kernel
theorem dX8_readCondition_45 : decode cX8_readCondition 45 = .ok (.pop, 1) := by decide +kernel
theorem dX8_readCondition_46 : decode cX8_readCondition 46 = .ok (.aload_n 1, 1) := by decide +kernel
theorem dX8_readCondition_47 : decode cX8_readCondition 47 = .ok (.invokevirtual 55, 3) := by decide +kernel
theorem dX8_readCondition_50 : decode cX8_readCondition 50 = .ok (.bipush 12, 2) := by decide +kernel
theorem dX8_readCondition_52 : decode cX8_readCondition 52 = .ok (.if_icmp .eq 6, 3) := by decide +kernel
theorem dX8_readCondition_55 : decode cX8_readCondition 55 = .ok (.goto 13, 3) := by decide +kernel
theorem dX8_readCondition_58 : decode cX8_readCondition 58 = .ok (.aload_n 1, 1) := by decide +kernel
theorem dX8_readCondition_59 : decode cX8_readCondition 59 = .ok (.invokevirtual 59, 3) := by decide +kernel
theorem dX8_readCondition_62 : decode cX8_readCondition 62 = .ok (.iinc 5 1, 3) := by decide +kernel
theorem dX8_readCondition_65 : decode cX8_readCondition 65 = .ok (.goto (-52), 3) := by decide +kernel
theorem dX8_readCondition_68 : decode cX8_readCondition 68 = .ok (.iload 4, 2) := by decide +kernel
theorem dX8_readCondition_70 : decode cX8_readCondition 70 = .ok (.ifCond .le 12, 3) := by decide +kernel
theorem dX8_readCondition_73 : decode cX8_readCondition 73 = .ok (.aload_n 0, 1) := by decide +kernel
theorem dX8_readCondition_74 : decode cX8_readCondition 74 = .ok (.bipush 11, 2) := by decide +kernel
theorem dX8_readCondition_76 : decode cX8_readCondition 76 = .ok (.iconst 0, 1) := by decide +kernel
theorem dX8_readCondition_77 : decode cX8_readCondition 77 = .ok (.iconst 0, 1) := by decide +kernel
theorem dX8_readCondition_78 : decode cX8_readCondition 78 = .ok (.invokevirtual 51, 3) := by decide +kernel
theorem dX8_readCondition_81 : decode cX8_readCondition 81 = .ok (.pop, 1) := by decide +kernel
theorem dX8_readCondition_82 : decode cX8_readCondition 82 = .ok (.aload_n 1, 1) := by decide +kernel
theorem dX8_readCondition_83 : decode cX8_readCondition 83 = .ok (.invokevirtual 55, 3) := by decide +kernel
theorem dX8_readCondition_86 : decode cX8_readCondition 86 = .ok (.bipush 11, 2) := by decide +kernel
theorem dX8_readCondition_88 : decode cX8_readCondition 88 = .ok (.if_icmp .eq 5, 3) := by decide +kernel
theorem dX8_readCondition_91 : decode cX8_readCondition 91 = .ok (.iconst 1, 1) := by decide +kernel
theorem dX8_readCondition_92 : decode cX8_readCondition 92 = .ok (.ireturn, 1) := by decide +kernel
theorem dX8_readCondition_93 : decode cX8_readCondition 93 = .ok (.aload_n 1, 1) := by decide +kernel
theorem dX8_readCondition_94 : decode cX8_readCondition 94 = .ok (.invokevirtual 59, 3) := by decide +kernel
theorem dX8_readCondition_97 : decode cX8_readCondition 97 = .ok (.iinc 4 1, 3) := by decide +kernel
theorem dX8_readCondition_100 : decode cX8_readCondition 100 = .ok (.goto (-97), 3) := by decide +kernel
theorem dX8_readCondition_103 : decode cX8_readCondition 103 = .ok (.aload_n 1, 1) := by decide +kernel
theorem dX8_readCondition_104 : decode cX8_readCondition 104 = .ok (.iconst 4, 1) := by decide +kernel
theorem dX8_readCondition_105 : decode cX8_readCondition 105 = .ok (.invokevirtual 62, 3) := by decide +kernel
theorem dX8_readCondition_108 : decode cX8_readCondition 108 = .ok (.ireturn, 1) := by decide +kernel
theorem dX8_readOne_0 : decode cX8_readOne 0 = .ok (.aload_n 1, 1) := by decide +kernel
theorem dX8_readOne_1 : decode cX8_readOne 1 = .ok (.invokevirtual 55, 3) := by decide +kernel
theorem dX8_readOne_4 : decode cX8_readOne 4 = .ok (.istore 4, 2) := by decide +kernel
theorem dX8_readOne_6 : decode cX8_readOne 6 = .ok (.aload_n 1, 1) := by decide +kernel
theorem dX8_readOne_7 : decode cX8_readOne 7 = .ok (.bipush 40, 2) := by decide +kernel
theorem dX8_readOne_9 : decode cX8_readOne 9 = .ok (.invokevirtual 66, 3) := by decide +kernel
theorem dX8_readOne_12 : decode cX8_readOne 12 = .ok (.istore 5, 2) := by decide +kernel
theorem dX8_readOne_14 : decode cX8_readOne 14 = .ok (.iload 5, 2) := by decide +kernel
theorem dX8_readOne_16 : decode cX8_readOne 16 = .ok (.ifCond .ne 16, 3) := by decide +kernel
theorem dX8_readOne_19 : decode cX8_readOne 19 = .ok (.iload 4, 2) := by decide +kernel
theorem dX8_readOne_21 : decode cX8_readOne 21 = .ok (.bipush 13, 2) := by decide +kernel
theorem dX8_readOne_23 : decode cX8_readOne 23 = .ok (.if_icmp .ge 9, 3) := by decide +kernel
theorem dX8_readOne_26 : decode cX8_readOne 26 = .ok (.aload_n 1, 1) := by decide +kernel
theorem dX8_readOne_27 : decode cX8_readOne 27 = .ok (.iconst 1, 1) := by decide +kernel
theorem dX8_readOne_28 : decode cX8_readOne 28 = .ok (.invokevirtual 62, 3) := by decide +kernel
theorem dX8_readOne_31 : decode cX8_readOne 31 = .ok (.ireturn, 1) := by decide +kernel
theorem dX8_readOne_32 : decode cX8_readOne 32 = .ok (.aload_n 0, 1) := by decide +kernel
theorem dX8_readOne_33 : decode cX8_readOne 33 = .ok (.getfield 21, 3) := by decide +kernel
theorem dX8_readOne_36 : decode cX8_readOne 36 = .ok (.bipush 20, 2) := by decide +kernel
theorem dX8_readOne_38 : decode cX8_readOne 38 = .ok (.if_icmp .ge 9, 3) := by decide +kernel
theorem dX8_readOne_41 : decode cX8_readOne 41 = .ok (.iload_n 3, 1) := by decide +kernel
theorem dX8_readOne_42 : decode cX8_readOne 42 = .ok (.bipush 8, 2) := by decide +kernel
theorem dX8_readOne_44 : decode cX8_readOne 44 = .ok (.if_icmp .le 9, 3) := by decide +kernel
theorem dX8_readOne_47 : decode cX8_readOne 47 = .ok (.aload_n 1, 1) := by decide +kernel
theorem dX8_readOne_48 : decode cX8_readOne 48 = .ok (.iconst 4, 1) := by decide +kernel
theorem dX8_readOne_49 : decode cX8_readOne 49 = .ok (.invokevirtual 62, 3) := by decide +kernel
theorem dX8_readOne_52 : decode cX8_readOne 52 = .ok (.ireturn, 1) := by decide +kernel
theorem dX8_readOne_53 : decode cX8_readOne 53 = .ok (.aload_n 0, 1) := by decide +kernel
theorem dX8_readOne_54 : decode cX8_readOne 54 = .ok (.dup, 1) := by decide +kernel
theorem dX8_readOne_55 : decode cX8_readOne 55 = .ok (.getfield 21, 3) := by decide +kernel
theorem dX8_readOne_58 : decode cX8_readOne 58 = .ok (.iconst 1, 1) := by decide +kernel
theorem dX8_readOne_59 : decode cX8_readOne 59 = .ok (.iadd, 1) := by decide +kernel
theorem dX8_readOne_60 : decode cX8_readOne 60 = .ok (.putfield 21, 3) := by decide +kernel
theorem dX8_readOne_63 : decode cX8_readOne 63 = .ok (.aload_n 1, 1) := by decide +kernel
theorem dX8_readOne_64 : decode cX8_readOne 64 = .ok (.invokevirtual 59, 3) := by decide +kernel
theorem dX8_readOne_67 : decode cX8_readOne 67 = .ok (.iload 5, 2) := by decide +kernel
theorem dX8_readOne_69 : decode cX8_readOne 69 = .ok (.ifCond .eq 30, 3) := by decide +kernel
theorem dX8_readOne_72 : decode cX8_readOne 72 = .ok (.aload_n 0, 1) := by decide +kernel
theorem dX8_readOne_73 : decode cX8_readOne 73 = .ok (.aload_n 1, 1) := by decide +kernel
theorem dX8_readOne_74 : decode cX8_readOne 74 = .ok (.aload_n 2, 1) := by decide +kernel
theorem dX8_readOne_75 : decode cX8_readOne 75 = .ok (.iload_n 3, 1) := by decide +kernel
theorem dX8_readOne_76 : decode cX8_readOne 76 = .ok (.iconst 1, 1) := by decide +kernel
theorem dX8_readOne_77 : decode cX8_readOne 77 = .ok (.iadd, 1) := by decide +kernel
theorem dX8_readOne_78 : decode cX8_readOne 78 = .ok (.invokevirtual 40, 3) := by decide +kernel
theorem dX8_readOne_81 : decode cX8_readOne 81 = .ok (.ifCond .eq 16, 3) := by decide +kernel
theorem dX8_readOne_84 : decode cX8_readOne 84 = .ok (.aload_n 1, 1) := by decide +kernel
theorem dX8_readOne_85 : decode cX8_readOne 85 = .ok (.bipush 41, 2) := by decide +kernel
theorem dX8_readOne_87 : decode cX8_readOne 87 = .ok (.invokevirtual 69, 3) := by decide +kernel
theorem dX8_readOne_90 : decode cX8_readOne 90 = .ok (.ifCond .eq 7, 3) := by decide +kernel
theorem dX8_readOne_93 : decode cX8_readOne 93 = .ok (.iconst 1, 1) := by decide +kernel
theorem dX8_readOne_94 : decode cX8_readOne 94 = .ok (.goto 4, 3) := by decide +kernel
theorem dX8_readOne_97 : decode cX8_readOne 97 = .ok (.iconst 0, 1) := by decide +kernel
theorem dX8_readOne_98 : decode cX8_readOne 98 = .ok (.ireturn, 1) := by decide +kernel
theorem dX8_readOne_99 : decode cX8_readOne 99 = .ok (.iload 4, 2) := by decide +kernel
theorem dX8_readOne_101 : decode cX8_readOne 101 = .ok (.bipush 13, 2) := by decide +kernel
theorem dX8_readOne_103 : decode cX8_readOne 103 = .ok (.if_icmp .ne 32, 3) := by decide +kernel
theorem dX8_readOne_106 : decode cX8_readOne 106 = .ok (.aload_n 0, 1) := by decide +kernel
theorem dX8_readOne_107 : decode cX8_readOne 107 = .ok (.aload_n 1, 1) := by decide +kernel
theorem dX8_readOne_108 : decode cX8_readOne 108 = .ok (.aload_n 2, 1) := by decide +kernel
theorem dX8_readOne_109 : decode cX8_readOne 109 = .ok (.iload_n 3, 1) := by decide +kernel
theorem dX8_readOne_110 : decode cX8_readOne 110 = .ok (.iconst 1, 1) := by decide +kernel
theorem dX8_readOne_111 : decode cX8_readOne 111 = .ok (.iadd, 1) := by decide +kernel
theorem dX8_readOne_112 : decode cX8_readOne 112 = .ok (.invokevirtual 48, 3) := by decide +kernel
theorem dX8_readOne_115 : decode cX8_readOne 115 = .ok (.ifCond .eq 18, 3) := by decide +kernel
theorem dX8_readOne_118 : decode cX8_readOne 118 = .ok (.aload_n 0, 1) := by decide +kernel
theorem dX8_readOne_119 : decode cX8_readOne 119 = .ok (.bipush 13, 2) := by decide +kernel
theorem dX8_readOne_121 : decode cX8_readOne 121 = .ok (.iconst 0, 1) := by decide +kernel
theorem dX8_readOne_122 : decode cX8_readOne 122 = .ok (.iconst 0, 1) := by decide +kernel
theorem dX8_readOne_123 : decode cX8_readOne 123 = .ok (.invokevirtual 51, 3) := by decide +kernel
theorem dX8_readOne_126 : decode cX8_readOne 126 = .ok (.ifCond .eq 7, 3) := by decide +kernel
theorem dX8_readOne_129 : decode cX8_readOne 129 = .ok (.iconst 1, 1) := by decide +kernel
theorem dX8_readOne_130 : decode cX8_readOne 130 = .ok (.goto 4, 3) := by decide +kernel
theorem dX8_readOne_133 : decode cX8_readOne 133 = .ok (.iconst 0, 1) := by decide +kernel
theorem dX8_readOne_134 : decode cX8_readOne 134 = .ok (.ireturn, 1) := by decide +kernel
theorem dX8_readOne_135 : decode cX8_readOne 135 = .ok (.iload 4, 2) := by decide +kernel
theorem dX8_readOne_137 : decode cX8_readOne 137 = .ok (.bipush 19, 2) := by decide +kernel
theorem dX8_readOne_139 : decode cX8_readOne 139 = .ok (.if_icmp .ne 34, 3) := by decide +kernel
theorem dX8_readOne_142 : decode cX8_readOne 142 = .ok (.aload_n 2, 1) := by decide +kernel
theorem dX8_readOne_143 : decode cX8_readOne 143 = .ok (.aload_n 1, 1) := by decide +kernel
theorem dX8_readOne_144 : decode cX8_readOne 144 = .ok (.invokevirtual 72, 3) := by decide +kernel
theorem dX8_readOne_147 : decode cX8_readOne 147 = .ok (.istore 6, 2) := by decide +kernel
theorem dX8_readOne_149 : decode cX8_readOne 149 = .ok (.iload 6, 2) := by decide +kernel
theorem dX8_readOne_151 : decode cX8_readOne 151 = .ok (.iconst (-1), 1) := by decide +kernel
theorem dX8_readOne_152 : decode cX8_readOne 152 = .ok (.if_icmp .eq 19, 3) := by decide +kernel
theorem dX8_readOne_155 : decode cX8_readOne 155 = .ok (.aload_n 0, 1) := by decide +kernel
theorem dX8_readOne_156 : decode cX8_readOne 156 = .ok (.bipush 19, 2) := by decide +kernel
theorem dX8_readOne_158 : decode cX8_readOne 158 = .ok (.iconst 0, 1) := by decide +kernel
theorem dX8_readOne_159 : decode cX8_readOne 159 = .ok (.iload 6, 2) := by decide +kernel
theorem dX8_readOne_161 : decode cX8_readOne 161 = .ok (.invokevirtual 51, 3) := by decide +kernel
theorem dX8_readOne_164 : decode cX8_readOne 164 = .ok (.ifCond .eq 7, 3) := by decide +kernel
theorem dX8_readOne_167 : decode cX8_readOne 167 = .ok (.iconst 1, 1) := by decide +kernel
theorem dX8_readOne_168 : decode cX8_readOne 168 = .ok (.goto 4, 3) := by decide +kernel
theorem dX8_readOne_171 : decode cX8_readOne 171 = .ok (.iconst 0, 1) := by decide +kernel
theorem dX8_readOne_172 : decode cX8_readOne 172 = .ok (.ireturn, 1) := by decide +kernel
theorem dX8_readOne_173 : decode cX8_readOne 173 = .ok (.iload 4, 2) := by decide +kernel
theorem dX8_readOne_175 : decode cX8_readOne 175 = .ok (.bipush 20, 2) := by decide +kernel
theorem dX8_readOne_177 : decode cX8_readOne 177 = .ok (.if_icmp .lt 13, 3) := by decide +kernel
theorem dX8_readOne_180 : decode cX8_readOne 180 = .ok (.aload_n 0, 1) := by decide +kernel
theorem dX8_readOne_181 : decode cX8_readOne 181 = .ok (.aload_n 1, 1) := by decide +kernel
theorem dX8_readOne_182 : decode cX8_readOne 182 = .ok (.iload 4, 2) := by decide +kernel
theorem dX8_readOne_184 : decode cX8_readOne 184 = .ok (.invokevirtual 78, 3) := by decide +kernel
theorem dX8_readOne_187 : decode cX8_readOne 187 = .ok (.goto 11, 3) := by decide +kernel
theorem dX8_readOne_190 : decode cX8_readOne 190 = .ok (.aload_n 0, 1) := by decide +kernel
theorem dX8_readOne_191 : decode cX8_readOne 191 = .ok (.iload 4, 2) := by decide +kernel
theorem dX8_readOne_193 : decode cX8_readOne 193 = .ok (.iconst 0, 1) := by decide +kernel
theorem dX8_readOne_194 : decode cX8_readOne 194 = .ok (.iconst 0, 1) := by decide +kernel
theorem dX8_readOne_195 : decode cX8_readOne 195 = .ok (.invokevirtual 51, 3) := by decide +kernel
theorem dX8_readOne_198 : decode cX8_readOne 198 = .ok (.ireturn, 1) := by decide +kernel
theorem dX8_readComparison_0 : decode cX8_readComparison 0 = .ok (.aload_n 1, 1) := by decide +kernel
theorem dX8_readComparison_1 : decode cX8_readComparison 1 = .ok (.invokevirtual 82, 3) := by decide +kernel
theorem dX8_readComparison_4 : decode cX8_readComparison 4 = .ok (.istore_n 3, 1) := by decide +kernel
theorem dX8_readComparison_5 : decode cX8_readComparison 5 = .ok (.iload_n 3, 1) := by decide +kernel
theorem dX8_readComparison_6 : decode cX8_readComparison 6 = .ok (.iconst (-1), 1) := by decide +kernel
theorem dX8_readComparison_7 : decode cX8_readComparison 7 = .ok (.if_icmp .ne 5, 3) := by decide +kernel
theorem dX8_readComparison_10 : decode cX8_readComparison 10 = .ok (.iconst 0, 1) := by decide +kernel
theorem dX8_readComparison_11 : decode cX8_readComparison 11 = .ok (.ireturn, 1) := by decide +kernel
theorem dX8_readComparison_12 : decode cX8_readComparison 12 = .ok (.aload_n 1, 1) := by decide +kernel
theorem dX8_readComparison_13 : decode cX8_readComparison 13 = .ok (.iconst 0, 1) := by decide +kernel
theorem dX8_readComparison_14 : decode cX8_readComparison 14 = .ok (.sipush 999, 3) := by decide +kernel
theorem dX8_readComparison_17 : decode cX8_readComparison 17 = .ok (.invokevirtual 85, 3) := by decide +kernel
theorem dX8_readComparison_20 : decode cX8_readComparison 20 = .ok (.istore 4, 2) := by decide +kernel
theorem dX8_readComparison_22 : decode cX8_readComparison 22 = .ok (.iload 4, 2) := by decide +kernel
theorem dX8_readComparison_24 : decode cX8_readComparison 24 = .ok (.iconst (-1), 1) := by decide +kernel
theorem dX8_readComparison_25 : decode cX8_readComparison 25 = .ok (.if_icmp .eq 18, 3) := by decide +kernel
theorem dX8_readComparison_28 : decode cX8_readComparison 28 = .ok (.aload_n 0, 1) := by decide +kernel
theorem dX8_readComparison_29 : decode cX8_readComparison 29 = .ok (.iload_n 2, 1) := by decide +kernel
theorem dX8_readComparison_30 : decode cX8_readComparison 30 = .ok (.iload_n 3, 1) := by decide +kernel
theorem dX8_readComparison_31 : decode cX8_readComparison 31 = .ok (.iload 4, 2) := by decide +kernel
theorem dX8_readComparison_33 : decode cX8_readComparison 33 = .ok (.invokevirtual 51, 3) := by decide +kernel
theorem dX8_readComparison_36 : decode cX8_readComparison 36 = .ok (.ifCond .eq 7, 3) := by decide +kernel
theorem dX8_readComparison_39 : decode cX8_readComparison 39 = .ok (.iconst 1, 1) := by decide +kernel
theorem dX8_readComparison_40 : decode cX8_readComparison 40 = .ok (.goto 4, 3) := by decide +kernel
theorem dX8_readComparison_43 : decode cX8_readComparison 43 = .ok (.iconst 0, 1) := by decide +kernel
theorem dX8_readComparison_44 : decode cX8_readComparison 44 = .ok (.ireturn, 1) := by decide +kernel
theorem dX8_step_0 : decode cX8_step 0 = .ok (.aload_n 0, 1) := by decide +kernel
theorem dX8_step_1 : decode cX8_step 1 = .ok (.getfield 25, 3) := by decide +kernel
theorem dX8_step_4 : decode cX8_step 4 = .ok (.bipush 40, 2) := by decide +kernel
theorem dX8_step_6 : decode cX8_step 6 = .ok (.if_icmp .ge 43, 3) := by decide +kernel
theorem dX8_step_9 : decode cX8_step 9 = .ok (.aload_n 0, 1) := by decide +kernel
theorem dX8_step_10 : decode cX8_step 10 = .ok (.getfield 11, 3) := by decide +kernel
theorem dX8_step_13 : decode cX8_step 13 = .ok (.aload_n 0, 1) := by decide +kernel
theorem dX8_step_14 : decode cX8_step 14 = .ok (.getfield 25, 3) := by decide +kernel
theorem dX8_step_17 : decode cX8_step 17 = .ok (.iload_n 1, 1) := by decide +kernel
theorem dX8_step_18 : decode cX8_step 18 = .ok (.iastore, 1) := by decide +kernel
theorem dX8_step_19 : decode cX8_step 19 = .ok (.aload_n 0, 1) := by decide +kernel
theorem dX8_step_20 : decode cX8_step 20 = .ok (.getfield 15, 3) := by decide +kernel
theorem dX8_step_23 : decode cX8_step 23 = .ok (.aload_n 0, 1) := by decide +kernel
theorem dX8_step_24 : decode cX8_step 24 = .ok (.getfield 25, 3) := by decide +kernel
theorem dX8_step_27 : decode cX8_step 27 = .ok (.iload_n 2, 1) := by decide +kernel
theorem dX8_step_28 : decode cX8_step 28 = .ok (.iastore, 1) := by decide +kernel
theorem dX8_step_29 : decode cX8_step 29 = .ok (.aload_n 0, 1) := by decide +kernel
theorem dX8_step_30 : decode cX8_step 30 = .ok (.getfield 18, 3) := by decide +kernel
theorem dX8_step_33 : decode cX8_step 33 = .ok (.aload_n 0, 1) := by decide +kernel
theorem dX8_step_34 : decode cX8_step 34 = .ok (.getfield 25, 3) := by decide +kernel
theorem dX8_step_37 : decode cX8_step 37 = .ok (.iload_n 3, 1) := by decide +kernel
theorem dX8_step_38 : decode cX8_step 38 = .ok (.iastore, 1) := by decide +kernel
theorem dX8_step_39 : decode cX8_step 39 = .ok (.aload_n 0, 1) := by decide +kernel
theorem dX8_step_40 : decode cX8_step 40 = .ok (.dup, 1) := by decide +kernel
theorem dX8_step_41 : decode cX8_step 41 = .ok (.getfield 25, 3) := by decide +kernel
theorem dX8_step_44 : decode cX8_step 44 = .ok (.iconst 1, 1) := by decide +kernel
theorem dX8_step_45 : decode cX8_step 45 = .ok (.iadd, 1) := by decide +kernel
theorem dX8_step_46 : decode cX8_step 46 = .ok (.putfield 25, 3) := by decide +kernel
theorem dX8_step_49 : decode cX8_step 49 = .ok (.iconst 1, 1) := by decide +kernel
theorem dX8_step_50 : decode cX8_step 50 = .ok (.ireturn, 1) := by decide +kernel
theorem dX8_holdsOf_0 : decode cX8_holdsOf 0 = .ok (.iconst 0, 1) := by decide +kernel
theorem dX8_holdsOf_1 : decode cX8_holdsOf 1 = .ok (.istore 5, 2) := by decide +kernel
theorem dX8_holdsOf_3 : decode cX8_holdsOf 3 = .ok (.iconst 0, 1) := by decide +kernel
theorem dX8_holdsOf_4 : decode cX8_holdsOf 4 = .ok (.istore 6, 2) := by decide +kernel
theorem dX8_holdsOf_6 : decode cX8_holdsOf 6 = .ok (.iload 6, 2) := by decide +kernel
theorem dX8_holdsOf_8 : decode cX8_holdsOf 8 = .ok (.aload_n 0, 1) := by decide +kernel
theorem dX8_holdsOf_9 : decode cX8_holdsOf 9 = .ok (.getfield 25, 3) := by decide +kernel
theorem dX8_holdsOf_12 : decode cX8_holdsOf 12 = .ok (.if_icmp .ge 109, 3) := by decide +kernel
theorem dX8_holdsOf_15 : decode cX8_holdsOf 15 = .ok (.aload_n 0, 1) := by decide +kernel
theorem dX8_holdsOf_16 : decode cX8_holdsOf 16 = .ok (.getfield 11, 3) := by decide +kernel
theorem dX8_holdsOf_19 : decode cX8_holdsOf 19 = .ok (.iload 6, 2) := by decide +kernel
theorem dX8_holdsOf_21 : decode cX8_holdsOf 21 = .ok (.iaload, 1) := by decide +kernel
theorem dX8_holdsOf_22 : decode cX8_holdsOf 22 = .ok (.bipush 13, 2) := by decide +kernel
theorem dX8_holdsOf_24 : decode cX8_holdsOf 24 = .ok (.if_icmp .ne 12, 3) := by decide +kernel
theorem dX8_holdsOf_27 : decode cX8_holdsOf 27 = .ok (.iload 5, 2) := by decide +kernel
theorem dX8_holdsOf_29 : decode cX8_holdsOf 29 = .ok (.iconst 1, 1) := by decide +kernel
theorem dX8_holdsOf_30 : decode cX8_holdsOf 30 = .ok (.ixor, 1) := by decide +kernel
theorem dX8_holdsOf_31 : decode cX8_holdsOf 31 = .ok (.istore 5, 2) := by decide +kernel
theorem dX8_holdsOf_33 : decode cX8_holdsOf 33 = .ok (.goto 82, 3) := by decide +kernel
theorem dX8_holdsOf_36 : decode cX8_holdsOf 36 = .ok (.aload_n 0, 1) := by decide +kernel
theorem dX8_holdsOf_37 : decode cX8_holdsOf 37 = .ok (.getfield 11, 3) := by decide +kernel
theorem dX8_holdsOf_40 : decode cX8_holdsOf 40 = .ok (.iload 6, 2) := by decide +kernel
theorem dX8_holdsOf_42 : decode cX8_holdsOf 42 = .ok (.iaload, 1) := by decide +kernel
theorem dX8_holdsOf_43 : decode cX8_holdsOf 43 = .ok (.bipush 12, 2) := by decide +kernel
theorem dX8_holdsOf_45 : decode cX8_holdsOf 45 = .ok (.if_icmp .ne 18, 3) := by decide +kernel
theorem dX8_holdsOf_48 : decode cX8_holdsOf 48 = .ok (.iload 5, 2) := by decide +kernel
theorem dX8_holdsOf_50 : decode cX8_holdsOf 50 = .ok (.iconst 1, 1) := by decide +kernel
theorem dX8_holdsOf_51 : decode cX8_holdsOf 51 = .ok (.ishr, 1) := by decide +kernel
theorem dX8_holdsOf_52 : decode cX8_holdsOf 52 = .ok (.iload 5, 2) := by decide +kernel
theorem dX8_holdsOf_54 : decode cX8_holdsOf 54 = .ok (.bipush (-2), 2) := by decide +kernel
theorem dX8_holdsOf_56 : decode cX8_holdsOf 56 = .ok (.ior, 1) := by decide +kernel
theorem dX8_holdsOf_57 : decode cX8_holdsOf 57 = .ok (.iand, 1) := by decide +kernel
theorem dX8_holdsOf_58 : decode cX8_holdsOf 58 = .ok (.istore 5, 2) := by decide +kernel
theorem dX8_holdsOf_60 : decode cX8_holdsOf 60 = .ok (.goto 55, 3) := by decide +kernel
theorem dX8_holdsOf_63 : decode cX8_holdsOf 63 = .ok (.aload_n 0, 1) := by decide +kernel
theorem dX8_holdsOf_64 : decode cX8_holdsOf 64 = .ok (.getfield 11, 3) := by decide +kernel
theorem dX8_holdsOf_67 : decode cX8_holdsOf 67 = .ok (.iload 6, 2) := by decide +kernel
theorem dX8_holdsOf_69 : decode cX8_holdsOf 69 = .ok (.iaload, 1) := by decide +kernel
theorem dX8_holdsOf_70 : decode cX8_holdsOf 70 = .ok (.bipush 11, 2) := by decide +kernel
theorem dX8_holdsOf_72 : decode cX8_holdsOf 72 = .ok (.if_icmp .ne 17, 3) := by decide +kernel
theorem dX8_holdsOf_75 : decode cX8_holdsOf 75 = .ok (.iload 5, 2) := by decide +kernel
theorem dX8_holdsOf_77 : decode cX8_holdsOf 77 = .ok (.iconst 1, 1) := by decide +kernel
theorem dX8_holdsOf_78 : decode cX8_holdsOf 78 = .ok (.ishr, 1) := by decide +kernel
theorem dX8_holdsOf_79 : decode cX8_holdsOf 79 = .ok (.iload 5, 2) := by decide +kernel
theorem dX8_holdsOf_81 : decode cX8_holdsOf 81 = .ok (.iconst 1, 1) := by decide +kernel
theorem dX8_holdsOf_82 : decode cX8_holdsOf 82 = .ok (.iand, 1) := by decide +kernel
theorem dX8_holdsOf_83 : decode cX8_holdsOf 83 = .ok (.ior, 1) := by decide +kernel
theorem dX8_holdsOf_84 : decode cX8_holdsOf 84 = .ok (.istore 5, 2) := by decide +kernel
theorem dX8_holdsOf_86 : decode cX8_holdsOf 86 = .ok (.goto 29, 3) := by decide +kernel
theorem dX8_holdsOf_89 : decode cX8_holdsOf 89 = .ok (.iload 5, 2) := by decide +kernel
theorem dX8_holdsOf_91 : decode cX8_holdsOf 91 = .ok (.iconst 1, 1) := by decide +kernel
theorem dX8_holdsOf_92 : decode cX8_holdsOf 92 = .ok (.ishl, 1) := by decide +kernel
theorem dX8_holdsOf_93 : decode cX8_holdsOf 93 = .ok (.aload_n 0, 1) := by decide +kernel
theorem dX8_holdsOf_94 : decode cX8_holdsOf 94 = .ok (.aload_n 1, 1) := by decide +kernel
theorem dX8_holdsOf_95 : decode cX8_holdsOf 95 = .ok (.aload_n 2, 1) := by decide +kernel
theorem dX8_holdsOf_96 : decode cX8_holdsOf 96 = .ok (.aload_n 3, 1) := by decide +kernel
theorem dX8_holdsOf_97 : decode cX8_holdsOf 97 = .ok (.iload 4, 2) := by decide +kernel
theorem dX8_holdsOf_99 : decode cX8_holdsOf 99 = .ok (.iload 6, 2) := by decide +kernel
theorem dX8_holdsOf_101 : decode cX8_holdsOf 101 = .ok (.invokevirtual 89, 3) := by decide +kernel
theorem dX8_holdsOf_104 : decode cX8_holdsOf 104 = .ok (.ifCond .eq 7, 3) := by decide +kernel
theorem dX8_holdsOf_107 : decode cX8_holdsOf 107 = .ok (.iconst 1, 1) := by decide +kernel
theorem dX8_holdsOf_108 : decode cX8_holdsOf 108 = .ok (.goto 4, 3) := by decide +kernel
theorem dX8_holdsOf_111 : decode cX8_holdsOf 111 = .ok (.iconst 0, 1) := by decide +kernel
theorem dX8_holdsOf_112 : decode cX8_holdsOf 112 = .ok (.ior, 1) := by decide +kernel
theorem dX8_holdsOf_113 : decode cX8_holdsOf 113 = .ok (.istore 5, 2) := by decide +kernel
theorem dX8_holdsOf_115 : decode cX8_holdsOf 115 = .ok (.iinc 6 1, 3) := by decide +kernel
theorem dX8_holdsOf_118 : decode cX8_holdsOf 118 = .ok (.goto (-112), 3) := by decide +kernel
theorem dX8_holdsOf_121 : decode cX8_holdsOf 121 = .ok (.iload 5, 2) := by decide +kernel
theorem dX8_holdsOf_123 : decode cX8_holdsOf 123 = .ok (.iconst 1, 1) := by decide +kernel
theorem dX8_holdsOf_124 : decode cX8_holdsOf 124 = .ok (.iand, 1) := by decide +kernel
theorem dX8_holdsOf_125 : decode cX8_holdsOf 125 = .ok (.ifCond .eq 7, 3) := by decide +kernel
theorem dX8_holdsOf_128 : decode cX8_holdsOf 128 = .ok (.iconst 1, 1) := by decide +kernel
theorem dX8_holdsOf_129 : decode cX8_holdsOf 129 = .ok (.goto 4, 3) := by decide +kernel
theorem dX8_holdsOf_132 : decode cX8_holdsOf 132 = .ok (.iconst 0, 1) := by decide +kernel
theorem dX8_holdsOf_133 : decode cX8_holdsOf 133 = .ok (.ireturn, 1) := by decide +kernel
theorem dX8_isSo_0 : decode cX8_isSo 0 = .ok (.aload_n 0, 1) := by decide +kernel
theorem dX8_isSo_1 : decode cX8_isSo 1 = .ok (.getfield 11, 3) := by decide +kernel
theorem dX8_isSo_4 : decode cX8_isSo 4 = .ok (.iload 5, 2) := by decide +kernel
theorem dX8_isSo_6 : decode cX8_isSo 6 = .ok (.iaload, 1) := by decide +kernel
theorem dX8_isSo_7 : decode cX8_isSo 7 = .ok (.tableswitch 220 14 23 #[53, 69, 86, 103, 120, 138, 168, 182, 197, 211], 53) := by decide +kernel
theorem dX8_isSo_60 : decode cX8_isSo 60 = .ok (.aload_n 2, 1) := by decide +kernel
theorem dX8_isSo_61 : decode cX8_isSo 61 = .ok (.getfield 93, 3) := by decide +kernel
theorem dX8_isSo_64 : decode cX8_isSo 64 = .ok (.iload 4, 2) := by decide +kernel
theorem dX8_isSo_66 : decode cX8_isSo 66 = .ok (.iaload, 1) := by decide +kernel
theorem dX8_isSo_67 : decode cX8_isSo 67 = .ok (.ifCond .ne 7, 3) := by decide +kernel
theorem dX8_isSo_70 : decode cX8_isSo 70 = .ok (.iconst 1, 1) := by decide +kernel
theorem dX8_isSo_71 : decode cX8_isSo 71 = .ok (.goto 4, 3) := by decide +kernel
theorem dX8_isSo_74 : decode cX8_isSo 74 = .ok (.iconst 0, 1) := by decide +kernel
theorem dX8_isSo_75 : decode cX8_isSo 75 = .ok (.ireturn, 1) := by decide +kernel
theorem dX8_isSo_76 : decode cX8_isSo 76 = .ok (.aload_n 2, 1) := by decide +kernel
theorem dX8_isSo_77 : decode cX8_isSo 77 = .ok (.getfield 93, 3) := by decide +kernel
theorem dX8_isSo_80 : decode cX8_isSo 80 = .ok (.iload 4, 2) := by decide +kernel
theorem dX8_isSo_82 : decode cX8_isSo 82 = .ok (.iaload, 1) := by decide +kernel
theorem dX8_isSo_83 : decode cX8_isSo 83 = .ok (.iconst 1, 1) := by decide +kernel
theorem dX8_isSo_84 : decode cX8_isSo 84 = .ok (.if_icmp .ne 7, 3) := by decide +kernel
theorem dX8_isSo_87 : decode cX8_isSo 87 = .ok (.iconst 1, 1) := by decide +kernel
theorem dX8_isSo_88 : decode cX8_isSo 88 = .ok (.goto 4, 3) := by decide +kernel
theorem dX8_isSo_91 : decode cX8_isSo 91 = .ok (.iconst 0, 1) := by decide +kernel
theorem dX8_isSo_92 : decode cX8_isSo 92 = .ok (.ireturn, 1) := by decide +kernel
theorem dX8_isSo_93 : decode cX8_isSo 93 = .ok (.aload_n 2, 1) := by decide +kernel
theorem dX8_isSo_94 : decode cX8_isSo 94 = .ok (.getfield 93, 3) := by decide +kernel
theorem dX8_isSo_97 : decode cX8_isSo 97 = .ok (.iload 4, 2) := by decide +kernel
theorem dX8_isSo_99 : decode cX8_isSo 99 = .ok (.iaload, 1) := by decide +kernel
theorem dX8_isSo_100 : decode cX8_isSo 100 = .ok (.iconst 2, 1) := by decide +kernel
theorem dX8_isSo_101 : decode cX8_isSo 101 = .ok (.if_icmp .ne 7, 3) := by decide +kernel
theorem dX8_isSo_104 : decode cX8_isSo 104 = .ok (.iconst 1, 1) := by decide +kernel
theorem dX8_isSo_105 : decode cX8_isSo 105 = .ok (.goto 4, 3) := by decide +kernel
theorem dX8_isSo_108 : decode cX8_isSo 108 = .ok (.iconst 0, 1) := by decide +kernel
theorem dX8_isSo_109 : decode cX8_isSo 109 = .ok (.ireturn, 1) := by decide +kernel
theorem dX8_isSo_110 : decode cX8_isSo 110 = .ok (.aload_n 2, 1) := by decide +kernel
theorem dX8_isSo_111 : decode cX8_isSo 111 = .ok (.getfield 93, 3) := by decide +kernel
theorem dX8_isSo_114 : decode cX8_isSo 114 = .ok (.iload 4, 2) := by decide +kernel
theorem dX8_isSo_116 : decode cX8_isSo 116 = .ok (.iaload, 1) := by decide +kernel
theorem dX8_isSo_117 : decode cX8_isSo 117 = .ok (.iconst 3, 1) := by decide +kernel
theorem dX8_isSo_118 : decode cX8_isSo 118 = .ok (.if_icmp .ne 7, 3) := by decide +kernel
theorem dX8_isSo_121 : decode cX8_isSo 121 = .ok (.iconst 1, 1) := by decide +kernel
theorem dX8_isSo_122 : decode cX8_isSo 122 = .ok (.goto 4, 3) := by decide +kernel
theorem dX8_isSo_125 : decode cX8_isSo 125 = .ok (.iconst 0, 1) := by decide +kernel
theorem dX8_isSo_126 : decode cX8_isSo 126 = .ok (.ireturn, 1) := by decide +kernel
theorem dX8_isSo_127 : decode cX8_isSo 127 = .ok (.aload_n 3, 1) := by decide +kernel
theorem dX8_isSo_128 : decode cX8_isSo 128 = .ok (.aload_n 1, 1) := by decide +kernel
theorem dX8_isSo_129 : decode cX8_isSo 129 = .ok (.aload_n 2, 1) := by decide +kernel
theorem dX8_isSo_130 : decode cX8_isSo 130 = .ok (.iload 4, 2) := by decide +kernel
theorem dX8_isSo_132 : decode cX8_isSo 132 = .ok (.invokevirtual 98, 3) := by decide +kernel
theorem dX8_isSo_135 : decode cX8_isSo 135 = .ok (.iconst 1, 1) := by decide +kernel
theorem dX8_isSo_136 : decode cX8_isSo 136 = .ok (.if_icmp .ne 7, 3) := by decide +kernel
theorem dX8_isSo_139 : decode cX8_isSo 139 = .ok (.iconst 1, 1) := by decide +kernel
theorem dX8_isSo_140 : decode cX8_isSo 140 = .ok (.goto 4, 3) := by decide +kernel
theorem dX8_isSo_143 : decode cX8_isSo 143 = .ok (.iconst 0, 1) := by decide +kernel
theorem dX8_isSo_144 : decode cX8_isSo 144 = .ok (.ireturn, 1) := by decide +kernel
theorem dX8_isSo_145 : decode cX8_isSo 145 = .ok (.aload_n 2, 1) := by decide +kernel
theorem dX8_isSo_146 : decode cX8_isSo 146 = .ok (.getfield 104, 3) := by decide +kernel
theorem dX8_isSo_149 : decode cX8_isSo 149 = .ok (.aload_n 1, 1) := by decide +kernel
theorem dX8_isSo_150 : decode cX8_isSo 150 = .ok (.iload 4, 2) := by decide +kernel
theorem dX8_isSo_152 : decode cX8_isSo 152 = .ok (.invokevirtual 107, 3) := by decide +kernel
theorem dX8_isSo_155 : decode cX8_isSo 155 = .ok (.iand, 1) := by decide +kernel
theorem dX8_isSo_156 : decode cX8_isSo 156 = .ok (.iconst 1, 1) := by decide +kernel
theorem dX8_isSo_157 : decode cX8_isSo 157 = .ok (.aload_n 0, 1) := by decide +kernel
theorem dX8_isSo_158 : decode cX8_isSo 158 = .ok (.getfield 18, 3) := by decide +kernel
theorem dX8_isSo_161 : decode cX8_isSo 161 = .ok (.iload 5, 2) := by decide +kernel
theorem dX8_isSo_163 : decode cX8_isSo 163 = .ok (.iaload, 1) := by decide +kernel
theorem dX8_isSo_164 : decode cX8_isSo 164 = .ok (.ishl, 1) := by decide +kernel
theorem dX8_isSo_165 : decode cX8_isSo 165 = .ok (.iand, 1) := by decide +kernel
theorem dX8_isSo_166 : decode cX8_isSo 166 = .ok (.ifCond .eq 7, 3) := by decide +kernel
theorem dX8_isSo_169 : decode cX8_isSo 169 = .ok (.iconst 1, 1) := by decide +kernel
theorem dX8_isSo_170 : decode cX8_isSo 170 = .ok (.goto 4, 3) := by decide +kernel
theorem dX8_isSo_173 : decode cX8_isSo 173 = .ok (.iconst 0, 1) := by decide +kernel
theorem dX8_isSo_174 : decode cX8_isSo 174 = .ok (.ireturn, 1) := by decide +kernel
theorem dX8_isSo_175 : decode cX8_isSo 175 = .ok (.aload_n 0, 1) := by decide +kernel
theorem dX8_isSo_176 : decode cX8_isSo 176 = .ok (.aload_n 2, 1) := by decide +kernel
theorem dX8_isSo_177 : decode cX8_isSo 177 = .ok (.aload_n 1, 1) := by decide +kernel
theorem dX8_isSo_178 : decode cX8_isSo 178 = .ok (.iload 4, 2) := by decide +kernel
theorem dX8_isSo_180 : decode cX8_isSo 180 = .ok (.invokevirtual 111, 3) := by decide +kernel
theorem dX8_isSo_183 : decode cX8_isSo 183 = .ok (.iload 5, 2) := by decide +kernel
theorem dX8_isSo_185 : decode cX8_isSo 185 = .ok (.invokevirtual 115, 3) := by decide +kernel
theorem dX8_isSo_188 : decode cX8_isSo 188 = .ok (.ireturn, 1) := by decide +kernel
theorem dX8_isSo_189 : decode cX8_isSo 189 = .ok (.aload_n 0, 1) := by decide +kernel
theorem dX8_isSo_190 : decode cX8_isSo 190 = .ok (.aload_n 3, 1) := by decide +kernel
theorem dX8_isSo_191 : decode cX8_isSo 191 = .ok (.aload_n 1, 1) := by decide +kernel
theorem dX8_isSo_192 : decode cX8_isSo 192 = .ok (.aload_n 2, 1) := by decide +kernel
theorem dX8_isSo_193 : decode cX8_isSo 193 = .ok (.iload 4, 2) := by decide +kernel
theorem dX8_isSo_195 : decode cX8_isSo 195 = .ok (.invokevirtual 98, 3) := by decide +kernel
theorem dX8_isSo_198 : decode cX8_isSo 198 = .ok (.iload 5, 2) := by decide +kernel
theorem dX8_isSo_200 : decode cX8_isSo 200 = .ok (.invokevirtual 115, 3) := by decide +kernel
theorem dX8_isSo_203 : decode cX8_isSo 203 = .ok (.ireturn, 1) := by decide +kernel
theorem dX8_isSo_204 : decode cX8_isSo 204 = .ok (.aload_n 0, 1) := by decide +kernel
theorem dX8_isSo_205 : decode cX8_isSo 205 = .ok (.aload_n 1, 1) := by decide +kernel
theorem dX8_isSo_206 : decode cX8_isSo 206 = .ok (.getfield 119, 3) := by decide +kernel
theorem dX8_isSo_209 : decode cX8_isSo 209 = .ok (.iload 4, 2) := by decide +kernel
theorem dX8_isSo_211 : decode cX8_isSo 211 = .ok (.iaload, 1) := by decide +kernel
theorem dX8_isSo_212 : decode cX8_isSo 212 = .ok (.iload 5, 2) := by decide +kernel
theorem dX8_isSo_214 : decode cX8_isSo 214 = .ok (.invokevirtual 115, 3) := by decide +kernel
theorem dX8_isSo_217 : decode cX8_isSo 217 = .ok (.ireturn, 1) := by decide +kernel
theorem dX8_isSo_218 : decode cX8_isSo 218 = .ok (.aload_n 0, 1) := by decide +kernel
theorem dX8_isSo_219 : decode cX8_isSo 219 = .ok (.iload 4, 2) := by decide +kernel
theorem dX8_isSo_221 : decode cX8_isSo 221 = .ok (.iload 5, 2) := by decide +kernel
theorem dX8_isSo_223 : decode cX8_isSo 223 = .ok (.invokevirtual 115, 3) := by decide +kernel
theorem dX8_isSo_226 : decode cX8_isSo 226 = .ok (.ireturn, 1) := by decide +kernel
theorem dX8_isSo_227 : decode cX8_isSo 227 = .ok (.iconst 0, 1) := by decide +kernel
theorem dX8_isSo_228 : decode cX8_isSo 228 = .ok (.ireturn, 1) := by decide +kernel
theorem dX8_compares_0 : decode cX8_compares 0 = .ok (.aload_n 0, 1) := by decide +kernel
theorem dX8_compares_1 : decode cX8_compares 1 = .ok (.getfield 15, 3) := by decide +kernel
theorem dX8_compares_4 : decode cX8_compares 4 = .ok (.iload_n 2, 1) := by decide +kernel
theorem dX8_compares_5 : decode cX8_compares 5 = .ok (.iaload, 1) := by decide +kernel
theorem dX8_compares_6 : decode cX8_compares 6 = .ok (.bipush 60, 2) := by decide +kernel
theorem dX8_compares_8 : decode cX8_compares 8 = .ok (.if_icmp .ne 21, 3) := by decide +kernel
theorem dX8_compares_11 : decode cX8_compares 11 = .ok (.iload_n 1, 1) := by decide +kernel
theorem dX8_compares_12 : decode cX8_compares 12 = .ok (.aload_n 0, 1) := by decide +kernel
theorem dX8_compares_13 : decode cX8_compares 13 = .ok (.getfield 18, 3) := by decide +kernel
theorem dX8_compares_16 : decode cX8_compares 16 = .ok (.iload_n 2, 1) := by decide +kernel
theorem dX8_compares_17 : decode cX8_compares 17 = .ok (.iaload, 1) := by decide +kernel
theorem dX8_compares_18 : decode cX8_compares 18 = .ok (.if_icmp .ge 7, 3) := by decide +kernel
theorem dX8_compares_21 : decode cX8_compares 21 = .ok (.iconst 1, 1) := by decide +kernel
theorem dX8_compares_22 : decode cX8_compares 22 = .ok (.goto 51, 3) := by decide +kernel
theorem dX8_compares_25 : decode cX8_compares 25 = .ok (.iconst 0, 1) := by decide +kernel
theorem dX8_compares_26 : decode cX8_compares 26 = .ok (.goto 47, 3) := by decide +kernel
theorem dX8_compares_29 : decode cX8_compares 29 = .ok (.aload_n 0, 1) := by decide +kernel
theorem dX8_compares_30 : decode cX8_compares 30 = .ok (.getfield 15, 3) := by decide +kernel
theorem dX8_compares_33 : decode cX8_compares 33 = .ok (.iload_n 2, 1) := by decide +kernel
theorem dX8_compares_34 : decode cX8_compares 34 = .ok (.iaload, 1) := by decide +kernel
theorem dX8_compares_35 : decode cX8_compares 35 = .ok (.bipush 62, 2) := by decide +kernel
theorem dX8_compares_37 : decode cX8_compares 37 = .ok (.if_icmp .ne 21, 3) := by decide +kernel
theorem dX8_compares_40 : decode cX8_compares 40 = .ok (.iload_n 1, 1) := by decide +kernel
theorem dX8_compares_41 : decode cX8_compares 41 = .ok (.aload_n 0, 1) := by decide +kernel
theorem dX8_compares_42 : decode cX8_compares 42 = .ok (.getfield 18, 3) := by decide +kernel
theorem dX8_compares_45 : decode cX8_compares 45 = .ok (.iload_n 2, 1) := by decide +kernel
theorem dX8_compares_46 : decode cX8_compares 46 = .ok (.iaload, 1) := by decide +kernel
theorem dX8_compares_47 : decode cX8_compares 47 = .ok (.if_icmp .le 7, 3) := by decide +kernel
theorem dX8_compares_50 : decode cX8_compares 50 = .ok (.iconst 1, 1) := by decide +kernel
theorem dX8_compares_51 : decode cX8_compares 51 = .ok (.goto 22, 3) := by decide +kernel
theorem dX8_compares_54 : decode cX8_compares 54 = .ok (.iconst 0, 1) := by decide +kernel
theorem dX8_compares_55 : decode cX8_compares 55 = .ok (.goto 18, 3) := by decide +kernel
theorem dX8_compares_58 : decode cX8_compares 58 = .ok (.iload_n 1, 1) := by decide +kernel
theorem dX8_compares_59 : decode cX8_compares 59 = .ok (.aload_n 0, 1) := by decide +kernel
theorem dX8_compares_60 : decode cX8_compares 60 = .ok (.getfield 18, 3) := by decide +kernel
theorem dX8_compares_63 : decode cX8_compares 63 = .ok (.iload_n 2, 1) := by decide +kernel
theorem dX8_compares_64 : decode cX8_compares 64 = .ok (.iaload, 1) := by decide +kernel
theorem dX8_compares_65 : decode cX8_compares 65 = .ok (.if_icmp .ne 7, 3) := by decide +kernel
theorem dX8_compares_68 : decode cX8_compares 68 = .ok (.iconst 1, 1) := by decide +kernel
theorem dX8_compares_69 : decode cX8_compares 69 = .ok (.goto 4, 3) := by decide +kernel
theorem dX8_compares_72 : decode cX8_compares 72 = .ok (.iconst 0, 1) := by decide +kernel
theorem dX8_compares_73 : decode cX8_compares 73 = .ok (.ireturn, 1) := by decide +kernel
theorem dX9_init_0 : decode cX9_init 0 = .ok (.aload_n 0, 1) := by decide +kernel
theorem dX9_init_1 : decode cX9_init 1 = .ok (.invokespecial 3, 3) := by decide +kernel
theorem dX9_init_4 : decode cX9_init 4 = .ok (.aload_n 0, 1) := by decide +kernel
theorem dX9_init_5 : decode cX9_init 5 = .ok (.bipush 16, 2) := by decide +kernel
theorem dX9_init_7 : decode cX9_init 7 = .ok (.newarray .int, 2) := by decide +kernel
theorem dX9_init_9 : decode cX9_init 9 = .ok (.putfield 11, 3) := by decide +kernel
theorem dX9_init_12 : decode cX9_init 12 = .ok (.return_, 1) := by decide +kernel
theorem dX9_write_0 : decode cX9_write 0 = .ok (.aload_n 0, 1) := by decide +kernel
theorem dX9_write_1 : decode cX9_write 1 = .ok (.iconst 0, 1) := by decide +kernel
theorem dX9_write_2 : decode cX9_write 2 = .ok (.putfield 15, 3) := by decide +kernel
theorem dX9_write_5 : decode cX9_write 5 = .ok (.bipush 30, 2) := by decide +kernel
theorem dX9_write_7 : decode cX9_write 7 = .ok (.istore 5, 2) := by decide +kernel
theorem dX9_write_9 : decode cX9_write 9 = .ok (.iload 5, 2) := by decide +kernel
theorem dX9_write_11 : decode cX9_write 11 = .ok (.ifCond .lt 36, 3) := by decide +kernel
theorem dX9_write_14 : decode cX9_write 14 = .ok (.lload_n 1, 1) := by decide +kernel
theorem dX9_write_15 : decode cX9_write 15 = .ok (.iload 5, 2) := by decide +kernel
theorem dX9_write_17 : decode cX9_write 17 = .ok (.lshr, 1) := by decide +kernel
theorem dX9_write_18 : decode cX9_write 18 = .ok (.ldc2_w 19, 3) := by decide +kernel
theorem dX9_write_21 : decode cX9_write 21 = .ok (.land, 1) := by decide +kernel
theorem dX9_write_22 : decode cX9_write 22 = .ok (.l2i, 1) := by decide +kernel
theorem dX9_write_23 : decode cX9_write 23 = .ok (.istore 6, 2) := by decide +kernel
theorem dX9_write_25 : decode cX9_write 25 = .ok (.iload 6, 2) := by decide +kernel
theorem dX9_write_27 : decode cX9_write 27 = .ok (.ifCond .eq 14, 3) := by decide +kernel
theorem dX9_write_30 : decode cX9_write 30 = .ok (.aload_n 0, 1) := by decide +kernel
theorem dX9_write_31 : decode cX9_write 31 = .ok (.bipush 97, 2) := by decide +kernel
theorem dX9_write_33 : decode cX9_write 33 = .ok (.iload 6, 2) := by decide +kernel
theorem dX9_write_35 : decode cX9_write 35 = .ok (.iadd, 1) := by decide +kernel
theorem dX9_write_36 : decode cX9_write 36 = .ok (.iconst 1, 1) := by decide +kernel
theorem dX9_write_37 : decode cX9_write 37 = .ok (.isub, 1) := by decide +kernel
theorem dX9_write_38 : decode cX9_write 38 = .ok (.invokevirtual 21, 3) := by decide +kernel
theorem dX9_write_41 : decode cX9_write 41 = .ok (.iinc 5 (-5), 3) := by decide +kernel
theorem dX9_write_44 : decode cX9_write 44 = .ok (.goto (-35), 3) := by decide +kernel
theorem dX9_write_47 : decode cX9_write 47 = .ok (.aload_n 0, 1) := by decide +kernel
theorem dX9_write_48 : decode cX9_write 48 = .ok (.iload_n 3, 1) := by decide +kernel
theorem dX9_write_49 : decode cX9_write 49 = .ok (.ifCond .ne 8, 3) := by decide +kernel
theorem dX9_write_52 : decode cX9_write 52 = .ok (.ldc 25, 2) := by decide +kernel
theorem dX9_write_54 : decode cX9_write 54 = .ok (.goto 25, 3) := by decide +kernel
theorem dX9_write_57 : decode cX9_write 57 = .ok (.iload_n 3, 1) := by decide +kernel
theorem dX9_write_58 : decode cX9_write 58 = .ok (.iconst 1, 1) := by decide +kernel
theorem dX9_write_59 : decode cX9_write 59 = .ok (.if_icmp .ne 8, 3) := by decide +kernel
theorem dX9_write_62 : decode cX9_write 62 = .ok (.ldc 27, 2) := by decide +kernel
theorem dX9_write_64 : decode cX9_write 64 = .ok (.goto 15, 3) := by decide +kernel
theorem dX9_write_67 : decode cX9_write 67 = .ok (.iload_n 3, 1) := by decide +kernel
theorem dX9_write_68 : decode cX9_write 68 = .ok (.iconst 2, 1) := by decide +kernel
theorem dX9_write_69 : decode cX9_write 69 = .ok (.if_icmp .ne 8, 3) := by decide +kernel
theorem dX9_write_72 : decode cX9_write 72 = .ok (.ldc 29, 2) := by decide +kernel
theorem dX9_write_74 : decode cX9_write 74 = .ok (.goto 5, 3) := by decide +kernel
theorem dX9_write_77 : decode cX9_write 77 = .ok (.ldc 31, 2) := by decide +kernel
theorem dX9_write_79 : decode cX9_write 79 = .ok (.invokevirtual 33, 3) := by decide +kernel
theorem dX9_write_82 : decode cX9_write 82 = .ok (.iload_n 3, 1) := by decide +kernel
theorem dX9_write_83 : decode cX9_write 83 = .ok (.iconst 2, 1) := by decide +kernel
theorem dX9_write_84 : decode cX9_write 84 = .ok (.if_icmp .lt 34, 3) := by decide +kernel
theorem dX9_write_87 : decode cX9_write 87 = .ok (.iload 4, 2) := by decide +kernel
theorem dX9_write_89 : decode cX9_write 89 = .ok (.bipush 10, 2) := by decide +kernel
theorem dX9_write_91 : decode cX9_write 91 = .ok (.if_icmp .lt 15, 3) := by decide +kernel
theorem dX9_write_94 : decode cX9_write 94 = .ok (.aload_n 0, 1) := by decide +kernel
theorem dX9_write_95 : decode cX9_write 95 = .ok (.bipush 48, 2) := by decide +kernel
theorem dX9_write_97 : decode cX9_write 97 = .ok (.iload 4, 2) := by decide +kernel
theorem dX9_write_99 : decode cX9_write 99 = .ok (.bipush 10, 2) := by decide +kernel
theorem dX9_write_101 : decode cX9_write 101 = .ok (.idiv, 1) := by decide +kernel
theorem dX9_write_102 : decode cX9_write 102 = .ok (.iadd, 1) := by decide +kernel
theorem dX9_write_103 : decode cX9_write 103 = .ok (.invokevirtual 21, 3) := by decide +kernel
theorem dX9_write_106 : decode cX9_write 106 = .ok (.aload_n 0, 1) := by decide +kernel
theorem dX9_write_107 : decode cX9_write 107 = .ok (.bipush 48, 2) := by decide +kernel
theorem dX9_write_109 : decode cX9_write 109 = .ok (.iload 4, 2) := by decide +kernel
theorem dX9_write_111 : decode cX9_write 111 = .ok (.bipush 10, 2) := by decide +kernel
theorem dX9_write_113 : decode cX9_write 113 = .ok (.irem, 1) := by decide +kernel
theorem dX9_write_114 : decode cX9_write 114 = .ok (.iadd, 1) := by decide +kernel
theorem dX9_write_115 : decode cX9_write 115 = .ok (.invokevirtual 21, 3) := by decide +kernel
theorem dX9_write_118 : decode cX9_write 118 = .ok (.return_, 1) := by decide +kernel
theorem dX9_put_0 : decode cX9_put 0 = .ok (.iconst 0, 1) := by decide +kernel
theorem dX9_put_1 : decode cX9_put 1 = .ok (.istore_n 2, 1) := by decide +kernel
theorem dX9_put_2 : decode cX9_put 2 = .ok (.iload_n 2, 1) := by decide +kernel
theorem dX9_put_3 : decode cX9_put 3 = .ok (.aload_n 1, 1) := by decide +kernel
theorem dX9_put_4 : decode cX9_put 4 = .ok (.invokevirtual 36, 3) := by decide +kernel
theorem dX9_put_7 : decode cX9_put 7 = .ok (.if_icmp .ge 18, 3) := by decide +kernel
theorem dX9_put_10 : decode cX9_put 10 = .ok (.aload_n 0, 1) := by decide +kernel
theorem dX9_put_11 : decode cX9_put 11 = .ok (.aload_n 1, 1) := by decide +kernel
theorem dX9_put_12 : decode cX9_put 12 = .ok (.iload_n 2, 1) := by decide +kernel
theorem dX9_put_13 : decode cX9_put 13 = .ok (.invokevirtual 41, 3) := by decide +kernel
theorem dX9_put_16 : decode cX9_put 16 = .ok (.invokevirtual 21, 3) := by decide +kernel
theorem dX9_put_19 : decode cX9_put 19 = .ok (.iinc 2 1, 3) := by decide +kernel
theorem dX9_put_22 : decode cX9_put 22 = .ok (.goto (-20), 3) := by decide +kernel
theorem dX9_put_25 : decode cX9_put 25 = .ok (.return_, 1) := by decide +kernel
theorem dX9_put__0 : decode cX9_put_ 0 = .ok (.aload_n 0, 1) := by decide +kernel
theorem dX9_put__1 : decode cX9_put_ 1 = .ok (.getfield 15, 3) := by decide +kernel
theorem dX9_put__4 : decode cX9_put_ 4 = .ok (.bipush 16, 2) := by decide +kernel
theorem dX9_put__6 : decode cX9_put_ 6 = .ok (.if_icmp .ge 23, 3) := by decide +kernel
theorem dX9_put__9 : decode cX9_put_ 9 = .ok (.aload_n 0, 1) := by decide +kernel
theorem dX9_put__10 : decode cX9_put_ 10 = .ok (.getfield 11, 3) := by decide +kernel
theorem dX9_put__13 : decode cX9_put_ 13 = .ok (.aload_n 0, 1) := by decide +kernel
theorem dX9_put__14 : decode cX9_put_ 14 = .ok (.getfield 15, 3) := by decide +kernel
theorem dX9_put__17 : decode cX9_put_ 17 = .ok (.iload_n 1, 1) := by decide +kernel
theorem dX9_put__18 : decode cX9_put_ 18 = .ok (.iastore, 1) := by decide +kernel
theorem dX9_put__19 : decode cX9_put_ 19 = .ok (.aload_n 0, 1) := by decide +kernel
theorem dX9_put__20 : decode cX9_put_ 20 = .ok (.dup, 1) := by decide +kernel
theorem dX9_put__21 : decode cX9_put_ 21 = .ok (.getfield 15, 3) := by decide +kernel
theorem dX9_put__24 : decode cX9_put_ 24 = .ok (.iconst 1, 1) := by decide +kernel
theorem dX9_put__25 : decode cX9_put_ 25 = .ok (.iadd, 1) := by decide +kernel
theorem dX9_put__26 : decode cX9_put_ 26 = .ok (.putfield 15, 3) := by decide +kernel
theorem dX9_put__29 : decode cX9_put_ 29 = .ok (.return_, 1) := by decide +kernel
theorem dX10_init_0 : decode cX10_init 0 = .ok (.aload_n 0, 1) := by decide +kernel
theorem dX10_init_1 : decode cX10_init 1 = .ok (.invokespecial 3, 3) := by decide +kernel
theorem dX10_init_4 : decode cX10_init 4 = .ok (.aload_n 0, 1) := by decide +kernel
theorem dX10_init_5 : decode cX10_init 5 = .ok (.sipush 940, 3) := by decide +kernel
theorem dX10_init_8 : decode cX10_init 8 = .ok (.newarray .int, 2) := by decide +kernel
theorem dX10_init_10 : decode cX10_init 10 = .ok (.putfield 11, 3) := by decide +kernel
theorem dX10_init_13 : decode cX10_init 13 = .ok (.aload_n 0, 1) := by decide +kernel
theorem dX10_init_14 : decode cX10_init 14 = .ok (.sipush 941, 3) := by decide +kernel
theorem dX10_init_17 : decode cX10_init 17 = .ok (.newarray .int, 2) := by decide +kernel
theorem dX10_init_19 : decode cX10_init 19 = .ok (.putfield 15, 3) := by decide +kernel
theorem dX10_init_22 : decode cX10_init 22 = .ok (.aload_n 0, 1) := by decide +kernel
theorem dX10_init_23 : decode cX10_init 23 = .ok (.sipush 941, 3) := by decide +kernel
theorem dX10_init_26 : decode cX10_init 26 = .ok (.newarray .int, 2) := by decide +kernel
theorem dX10_init_28 : decode cX10_init 28 = .ok (.putfield 18, 3) := by decide +kernel
theorem dX10_init_31 : decode cX10_init 31 = .ok (.aload_n 0, 1) := by decide +kernel
theorem dX10_init_32 : decode cX10_init 32 = .ok (.sipush 941, 3) := by decide +kernel
theorem dX10_init_35 : decode cX10_init 35 = .ok (.newarray .int, 2) := by decide +kernel
theorem dX10_init_37 : decode cX10_init 37 = .ok (.putfield 21, 3) := by decide +kernel
theorem dX10_init_40 : decode cX10_init 40 = .ok (.aload_n 0, 1) := by decide +kernel
theorem dX10_init_41 : decode cX10_init 41 = .ok (.sipush 941, 3) := by decide +kernel
theorem dX10_init_44 : decode cX10_init 44 = .ok (.newarray .long, 2) := by decide +kernel
theorem dX10_init_46 : decode cX10_init 46 = .ok (.putfield 24, 3) := by decide +kernel
theorem dX10_init_49 : decode cX10_init 49 = .ok (.aload_n 0, 1) := by decide +kernel
theorem dX10_init_50 : decode cX10_init 50 = .ok (.bipush 24, 2) := by decide +kernel
theorem dX10_init_52 : decode cX10_init 52 = .ok (.newarray .long, 2) := by decide +kernel
theorem dX10_init_54 : decode cX10_init 54 = .ok (.putfield 28, 3) := by decide +kernel
theorem dX10_init_57 : decode cX10_init 57 = .ok (.iconst 0, 1) := by decide +kernel
theorem dX10_init_58 : decode cX10_init 58 = .ok (.istore_n 1, 1) := by decide +kernel
theorem dX10_init_59 : decode cX10_init 59 = .ok (.iconst 0, 1) := by decide +kernel
theorem dX10_init_60 : decode cX10_init 60 = .ok (.istore_n 2, 1) := by decide +kernel
theorem dX10_init_61 : decode cX10_init 61 = .ok (.iload_n 2, 1) := by decide +kernel
theorem dX10_init_62 : decode cX10_init 62 = .ok (.ldc 31, 2) := by decide +kernel
theorem dX10_init_64 : decode cX10_init 64 = .ok (.invokevirtual 33, 3) := by decide +kernel
theorem dX10_init_67 : decode cX10_init 67 = .ok (.if_icmp .ge 50, 3) := by decide +kernel
theorem dX10_init_70 : decode cX10_init 70 = .ok (.ldc 31, 2) := by decide +kernel
theorem dX10_init_72 : decode cX10_init 72 = .ok (.iload_n 2, 1) := by decide +kernel
theorem dX10_init_73 : decode cX10_init 73 = .ok (.invokevirtual 39, 3) := by decide +kernel
theorem dX10_init_76 : decode cX10_init 76 = .ok (.istore_n 3, 1) := by decide +kernel
theorem dX10_init_77 : decode cX10_init 77 = .ok (.iload_n 3, 1) := by decide +kernel
theorem dX10_init_78 : decode cX10_init 78 = .ok (.bipush 32, 2) := by decide +kernel
theorem dX10_init_80 : decode cX10_init 80 = .ok (.if_icmp .ne 9, 3) := by decide +kernel
theorem dX10_init_83 : decode cX10_init 83 = .ok (.iinc 1 1, 3) := by decide +kernel
theorem dX10_init_86 : decode cX10_init 86 = .ok (.goto 25, 3) := by decide +kernel
theorem dX10_init_89 : decode cX10_init 89 = .ok (.iload_n 1, 1) := by decide +kernel
theorem dX10_init_90 : decode cX10_init 90 = .ok (.bipush 24, 2) := by decide +kernel
theorem dX10_init_92 : decode cX10_init 92 = .ok (.if_icmp .ge 19, 3) := by decide +kernel
theorem dX10_init_95 : decode cX10_init 95 = .ok (.aload_n 0, 1) := by decide +kernel
theorem dX10_init_96 : decode cX10_init 96 = .ok (.getfield 28, 3) := by decide +kernel
theorem dX10_init_99 : decode cX10_init 99 = .ok (.iload_n 1, 1) := by decide +kernel
theorem dX10_init_100 : decode cX10_init 100 = .ok (.aload_n 0, 1) := by decide +kernel
theorem dX10_init_101 : decode cX10_init 101 = .ok (.getfield 28, 3) := by decide +kernel
theorem dX10_init_104 : decode cX10_init 104 = .ok (.iload_n 1, 1) := by decide +kernel
theorem dX10_init_105 : decode cX10_init 105 = .ok (.laload, 1) := by decide +kernel
theorem dX10_init_106 : decode cX10_init 106 = .ok (.iload_n 3, 1) := by decide +kernel
theorem dX10_init_107 : decode cX10_init 107 = .ok (.invokestatic 43, 3) := by decide +kernel
theorem dX10_init_110 : decode cX10_init 110 = .ok (.lastore, 1) := by decide +kernel
theorem dX10_init_111 : decode cX10_init 111 = .ok (.iinc 2 1, 3) := by decide +kernel
theorem dX10_init_114 : decode cX10_init 114 = .ok (.goto (-53), 3) := by decide +kernel
theorem dX10_init_117 : decode cX10_init 117 = .ok (.return_, 1) := by decide +kernel
theorem dX10_longer_0 : decode cX10_longer 0 = .ok (.lload_n 0, 1) := by decide +kernel
theorem dX10_longer_1 : decode cX10_longer 1 = .ok (.iconst 5, 1) := by decide +kernel
theorem dX10_longer_2 : decode cX10_longer 2 = .ok (.lshl, 1) := by decide +kernel
theorem dX10_longer_3 : decode cX10_longer 3 = .ok (.iload_n 2, 1) := by decide +kernel
theorem dX10_longer_4 : decode cX10_longer 4 = .ok (.bipush 97, 2) := by decide +kernel
theorem dX10_longer_6 : decode cX10_longer 6 = .ok (.isub, 1) := by decide +kernel
theorem dX10_longer_7 : decode cX10_longer 7 = .ok (.iconst 1, 1) := by decide +kernel
theorem dX10_longer_8 : decode cX10_longer 8 = .ok (.iadd, 1) := by decide +kernel
theorem dX10_longer_9 : decode cX10_longer 9 = .ok (.i2l, 1) := by decide +kernel
theorem dX10_longer_10 : decode cX10_longer 10 = .ok (.lor, 1) := by decide +kernel
theorem dX10_longer_11 : decode cX10_longer 11 = .ok (.lreturn, 1) := by decide +kernel
theorem dX10_put_0 : decode cX10_put 0 = .ok (.bipush 24, 2) := by decide +kernel
theorem dX10_put_2 : decode cX10_put 2 = .ok (.istore_n 2, 1) := by decide +kernel
theorem dX10_put_3 : decode cX10_put 3 = .ok (.iload_n 2, 1) := by decide +kernel
theorem dX10_put_4 : decode cX10_put 4 = .ok (.ifCond .lt 45, 3) := by decide +kernel
theorem dX10_put_7 : decode cX10_put 7 = .ok (.aload_n 0, 1) := by decide +kernel
theorem dX10_put_8 : decode cX10_put 8 = .ok (.getfield 47, 3) := by decide +kernel
theorem dX10_put_11 : decode cX10_put 11 = .ok (.sipush 940, 3) := by decide +kernel
theorem dX10_put_14 : decode cX10_put 14 = .ok (.if_icmp .ge 35, 3) := by decide +kernel
theorem dX10_put_17 : decode cX10_put 17 = .ok (.aload_n 0, 1) := by decide +kernel
theorem dX10_put_18 : decode cX10_put 18 = .ok (.getfield 11, 3) := by decide +kernel
theorem dX10_put_21 : decode cX10_put 21 = .ok (.aload_n 0, 1) := by decide +kernel
theorem dX10_put_22 : decode cX10_put 22 = .ok (.getfield 47, 3) := by decide +kernel
theorem dX10_put_25 : decode cX10_put 25 = .ok (.iload_n 1, 1) := by decide +kernel
theorem dX10_put_26 : decode cX10_put 26 = .ok (.iload_n 2, 1) := by decide +kernel
theorem dX10_put_27 : decode cX10_put 27 = .ok (.iushr, 1) := by decide +kernel
theorem dX10_put_28 : decode cX10_put 28 = .ok (.sipush 255, 3) := by decide +kernel
theorem dX10_put_31 : decode cX10_put 31 = .ok (.iand, 1) := by decide +kernel
theorem dX10_put_32 : decode cX10_put 32 = .ok (.iastore, 1) := by decide +kernel
theorem dX10_put_33 : decode cX10_put 33 = .ok (.aload_n 0, 1) := by decide +kernel
theorem dX10_put_34 : decode cX10_put 34 = .ok (.dup, 1) := by decide +kernel
theorem dX10_put_35 : decode cX10_put 35 = .ok (.getfield 47, 3) := by decide +kernel
theorem dX10_put_38 : decode cX10_put 38 = .ok (.iconst 1, 1) := by decide +kernel
theorem dX10_put_39 : decode cX10_put 39 = .ok (.iadd, 1) := by decide +kernel
theorem dX10_put_40 : decode cX10_put 40 = .ok (.putfield 47, 3) := by decide +kernel
theorem dX10_put_43 : decode cX10_put 43 = .ok (.iinc 2 (-8), 3) := by decide +kernel
theorem dX10_put_46 : decode cX10_put 46 = .ok (.goto (-43), 3) := by decide +kernel
theorem dX10_put_49 : decode cX10_put 49 = .ok (.return_, 1) := by decide +kernel
theorem dX10_begin_0 : decode cX10_begin 0 = .ok (.aload_n 0, 1) := by decide +kernel
theorem dX10_begin_1 : decode cX10_begin 1 = .ok (.getfield 47, 3) := by decide +kernel
theorem dX10_begin_4 : decode cX10_begin 4 = .ok (.iload_n 1, 1) := by decide +kernel
theorem dX10_begin_5 : decode cX10_begin 5 = .ok (.invokestatic 50, 3) := by decide +kernel
theorem dX10_begin_8 : decode cX10_begin 8 = .ok (.istore_n 2, 1) := by decide +kernel
theorem dX10_begin_9 : decode cX10_begin 9 = .ok (.aload_n 0, 1) := by decide +kernel
theorem dX10_begin_10 : decode cX10_begin 10 = .ok (.aload_n 0, 1) := by decide +kernel
theorem dX10_begin_11 : decode cX10_begin 11 = .ok (.getfield 47, 3) := by decide +kernel
theorem dX10_begin_14 : decode cX10_begin 14 = .ok (.iload_n 1, 1) := by decide +kernel
theorem dX10_begin_15 : decode cX10_begin 15 = .ok (.if_icmp .le 7, 3) := by decide +kernel
theorem dX10_begin_18 : decode cX10_begin 18 = .ok (.iconst 1, 1) := by decide +kernel
theorem dX10_begin_19 : decode cX10_begin 19 = .ok (.goto 4, 3) := by decide +kernel
theorem dX10_begin_22 : decode cX10_begin 22 = .ok (.iconst 0, 1) := by decide +kernel
theorem dX10_begin_23 : decode cX10_begin 23 = .ok (.putfield 56, 3) := by decide +kernel
theorem dX10_begin_26 : decode cX10_begin 26 = .ok (.aload_n 0, 1) := by decide +kernel
theorem dX10_begin_27 : decode cX10_begin 27 = .ok (.iconst 0, 1) := by decide +kernel
theorem dX10_begin_28 : decode cX10_begin 28 = .ok (.putfield 60, 3) := by decide +kernel
theorem dX10_begin_31 : decode cX10_begin 31 = .ok (.aload_n 0, 1) := by decide +kernel
theorem dX10_begin_32 : decode cX10_begin 32 = .ok (.iconst 0, 1) := by decide +kernel
theorem dX10_begin_33 : decode cX10_begin 33 = .ok (.putfield 63, 3) := by decide +kernel
theorem dX10_begin_36 : decode cX10_begin 36 = .ok (.aload_n 0, 1) := by decide +kernel
theorem dX10_begin_37 : decode cX10_begin 37 = .ok (.iconst 0, 1) := by decide +kernel
theorem dX10_begin_38 : decode cX10_begin 38 = .ok (.putfield 66, 3) := by decide +kernel
theorem dX10_begin_41 : decode cX10_begin 41 = .ok (.aload_n 0, 1) := by decide +kernel
theorem dX10_begin_42 : decode cX10_begin 42 = .ok (.iconst 0, 1) := by decide +kernel
theorem dX10_begin_43 : decode cX10_begin 43 = .ok (.putfield 69, 3) := by decide +kernel
theorem dX10_begin_46 : decode cX10_begin 46 = .ok (.iconst 0, 1) := by decide +kernel
theorem dX10_begin_47 : decode cX10_begin 47 = .ok (.istore_n 3, 1) := by decide +kernel
theorem dX10_begin_48 : decode cX10_begin 48 = .ok (.iload_n 3, 1) := by decide +kernel
theorem dX10_begin_49 : decode cX10_begin 49 = .ok (.iload_n 2, 1) := by decide +kernel
theorem dX10_begin_50 : decode cX10_begin 50 = .ok (.if_icmp .ge 18, 3) := by decide +kernel
theorem dX10_begin_53 : decode cX10_begin 53 = .ok (.iload_n 3, 1) := by decide +kernel
theorem dX10_begin_54 : decode cX10_begin 54 = .ok (.iconst 1, 1) := by decide +kernel
theorem dX10_begin_55 : decode cX10_begin 55 = .ok (.iadd, 1) := by decide +kernel
theorem dX10_begin_56 : decode cX10_begin 56 = .ok (.aload_n 0, 1) := by decide +kernel
theorem dX10_begin_57 : decode cX10_begin 57 = .ok (.iload_n 3, 1) := by decide +kernel
theorem dX10_begin_58 : decode cX10_begin 58 = .ok (.invokevirtual 72, 3) := by decide +kernel
theorem dX10_begin_61 : decode cX10_begin 61 = .ok (.invokestatic 76, 3) := by decide +kernel
theorem dX10_begin_64 : decode cX10_begin 64 = .ok (.istore_n 3, 1) := by decide +kernel
theorem dX10_begin_65 : decode cX10_begin 65 = .ok (.goto (-17), 3) := by decide +kernel
theorem dX10_begin_68 : decode cX10_begin 68 = .ok (.aload_n 0, 1) := by decide +kernel
theorem dX10_begin_69 : decode cX10_begin 69 = .ok (.iconst 0, 1) := by decide +kernel
theorem dX10_begin_70 : decode cX10_begin 70 = .ok (.iload_n 2, 1) := by decide +kernel
theorem dX10_begin_71 : decode cX10_begin 71 = .ok (.iconst (-1), 1) := by decide +kernel
theorem dX10_begin_72 : decode cX10_begin 72 = .ok (.lconst 0, 1) := by decide +kernel
theorem dX10_begin_73 : decode cX10_begin 73 = .ok (.invokevirtual 79, 3) := by decide +kernel
theorem dX10_begin_76 : decode cX10_begin 76 = .ok (.return_, 1) := by decide +kernel
theorem dX10_readToken_0 : decode cX10_readToken 0 = .ok (.aload_n 0, 1) := by decide +kernel
theorem dX10_readToken_1 : decode cX10_readToken 1 = .ok (.getfield 11, 3) := by decide +kernel
theorem dX10_readToken_4 : decode cX10_readToken 4 = .ok (.iload_n 1, 1) := by decide +kernel
theorem dX10_readToken_5 : decode cX10_readToken 5 = .ok (.iaload, 1) := by decide +kernel
theorem dX10_readToken_6 : decode cX10_readToken 6 = .ok (.istore_n 2, 1) := by decide +kernel
theorem dX10_readToken_7 : decode cX10_readToken 7 = .ok (.iload_n 2, 1) := by decide +kernel
theorem dX10_readToken_8 : decode cX10_readToken 8 = .ok (.bipush 32, 2) := by decide +kernel
theorem dX10_readToken_10 : decode cX10_readToken 10 = .ok (.if_icmp .eq 9, 3) := by decide +kernel
theorem dX10_readToken_13 : decode cX10_readToken 13 = .ok (.iload_n 2, 1) := by decide +kernel
theorem dX10_readToken_14 : decode cX10_readToken 14 = .ok (.bipush 10, 2) := by decide +kernel
theorem dX10_readToken_16 : decode cX10_readToken 16 = .ok (.if_icmp .ne 7, 3) := by decide +kernel
theorem dX10_readToken_19 : decode cX10_readToken 19 = .ok (.iload_n 1, 1) := by decide +kernel
theorem dX10_readToken_20 : decode cX10_readToken 20 = .ok (.iconst 1, 1) := by decide +kernel
theorem dX10_readToken_21 : decode cX10_readToken 21 = .ok (.iadd, 1) := by decide +kernel
theorem dX10_readToken_22 : decode cX10_readToken 22 = .ok (.ireturn, 1) := by decide +kernel
theorem dX10_readToken_23 : decode cX10_readToken 23 = .ok (.iload_n 2, 1) := by decide +kernel
theorem dX10_readToken_24 : decode cX10_readToken 24 = .ok (.invokestatic 83, 3) := by decide +kernel
theorem dX10_readToken_27 : decode cX10_readToken 27 = .ok (.ifCond .ne 10, 3) := by decide +kernel
theorem dX10_readToken_30 : decode cX10_readToken 30 = .ok (.iload_n 2, 1) := by decide +kernel
theorem dX10_readToken_31 : decode cX10_readToken 31 = .ok (.invokestatic 87, 3) := by decide +kernel
theorem dX10_readToken_34 : decode cX10_readToken 34 = .ok (.ifCond .eq 9, 3) := by decide +kernel
theorem dX10_readToken_37 : decode cX10_readToken 37 = .ok (.aload_n 0, 1) := by decide +kernel
theorem dX10_readToken_38 : decode cX10_readToken 38 = .ok (.iload_n 1, 1) := by decide +kernel
theorem dX10_readToken_39 : decode cX10_readToken 39 = .ok (.invokevirtual 90, 3) := by decide +kernel
theorem dX10_readToken_42 : decode cX10_readToken 42 = .ok (.ireturn, 1) := by decide +kernel
theorem dX10_readToken_43 : decode cX10_readToken 43 = .ok (.iload_n 2, 1) := by decide +kernel
theorem dX10_readToken_44 : decode cX10_readToken 44 = .ok (.bipush 59, 2) := by decide +kernel
theorem dX10_readToken_46 : decode cX10_readToken 46 = .ok (.if_icmp .eq 22, 3) := by decide +kernel
theorem dX10_readToken_49 : decode cX10_readToken 49 = .ok (.iload_n 2, 1) := by decide +kernel
theorem dX10_readToken_50 : decode cX10_readToken 50 = .ok (.bipush 40, 2) := by decide +kernel
theorem dX10_readToken_52 : decode cX10_readToken 52 = .ok (.if_icmp .eq 16, 3) := by decide +kernel
theorem dX10_readToken_55 : decode cX10_readToken 55 = .ok (.iload_n 2, 1) := by decide +kernel
theorem dX10_readToken_56 : decode cX10_readToken 56 = .ok (.bipush 41, 2) := by decide +kernel
theorem dX10_readToken_58 : decode cX10_readToken 58 = .ok (.if_icmp .eq 10, 3) := by decide +kernel
theorem dX10_readToken_61 : decode cX10_readToken 61 = .ok (.iload_n 2, 1) := by decide +kernel
theorem dX10_readToken_62 : decode cX10_readToken 62 = .ok (.invokestatic 93, 3) := by decide +kernel
theorem dX10_readToken_65 : decode cX10_readToken 65 = .ok (.ifCond .eq 7, 3) := by decide +kernel
theorem dX10_readToken_68 : decode cX10_readToken 68 = .ok (.iconst 1, 1) := by decide +kernel
theorem dX10_readToken_69 : decode cX10_readToken 69 = .ok (.goto 4, 3) := by decide +kernel
theorem dX10_readToken_72 : decode cX10_readToken 72 = .ok (.iconst 0, 1) := by decide +kernel
theorem dX10_readToken_73 : decode cX10_readToken 73 = .ok (.istore_n 3, 1) := by decide +kernel
theorem dX10_readToken_74 : decode cX10_readToken 74 = .ok (.aload_n 0, 1) := by decide +kernel
theorem dX10_readToken_75 : decode cX10_readToken 75 = .ok (.iload_n 3, 1) := by decide +kernel
theorem dX10_readToken_76 : decode cX10_readToken 76 = .ok (.ifCond .eq 7, 3) := by decide +kernel
theorem dX10_readToken_79 : decode cX10_readToken 79 = .ok (.iconst 5, 1) := by decide +kernel
theorem dX10_readToken_80 : decode cX10_readToken 80 = .ok (.goto 4, 3) := by decide +kernel
theorem dX10_readToken_83 : decode cX10_readToken 83 = .ok (.iconst 1, 1) := by decide +kernel
theorem dX10_readToken_84 : decode cX10_readToken 84 = .ok (.iload_n 1, 1) := by decide +kernel
theorem dX10_readToken_85 : decode cX10_readToken 85 = .ok (.iload_n 2, 1) := by decide +kernel
theorem dX10_readToken_86 : decode cX10_readToken 86 = .ok (.lconst 0, 1) := by decide +kernel
theorem dX10_readToken_87 : decode cX10_readToken 87 = .ok (.invokevirtual 79, 3) := by decide +kernel
theorem dX10_readToken_90 : decode cX10_readToken 90 = .ok (.iload_n 1, 1) := by decide +kernel
theorem dX10_readToken_91 : decode cX10_readToken 91 = .ok (.iconst 1, 1) := by decide +kernel
theorem dX10_readToken_92 : decode cX10_readToken 92 = .ok (.iadd, 1) := by decide +kernel
theorem dX10_readToken_93 : decode cX10_readToken 93 = .ok (.ireturn, 1) := by decide +kernel
theorem dX10_readRun_0 : decode cX10_readRun 0 = .ok (.iconst 0, 1) := by decide +kernel
theorem dX10_readRun_1 : decode cX10_readRun 1 = .ok (.istore_n 2, 1) := by decide +kernel
theorem dX10_readRun_2 : decode cX10_readRun 2 = .ok (.iconst 0, 1) := by decide +kernel
theorem dX10_readRun_3 : decode cX10_readRun 3 = .ok (.istore_n 3, 1) := by decide +kernel
theorem dX10_readRun_4 : decode cX10_readRun 4 = .ok (.iconst 0, 1) := by decide +kernel
theorem dX10_readRun_5 : decode cX10_readRun 5 = .ok (.istore 4, 2) := by decide +kernel
theorem dX10_readRun_7 : decode cX10_readRun 7 = .ok (.lconst 0, 1) := by decide +kernel
theorem dX10_readRun_8 : decode cX10_readRun 8 = .ok (.lstore 5, 2) := by decide +kernel
theorem dX10_readRun_10 : decode cX10_readRun 10 = .ok (.iload_n 1, 1) := by decide +kernel
theorem dX10_readRun_11 : decode cX10_readRun 11 = .ok (.istore 7, 2) := by decide +kernel
theorem dX10_readRun_13 : decode cX10_readRun 13 = .ok (.iload 7, 2) := by decide +kernel
theorem dX10_readRun_15 : decode cX10_readRun 15 = .ok (.aload_n 0, 1) := by decide +kernel
theorem dX10_readRun_16 : decode cX10_readRun 16 = .ok (.getfield 47, 3) := by decide +kernel
theorem dX10_readRun_19 : decode cX10_readRun 19 = .ok (.if_icmp .ge 89, 3) := by decide +kernel
theorem dX10_readRun_22 : decode cX10_readRun 22 = .ok (.aload_n 0, 1) := by decide +kernel
theorem dX10_readRun_23 : decode cX10_readRun 23 = .ok (.getfield 11, 3) := by decide +kernel
theorem dX10_readRun_26 : decode cX10_readRun 26 = .ok (.iload 7, 2) := by decide +kernel
theorem dX10_readRun_28 : decode cX10_readRun 28 = .ok (.iaload, 1) := by decide +kernel
theorem dX10_readRun_29 : decode cX10_readRun 29 = .ok (.invokestatic 83, 3) := by decide +kernel
theorem dX10_readRun_32 : decode cX10_readRun 32 = .ok (.ifCond .ne 16, 3) := by decide +kernel
theorem dX10_readRun_35 : decode cX10_readRun 35 = .ok (.aload_n 0, 1) := by decide +kernel
theorem dX10_readRun_36 : decode cX10_readRun 36 = .ok (.getfield 11, 3) := by decide +kernel
theorem dX10_readRun_39 : decode cX10_readRun 39 = .ok (.iload 7, 2) := by decide +kernel
theorem dX10_readRun_41 : decode cX10_readRun 41 = .ok (.iaload, 1) := by decide +kernel
theorem dX10_readRun_42 : decode cX10_readRun 42 = .ok (.invokestatic 87, 3) := by decide +kernel
theorem dX10_readRun_45 : decode cX10_readRun 45 = .ok (.ifCond .eq 63, 3) := by decide +kernel
theorem dX10_readRun_48 : decode cX10_readRun 48 = .ok (.aload_n 0, 1) := by decide +kernel
theorem dX10_readRun_49 : decode cX10_readRun 49 = .ok (.getfield 11, 3) := by decide +kernel
theorem dX10_readRun_52 : decode cX10_readRun 52 = .ok (.iload 7, 2) := by decide +kernel
theorem dX10_readRun_54 : decode cX10_readRun 54 = .ok (.iaload, 1) := by decide +kernel
theorem dX10_readRun_55 : decode cX10_readRun 55 = .ok (.invokestatic 83, 3) := by decide +kernel
theorem dX10_readRun_58 : decode cX10_readRun 58 = .ok (.ifCond .eq 23, 3) := by decide +kernel
theorem dX10_readRun_61 : decode cX10_readRun 61 = .ok (.iinc 2 1, 3) := by decide +kernel
theorem dX10_readRun_64 : decode cX10_readRun 64 = .ok (.lload 5, 2) := by decide +kernel
theorem dX10_readRun_66 : decode cX10_readRun 66 = .ok (.aload_n 0, 1) := by decide +kernel
theorem dX10_readRun_67 : decode cX10_readRun 67 = .ok (.getfield 11, 3) := by decide +kernel
theorem dX10_readRun_70 : decode cX10_readRun 70 = .ok (.iload 7, 2) := by decide +kernel
theorem dX10_readRun_72 : decode cX10_readRun 72 = .ok (.iaload, 1) := by decide +kernel
theorem dX10_readRun_73 : decode cX10_readRun 73 = .ok (.invokestatic 43, 3) := by decide +kernel
theorem dX10_readRun_76 : decode cX10_readRun 76 = .ok (.lstore 5, 2) := by decide +kernel
theorem dX10_readRun_78 : decode cX10_readRun 78 = .ok (.goto 24, 3) := by decide +kernel
theorem dX10_readRun_81 : decode cX10_readRun 81 = .ok (.iinc 3 1, 3) := by decide +kernel
theorem dX10_readRun_84 : decode cX10_readRun 84 = .ok (.iload 4, 2) := by decide +kernel
theorem dX10_readRun_86 : decode cX10_readRun 86 = .ok (.bipush 10, 2) := by decide +kernel
theorem dX10_readRun_88 : decode cX10_readRun 88 = .ok (.imul, 1) := by decide +kernel
theorem dX10_readRun_89 : decode cX10_readRun 89 = .ok (.aload_n 0, 1) := by decide +kernel
theorem dX10_readRun_90 : decode cX10_readRun 90 = .ok (.getfield 11, 3) := by decide +kernel
theorem dX10_readRun_93 : decode cX10_readRun 93 = .ok (.iload 7, 2) := by decide +kernel
theorem dX10_readRun_95 : decode cX10_readRun 95 = .ok (.iaload, 1) := by decide +kernel
theorem dX10_readRun_96 : decode cX10_readRun 96 = .ok (.iadd, 1) := by decide +kernel
theorem dX10_readRun_97 : decode cX10_readRun 97 = .ok (.bipush 48, 2) := by decide +kernel
theorem dX10_readRun_99 : decode cX10_readRun 99 = .ok (.isub, 1) := by decide +kernel
theorem dX10_readRun_100 : decode cX10_readRun 100 = .ok (.istore 4, 2) := by decide +kernel
theorem dX10_readRun_102 : decode cX10_readRun 102 = .ok (.iinc 7 1, 3) := by decide +kernel
theorem dX10_readRun_105 : decode cX10_readRun 105 = .ok (.goto (-92), 3) := by decide +kernel
theorem dX10_readRun_108 : decode cX10_readRun 108 = .ok (.iload_n 2, 1) := by decide +kernel
theorem dX10_readRun_109 : decode cX10_readRun 109 = .ok (.ifCond .ne 20, 3) := by decide +kernel
theorem dX10_readRun_112 : decode cX10_readRun 112 = .ok (.iload_n 3, 1) := by decide +kernel
theorem dX10_readRun_113 : decode cX10_readRun 113 = .ok (.iconst 3, 1) := by decide +kernel
theorem dX10_readRun_114 : decode cX10_readRun 114 = .ok (.if_icmp .gt 15, 3) := by decide +kernel
theorem dX10_readRun_117 : decode cX10_readRun 117 = .ok (.aload_n 0, 1) := by decide +kernel
theorem dX10_readRun_118 : decode cX10_readRun 118 = .ok (.iconst 2, 1) := by decide +kernel
theorem dX10_readRun_119 : decode cX10_readRun 119 = .ok (.iload_n 1, 1) := by decide +kernel
theorem dX10_readRun_120 : decode cX10_readRun 120 = .ok (.iload 4, 2) := by decide +kernel
theorem dX10_readRun_122 : decode cX10_readRun 122 = .ok (.lconst 0, 1) := by decide +kernel
theorem dX10_readRun_123 : decode cX10_readRun 123 = .ok (.invokevirtual 79, 3) := by decide +kernel
theorem dX10_readRun_126 : decode cX10_readRun 126 = .ok (.goto 52, 3) := by decide +kernel
theorem dX10_readRun_129 : decode cX10_readRun 129 = .ok (.iload_n 3, 1) := by decide +kernel
theorem dX10_readRun_130 : decode cX10_readRun 130 = .ok (.ifCond .ne 40, 3) := by decide +kernel
theorem dX10_readRun_133 : decode cX10_readRun 133 = .ok (.iload_n 2, 1) := by decide +kernel
theorem dX10_readRun_134 : decode cX10_readRun 134 = .ok (.bipush 7, 2) := by decide +kernel
theorem dX10_readRun_136 : decode cX10_readRun 136 = .ok (.if_icmp .gt 34, 3) := by decide +kernel
theorem dX10_readRun_139 : decode cX10_readRun 139 = .ok (.aload_n 0, 1) := by decide +kernel
theorem dX10_readRun_140 : decode cX10_readRun 140 = .ok (.lload 5, 2) := by decide +kernel
theorem dX10_readRun_142 : decode cX10_readRun 142 = .ok (.invokevirtual 96, 3) := by decide +kernel
theorem dX10_readRun_145 : decode cX10_readRun 145 = .ok (.istore 8, 2) := by decide +kernel
theorem dX10_readRun_147 : decode cX10_readRun 147 = .ok (.aload_n 0, 1) := by decide +kernel
theorem dX10_readRun_148 : decode cX10_readRun 148 = .ok (.iload 8, 2) := by decide +kernel
theorem dX10_readRun_150 : decode cX10_readRun 150 = .ok (.iconst (-1), 1) := by decide +kernel
theorem dX10_readRun_151 : decode cX10_readRun 151 = .ok (.if_icmp .ne 7, 3) := by decide +kernel
theorem dX10_readRun_154 : decode cX10_readRun 154 = .ok (.iconst 3, 1) := by decide +kernel
theorem dX10_readRun_155 : decode cX10_readRun 155 = .ok (.goto 4, 3) := by decide +kernel
theorem dX10_readRun_158 : decode cX10_readRun 158 = .ok (.iconst 4, 1) := by decide +kernel
theorem dX10_readRun_159 : decode cX10_readRun 159 = .ok (.iload_n 1, 1) := by decide +kernel
theorem dX10_readRun_160 : decode cX10_readRun 160 = .ok (.iload 8, 2) := by decide +kernel
theorem dX10_readRun_162 : decode cX10_readRun 162 = .ok (.lload 5, 2) := by decide +kernel
theorem dX10_readRun_164 : decode cX10_readRun 164 = .ok (.invokevirtual 79, 3) := by decide +kernel
theorem dX10_readRun_167 : decode cX10_readRun 167 = .ok (.goto 11, 3) := by decide +kernel
theorem dX10_readRun_170 : decode cX10_readRun 170 = .ok (.aload_n 0, 1) := by decide +kernel
theorem dX10_readRun_171 : decode cX10_readRun 171 = .ok (.iconst 1, 1) := by decide +kernel
theorem dX10_readRun_172 : decode cX10_readRun 172 = .ok (.iload_n 1, 1) := by decide +kernel
theorem dX10_readRun_173 : decode cX10_readRun 173 = .ok (.iconst (-1), 1) := by decide +kernel
theorem dX10_readRun_174 : decode cX10_readRun 174 = .ok (.lconst 0, 1) := by decide +kernel
theorem dX10_readRun_175 : decode cX10_readRun 175 = .ok (.invokevirtual 79, 3) := by decide +kernel
theorem dX10_readRun_178 : decode cX10_readRun 178 = .ok (.iload 7, 2) := by decide +kernel
theorem dX10_readRun_180 : decode cX10_readRun 180 = .ok (.ireturn, 1) := by decide +kernel
theorem dX10_keywordOf_0 : decode cX10_keywordOf 0 = .ok (.iconst 0, 1) := by decide +kernel
theorem dX10_keywordOf_1 : decode cX10_keywordOf 1 = .ok (.istore_n 3, 1) := by decide +kernel
theorem dX10_keywordOf_2 : decode cX10_keywordOf 2 = .ok (.iload_n 3, 1) := by decide +kernel
theorem dX10_keywordOf_3 : decode cX10_keywordOf 3 = .ok (.bipush 24, 2) := by decide +kernel
theorem dX10_keywordOf_5 : decode cX10_keywordOf 5 = .ok (.if_icmp .ge 22, 3) := by decide +kernel
theorem dX10_keywordOf_8 : decode cX10_keywordOf 8 = .ok (.aload_n 0, 1) := by decide +kernel
theorem dX10_keywordOf_9 : decode cX10_keywordOf 9 = .ok (.getfield 28, 3) := by decide +kernel
theorem dX10_keywordOf_12 : decode cX10_keywordOf 12 = .ok (.iload_n 3, 1) := by decide +kernel
theorem dX10_keywordOf_13 : decode cX10_keywordOf 13 = .ok (.laload, 1) := by decide +kernel
theorem dX10_keywordOf_14 : decode cX10_keywordOf 14 = .ok (.lload_n 1, 1) := by decide +kernel
theorem dX10_keywordOf_15 : decode cX10_keywordOf 15 = .ok (.lcmp, 1) := by decide +kernel
theorem dX10_keywordOf_16 : decode cX10_keywordOf 16 = .ok (.ifCond .ne 5, 3) := by decide +kernel
theorem dX10_keywordOf_19 : decode cX10_keywordOf 19 = .ok (.iload_n 3, 1) := by decide +kernel
theorem dX10_keywordOf_20 : decode cX10_keywordOf 20 = .ok (.ireturn, 1) := by decide +kernel
theorem dX10_keywordOf_21 : decode cX10_keywordOf 21 = .ok (.iinc 3 1, 3) := by decide +kernel
theorem dX10_keywordOf_24 : decode cX10_keywordOf 24 = .ok (.goto (-22), 3) := by decide +kernel
theorem dX10_keywordOf_27 : decode cX10_keywordOf 27 = .ok (.iconst (-1), 1) := by decide +kernel
theorem dX10_keywordOf_28 : decode cX10_keywordOf 28 = .ok (.ireturn, 1) := by decide +kernel
theorem dX10_add_0 : decode cX10_add 0 = .ok (.aload_n 0, 1) := by decide +kernel
theorem dX10_add_1 : decode cX10_add 1 = .ok (.getfield 66, 3) := by decide +kernel
theorem dX10_add_4 : decode cX10_add 4 = .ok (.sipush 940, 3) := by decide +kernel
theorem dX10_add_7 : decode cX10_add 7 = .ok (.if_icmp .gt 54, 3) := by decide +kernel
theorem dX10_add_10 : decode cX10_add 10 = .ok (.aload_n 0, 1) := by decide +kernel
theorem dX10_add_11 : decode cX10_add 11 = .ok (.getfield 15, 3) := by decide +kernel
theorem dX10_add_14 : decode cX10_add 14 = .ok (.aload_n 0, 1) := by decide +kernel
theorem dX10_add_15 : decode cX10_add 15 = .ok (.getfield 66, 3) := by decide +kernel
theorem dX10_add_18 : decode cX10_add 18 = .ok (.iload_n 1, 1) := by decide +kernel
theorem dX10_add_19 : decode cX10_add 19 = .ok (.iastore, 1) := by decide +kernel
theorem dX10_add_20 : decode cX10_add 20 = .ok (.aload_n 0, 1) := by decide +kernel
theorem dX10_add_21 : decode cX10_add 21 = .ok (.getfield 18, 3) := by decide +kernel
theorem dX10_add_24 : decode cX10_add 24 = .ok (.aload_n 0, 1) := by decide +kernel
theorem dX10_add_25 : decode cX10_add 25 = .ok (.getfield 66, 3) := by decide +kernel
theorem dX10_add_28 : decode cX10_add 28 = .ok (.iload_n 2, 1) := by decide +kernel
theorem dX10_add_29 : decode cX10_add 29 = .ok (.iastore, 1) := by decide +kernel
theorem dX10_add_30 : decode cX10_add 30 = .ok (.aload_n 0, 1) := by decide +kernel
theorem dX10_add_31 : decode cX10_add 31 = .ok (.getfield 21, 3) := by decide +kernel
theorem dX10_add_34 : decode cX10_add 34 = .ok (.aload_n 0, 1) := by decide +kernel
theorem dX10_add_35 : decode cX10_add 35 = .ok (.getfield 66, 3) := by decide +kernel
theorem dX10_add_38 : decode cX10_add 38 = .ok (.iload_n 3, 1) := by decide +kernel
theorem dX10_add_39 : decode cX10_add 39 = .ok (.iastore, 1) := by decide +kernel
theorem dX10_add_40 : decode cX10_add 40 = .ok (.aload_n 0, 1) := by decide +kernel
theorem dX10_add_41 : decode cX10_add 41 = .ok (.getfield 24, 3) := by decide +kernel
theorem dX10_add_44 : decode cX10_add 44 = .ok (.aload_n 0, 1) := by decide +kernel
theorem dX10_add_45 : decode cX10_add 45 = .ok (.getfield 66, 3) := by decide +kernel
theorem dX10_add_48 : decode cX10_add 48 = .ok (.lload 4, 2) := by decide +kernel
theorem dX10_add_50 : decode cX10_add 50 = .ok (.lastore, 1) := by decide +kernel
theorem dX10_add_51 : decode cX10_add 51 = .ok (.aload_n 0, 1) := by decide +kernel
theorem dX10_add_52 : decode cX10_add 52 = .ok (.dup, 1) := by decide +kernel
theorem dX10_add_53 : decode cX10_add 53 = .ok (.getfield 66, 3) := by decide +kernel
theorem dX10_add_56 : decode cX10_add 56 = .ok (.iconst 1, 1) := by decide +kernel
theorem dX10_add_57 : decode cX10_add 57 = .ok (.iadd, 1) := by decide +kernel
theorem dX10_add_58 : decode cX10_add 58 = .ok (.putfield 66, 3) := by decide +kernel
theorem dX10_add_61 : decode cX10_add 61 = .ok (.return_, 1) := by decide +kernel
theorem dX10_isSmall_0 : decode cX10_isSmall 0 = .ok (.iload_n 0, 1) := by decide +kernel
theorem dX10_isSmall_1 : decode cX10_isSmall 1 = .ok (.bipush 97, 2) := by decide +kernel
theorem dX10_isSmall_3 : decode cX10_isSmall 3 = .ok (.if_icmp .lt 13, 3) := by decide +kernel
theorem dX10_isSmall_6 : decode cX10_isSmall 6 = .ok (.iload_n 0, 1) := by decide +kernel
theorem dX10_isSmall_7 : decode cX10_isSmall 7 = .ok (.bipush 122, 2) := by decide +kernel
theorem dX10_isSmall_9 : decode cX10_isSmall 9 = .ok (.if_icmp .gt 7, 3) := by decide +kernel
theorem dX10_isSmall_12 : decode cX10_isSmall 12 = .ok (.iconst 1, 1) := by decide +kernel
theorem dX10_isSmall_13 : decode cX10_isSmall 13 = .ok (.goto 4, 3) := by decide +kernel
theorem dX10_isSmall_16 : decode cX10_isSmall 16 = .ok (.iconst 0, 1) := by decide +kernel
theorem dX10_isSmall_17 : decode cX10_isSmall 17 = .ok (.ireturn, 1) := by decide +kernel
theorem dX10_isDigit_0 : decode cX10_isDigit 0 = .ok (.iload_n 0, 1) := by decide +kernel
theorem dX10_isDigit_1 : decode cX10_isDigit 1 = .ok (.bipush 48, 2) := by decide +kernel
theorem dX10_isDigit_3 : decode cX10_isDigit 3 = .ok (.if_icmp .lt 13, 3) := by decide +kernel
theorem dX10_isDigit_6 : decode cX10_isDigit 6 = .ok (.iload_n 0, 1) := by decide +kernel
theorem dX10_isDigit_7 : decode cX10_isDigit 7 = .ok (.bipush 57, 2) := by decide +kernel
theorem dX10_isDigit_9 : decode cX10_isDigit 9 = .ok (.if_icmp .gt 7, 3) := by decide +kernel
theorem dX10_isDigit_12 : decode cX10_isDigit 12 = .ok (.iconst 1, 1) := by decide +kernel
theorem dX10_isDigit_13 : decode cX10_isDigit 13 = .ok (.goto 4, 3) := by decide +kernel
theorem dX10_isDigit_16 : decode cX10_isDigit 16 = .ok (.iconst 0, 1) := by decide +kernel
theorem dX10_isDigit_17 : decode cX10_isDigit 17 = .ok (.ireturn, 1) := by decide +kernel
theorem dX10_isSign_0 : decode cX10_isSign 0 = .ok (.iload_n 0, 1) := by decide +kernel
theorem dX10_isSign_1 : decode cX10_isSign 1 = .ok (.bipush 60, 2) := by decide +kernel
theorem dX10_isSign_3 : decode cX10_isSign 3 = .ok (.if_icmp .eq 15, 3) := by decide +kernel
theorem dX10_isSign_6 : decode cX10_isSign 6 = .ok (.iload_n 0, 1) := by decide +kernel
theorem dX10_isSign_7 : decode cX10_isSign 7 = .ok (.bipush 61, 2) := by decide +kernel
theorem dX10_isSign_9 : decode cX10_isSign 9 = .ok (.if_icmp .eq 9, 3) := by decide +kernel
theorem dX10_isSign_12 : decode cX10_isSign 12 = .ok (.iload_n 0, 1) := by decide +kernel
theorem dX10_isSign_13 : decode cX10_isSign 13 = .ok (.bipush 62, 2) := by decide +kernel
theorem dX10_isSign_15 : decode cX10_isSign 15 = .ok (.if_icmp .ne 7, 3) := by decide +kernel
theorem dX10_isSign_18 : decode cX10_isSign 18 = .ok (.iconst 1, 1) := by decide +kernel
theorem dX10_isSign_19 : decode cX10_isSign 19 = .ok (.goto 4, 3) := by decide +kernel
theorem dX10_isSign_22 : decode cX10_isSign 22 = .ok (.iconst 0, 1) := by decide +kernel
theorem dX10_isSign_23 : decode cX10_isSign 23 = .ok (.ireturn, 1) := by decide +kernel
theorem dX10_fail_0 : decode cX10_fail 0 = .ok (.aload_n 0, 1) := by decide +kernel
theorem dX10_fail_1 : decode cX10_fail 1 = .ok (.iload_n 1, 1) := by decide +kernel
theorem dX10_fail_2 : decode cX10_fail 2 = .ok (.putfield 60, 3) := by decide +kernel
theorem dX10_fail_5 : decode cX10_fail 5 = .ok (.aload_n 0, 1) := by decide +kernel
theorem dX10_fail_6 : decode cX10_fail 6 = .ok (.aload_n 0, 1) := by decide +kernel
theorem dX10_fail_7 : decode cX10_fail 7 = .ok (.getfield 18, 3) := by decide +kernel
theorem dX10_fail_10 : decode cX10_fail 10 = .ok (.aload_n 0, 1) := by decide +kernel
theorem dX10_fail_11 : decode cX10_fail 11 = .ok (.getfield 69, 3) := by decide +kernel
theorem dX10_fail_14 : decode cX10_fail 14 = .ok (.iaload, 1) := by decide +kernel
theorem dX10_fail_15 : decode cX10_fail 15 = .ok (.putfield 63, 3) := by decide +kernel
theorem dX10_fail_18 : decode cX10_fail 18 = .ok (.iconst 0, 1) := by decide +kernel
theorem dX10_fail_19 : decode cX10_fail 19 = .ok (.ireturn, 1) := by decide +kernel
theorem dX10_advance_0 : decode cX10_advance 0 = .ok (.aload_n 0, 1) := by decide +kernel
theorem dX10_advance_1 : decode cX10_advance 1 = .ok (.getfield 69, 3) := by decide +kernel
theorem dX10_advance_4 : decode cX10_advance 4 = .ok (.iconst 1, 1) := by decide +kernel
theorem dX10_advance_5 : decode cX10_advance 5 = .ok (.iadd, 1) := by decide +kernel
theorem dX10_advance_6 : decode cX10_advance 6 = .ok (.aload_n 0, 1) := by decide +kernel
theorem dX10_advance_7 : decode cX10_advance 7 = .ok (.getfield 66, 3) := by decide +kernel
theorem dX10_advance_10 : decode cX10_advance 10 = .ok (.if_icmp .ge 13, 3) := by decide +kernel
theorem dX10_advance_13 : decode cX10_advance 13 = .ok (.aload_n 0, 1) := by decide +kernel
theorem dX10_advance_14 : decode cX10_advance 14 = .ok (.dup, 1) := by decide +kernel
theorem dX10_advance_15 : decode cX10_advance 15 = .ok (.getfield 69, 3) := by decide +kernel
theorem dX10_advance_18 : decode cX10_advance 18 = .ok (.iconst 1, 1) := by decide +kernel
theorem dX10_advance_19 : decode cX10_advance 19 = .ok (.iadd, 1) := by decide +kernel
theorem dX10_advance_20 : decode cX10_advance 20 = .ok (.putfield 69, 3) := by decide +kernel
theorem dX10_advance_23 : decode cX10_advance 23 = .ok (.return_, 1) := by decide +kernel
theorem dX10_atEnd_0 : decode cX10_atEnd 0 = .ok (.aload_n 0, 1) := by decide +kernel
theorem dX10_atEnd_1 : decode cX10_atEnd 1 = .ok (.getfield 15, 3) := by decide +kernel
theorem dX10_atEnd_4 : decode cX10_atEnd 4 = .ok (.aload_n 0, 1) := by decide +kernel
theorem dX10_atEnd_5 : decode cX10_atEnd 5 = .ok (.getfield 69, 3) := by decide +kernel
theorem dX10_atEnd_8 : decode cX10_atEnd 8 = .ok (.iaload, 1) := by decide +kernel
theorem dX10_atEnd_9 : decode cX10_atEnd 9 = .ok (.ifCond .ne 7, 3) := by decide +kernel
theorem dX10_atEnd_12 : decode cX10_atEnd 12 = .ok (.iconst 1, 1) := by decide +kernel
theorem dX10_atEnd_13 : decode cX10_atEnd 13 = .ok (.goto 4, 3) := by decide +kernel
theorem dX10_atEnd_16 : decode cX10_atEnd 16 = .ok (.iconst 0, 1) := by decide +kernel
theorem dX10_atEnd_17 : decode cX10_atEnd 17 = .ok (.ireturn, 1) := by decide +kernel
theorem dX10_atMark_0 : decode cX10_atMark 0 = .ok (.aload_n 0, 1) := by decide +kernel
theorem dX10_atMark_1 : decode cX10_atMark 1 = .ok (.getfield 15, 3) := by decide +kernel
theorem dX10_atMark_4 : decode cX10_atMark 4 = .ok (.aload_n 0, 1) := by decide +kernel
theorem dX10_atMark_5 : decode cX10_atMark 5 = .ok (.getfield 69, 3) := by decide +kernel
theorem dX10_atMark_8 : decode cX10_atMark 8 = .ok (.iaload, 1) := by decide +kernel
theorem dX10_atMark_9 : decode cX10_atMark 9 = .ok (.iconst 5, 1) := by decide +kernel
theorem dX10_atMark_10 : decode cX10_atMark 10 = .ok (.if_icmp .ne 20, 3) := by decide +kernel
theorem dX10_atMark_13 : decode cX10_atMark 13 = .ok (.aload_n 0, 1) := by decide +kernel
theorem dX10_atMark_14 : decode cX10_atMark 14 = .ok (.getfield 21, 3) := by decide +kernel
theorem dX10_atMark_17 : decode cX10_atMark 17 = .ok (.aload_n 0, 1) := by decide +kernel
theorem dX10_atMark_18 : decode cX10_atMark 18 = .ok (.getfield 69, 3) := by decide +kernel
theorem dX10_atMark_21 : decode cX10_atMark 21 = .ok (.iaload, 1) := by decide +kernel
theorem dX10_atMark_22 : decode cX10_atMark 22 = .ok (.iload_n 1, 1) := by decide +kernel
theorem dX10_atMark_23 : decode cX10_atMark 23 = .ok (.if_icmp .ne 7, 3) := by decide +kernel
theorem dX10_atMark_26 : decode cX10_atMark 26 = .ok (.iconst 1, 1) := by decide +kernel
theorem dX10_atMark_27 : decode cX10_atMark 27 = .ok (.goto 4, 3) := by decide +kernel
theorem dX10_atMark_30 : decode cX10_atMark 30 = .ok (.iconst 0, 1) := by decide +kernel
theorem dX10_atMark_31 : decode cX10_atMark 31 = .ok (.ireturn, 1) := by decide +kernel
theorem dX10_atName_0 : decode cX10_atName 0 = .ok (.aload_n 0, 1) := by decide +kernel
theorem dX10_atName_1 : decode cX10_atName 1 = .ok (.getfield 15, 3) := by decide +kernel
theorem dX10_atName_4 : decode cX10_atName 4 = .ok (.aload_n 0, 1) := by decide +kernel
theorem dX10_atName_5 : decode cX10_atName 5 = .ok (.getfield 69, 3) := by decide +kernel
theorem dX10_atName_8 : decode cX10_atName 8 = .ok (.iaload, 1) := by decide +kernel
theorem dX10_atName_9 : decode cX10_atName 9 = .ok (.iconst 3, 1) := by decide +kernel
theorem dX10_atName_10 : decode cX10_atName 10 = .ok (.if_icmp .ne 7, 3) := by decide +kernel
theorem dX10_atName_13 : decode cX10_atName 13 = .ok (.iconst 1, 1) := by decide +kernel
theorem dX10_atName_14 : decode cX10_atName 14 = .ok (.goto 4, 3) := by decide +kernel
theorem dX10_atName_17 : decode cX10_atName 17 = .ok (.iconst 0, 1) := by decide +kernel
theorem dX10_atName_18 : decode cX10_atName 18 = .ok (.ireturn, 1) := by decide +kernel
theorem dX10_keyword_0 : decode cX10_keyword 0 = .ok (.aload_n 0, 1) := by decide +kernel
theorem dX10_keyword_1 : decode cX10_keyword 1 = .ok (.getfield 15, 3) := by decide +kernel
theorem dX10_keyword_4 : decode cX10_keyword 4 = .ok (.aload_n 0, 1) := by decide +kernel
theorem dX10_keyword_5 : decode cX10_keyword 5 = .ok (.getfield 69, 3) := by decide +kernel
theorem dX10_keyword_8 : decode cX10_keyword 8 = .ok (.iaload, 1) := by decide +kernel
theorem dX10_keyword_9 : decode cX10_keyword 9 = .ok (.iconst 4, 1) := by decide +kernel
theorem dX10_keyword_10 : decode cX10_keyword 10 = .ok (.if_icmp .ne 15, 3) := by decide +kernel
theorem dX10_keyword_13 : decode cX10_keyword 13 = .ok (.aload_n 0, 1) := by decide +kernel
theorem dX10_keyword_14 : decode cX10_keyword 14 = .ok (.getfield 21, 3) := by decide +kernel
theorem dX10_keyword_17 : decode cX10_keyword 17 = .ok (.aload_n 0, 1) := by decide +kernel
theorem dX10_keyword_18 : decode cX10_keyword 18 = .ok (.getfield 69, 3) := by decide +kernel
theorem dX10_keyword_21 : decode cX10_keyword 21 = .ok (.iaload, 1) := by decide +kernel
theorem dX10_keyword_22 : decode cX10_keyword 22 = .ok (.goto 4, 3) := by decide +kernel
theorem dX10_keyword_25 : decode cX10_keyword 25 = .ok (.iconst (-1), 1) := by decide +kernel
theorem dX10_keyword_26 : decode cX10_keyword 26 = .ok (.ireturn, 1) := by decide +kernel
theorem dX10_name_0 : decode cX10_name 0 = .ok (.aload_n 0, 1) := by decide +kernel
theorem dX10_name_1 : decode cX10_name 1 = .ok (.getfield 24, 3) := by decide +kernel
theorem dX10_name_4 : decode cX10_name 4 = .ok (.aload_n 0, 1) := by decide +kernel
theorem dX10_name_5 : decode cX10_name 5 = .ok (.getfield 69, 3) := by decide +kernel
theorem dX10_name_8 : decode cX10_name 8 = .ok (.laload, 1) := by decide +kernel
theorem dX10_name_9 : decode cX10_name 9 = .ok (.lreturn, 1) := by decide +kernel
theorem dX10_finish_0 : decode cX10_finish 0 = .ok (.aload_n 0, 1) := by decide +kernel
theorem dX10_finish_1 : decode cX10_finish 1 = .ok (.invokevirtual 100, 3) := by decide +kernel
theorem dX10_finish_4 : decode cX10_finish 4 = .ok (.ifCond .eq 10, 3) := by decide +kernel
theorem dX10_finish_7 : decode cX10_finish 7 = .ok (.aload_n 0, 1) := by decide +kernel
theorem dX10_finish_8 : decode cX10_finish 8 = .ok (.getfield 56, 3) := by decide +kernel
theorem dX10_finish_11 : decode cX10_finish 11 = .ok (.ifCond .eq 11, 3) := by decide +kernel
theorem dX10_finish_14 : decode cX10_finish 14 = .ok (.aload_n 0, 1) := by decide +kernel
theorem dX10_finish_15 : decode cX10_finish 15 = .ok (.iconst 1, 1) := by decide +kernel
theorem dX10_finish_16 : decode cX10_finish 16 = .ok (.invokevirtual 104, 3) := by decide +kernel
theorem dX10_finish_19 : decode cX10_finish 19 = .ok (.ifCond .eq 7, 3) := by decide +kernel
theorem dX10_finish_22 : decode cX10_finish 22 = .ok (.iconst 1, 1) := by decide +kernel
theorem dX10_finish_23 : decode cX10_finish 23 = .ok (.goto 4, 3) := by decide +kernel
theorem dX10_finish_26 : decode cX10_finish 26 = .ok (.iconst 0, 1) := by decide +kernel
theorem dX10_finish_27 : decode cX10_finish 27 = .ok (.ireturn, 1) := by decide +kernel
theorem dX10_takeMark_0 : decode cX10_takeMark 0 = .ok (.aload_n 0, 1) := by decide +kernel
theorem dX10_takeMark_1 : decode cX10_takeMark 1 = .ok (.iload_n 1, 1) := by decide +kernel
theorem dX10_takeMark_2 : decode cX10_takeMark 2 = .ok (.invokevirtual 107, 3) := by decide +kernel
theorem dX10_takeMark_5 : decode cX10_takeMark 5 = .ok (.ifCond .ne 9, 3) := by decide +kernel
theorem dX10_takeMark_8 : decode cX10_takeMark 8 = .ok (.aload_n 0, 1) := by decide +kernel
theorem dX10_takeMark_9 : decode cX10_takeMark 9 = .ok (.iconst 1, 1) := by decide +kernel
theorem dX10_takeMark_10 : decode cX10_takeMark 10 = .ok (.invokevirtual 104, 3) := by decide +kernel
theorem dX10_takeMark_13 : decode cX10_takeMark 13 = .ok (.ireturn, 1) := by decide +kernel
theorem dX10_takeMark_14 : decode cX10_takeMark 14 = .ok (.aload_n 0, 1) := by decide +kernel
theorem dX10_takeMark_15 : decode cX10_takeMark 15 = .ok (.invokevirtual 110, 3) := by decide +kernel
theorem dX10_takeMark_18 : decode cX10_takeMark 18 = .ok (.iconst 1, 1) := by decide +kernel
theorem dX10_takeMark_19 : decode cX10_takeMark 19 = .ok (.ireturn, 1) := by decide +kernel
theorem dX10_takeSign_0 : decode cX10_takeSign 0 = .ok (.aload_n 0, 1) := by decide +kernel
theorem dX10_takeSign_1 : decode cX10_takeSign 1 = .ok (.getfield 21, 3) := by decide +kernel
theorem dX10_takeSign_4 : decode cX10_takeSign 4 = .ok (.aload_n 0, 1) := by decide +kernel
theorem dX10_takeSign_5 : decode cX10_takeSign 5 = .ok (.getfield 69, 3) := by decide +kernel
theorem dX10_takeSign_8 : decode cX10_takeSign 8 = .ok (.iaload, 1) := by decide +kernel
theorem dX10_takeSign_9 : decode cX10_takeSign 9 = .ok (.istore_n 1, 1) := by decide +kernel
theorem dX10_takeSign_10 : decode cX10_takeSign 10 = .ok (.aload_n 0, 1) := by decide +kernel
theorem dX10_takeSign_11 : decode cX10_takeSign 11 = .ok (.getfield 15, 3) := by decide +kernel
theorem dX10_takeSign_14 : decode cX10_takeSign 14 = .ok (.aload_n 0, 1) := by decide +kernel
theorem dX10_takeSign_15 : decode cX10_takeSign 15 = .ok (.getfield 69, 3) := by decide +kernel
theorem dX10_takeSign_18 : decode cX10_takeSign 18 = .ok (.iaload, 1) := by decide +kernel
theorem dX10_takeSign_19 : decode cX10_takeSign 19 = .ok (.iconst 5, 1) := by decide +kernel
theorem dX10_takeSign_20 : decode cX10_takeSign 20 = .ok (.if_icmp .ne 10, 3) := by decide +kernel
theorem dX10_takeSign_23 : decode cX10_takeSign 23 = .ok (.iload_n 1, 1) := by decide +kernel
theorem dX10_takeSign_24 : decode cX10_takeSign 24 = .ok (.invokestatic 93, 3) := by decide +kernel
theorem dX10_takeSign_27 : decode cX10_takeSign 27 = .ok (.ifCond .ne 11, 3) := by decide +kernel
theorem dX10_takeSign_30 : decode cX10_takeSign 30 = .ok (.aload_n 0, 1) := by decide +kernel
theorem dX10_takeSign_31 : decode cX10_takeSign 31 = .ok (.iconst 1, 1) := by decide +kernel
theorem dX10_takeSign_32 : decode cX10_takeSign 32 = .ok (.invokevirtual 104, 3) := by decide +kernel
theorem dX10_takeSign_35 : decode cX10_takeSign 35 = .ok (.pop, 1) := by decide +kernel
theorem dX10_takeSign_36 : decode cX10_takeSign 36 = .ok (.iconst (-1), 1) := by decide +kernel
theorem dX10_takeSign_37 : decode cX10_takeSign 37 = .ok (.ireturn, 1) := by decide +kernel
theorem dX10_takeSign_38 : decode cX10_takeSign 38 = .ok (.aload_n 0, 1) := by decide +kernel
theorem dX10_takeSign_39 : decode cX10_takeSign 39 = .ok (.invokevirtual 110, 3) := by decide +kernel
theorem dX10_takeSign_42 : decode cX10_takeSign 42 = .ok (.iload_n 1, 1) := by decide +kernel
theorem dX10_takeSign_43 : decode cX10_takeSign 43 = .ok (.ireturn, 1) := by decide +kernel
theorem dX10_takeNumber_0 : decode cX10_takeNumber 0 = .ok (.aload_n 0, 1) := by decide +kernel
theorem dX10_takeNumber_1 : decode cX10_takeNumber 1 = .ok (.getfield 21, 3) := by decide +kernel
theorem dX10_takeNumber_4 : decode cX10_takeNumber 4 = .ok (.aload_n 0, 1) := by decide +kernel
theorem dX10_takeNumber_5 : decode cX10_takeNumber 5 = .ok (.getfield 69, 3) := by decide +kernel
theorem dX10_takeNumber_8 : decode cX10_takeNumber 8 = .ok (.iaload, 1) := by decide +kernel
theorem dX10_takeNumber_9 : decode cX10_takeNumber 9 = .ok (.istore_n 3, 1) := by decide +kernel
theorem dX10_takeNumber_10 : decode cX10_takeNumber 10 = .ok (.aload_n 0, 1) := by decide +kernel
theorem dX10_takeNumber_11 : decode cX10_takeNumber 11 = .ok (.getfield 15, 3) := by decide +kernel
theorem dX10_takeNumber_14 : decode cX10_takeNumber 14 = .ok (.aload_n 0, 1) := by decide +kernel
theorem dX10_takeNumber_15 : decode cX10_takeNumber 15 = .ok (.getfield 69, 3) := by decide +kernel
theorem dX10_takeNumber_18 : decode cX10_takeNumber 18 = .ok (.iaload, 1) := by decide +kernel
theorem dX10_takeNumber_19 : decode cX10_takeNumber 19 = .ok (.iconst 2, 1) := by decide +kernel
theorem dX10_takeNumber_20 : decode cX10_takeNumber 20 = .ok (.if_icmp .eq 11, 3) := by decide +kernel
theorem dX10_takeNumber_23 : decode cX10_takeNumber 23 = .ok (.aload_n 0, 1) := by decide +kernel
theorem dX10_takeNumber_24 : decode cX10_takeNumber 24 = .ok (.iconst 1, 1) := by decide +kernel
theorem dX10_takeNumber_25 : decode cX10_takeNumber 25 = .ok (.invokevirtual 104, 3) := by decide +kernel
theorem dX10_takeNumber_28 : decode cX10_takeNumber 28 = .ok (.pop, 1) := by decide +kernel
theorem dX10_takeNumber_29 : decode cX10_takeNumber 29 = .ok (.iconst (-1), 1) := by decide +kernel
theorem dX10_takeNumber_30 : decode cX10_takeNumber 30 = .ok (.ireturn, 1) := by decide +kernel
theorem dX10_takeNumber_31 : decode cX10_takeNumber 31 = .ok (.iload_n 3, 1) := by decide +kernel
theorem dX10_takeNumber_32 : decode cX10_takeNumber 32 = .ok (.iload_n 1, 1) := by decide +kernel
theorem dX10_takeNumber_33 : decode cX10_takeNumber 33 = .ok (.if_icmp .lt 8, 3) := by decide +kernel
theorem dX10_takeNumber_36 : decode cX10_takeNumber 36 = .ok (.iload_n 3, 1) := by decide +kernel
theorem dX10_takeNumber_37 : decode cX10_takeNumber 37 = .ok (.iload_n 2, 1) := by decide +kernel
theorem dX10_takeNumber_38 : decode cX10_takeNumber 38 = .ok (.if_icmp .le 11, 3) := by decide +kernel
theorem dX10_takeNumber_41 : decode cX10_takeNumber 41 = .ok (.aload_n 0, 1) := by decide +kernel
theorem dX10_takeNumber_42 : decode cX10_takeNumber 42 = .ok (.iconst 2, 1) := by decide +kernel
theorem dX10_takeNumber_43 : decode cX10_takeNumber 43 = .ok (.invokevirtual 104, 3) := by decide +kernel
theorem dX10_takeNumber_46 : decode cX10_takeNumber 46 = .ok (.pop, 1) := by decide +kernel
theorem dX10_takeNumber_47 : decode cX10_takeNumber 47 = .ok (.iconst (-1), 1) := by decide +kernel
theorem dX10_takeNumber_48 : decode cX10_takeNumber 48 = .ok (.ireturn, 1) := by decide +kernel
theorem dX10_takeNumber_49 : decode cX10_takeNumber 49 = .ok (.aload_n 0, 1) := by decide +kernel
theorem dX10_takeNumber_50 : decode cX10_takeNumber 50 = .ok (.invokevirtual 110, 3) := by decide +kernel
theorem dX10_takeNumber_53 : decode cX10_takeNumber 53 = .ok (.iload_n 3, 1) := by decide +kernel
theorem dX10_takeNumber_54 : decode cX10_takeNumber 54 = .ok (.ireturn, 1) := by decide +kernel
theorem dX11_init_0 : decode cX11_init 0 = .ok (.aload_n 0, 1) := by decide +kernel
theorem dX11_init_1 : decode cX11_init 1 = .ok (.invokespecial 1, 3) := by decide +kernel
theorem dX11_init_4 : decode cX11_init 4 = .ok (.aload_n 0, 1) := by decide +kernel
theorem dX11_init_5 : decode cX11_init 5 = .ok (.new 7, 3) := by decide +kernel
theorem dX11_init_8 : decode cX11_init 8 = .ok (.dup, 1) := by decide +kernel
theorem dX11_init_9 : decode cX11_init 9 = .ok (.invokespecial 9, 3) := by decide +kernel
theorem dX11_init_12 : decode cX11_init 12 = .ok (.putfield 10, 3) := by decide +kernel
theorem dX11_init_15 : decode cX11_init 15 = .ok (.aload_n 0, 1) := by decide +kernel
theorem dX11_init_16 : decode cX11_init 16 = .ok (.new 16, 3) := by decide +kernel
theorem dX11_init_19 : decode cX11_init 19 = .ok (.dup, 1) := by decide +kernel
theorem dX11_init_20 : decode cX11_init 20 = .ok (.invokespecial 18, 3) := by decide +kernel
theorem dX11_init_23 : decode cX11_init 23 = .ok (.putfield 19, 3) := by decide +kernel
theorem dX11_init_26 : decode cX11_init 26 = .ok (.aload_n 0, 1) := by decide +kernel
theorem dX11_init_27 : decode cX11_init 27 = .ok (.new 16, 3) := by decide +kernel
theorem dX11_init_30 : decode cX11_init 30 = .ok (.dup, 1) := by decide +kernel
theorem dX11_init_31 : decode cX11_init 31 = .ok (.invokespecial 18, 3) := by decide +kernel
theorem dX11_init_34 : decode cX11_init 34 = .ok (.putfield 23, 3) := by decide +kernel
theorem dX11_init_37 : decode cX11_init 37 = .ok (.aload_n 0, 1) := by decide +kernel
theorem dX11_init_38 : decode cX11_init 38 = .ok (.new 26, 3) := by decide +kernel
theorem dX11_init_41 : decode cX11_init 41 = .ok (.dup, 1) := by decide +kernel
theorem dX11_init_42 : decode cX11_init 42 = .ok (.invokespecial 28, 3) := by decide +kernel
theorem dX11_init_45 : decode cX11_init 45 = .ok (.putfield 29, 3) := by decide +kernel
theorem dX11_init_48 : decode cX11_init 48 = .ok (.aload_n 0, 1) := by decide +kernel
theorem dX11_init_49 : decode cX11_init 49 = .ok (.new 26, 3) := by decide +kernel
theorem dX11_init_52 : decode cX11_init 52 = .ok (.dup, 1) := by decide +kernel
theorem dX11_init_53 : decode cX11_init 53 = .ok (.invokespecial 28, 3) := by decide +kernel
theorem dX11_init_56 : decode cX11_init 56 = .ok (.putfield 33, 3) := by decide +kernel
theorem dX11_init_59 : decode cX11_init 59 = .ok (.aload_n 0, 1) := by decide +kernel
theorem dX11_init_60 : decode cX11_init 60 = .ok (.new 36, 3) := by decide +kernel
theorem dX11_init_63 : decode cX11_init 63 = .ok (.dup, 1) := by decide +kernel
theorem dX11_init_64 : decode cX11_init 64 = .ok (.invokespecial 38, 3) := by decide +kernel
theorem dX11_init_67 : decode cX11_init 67 = .ok (.putfield 39, 3) := by decide +kernel
theorem dX11_init_70 : decode cX11_init 70 = .ok (.aload_n 0, 1) := by decide +kernel
theorem dX11_init_71 : decode cX11_init 71 = .ok (.new 43, 3) := by decide +kernel
theorem dX11_init_74 : decode cX11_init 74 = .ok (.dup, 1) := by decide +kernel
theorem dX11_init_75 : decode cX11_init 75 = .ok (.invokespecial 45, 3) := by decide +kernel
theorem dX11_init_78 : decode cX11_init 78 = .ok (.putfield 46, 3) := by decide +kernel
theorem dX11_init_81 : decode cX11_init 81 = .ok (.aload_n 0, 1) := by decide +kernel
theorem dX11_init_82 : decode cX11_init 82 = .ok (.new 50, 3) := by decide +kernel
theorem dX11_init_85 : decode cX11_init 85 = .ok (.dup, 1) := by decide +kernel
theorem dX11_init_86 : decode cX11_init 86 = .ok (.invokespecial 52, 3) := by decide +kernel
theorem dX11_init_89 : decode cX11_init 89 = .ok (.putfield 53, 3) := by decide +kernel
theorem dX11_init_92 : decode cX11_init 92 = .ok (.aload_n 0, 1) := by decide +kernel
theorem dX11_init_93 : decode cX11_init 93 = .ok (.new 57, 3) := by decide +kernel
theorem dX11_init_96 : decode cX11_init 96 = .ok (.dup, 1) := by decide +kernel
theorem dX11_init_97 : decode cX11_init 97 = .ok (.invokespecial 59, 3) := by decide +kernel
theorem dX11_init_100 : decode cX11_init 100 = .ok (.putfield 60, 3) := by decide +kernel
theorem dX11_init_103 : decode cX11_init 103 = .ok (.aload_n 0, 1) := by decide +kernel
theorem dX11_init_104 : decode cX11_init 104 = .ok (.new 64, 3) := by decide +kernel
theorem dX11_init_107 : decode cX11_init 107 = .ok (.dup, 1) := by decide +kernel
theorem dX11_init_108 : decode cX11_init 108 = .ok (.invokespecial 66, 3) := by decide +kernel
theorem dX11_init_111 : decode cX11_init 111 = .ok (.putfield 67, 3) := by decide +kernel
theorem dX11_init_114 : decode cX11_init 114 = .ok (.aload_n 0, 1) := by decide +kernel
theorem dX11_init_115 : decode cX11_init 115 = .ok (.new 71, 3) := by decide +kernel
theorem dX11_init_118 : decode cX11_init 118 = .ok (.dup, 1) := by decide +kernel
theorem dX11_init_119 : decode cX11_init 119 = .ok (.invokespecial 73, 3) := by decide +kernel
theorem dX11_init_122 : decode cX11_init 122 = .ok (.putfield 74, 3) := by decide +kernel
theorem dX11_init_125 : decode cX11_init 125 = .ok (.aload_n 0, 1) := by decide +kernel
theorem dX11_init_126 : decode cX11_init 126 = .ok (.new 78, 3) := by decide +kernel
theorem dX11_init_129 : decode cX11_init 129 = .ok (.dup, 1) := by decide +kernel
theorem dX11_init_130 : decode cX11_init 130 = .ok (.invokespecial 80, 3) := by decide +kernel
theorem dX11_init_133 : decode cX11_init 133 = .ok (.putfield 81, 3) := by decide +kernel
theorem dX11_init_136 : decode cX11_init 136 = .ok (.aload_n 0, 1) := by decide +kernel
theorem dX11_init_137 : decode cX11_init 137 = .ok (.new 78, 3) := by decide +kernel
theorem dX11_init_140 : decode cX11_init 140 = .ok (.dup, 1) := by decide +kernel
theorem dX11_init_141 : decode cX11_init 141 = .ok (.invokespecial 80, 3) := by decide +kernel
theorem dX11_init_144 : decode cX11_init 144 = .ok (.putfield 85, 3) := by decide +kernel
theorem dX11_init_147 : decode cX11_init 147 = .ok (.aload_n 0, 1) := by decide +kernel
theorem dX11_init_148 : decode cX11_init 148 = .ok (.iconst 2, 1) := by decide +kernel
theorem dX11_init_149 : decode cX11_init 149 = .ok (.anewarray 88, 3) := by decide +kernel
theorem dX11_init_152 : decode cX11_init 152 = .ok (.putfield 90, 3) := by decide +kernel
theorem dX11_init_155 : decode cX11_init 155 = .ok (.aload_n 0, 1) := by decide +kernel
theorem dX11_init_156 : decode cX11_init 156 = .ok (.getfield 90, 3) := by decide +kernel
theorem dX11_init_159 : decode cX11_init 159 = .ok (.iconst 0, 1) := by decide +kernel
theorem dX11_init_160 : decode cX11_init 160 = .ok (.new 88, 3) := by decide +kernel
theorem dX11_init_163 : decode cX11_init 163 = .ok (.dup, 1) := by decide +kernel
theorem dX11_init_164 : decode cX11_init 164 = .ok (.invokespecial 94, 3) := by decide +kernel
theorem dX11_init_167 : decode cX11_init 167 = .ok (.aastore, 1) := by decide +kernel
theorem dX11_init_168 : decode cX11_init 168 = .ok (.aload_n 0, 1) := by decide +kernel
theorem dX11_init_169 : decode cX11_init 169 = .ok (.getfield 90, 3) := by decide +kernel
theorem dX11_init_172 : decode cX11_init 172 = .ok (.iconst 1, 1) := by decide +kernel
theorem dX11_init_173 : decode cX11_init 173 = .ok (.new 88, 3) := by decide +kernel
theorem dX11_init_176 : decode cX11_init 176 = .ok (.dup, 1) := by decide +kernel
theorem dX11_init_177 : decode cX11_init 177 = .ok (.invokespecial 94, 3) := by decide +kernel
theorem dX11_init_180 : decode cX11_init 180 = .ok (.aastore, 1) := by decide +kernel
theorem dX11_init_181 : decode cX11_init 181 = .ok (.aload_n 0, 1) := by decide +kernel
theorem dX11_init_182 : decode cX11_init 182 = .ok (.iconst 4, 1) := by decide +kernel
theorem dX11_init_183 : decode cX11_init 183 = .ok (.newarray .int, 2) := by decide +kernel
theorem dX11_init_185 : decode cX11_init 185 = .ok (.putfield 95, 3) := by decide +kernel
theorem dX11_init_188 : decode cX11_init 188 = .ok (.aload_n 0, 1) := by decide +kernel
theorem dX11_init_189 : decode cX11_init 189 = .ok (.getfield 95, 3) := by decide +kernel
theorem dX11_init_192 : decode cX11_init 192 = .ok (.iconst 0, 1) := by decide +kernel
theorem dX11_init_193 : decode cX11_init 193 = .ok (.iconst (-1), 1) := by decide +kernel
theorem dX11_init_194 : decode cX11_init 194 = .ok (.iastore, 1) := by decide +kernel
theorem dX11_init_195 : decode cX11_init 195 = .ok (.aload_n 0, 1) := by decide +kernel
theorem dX11_init_196 : decode cX11_init 196 = .ok (.getfield 95, 3) := by decide +kernel
theorem dX11_init_199 : decode cX11_init 199 = .ok (.iconst 1, 1) := by decide +kernel
theorem dX11_init_200 : decode cX11_init 200 = .ok (.iconst (-1), 1) := by decide +kernel
theorem dX11_init_201 : decode cX11_init 201 = .ok (.iastore, 1) := by decide +kernel
theorem dX11_init_202 : decode cX11_init 202 = .ok (.aload_n 0, 1) := by decide +kernel
theorem dX11_init_203 : decode cX11_init 203 = .ok (.getfield 95, 3) := by decide +kernel
theorem dX11_init_206 : decode cX11_init 206 = .ok (.iconst 2, 1) := by decide +kernel
theorem dX11_init_207 : decode cX11_init 207 = .ok (.iconst (-1), 1) := by decide +kernel
theorem dX11_init_208 : decode cX11_init 208 = .ok (.iastore, 1) := by decide +kernel
theorem dX11_init_209 : decode cX11_init 209 = .ok (.aload_n 0, 1) := by decide +kernel
theorem dX11_init_210 : decode cX11_init 210 = .ok (.getfield 95, 3) := by decide +kernel
theorem dX11_init_213 : decode cX11_init 213 = .ok (.iconst 3, 1) := by decide +kernel
theorem dX11_init_214 : decode cX11_init 214 = .ok (.iconst (-1), 1) := by decide +kernel
theorem dX11_init_215 : decode cX11_init 215 = .ok (.iastore, 1) := by decide +kernel
theorem dX11_init_216 : decode cX11_init 216 = .ok (.aload_n 0, 1) := by decide +kernel
theorem dX11_init_217 : decode cX11_init 217 = .ok (.iconst (-1), 1) := by decide +kernel
theorem dX11_init_218 : decode cX11_init 218 = .ok (.putfield 99, 3) := by decide +kernel
theorem dX11_init_221 : decode cX11_init 221 = .ok (.aload_n 0, 1) := by decide +kernel
theorem dX11_init_222 : decode cX11_init 222 = .ok (.iconst (-1), 1) := by decide +kernel
theorem dX11_init_223 : decode cX11_init 223 = .ok (.putfield 103, 3) := by decide +kernel
theorem dX11_init_226 : decode cX11_init 226 = .ok (.aload_n 0, 1) := by decide +kernel
theorem dX11_init_227 : decode cX11_init 227 = .ok (.iconst (-1), 1) := by decide +kernel
theorem dX11_init_228 : decode cX11_init 228 = .ok (.putfield 106, 3) := by decide +kernel
theorem dX11_init_231 : decode cX11_init 231 = .ok (.aload_n 0, 1) := by decide +kernel
theorem dX11_init_232 : decode cX11_init 232 = .ok (.iconst (-1), 1) := by decide +kernel
theorem dX11_init_233 : decode cX11_init 233 = .ok (.putfield 109, 3) := by decide +kernel
theorem dX11_init_236 : decode cX11_init 236 = .ok (.return_, 1) := by decide +kernel
theorem dX11_feed_0 : decode cX11_feed 0 = .ok (.aload_n 0, 1) := by decide +kernel
theorem dX11_feed_1 : decode cX11_feed 1 = .ok (.getfield 10, 3) := by decide +kernel
theorem dX11_feed_4 : decode cX11_feed 4 = .ok (.getfield 112, 3) := by decide +kernel
theorem dX11_feed_7 : decode cX11_feed 7 = .ok (.bipush 20, 2) := by decide +kernel
theorem dX11_feed_9 : decode cX11_feed 9 = .ok (.iadd, 1) := by decide +kernel
theorem dX11_feed_10 : decode cX11_feed 10 = .ok (.sipush 940, 3) := by decide +kernel
theorem dX11_feed_13 : decode cX11_feed 13 = .ok (.if_icmp .le 5, 3) := by decide +kernel
theorem dX11_feed_16 : decode cX11_feed 16 = .ok (.iconst (-1), 1) := by decide +kernel
theorem dX11_feed_17 : decode cX11_feed 17 = .ok (.ireturn, 1) := by decide +kernel
theorem dX11_feed_18 : decode cX11_feed 18 = .ok (.aload_n 0, 1) := by decide +kernel
theorem dX11_feed_19 : decode cX11_feed 19 = .ok (.getfield 10, 3) := by decide +kernel
theorem dX11_feed_22 : decode cX11_feed 22 = .ok (.iload_n 1, 1) := by decide +kernel
theorem dX11_feed_23 : decode cX11_feed 23 = .ok (.invokevirtual 115, 3) := by decide +kernel
theorem dX11_feed_26 : decode cX11_feed 26 = .ok (.aload_n 0, 1) := by decide +kernel
theorem dX11_feed_27 : decode cX11_feed 27 = .ok (.getfield 10, 3) := by decide +kernel
theorem dX11_feed_30 : decode cX11_feed 30 = .ok (.iload_n 2, 1) := by decide +kernel
theorem dX11_feed_31 : decode cX11_feed 31 = .ok (.invokevirtual 115, 3) := by decide +kernel
theorem dX11_feed_34 : decode cX11_feed 34 = .ok (.aload_n 0, 1) := by decide +kernel
theorem dX11_feed_35 : decode cX11_feed 35 = .ok (.getfield 10, 3) := by decide +kernel
theorem dX11_feed_38 : decode cX11_feed 38 = .ok (.iload_n 3, 1) := by decide +kernel
theorem dX11_feed_39 : decode cX11_feed 39 = .ok (.invokevirtual 115, 3) := by decide +kernel
theorem dX11_feed_42 : decode cX11_feed 42 = .ok (.aload_n 0, 1) := by decide +kernel
theorem dX11_feed_43 : decode cX11_feed 43 = .ok (.getfield 10, 3) := by decide +kernel
theorem dX11_feed_46 : decode cX11_feed 46 = .ok (.iload 4, 2) := by decide +kernel
theorem dX11_feed_48 : decode cX11_feed 48 = .ok (.invokevirtual 115, 3) := by decide +kernel
theorem dX11_feed_51 : decode cX11_feed 51 = .ok (.aload_n 0, 1) := by decide +kernel
theorem dX11_feed_52 : decode cX11_feed 52 = .ok (.getfield 10, 3) := by decide +kernel
theorem dX11_feed_55 : decode cX11_feed 55 = .ok (.iload 5, 2) := by decide +kernel
theorem dX11_feed_57 : decode cX11_feed 57 = .ok (.invokevirtual 115, 3) := by decide +kernel
theorem dX11_feed_60 : decode cX11_feed 60 = .ok (.aload_n 0, 1) := by decide +kernel
theorem dX11_feed_61 : decode cX11_feed 61 = .ok (.getfield 10, 3) := by decide +kernel
theorem dX11_feed_64 : decode cX11_feed 64 = .ok (.getfield 112, 3) := by decide +kernel
theorem dX11_feed_67 : decode cX11_feed 67 = .ok (.ireturn, 1) := by decide +kernel
theorem dX11_end_0 : decode cX11_end 0 = .ok (.iload_n 1, 1) := by decide +kernel
theorem dX11_end_1 : decode cX11_end 1 = .ok (.ifCond .lt 14, 3) := by decide +kernel
theorem dX11_end_4 : decode cX11_end 4 = .ok (.iload_n 1, 1) := by decide +kernel
theorem dX11_end_5 : decode cX11_end 5 = .ok (.aload_n 0, 1) := by decide +kernel
theorem dX11_end_6 : decode cX11_end 6 = .ok (.getfield 10, 3) := by decide +kernel
theorem dX11_end_9 : decode cX11_end 9 = .ok (.getfield 112, 3) := by decide +kernel
theorem dX11_end_12 : decode cX11_end 12 = .ok (.if_icmp .le 5, 3) := by decide +kernel
theorem dX11_end_15 : decode cX11_end 15 = .ok (.iconst 0, 1) := by decide +kernel
theorem dX11_end_16 : decode cX11_end 16 = .ok (.ireturn, 1) := by decide +kernel
theorem dX11_end_17 : decode cX11_end 17 = .ok (.aload_n 0, 1) := by decide +kernel
theorem dX11_end_18 : decode cX11_end 18 = .ok (.getfield 10, 3) := by decide +kernel
theorem dX11_end_21 : decode cX11_end 21 = .ok (.iload_n 1, 1) := by decide +kernel
theorem dX11_end_22 : decode cX11_end 22 = .ok (.putfield 112, 3) := by decide +kernel
theorem dX11_end_25 : decode cX11_end 25 = .ok (.iconst 1, 1) := by decide +kernel
theorem dX11_end_26 : decode cX11_end 26 = .ok (.ireturn, 1) := by decide +kernel
theorem dX11_falls_0 : decode cX11_falls 0 = .ok (.aload_n 0, 1) := by decide +kernel
theorem dX11_falls_1 : decode cX11_falls 1 = .ok (.getfield 23, 3) := by decide +kernel
theorem dX11_falls_4 : decode cX11_falls 4 = .ok (.aload_n 0, 1) := by decide +kernel
theorem dX11_falls_5 : decode cX11_falls 5 = .ok (.getfield 10, 3) := by decide +kernel
theorem dX11_falls_8 : decode cX11_falls 8 = .ok (.invokevirtual 119, 3) := by decide +kernel
theorem dX11_falls_11 : decode cX11_falls 11 = .ok (.istore_n 1, 1) := by decide +kernel
theorem dX11_falls_12 : decode cX11_falls 12 = .ok (.aload_n 0, 1) := by decide +kernel
theorem dX11_falls_13 : decode cX11_falls 13 = .ok (.aload_n 0, 1) := by decide +kernel
theorem dX11_falls_14 : decode cX11_falls 14 = .ok (.getfield 10, 3) := by decide +kernel
theorem dX11_falls_17 : decode cX11_falls 17 = .ok (.getfield 123, 3) := by decide +kernel
theorem dX11_falls_20 : decode cX11_falls 20 = .ok (.putfield 126, 3) := by decide +kernel
theorem dX11_falls_23 : decode cX11_falls 23 = .ok (.aload_n 0, 1) := by decide +kernel
theorem dX11_falls_24 : decode cX11_falls 24 = .ok (.getfield 10, 3) := by decide +kernel
theorem dX11_falls_27 : decode cX11_falls 27 = .ok (.iconst 0, 1) := by decide +kernel
theorem dX11_falls_28 : decode cX11_falls 28 = .ok (.putfield 112, 3) := by decide +kernel
theorem dX11_falls_31 : decode cX11_falls 31 = .ok (.aload_n 0, 1) := by decide +kernel
theorem dX11_falls_32 : decode cX11_falls 32 = .ok (.getfield 126, 3) := by decide +kernel
theorem dX11_falls_35 : decode cX11_falls 35 = .ok (.ifCond .eq 13, 3) := by decide +kernel
theorem dX11_falls_38 : decode cX11_falls 38 = .ok (.iconst (-1), 1) := by decide +kernel
theorem dX11_falls_39 : decode cX11_falls 39 = .ok (.aload_n 0, 1) := by decide +kernel
theorem dX11_falls_40 : decode cX11_falls 40 = .ok (.getfield 10, 3) := by decide +kernel
theorem dX11_falls_43 : decode cX11_falls 43 = .ok (.getfield 127, 3) := by decide +kernel
theorem dX11_falls_46 : decode cX11_falls 46 = .ok (.isub, 1) := by decide +kernel
theorem dX11_falls_47 : decode cX11_falls 47 = .ok (.ireturn, 1) := by decide +kernel
theorem dX11_falls_48 : decode cX11_falls 48 = .ok (.aload_n 0, 1) := by decide +kernel
theorem dX11_falls_49 : decode cX11_falls 49 = .ok (.getfield 19, 3) := by decide +kernel
theorem dX11_falls_52 : decode cX11_falls 52 = .ok (.astore_n 2, 1) := by decide +kernel
theorem dX11_falls_53 : decode cX11_falls 53 = .ok (.aload_n 0, 1) := by decide +kernel
theorem dX11_falls_54 : decode cX11_falls 54 = .ok (.aload_n 0, 1) := by decide +kernel
theorem dX11_falls_55 : decode cX11_falls 55 = .ok (.getfield 23, 3) := by decide +kernel
theorem dX11_falls_58 : decode cX11_falls 58 = .ok (.putfield 19, 3) := by decide +kernel
theorem dX11_falls_61 : decode cX11_falls 61 = .ok (.aload_n 0, 1) := by decide +kernel
theorem dX11_falls_62 : decode cX11_falls 62 = .ok (.aload_n 2, 1) := by decide +kernel
theorem dX11_falls_63 : decode cX11_falls 63 = .ok (.putfield 23, 3) := by decide +kernel
theorem dX11_falls_66 : decode cX11_falls 66 = .ok (.aload_n 0, 1) := by decide +kernel
theorem dX11_falls_67 : decode cX11_falls 67 = .ok (.getfield 29, 3) := by decide +kernel
theorem dX11_falls_70 : decode cX11_falls 70 = .ok (.aload_n 0, 1) := by decide +kernel
theorem dX11_falls_71 : decode cX11_falls 71 = .ok (.getfield 19, 3) := by decide +kernel
theorem dX11_falls_74 : decode cX11_falls 74 = .ok (.invokevirtual 130, 3) := by decide +kernel
theorem dX11_falls_77 : decode cX11_falls 77 = .ok (.aload_n 0, 1) := by decide +kernel
theorem dX11_falls_78 : decode cX11_falls 78 = .ok (.getfield 81, 3) := by decide +kernel
theorem dX11_falls_81 : decode cX11_falls 81 = .ok (.iconst 0, 1) := by decide +kernel
theorem dX11_falls_82 : decode cX11_falls 82 = .ok (.putfield 134, 3) := by decide +kernel
theorem dX11_falls_85 : decode cX11_falls 85 = .ok (.aload_n 0, 1) := by decide +kernel
theorem dX11_falls_86 : decode cX11_falls 86 = .ok (.getfield 39, 3) := by decide +kernel
theorem dX11_falls_89 : decode cX11_falls 89 = .ok (.iconst 0, 1) := by decide +kernel
theorem dX11_falls_90 : decode cX11_falls 90 = .ok (.putfield 137, 3) := by decide +kernel
theorem dX11_falls_93 : decode cX11_falls 93 = .ok (.iload_n 1, 1) := by decide +kernel
theorem dX11_falls_94 : decode cX11_falls 94 = .ok (.ireturn, 1) := by decide +kernel
theorem dX11_fault_0 : decode cX11_fault 0 = .ok (.aload_n 0, 1) := by decide +kernel
theorem dX11_fault_1 : decode cX11_fault 1 = .ok (.getfield 126, 3) := by decide +kernel
theorem dX11_fault_4 : decode cX11_fault 4 = .ok (.ireturn, 1) := by decide +kernel
theorem dX11_person_0 : decode cX11_person 0 = .ok (.aload_n 0, 1) := by decide +kernel
theorem dX11_person_1 : decode cX11_person 1 = .ok (.getfield 19, 3) := by decide +kernel
theorem dX11_person_4 : decode cX11_person 4 = .ok (.iload_n 1, 1) := by decide +kernel
theorem dX11_person_5 : decode cX11_person 5 = .ok (.invokevirtual 138, 3) := by decide +kernel
theorem dX11_person_8 : decode cX11_person 8 = .ok (.ifCond .ne 13, 3) := by decide +kernel
theorem dX11_person_11 : decode cX11_person 11 = .ok (.new 142, 3) := by decide +kernel
theorem dX11_person_14 : decode cX11_person 14 = .ok (.dup, 1) := by decide +kernel
theorem dX11_person_15 : decode cX11_person 15 = .ok (.ldc 144, 2) := by decide +kernel
theorem dX11_person_17 : decode cX11_person 17 = .ok (.invokespecial 146, 3) := by decide +kernel
theorem dX11_person_20 : decode cX11_person 20 = .ok (.athrow, 1) := by decide +kernel
theorem dX11_person_21 : decode cX11_person 21 = .ok (.iload_n 2, 1) := by decide +kernel
theorem dX11_person_22 : decode cX11_person 22 = .ok (.tableswitch 114 0 5 #[38, 48, 58, 71, 88, 105], 38) := by decide +kernel
theorem dX11_person_60 : decode cX11_person 60 = .ok (.aload_n 0, 1) := by decide +kernel
theorem dX11_person_61 : decode cX11_person 61 = .ok (.getfield 19, 3) := by decide +kernel
theorem dX11_person_64 : decode cX11_person 64 = .ok (.getfield 149, 3) := by decide +kernel
theorem dX11_person_67 : decode cX11_person 67 = .ok (.iload_n 1, 1) := by decide +kernel
theorem dX11_person_68 : decode cX11_person 68 = .ok (.iaload, 1) := by decide +kernel
theorem dX11_person_69 : decode cX11_person 69 = .ok (.ireturn, 1) := by decide +kernel
theorem dX11_person_70 : decode cX11_person 70 = .ok (.aload_n 0, 1) := by decide +kernel
theorem dX11_person_71 : decode cX11_person 71 = .ok (.getfield 29, 3) := by decide +kernel
theorem dX11_person_74 : decode cX11_person 74 = .ok (.getfield 152, 3) := by decide +kernel
theorem dX11_person_77 : decode cX11_person 77 = .ok (.iload_n 1, 1) := by decide +kernel
theorem dX11_person_78 : decode cX11_person 78 = .ok (.iaload, 1) := by decide +kernel
theorem dX11_person_79 : decode cX11_person 79 = .ok (.ireturn, 1) := by decide +kernel
theorem dX11_person_80 : decode cX11_person 80 = .ok (.aload_n 0, 1) := by decide +kernel
theorem dX11_person_81 : decode cX11_person 81 = .ok (.getfield 29, 3) := by decide +kernel
theorem dX11_person_84 : decode cX11_person 84 = .ok (.aload_n 0, 1) := by decide +kernel
theorem dX11_person_85 : decode cX11_person 85 = .ok (.getfield 19, 3) := by decide +kernel
theorem dX11_person_88 : decode cX11_person 88 = .ok (.iload_n 1, 1) := by decide +kernel
theorem dX11_person_89 : decode cX11_person 89 = .ok (.invokevirtual 155, 3) := by decide +kernel
theorem dX11_person_92 : decode cX11_person 92 = .ok (.ireturn, 1) := by decide +kernel
theorem dX11_person_93 : decode cX11_person 93 = .ok (.aload_n 0, 1) := by decide +kernel
theorem dX11_person_94 : decode cX11_person 94 = .ok (.getfield 53, 3) := by decide +kernel
theorem dX11_person_97 : decode cX11_person 97 = .ok (.aload_n 0, 1) := by decide +kernel
theorem dX11_person_98 : decode cX11_person 98 = .ok (.getfield 19, 3) := by decide +kernel
theorem dX11_person_101 : decode cX11_person 101 = .ok (.aload_n 0, 1) := by decide +kernel
theorem dX11_person_102 : decode cX11_person 102 = .ok (.getfield 29, 3) := by decide +kernel
theorem dX11_person_105 : decode cX11_person 105 = .ok (.iload_n 1, 1) := by decide +kernel
theorem dX11_person_106 : decode cX11_person 106 = .ok (.invokevirtual 159, 3) := by decide +kernel
theorem dX11_person_109 : decode cX11_person 109 = .ok (.ireturn, 1) := by decide +kernel
theorem dX11_person_110 : decode cX11_person 110 = .ok (.aload_n 0, 1) := by decide +kernel
theorem dX11_person_111 : decode cX11_person 111 = .ok (.getfield 29, 3) := by decide +kernel
theorem dX11_person_114 : decode cX11_person 114 = .ok (.getfield 163, 3) := by decide +kernel
theorem dX11_person_117 : decode cX11_person 117 = .ok (.aload_n 0, 1) := by decide +kernel
theorem dX11_person_118 : decode cX11_person 118 = .ok (.getfield 19, 3) := by decide +kernel
theorem dX11_person_121 : decode cX11_person 121 = .ok (.iload_n 1, 1) := by decide +kernel
theorem dX11_person_122 : decode cX11_person 122 = .ok (.invokevirtual 166, 3) := by decide +kernel
theorem dX11_person_125 : decode cX11_person 125 = .ok (.iand, 1) := by decide +kernel
theorem dX11_person_126 : decode cX11_person 126 = .ok (.ireturn, 1) := by decide +kernel
theorem dX11_person_127 : decode cX11_person 127 = .ok (.aload_n 0, 1) := by decide +kernel
theorem dX11_person_128 : decode cX11_person 128 = .ok (.getfield 19, 3) := by decide +kernel
theorem dX11_person_131 : decode cX11_person 131 = .ok (.iload_n 1, 1) := by decide +kernel
theorem dX11_person_132 : decode cX11_person 132 = .ok (.invokevirtual 166, 3) := by decide +kernel
theorem dX11_person_135 : decode cX11_person 135 = .ok (.ireturn, 1) := by decide +kernel
theorem dX11_person_136 : decode cX11_person 136 = .ok (.new 142, 3) := by decide +kernel
theorem dX11_person_139 : decode cX11_person 139 = .ok (.dup, 1) := by decide +kernel
theorem dX11_person_140 : decode cX11_person 140 = .ok (.ldc 170, 2) := by decide +kernel
theorem dX11_person_142 : decode cX11_person 142 = .ok (.invokespecial 146, 3) := by decide +kernel
theorem dX11_person_145 : decode cX11_person 145 = .ok (.athrow, 1) := by decide +kernel
theorem dX11_item_0 : decode cX11_item 0 = .ok (.aload_n 0, 1) := by decide +kernel
theorem dX11_item_1 : decode cX11_item 1 = .ok (.getfield 19, 3) := by decide +kernel
theorem dX11_item_4 : decode cX11_item 4 = .ok (.iload_n 1, 1) := by decide +kernel
theorem dX11_item_5 : decode cX11_item 5 = .ok (.invokevirtual 172, 3) := by decide +kernel
theorem dX11_item_8 : decode cX11_item 8 = .ok (.ifCond .ne 5, 3) := by decide +kernel
theorem dX11_item_11 : decode cX11_item 11 = .ok (.iconst (-1), 1) := by decide +kernel
theorem dX11_item_12 : decode cX11_item 12 = .ok (.ireturn, 1) := by decide +kernel
theorem dX11_item_13 : decode cX11_item 13 = .ok (.iload_n 2, 1) := by decide +kernel
theorem dX11_item_14 : decode cX11_item 14 = .ok (.tableswitch 134 0 4 #[34, 44, 54, 71, 80], 34) := by decide +kernel
theorem dX11_item_48 : decode cX11_item 48 = .ok (.aload_n 0, 1) := by decide +kernel
theorem dX11_item_49 : decode cX11_item 49 = .ok (.getfield 19, 3) := by decide +kernel
theorem dX11_item_52 : decode cX11_item 52 = .ok (.getfield 175, 3) := by decide +kernel
theorem dX11_item_55 : decode cX11_item 55 = .ok (.iload_n 1, 1) := by decide +kernel
theorem dX11_item_56 : decode cX11_item 56 = .ok (.iaload, 1) := by decide +kernel
theorem dX11_item_57 : decode cX11_item 57 = .ok (.ireturn, 1) := by decide +kernel
theorem dX11_item_58 : decode cX11_item 58 = .ok (.aload_n 0, 1) := by decide +kernel
theorem dX11_item_59 : decode cX11_item 59 = .ok (.getfield 19, 3) := by decide +kernel
theorem dX11_item_62 : decode cX11_item 62 = .ok (.getfield 178, 3) := by decide +kernel
theorem dX11_item_65 : decode cX11_item 65 = .ok (.iload_n 1, 1) := by decide +kernel
theorem dX11_item_66 : decode cX11_item 66 = .ok (.iaload, 1) := by decide +kernel
theorem dX11_item_67 : decode cX11_item 67 = .ok (.ireturn, 1) := by decide +kernel
theorem dX11_item_68 : decode cX11_item 68 = .ok (.aload_n 0, 1) := by decide +kernel
theorem dX11_item_69 : decode cX11_item 69 = .ok (.getfield 29, 3) := by decide +kernel
theorem dX11_item_72 : decode cX11_item 72 = .ok (.iload_n 1, 1) := by decide +kernel
theorem dX11_item_73 : decode cX11_item 73 = .ok (.invokevirtual 180, 3) := by decide +kernel
theorem dX11_item_76 : decode cX11_item 76 = .ok (.ifCond .eq 7, 3) := by decide +kernel
theorem dX11_item_79 : decode cX11_item 79 = .ok (.iconst 1, 1) := by decide +kernel
theorem dX11_item_80 : decode cX11_item 80 = .ok (.goto 4, 3) := by decide +kernel
theorem dX11_item_83 : decode cX11_item 83 = .ok (.iconst 0, 1) := by decide +kernel
theorem dX11_item_84 : decode cX11_item 84 = .ok (.ireturn, 1) := by decide +kernel
theorem dX11_item_85 : decode cX11_item 85 = .ok (.aload_n 0, 1) := by decide +kernel
theorem dX11_item_86 : decode cX11_item 86 = .ok (.getfield 19, 3) := by decide +kernel
theorem dX11_item_89 : decode cX11_item 89 = .ok (.iload_n 1, 1) := by decide +kernel
theorem dX11_item_90 : decode cX11_item 90 = .ok (.invokevirtual 183, 3) := by decide +kernel
theorem dX11_item_93 : decode cX11_item 93 = .ok (.ireturn, 1) := by decide +kernel
theorem dX11_item_94 : decode cX11_item 94 = .ok (.aload_n 0, 1) := by decide +kernel
theorem dX11_item_95 : decode cX11_item 95 = .ok (.getfield 53, 3) := by decide +kernel
theorem dX11_item_98 : decode cX11_item 98 = .ok (.aload_n 0, 1) := by decide +kernel
theorem dX11_item_99 : decode cX11_item 99 = .ok (.getfield 19, 3) := by decide +kernel
theorem dX11_item_102 : decode cX11_item 102 = .ok (.aload_n 0, 1) := by decide +kernel
theorem dX11_item_103 : decode cX11_item 103 = .ok (.getfield 19, 3) := by decide +kernel
theorem dX11_item_106 : decode cX11_item 106 = .ok (.aload_n 0, 1) := by decide +kernel
theorem dX11_item_107 : decode cX11_item 107 = .ok (.getfield 19, 3) := by decide +kernel
theorem dX11_item_110 : decode cX11_item 110 = .ok (.getfield 175, 3) := by decide +kernel
theorem dX11_item_113 : decode cX11_item 113 = .ok (.iload_n 1, 1) := by decide +kernel
theorem dX11_item_114 : decode cX11_item 114 = .ok (.iaload, 1) := by decide +kernel
theorem dX11_item_115 : decode cX11_item 115 = .ok (.aload_n 0, 1) := by decide +kernel
theorem dX11_item_116 : decode cX11_item 116 = .ok (.getfield 29, 3) := by decide +kernel
theorem dX11_item_119 : decode cX11_item 119 = .ok (.getfield 186, 3) := by decide +kernel
theorem dX11_item_122 : decode cX11_item 122 = .ok (.iconst 0, 1) := by decide +kernel
theorem dX11_item_123 : decode cX11_item 123 = .ok (.invokevirtual 189, 3) := by decide +kernel
theorem dX11_item_126 : decode cX11_item 126 = .ok (.invokevirtual 193, 3) := by decide +kernel
theorem dX11_item_129 : decode cX11_item 129 = .ok (.aload_n 0, 1) := by decide +kernel
theorem dX11_item_130 : decode cX11_item 130 = .ok (.getfield 53, 3) := by decide +kernel
theorem dX11_item_133 : decode cX11_item 133 = .ok (.iload_n 1, 1) := by decide +kernel
theorem dX11_item_134 : decode cX11_item 134 = .ok (.aload_n 0, 1) := by decide +kernel
theorem dX11_item_135 : decode cX11_item 135 = .ok (.getfield 29, 3) := by decide +kernel
theorem dX11_item_138 : decode cX11_item 138 = .ok (.getfield 163, 3) := by decide +kernel
theorem dX11_item_141 : decode cX11_item 141 = .ok (.invokevirtual 197, 3) := by decide +kernel
theorem dX11_item_144 : decode cX11_item 144 = .ok (.invokestatic 201, 3) := by decide +kernel
theorem dX11_item_147 : decode cX11_item 147 = .ok (.ireturn, 1) := by decide +kernel
theorem dX11_item_148 : decode cX11_item 148 = .ok (.iconst (-1), 1) := by decide +kernel
theorem dX11_item_149 : decode cX11_item 149 = .ok (.ireturn, 1) := by decide +kernel
theorem dX11_join_0 : decode cX11_join 0 = .ok (.aload_n 0, 1) := by decide +kernel
theorem dX11_join_1 : decode cX11_join 1 = .ok (.getfield 19, 3) := by decide +kernel
theorem dX11_join_4 : decode cX11_join 4 = .ok (.iload_n 1, 1) := by decide +kernel
theorem dX11_join_5 : decode cX11_join 5 = .ok (.invokevirtual 204, 3) := by decide +kernel
theorem dX11_join_8 : decode cX11_join 8 = .ok (.ifCond .ne 5, 3) := by decide +kernel
theorem dX11_join_11 : decode cX11_join 11 = .ok (.iconst (-1), 1) := by decide +kernel
theorem dX11_join_12 : decode cX11_join 12 = .ok (.ireturn, 1) := by decide +kernel
theorem dX11_join_13 : decode cX11_join 13 = .ok (.iload_n 2, 1) := by decide +kernel
theorem dX11_join_14 : decode cX11_join 14 = .ok (.tableswitch 77 0 3 #[30, 40, 50, 60], 30) := by decide +kernel
theorem dX11_join_44 : decode cX11_join 44 = .ok (.aload_n 0, 1) := by decide +kernel
theorem dX11_join_45 : decode cX11_join 45 = .ok (.getfield 19, 3) := by decide +kernel
theorem dX11_join_48 : decode cX11_join 48 = .ok (.getfield 207, 3) := by decide +kernel
theorem dX11_join_51 : decode cX11_join 51 = .ok (.iload_n 1, 1) := by decide +kernel
theorem dX11_join_52 : decode cX11_join 52 = .ok (.iaload, 1) := by decide +kernel
theorem dX11_join_53 : decode cX11_join 53 = .ok (.ireturn, 1) := by decide +kernel
theorem dX11_join_54 : decode cX11_join 54 = .ok (.aload_n 0, 1) := by decide +kernel
theorem dX11_join_55 : decode cX11_join 55 = .ok (.getfield 19, 3) := by decide +kernel
theorem dX11_join_58 : decode cX11_join 58 = .ok (.getfield 210, 3) := by decide +kernel
theorem dX11_join_61 : decode cX11_join 61 = .ok (.iload_n 1, 1) := by decide +kernel
theorem dX11_join_62 : decode cX11_join 62 = .ok (.iaload, 1) := by decide +kernel
theorem dX11_join_63 : decode cX11_join 63 = .ok (.ireturn, 1) := by decide +kernel
theorem dX11_join_64 : decode cX11_join 64 = .ok (.aload_n 0, 1) := by decide +kernel
theorem dX11_join_65 : decode cX11_join 65 = .ok (.getfield 19, 3) := by decide +kernel
theorem dX11_join_68 : decode cX11_join 68 = .ok (.getfield 213, 3) := by decide +kernel
theorem dX11_join_71 : decode cX11_join 71 = .ok (.iload_n 1, 1) := by decide +kernel
theorem dX11_join_72 : decode cX11_join 72 = .ok (.iaload, 1) := by decide +kernel
theorem dX11_join_73 : decode cX11_join 73 = .ok (.ireturn, 1) := by decide +kernel
theorem dX11_join_74 : decode cX11_join 74 = .ok (.aload_n 0, 1) := by decide +kernel
theorem dX11_join_75 : decode cX11_join 75 = .ok (.getfield 29, 3) := by decide +kernel
theorem dX11_join_78 : decode cX11_join 78 = .ok (.iload_n 1, 1) := by decide +kernel
theorem dX11_join_79 : decode cX11_join 79 = .ok (.invokevirtual 216, 3) := by decide +kernel
theorem dX11_join_82 : decode cX11_join 82 = .ok (.ifCond .eq 7, 3) := by decide +kernel
theorem dX11_join_85 : decode cX11_join 85 = .ok (.iconst 1, 1) := by decide +kernel
theorem dX11_join_86 : decode cX11_join 86 = .ok (.goto 4, 3) := by decide +kernel
theorem dX11_join_89 : decode cX11_join 89 = .ok (.iconst 0, 1) := by decide +kernel
theorem dX11_join_90 : decode cX11_join 90 = .ok (.ireturn, 1) := by decide +kernel
theorem dX11_join_91 : decode cX11_join 91 = .ok (.iconst (-1), 1) := by decide +kernel
theorem dX11_join_92 : decode cX11_join 92 = .ok (.ireturn, 1) := by decide +kernel
theorem dX11_now_0 : decode cX11_now 0 = .ok (.iload_n 1, 1) := by decide +kernel
theorem dX11_now_1 : decode cX11_now 1 = .ok (.tableswitch 138 0 7 #[47, 55, 70, 83, 96, 109, 122, 130], 47) := by decide +kernel
theorem dX11_now_48 : decode cX11_now 48 = .ok (.aload_n 0, 1) := by decide +kernel
theorem dX11_now_49 : decode cX11_now 49 = .ok (.getfield 29, 3) := by decide +kernel
theorem dX11_now_52 : decode cX11_now 52 = .ok (.getfield 219, 3) := by decide +kernel
theorem dX11_now_55 : decode cX11_now 55 = .ok (.ireturn, 1) := by decide +kernel
theorem dX11_now_56 : decode cX11_now 56 = .ok (.aload_n 0, 1) := by decide +kernel
theorem dX11_now_57 : decode cX11_now 57 = .ok (.getfield 19, 3) := by decide +kernel
theorem dX11_now_60 : decode cX11_now 60 = .ok (.aload_n 0, 1) := by decide +kernel
theorem dX11_now_61 : decode cX11_now 61 = .ok (.getfield 29, 3) := by decide +kernel
theorem dX11_now_64 : decode cX11_now 64 = .ok (.getfield 219, 3) := by decide +kernel
theorem dX11_now_67 : decode cX11_now 67 = .ok (.invokevirtual 222, 3) := by decide +kernel
theorem dX11_now_70 : decode cX11_now 70 = .ok (.ireturn, 1) := by decide +kernel
theorem dX11_now_71 : decode cX11_now 71 = .ok (.aload_n 0, 1) := by decide +kernel
theorem dX11_now_72 : decode cX11_now 72 = .ok (.getfield 29, 3) := by decide +kernel
theorem dX11_now_75 : decode cX11_now 75 = .ok (.aload_n 0, 1) := by decide +kernel
theorem dX11_now_76 : decode cX11_now 76 = .ok (.getfield 19, 3) := by decide +kernel
theorem dX11_now_79 : decode cX11_now 79 = .ok (.iconst 0, 1) := by decide +kernel
theorem dX11_now_80 : decode cX11_now 80 = .ok (.invokevirtual 225, 3) := by decide +kernel
theorem dX11_now_83 : decode cX11_now 83 = .ok (.ireturn, 1) := by decide +kernel
theorem dX11_now_84 : decode cX11_now 84 = .ok (.aload_n 0, 1) := by decide +kernel
theorem dX11_now_85 : decode cX11_now 85 = .ok (.getfield 29, 3) := by decide +kernel
theorem dX11_now_88 : decode cX11_now 88 = .ok (.aload_n 0, 1) := by decide +kernel
theorem dX11_now_89 : decode cX11_now 89 = .ok (.getfield 19, 3) := by decide +kernel
theorem dX11_now_92 : decode cX11_now 92 = .ok (.iconst 1, 1) := by decide +kernel
theorem dX11_now_93 : decode cX11_now 93 = .ok (.invokevirtual 225, 3) := by decide +kernel
theorem dX11_now_96 : decode cX11_now 96 = .ok (.ireturn, 1) := by decide +kernel
theorem dX11_now_97 : decode cX11_now 97 = .ok (.aload_n 0, 1) := by decide +kernel
theorem dX11_now_98 : decode cX11_now 98 = .ok (.getfield 29, 3) := by decide +kernel
theorem dX11_now_101 : decode cX11_now 101 = .ok (.aload_n 0, 1) := by decide +kernel
theorem dX11_now_102 : decode cX11_now 102 = .ok (.getfield 19, 3) := by decide +kernel
theorem dX11_now_105 : decode cX11_now 105 = .ok (.iconst 2, 1) := by decide +kernel
theorem dX11_now_106 : decode cX11_now 106 = .ok (.invokevirtual 225, 3) := by decide +kernel
theorem dX11_now_109 : decode cX11_now 109 = .ok (.ireturn, 1) := by decide +kernel
theorem dX11_now_110 : decode cX11_now 110 = .ok (.aload_n 0, 1) := by decide +kernel
theorem dX11_now_111 : decode cX11_now 111 = .ok (.getfield 29, 3) := by decide +kernel
theorem dX11_now_114 : decode cX11_now 114 = .ok (.aload_n 0, 1) := by decide +kernel
theorem dX11_now_115 : decode cX11_now 115 = .ok (.getfield 19, 3) := by decide +kernel
theorem dX11_now_118 : decode cX11_now 118 = .ok (.iconst 3, 1) := by decide +kernel
theorem dX11_now_119 : decode cX11_now 119 = .ok (.invokevirtual 225, 3) := by decide +kernel
theorem dX11_now_122 : decode cX11_now 122 = .ok (.ireturn, 1) := by decide +kernel
theorem dX11_now_123 : decode cX11_now 123 = .ok (.aload_n 0, 1) := by decide +kernel
theorem dX11_now_124 : decode cX11_now 124 = .ok (.getfield 29, 3) := by decide +kernel
theorem dX11_now_127 : decode cX11_now 127 = .ok (.getfield 186, 3) := by decide +kernel
theorem dX11_now_130 : decode cX11_now 130 = .ok (.ireturn, 1) := by decide +kernel
theorem dX11_now_131 : decode cX11_now 131 = .ok (.aload_n 0, 1) := by decide +kernel
theorem dX11_now_132 : decode cX11_now 132 = .ok (.getfield 29, 3) := by decide +kernel
theorem dX11_now_135 : decode cX11_now 135 = .ok (.getfield 228, 3) := by decide +kernel
theorem dX11_now_138 : decode cX11_now 138 = .ok (.ireturn, 1) := by decide +kernel
theorem dX11_now_139 : decode cX11_now 139 = .ok (.iconst (-1), 1) := by decide +kernel
theorem dX11_now_140 : decode cX11_now 140 = .ok (.ireturn, 1) := by decide +kernel
theorem dX11_go_0 : decode cX11_go 0 = .ok (.aload_n 0, 1) := by decide +kernel
theorem dX11_go_1 : decode cX11_go 1 = .ok (.getfield 19, 3) := by decide +kernel
theorem dX11_go_4 : decode cX11_go 4 = .ok (.iload_n 1, 1) := by decide +kernel
theorem dX11_go_5 : decode cX11_go 5 = .ok (.invokevirtual 138, 3) := by decide +kernel
theorem dX11_go_8 : decode cX11_go 8 = .ok (.ifCond .eq 12, 3) := by decide +kernel
theorem dX11_go_11 : decode cX11_go 11 = .ok (.aload_n 0, 1) := by decide +kernel
theorem dX11_go_12 : decode cX11_go 12 = .ok (.iconst 5, 1) := by decide +kernel
theorem dX11_go_13 : decode cX11_go 13 = .ok (.iload_n 1, 1) := by decide +kernel
theorem dX11_go_14 : decode cX11_go 14 = .ok (.invokevirtual 231, 3) := by decide +kernel
theorem dX11_go_17 : decode cX11_go 17 = .ok (.goto 4, 3) := by decide +kernel
theorem dX11_go_20 : decode cX11_go 20 = .ok (.iconst (-1), 1) := by decide +kernel
theorem dX11_go_21 : decode cX11_go 21 = .ok (.ireturn, 1) := by decide +kernel
theorem dX11_free_0 : decode cX11_free 0 = .ok (.aload_n 0, 1) := by decide +kernel
theorem dX11_free_1 : decode cX11_free 1 = .ok (.getfield 19, 3) := by decide +kernel
theorem dX11_free_4 : decode cX11_free 4 = .ok (.iload_n 1, 1) := by decide +kernel
theorem dX11_free_5 : decode cX11_free 5 = .ok (.invokevirtual 138, 3) := by decide +kernel
theorem dX11_free_8 : decode cX11_free 8 = .ok (.ifCond .eq 13, 3) := by decide +kernel
theorem dX11_free_11 : decode cX11_free 11 = .ok (.aload_n 0, 1) := by decide +kernel
theorem dX11_free_12 : decode cX11_free 12 = .ok (.bipush 6, 2) := by decide +kernel
theorem dX11_free_14 : decode cX11_free 14 = .ok (.iload_n 1, 1) := by decide +kernel
theorem dX11_free_15 : decode cX11_free 15 = .ok (.invokevirtual 231, 3) := by decide +kernel
theorem dX11_free_18 : decode cX11_free 18 = .ok (.goto 4, 3) := by decide +kernel
theorem dX11_free_21 : decode cX11_free 21 = .ok (.iconst (-1), 1) := by decide +kernel
theorem dX11_free_22 : decode cX11_free 22 = .ok (.ireturn, 1) := by decide +kernel
theorem dX11_unload_0 : decode cX11_unload 0 = .ok (.aload_n 0, 1) := by decide +kernel
theorem dX11_unload_1 : decode cX11_unload 1 = .ok (.getfield 19, 3) := by decide +kernel
theorem dX11_unload_4 : decode cX11_unload 4 = .ok (.iload_n 1, 1) := by decide +kernel
theorem dX11_unload_5 : decode cX11_unload 5 = .ok (.invokevirtual 172, 3) := by decide +kernel
theorem dX11_unload_8 : decode cX11_unload 8 = .ok (.ifCond .eq 13, 3) := by decide +kernel
theorem dX11_unload_11 : decode cX11_unload 11 = .ok (.aload_n 0, 1) := by decide +kernel
theorem dX11_unload_12 : decode cX11_unload 12 = .ok (.bipush 7, 2) := by decide +kernel
theorem dX11_unload_14 : decode cX11_unload 14 = .ok (.iload_n 1, 1) := by decide +kernel
theorem dX11_unload_15 : decode cX11_unload 15 = .ok (.invokevirtual 231, 3) := by decide +kernel
theorem dX11_unload_18 : decode cX11_unload 18 = .ok (.goto 4, 3) := by decide +kernel
theorem dX11_unload_21 : decode cX11_unload 21 = .ok (.iconst (-1), 1) := by decide +kernel
theorem dX11_unload_22 : decode cX11_unload 22 = .ok (.ireturn, 1) := by decide +kernel
theorem dX11_load_0 : decode cX11_load 0 = .ok (.aload_n 0, 1) := by decide +kernel
theorem dX11_load_1 : decode cX11_load 1 = .ok (.getfield 19, 3) := by decide +kernel
theorem dX11_load_4 : decode cX11_load 4 = .ok (.iload_n 1, 1) := by decide +kernel
theorem dX11_load_5 : decode cX11_load 5 = .ok (.invokevirtual 172, 3) := by decide +kernel
theorem dX11_load_8 : decode cX11_load 8 = .ok (.ifCond .eq 13, 3) := by decide +kernel
theorem dX11_load_11 : decode cX11_load 11 = .ok (.aload_n 0, 1) := by decide +kernel
theorem dX11_load_12 : decode cX11_load 12 = .ok (.bipush 8, 2) := by decide +kernel
theorem dX11_load_14 : decode cX11_load 14 = .ok (.iload_n 1, 1) := by decide +kernel
theorem dX11_load_15 : decode cX11_load 15 = .ok (.invokevirtual 231, 3) := by decide +kernel
theorem dX11_load_18 : decode cX11_load 18 = .ok (.goto 4, 3) := by decide +kernel
theorem dX11_load_21 : decode cX11_load 21 = .ok (.iconst (-1), 1) := by decide +kernel
theorem dX11_load_22 : decode cX11_load 22 = .ok (.ireturn, 1) := by decide +kernel
theorem dX11_bind_0 : decode cX11_bind 0 = .ok (.aload_n 0, 1) := by decide +kernel
theorem dX11_bind_1 : decode cX11_bind 1 = .ok (.getfield 19, 3) := by decide +kernel
theorem dX11_bind_4 : decode cX11_bind 4 = .ok (.iload_n 1, 1) := by decide +kernel
theorem dX11_bind_5 : decode cX11_bind 5 = .ok (.invokevirtual 204, 3) := by decide +kernel
theorem dX11_bind_8 : decode cX11_bind 8 = .ok (.ifCond .eq 13, 3) := by decide +kernel
theorem dX11_bind_11 : decode cX11_bind 11 = .ok (.aload_n 0, 1) := by decide +kernel
theorem dX11_bind_12 : decode cX11_bind 12 = .ok (.bipush 9, 2) := by decide +kernel
theorem dX11_bind_14 : decode cX11_bind 14 = .ok (.iload_n 1, 1) := by decide +kernel
theorem dX11_bind_15 : decode cX11_bind 15 = .ok (.invokevirtual 231, 3) := by decide +kernel
theorem dX11_bind_18 : decode cX11_bind 18 = .ok (.goto 4, 3) := by decide +kernel
theorem dX11_bind_21 : decode cX11_bind 21 = .ok (.iconst (-1), 1) := by decide +kernel
theorem dX11_bind_22 : decode cX11_bind 22 = .ok (.ireturn, 1) := by decide +kernel
theorem dX11_act_0 : decode cX11_act 0 = .ok (.aload_n 0, 1) := by decide +kernel
theorem dX11_act_1 : decode cX11_act 1 = .ok (.getfield 33, 3) := by decide +kernel
theorem dX11_act_4 : decode cX11_act 4 = .ok (.aload_n 0, 1) := by decide +kernel
theorem dX11_act_5 : decode cX11_act 5 = .ok (.getfield 29, 3) := by decide +kernel
theorem dX11_act_8 : decode cX11_act 8 = .ok (.invokevirtual 234, 3) := by decide +kernel
theorem dX11_act_11 : decode cX11_act 11 = .ok (.aload_n 0, 1) := by decide +kernel
theorem dX11_act_12 : decode cX11_act 12 = .ok (.getfield 33, 3) := by decide +kernel
theorem dX11_act_15 : decode cX11_act 15 = .ok (.aload_n 0, 1) := by decide +kernel
theorem dX11_act_16 : decode cX11_act 16 = .ok (.getfield 19, 3) := by decide +kernel
theorem dX11_act_19 : decode cX11_act 19 = .ok (.iload_n 1, 1) := by decide +kernel
theorem dX11_act_20 : decode cX11_act 20 = .ok (.iload_n 2, 1) := by decide +kernel
theorem dX11_act_21 : decode cX11_act 21 = .ok (.invokevirtual 238, 3) := by decide +kernel
theorem dX11_act_24 : decode cX11_act 24 = .ok (.istore_n 3, 1) := by decide +kernel
theorem dX11_act_25 : decode cX11_act 25 = .ok (.iload_n 3, 1) := by decide +kernel
theorem dX11_act_26 : decode cX11_act 26 = .ok (.ifCond .ne 25, 3) := by decide +kernel
theorem dX11_act_29 : decode cX11_act 29 = .ok (.aload_n 0, 1) := by decide +kernel
theorem dX11_act_30 : decode cX11_act 30 = .ok (.getfield 39, 3) := by decide +kernel
theorem dX11_act_33 : decode cX11_act 33 = .ok (.aload_n 0, 1) := by decide +kernel
theorem dX11_act_34 : decode cX11_act 34 = .ok (.getfield 29, 3) := by decide +kernel
theorem dX11_act_37 : decode cX11_act 37 = .ok (.invokevirtual 242, 3) := by decide +kernel
theorem dX11_act_40 : decode cX11_act 40 = .ok (.aload_n 0, 1) := by decide +kernel
theorem dX11_act_41 : decode cX11_act 41 = .ok (.getfield 29, 3) := by decide +kernel
theorem dX11_act_44 : decode cX11_act 44 = .ok (.aload_n 0, 1) := by decide +kernel
theorem dX11_act_45 : decode cX11_act 45 = .ok (.getfield 33, 3) := by decide +kernel
theorem dX11_act_48 : decode cX11_act 48 = .ok (.invokevirtual 234, 3) := by decide +kernel
theorem dX11_act_51 : decode cX11_act 51 = .ok (.iload_n 3, 1) := by decide +kernel
theorem dX11_act_52 : decode cX11_act 52 = .ok (.ireturn, 1) := by decide +kernel
theorem dX11_days_0 : decode cX11_days 0 = .ok (.iload_n 1, 1) := by decide +kernel
theorem dX11_days_1 : decode cX11_days 1 = .ok (.iconst 1, 1) := by decide +kernel
theorem dX11_days_2 : decode cX11_days 2 = .ok (.if_icmp .lt 9, 3) := by decide +kernel
theorem dX11_days_5 : decode cX11_days 5 = .ok (.iload_n 1, 1) := by decide +kernel
theorem dX11_days_6 : decode cX11_days 6 = .ok (.bipush 60, 2) := by decide +kernel
theorem dX11_days_8 : decode cX11_days 8 = .ok (.if_icmp .le 5, 3) := by decide +kernel
theorem dX11_days_11 : decode cX11_days 11 = .ok (.iconst (-1), 1) := by decide +kernel
theorem dX11_days_12 : decode cX11_days 12 = .ok (.ireturn, 1) := by decide +kernel
theorem dX11_days_13 : decode cX11_days 13 = .ok (.aload_n 0, 1) := by decide +kernel
theorem dX11_days_14 : decode cX11_days 14 = .ok (.getfield 29, 3) := by decide +kernel
theorem dX11_days_17 : decode cX11_days 17 = .ok (.getfield 219, 3) := by decide +kernel
theorem dX11_days_20 : decode cX11_days 20 = .ok (.sipush 400, 3) := by decide +kernel
theorem dX11_days_23 : decode cX11_days 23 = .ok (.if_icmp .lt 5, 3) := by decide +kernel
theorem dX11_days_26 : decode cX11_days 26 = .ok (.iconst 0, 1) := by decide +kernel
theorem dX11_days_27 : decode cX11_days 27 = .ok (.ireturn, 1) := by decide +kernel
theorem dX11_days_28 : decode cX11_days 28 = .ok (.aload_n 0, 1) := by decide +kernel
theorem dX11_days_29 : decode cX11_days 29 = .ok (.getfield 39, 3) := by decide +kernel
theorem dX11_days_32 : decode cX11_days 32 = .ok (.aload_n 0, 1) := by decide +kernel
theorem dX11_days_33 : decode cX11_days 33 = .ok (.getfield 29, 3) := by decide +kernel
theorem dX11_days_36 : decode cX11_days 36 = .ok (.invokevirtual 242, 3) := by decide +kernel
theorem dX11_days_39 : decode cX11_days 39 = .ok (.aload_n 0, 1) := by decide +kernel
theorem dX11_days_40 : decode cX11_days 40 = .ok (.getfield 29, 3) := by decide +kernel
theorem dX11_days_43 : decode cX11_days 43 = .ok (.getfield 219, 3) := by decide +kernel
theorem dX11_days_46 : decode cX11_days 46 = .ok (.istore_n 2, 1) := by decide +kernel
theorem dX11_days_47 : decode cX11_days 47 = .ok (.iconst 0, 1) := by decide +kernel
theorem dX11_days_48 : decode cX11_days 48 = .ok (.istore_n 3, 1) := by decide +kernel
theorem dX11_days_49 : decode cX11_days 49 = .ok (.iload_n 3, 1) := by decide +kernel
theorem dX11_days_50 : decode cX11_days 50 = .ok (.iload_n 1, 1) := by decide +kernel
theorem dX11_days_51 : decode cX11_days 51 = .ok (.if_icmp .ge 33, 3) := by decide +kernel
theorem dX11_days_54 : decode cX11_days 54 = .ok (.aload_n 0, 1) := by decide +kernel
theorem dX11_days_55 : decode cX11_days 55 = .ok (.getfield 29, 3) := by decide +kernel
theorem dX11_days_58 : decode cX11_days 58 = .ok (.getfield 219, 3) := by decide +kernel
theorem dX11_days_61 : decode cX11_days 61 = .ok (.sipush 400, 3) := by decide +kernel
theorem dX11_days_64 : decode cX11_days 64 = .ok (.if_icmp .ge 20, 3) := by decide +kernel
theorem dX11_days_67 : decode cX11_days 67 = .ok (.aload_n 0, 1) := by decide +kernel
theorem dX11_days_68 : decode cX11_days 68 = .ok (.getfield 29, 3) := by decide +kernel
theorem dX11_days_71 : decode cX11_days 71 = .ok (.aload_n 0, 1) := by decide +kernel
theorem dX11_days_72 : decode cX11_days 72 = .ok (.getfield 19, 3) := by decide +kernel
theorem dX11_days_75 : decode cX11_days 75 = .ok (.invokevirtual 245, 3) := by decide +kernel
theorem dX11_days_78 : decode cX11_days 78 = .ok (.iinc 3 1, 3) := by decide +kernel
theorem dX11_days_81 : decode cX11_days 81 = .ok (.goto (-32), 3) := by decide +kernel
theorem dX11_days_84 : decode cX11_days 84 = .ok (.aload_n 0, 1) := by decide +kernel
theorem dX11_days_85 : decode cX11_days 85 = .ok (.getfield 29, 3) := by decide +kernel
theorem dX11_days_88 : decode cX11_days 88 = .ok (.getfield 219, 3) := by decide +kernel
theorem dX11_days_91 : decode cX11_days 91 = .ok (.iload_n 2, 1) := by decide +kernel
theorem dX11_days_92 : decode cX11_days 92 = .ok (.isub, 1) := by decide +kernel
theorem dX11_days_93 : decode cX11_days 93 = .ok (.ireturn, 1) := by decide +kernel
theorem dX11_undo_0 : decode cX11_undo 0 = .ok (.aload_n 0, 1) := by decide +kernel
theorem dX11_undo_1 : decode cX11_undo 1 = .ok (.getfield 39, 3) := by decide +kernel
theorem dX11_undo_4 : decode cX11_undo 4 = .ok (.aload_n 0, 1) := by decide +kernel
theorem dX11_undo_5 : decode cX11_undo 5 = .ok (.getfield 29, 3) := by decide +kernel
theorem dX11_undo_8 : decode cX11_undo 8 = .ok (.invokevirtual 248, 3) := by decide +kernel
theorem dX11_undo_11 : decode cX11_undo 11 = .ok (.ireturn, 1) := by decide +kernel
theorem dX11_fate_0 : decode cX11_fate 0 = .ok (.aload_n 0, 1) := by decide +kernel
theorem dX11_fate_1 : decode cX11_fate 1 = .ok (.getfield 19, 3) := by decide +kernel
theorem dX11_fate_4 : decode cX11_fate 4 = .ok (.iload_n 1, 1) := by decide +kernel
theorem dX11_fate_5 : decode cX11_fate 5 = .ok (.invokevirtual 138, 3) := by decide +kernel
theorem dX11_fate_8 : decode cX11_fate 8 = .ok (.ifCond .eq 22, 3) := by decide +kernel
theorem dX11_fate_11 : decode cX11_fate 11 = .ok (.aload_n 0, 1) := by decide +kernel
theorem dX11_fate_12 : decode cX11_fate 12 = .ok (.getfield 53, 3) := by decide +kernel
theorem dX11_fate_15 : decode cX11_fate 15 = .ok (.aload_n 0, 1) := by decide +kernel
theorem dX11_fate_16 : decode cX11_fate 16 = .ok (.getfield 19, 3) := by decide +kernel
theorem dX11_fate_19 : decode cX11_fate 19 = .ok (.aload_n 0, 1) := by decide +kernel
theorem dX11_fate_20 : decode cX11_fate 20 = .ok (.getfield 29, 3) := by decide +kernel
theorem dX11_fate_23 : decode cX11_fate 23 = .ok (.iload_n 1, 1) := by decide +kernel
theorem dX11_fate_24 : decode cX11_fate 24 = .ok (.invokevirtual 252, 3) := by decide +kernel
theorem dX11_fate_27 : decode cX11_fate 27 = .ok (.goto 4, 3) := by decide +kernel
theorem dX11_fate_30 : decode cX11_fate 30 = .ok (.iconst (-1), 1) := by decide +kernel
theorem dX11_fate_31 : decode cX11_fate 31 = .ok (.ireturn, 1) := by decide +kernel
theorem dX11_straw_0 : decode cX11_straw 0 = .ok (.aload_n 0, 1) := by decide +kernel
theorem dX11_straw_1 : decode cX11_straw 1 = .ok (.iload_n 1, 1) := by decide +kernel
theorem dX11_straw_2 : decode cX11_straw 2 = .ok (.invokevirtual 255, 3) := by decide +kernel
theorem dX11_straw_5 : decode cX11_straw 5 = .ok (.ifCond .ne 5, 3) := by decide +kernel
theorem dX11_straw_8 : decode cX11_straw 8 = .ok (.iconst (-1), 1) := by decide +kernel
theorem dX11_straw_9 : decode cX11_straw 9 = .ok (.ireturn, 1) := by decide +kernel
theorem dX11_straw_10 : decode cX11_straw 10 = .ok (.aload_n 0, 1) := by decide +kernel
theorem dX11_straw_11 : decode cX11_straw 11 = .ok (.getfield 29, 3) := by decide +kernel
theorem dX11_straw_14 : decode cX11_straw 14 = .ok (.getfield 163, 3) := by decide +kernel
theorem dX11_straw_17 : decode cX11_straw 17 = .ok (.aload_n 0, 1) := by decide +kernel
theorem dX11_straw_18 : decode cX11_straw 18 = .ok (.getfield 19, 3) := by decide +kernel
theorem dX11_straw_21 : decode cX11_straw 21 = .ok (.iload_n 1, 1) := by decide +kernel
theorem dX11_straw_22 : decode cX11_straw 22 = .ok (.invokevirtual 166, 3) := by decide +kernel
theorem dX11_straw_25 : decode cX11_straw 25 = .ok (.iand, 1) := by decide +kernel
theorem dX11_straw_26 : decode cX11_straw 26 = .ok (.istore_n 2, 1) := by decide +kernel
theorem dX11_straw_27 : decode cX11_straw 27 = .ok (.iconst 0, 1) := by decide +kernel
theorem dX11_straw_28 : decode cX11_straw 28 = .ok (.istore_n 3, 1) := by decide +kernel
theorem dX11_straw_29 : decode cX11_straw 29 = .ok (.iload_n 3, 1) := by decide +kernel
theorem dX11_straw_30 : decode cX11_straw 30 = .ok (.aload_n 0, 1) := by decide +kernel
theorem dX11_straw_31 : decode cX11_straw 31 = .ok (.getfield 19, 3) := by decide +kernel
theorem dX11_straw_34 : decode cX11_straw 34 = .ok (.getfield 258, 3) := by decide +kernel
theorem dX11_straw_37 : decode cX11_straw 37 = .ok (.if_icmp .ge 58, 3) := by decide +kernel
theorem dX11_straw_40 : decode cX11_straw 40 = .ok (.aload_n 0, 1) := by decide +kernel
theorem dX11_straw_41 : decode cX11_straw 41 = .ok (.getfield 53, 3) := by decide +kernel
theorem dX11_straw_44 : decode cX11_straw 44 = .ok (.aload_n 0, 1) := by decide +kernel
theorem dX11_straw_45 : decode cX11_straw 45 = .ok (.getfield 19, 3) := by decide +kernel
theorem dX11_straw_48 : decode cX11_straw 48 = .ok (.aload_n 0, 1) := by decide +kernel
theorem dX11_straw_49 : decode cX11_straw 49 = .ok (.getfield 19, 3) := by decide +kernel
theorem dX11_straw_52 : decode cX11_straw 52 = .ok (.iload_n 1, 1) := by decide +kernel
theorem dX11_straw_53 : decode cX11_straw 53 = .ok (.aload_n 0, 1) := by decide +kernel
theorem dX11_straw_54 : decode cX11_straw 54 = .ok (.getfield 29, 3) := by decide +kernel
theorem dX11_straw_57 : decode cX11_straw 57 = .ok (.getfield 186, 3) := by decide +kernel
theorem dX11_straw_60 : decode cX11_straw 60 = .ok (.aload_n 0, 1) := by decide +kernel
theorem dX11_straw_61 : decode cX11_straw 61 = .ok (.getfield 19, 3) := by decide +kernel
theorem dX11_straw_64 : decode cX11_straw 64 = .ok (.getfield 258, 3) := by decide +kernel
theorem dX11_straw_67 : decode cX11_straw 67 = .ok (.iload_n 3, 1) := by decide +kernel
theorem dX11_straw_68 : decode cX11_straw 68 = .ok (.isub, 1) := by decide +kernel
theorem dX11_straw_69 : decode cX11_straw 69 = .ok (.invokevirtual 189, 3) := by decide +kernel
theorem dX11_straw_72 : decode cX11_straw 72 = .ok (.invokevirtual 193, 3) := by decide +kernel
theorem dX11_straw_75 : decode cX11_straw 75 = .ok (.aload_n 0, 1) := by decide +kernel
theorem dX11_straw_76 : decode cX11_straw 76 = .ok (.getfield 53, 3) := by decide +kernel
theorem dX11_straw_79 : decode cX11_straw 79 = .ok (.iload_n 2, 1) := by decide +kernel
theorem dX11_straw_80 : decode cX11_straw 80 = .ok (.invokevirtual 261, 3) := by decide +kernel
theorem dX11_straw_83 : decode cX11_straw 83 = .ok (.iconst 1, 1) := by decide +kernel
theorem dX11_straw_84 : decode cX11_straw 84 = .ok (.if_icmp .ne 5, 3) := by decide +kernel
theorem dX11_straw_87 : decode cX11_straw 87 = .ok (.iload_n 3, 1) := by decide +kernel
theorem dX11_straw_88 : decode cX11_straw 88 = .ok (.ireturn, 1) := by decide +kernel
theorem dX11_straw_89 : decode cX11_straw 89 = .ok (.iinc 3 1, 3) := by decide +kernel
theorem dX11_straw_92 : decode cX11_straw 92 = .ok (.goto (-63), 3) := by decide +kernel
theorem dX11_straw_95 : decode cX11_straw 95 = .ok (.iconst (-1), 1) := by decide +kernel
theorem dX11_straw_96 : decode cX11_straw 96 = .ok (.ireturn, 1) := by decide +kernel
theorem dX11_canStillDrop_0 : decode cX11_canStillDrop 0 = .ok (.aload_n 0, 1) := by decide +kernel
theorem dX11_canStillDrop_1 : decode cX11_canStillDrop 1 = .ok (.getfield 19, 3) := by decide +kernel
theorem dX11_canStillDrop_4 : decode cX11_canStillDrop 4 = .ok (.iload_n 1, 1) := by decide +kernel
theorem dX11_canStillDrop_5 : decode cX11_canStillDrop 5 = .ok (.invokevirtual 138, 3) := by decide +kernel
theorem dX11_canStillDrop_8 : decode cX11_canStillDrop 8 = .ok (.ifCond .eq 20, 3) := by decide +kernel
theorem dX11_canStillDrop_11 : decode cX11_canStillDrop 11 = .ok (.aload_n 0, 1) := by decide +kernel
theorem dX11_canStillDrop_12 : decode cX11_canStillDrop 12 = .ok (.getfield 29, 3) := by decide +kernel
theorem dX11_canStillDrop_15 : decode cX11_canStillDrop 15 = .ok (.getfield 152, 3) := by decide +kernel
theorem dX11_canStillDrop_18 : decode cX11_canStillDrop 18 = .ok (.iload_n 1, 1) := by decide +kernel
theorem dX11_canStillDrop_19 : decode cX11_canStillDrop 19 = .ok (.iaload, 1) := by decide +kernel
theorem dX11_canStillDrop_20 : decode cX11_canStillDrop 20 = .ok (.iconst 1, 1) := by decide +kernel
theorem dX11_canStillDrop_21 : decode cX11_canStillDrop 21 = .ok (.if_icmp .gt 7, 3) := by decide +kernel
theorem dX11_canStillDrop_24 : decode cX11_canStillDrop 24 = .ok (.iconst 1, 1) := by decide +kernel
theorem dX11_canStillDrop_25 : decode cX11_canStillDrop 25 = .ok (.goto 4, 3) := by decide +kernel
theorem dX11_canStillDrop_28 : decode cX11_canStillDrop 28 = .ok (.iconst 0, 1) := by decide +kernel
theorem dX11_canStillDrop_29 : decode cX11_canStillDrop 29 = .ok (.ireturn, 1) := by decide +kernel
theorem dX11_lighten_0 : decode cX11_lighten 0 = .ok (.aload_n 0, 1) := by decide +kernel
theorem dX11_lighten_1 : decode cX11_lighten 1 = .ok (.iload_n 1, 1) := by decide +kernel
theorem dX11_lighten_2 : decode cX11_lighten 2 = .ok (.invokevirtual 255, 3) := by decide +kernel
theorem dX11_lighten_5 : decode cX11_lighten 5 = .ok (.ifCond .ne 5, 3) := by decide +kernel
theorem dX11_lighten_8 : decode cX11_lighten 8 = .ok (.iconst (-1), 1) := by decide +kernel
theorem dX11_lighten_9 : decode cX11_lighten 9 = .ok (.ireturn, 1) := by decide +kernel
theorem dX11_lighten_10 : decode cX11_lighten 10 = .ok (.aload_n 0, 1) := by decide +kernel
theorem dX11_lighten_11 : decode cX11_lighten 11 = .ok (.getfield 19, 3) := by decide +kernel
theorem dX11_lighten_14 : decode cX11_lighten 14 = .ok (.aload_n 0, 1) := by decide +kernel
theorem dX11_lighten_15 : decode cX11_lighten 15 = .ok (.getfield 29, 3) := by decide +kernel
theorem dX11_lighten_18 : decode cX11_lighten 18 = .ok (.getfield 219, 3) := by decide +kernel
theorem dX11_lighten_21 : decode cX11_lighten 21 = .ok (.invokevirtual 222, 3) := by decide +kernel
theorem dX11_lighten_24 : decode cX11_lighten 24 = .ok (.istore_n 2, 1) := by decide +kernel
theorem dX11_lighten_25 : decode cX11_lighten 25 = .ok (.aload_n 0, 1) := by decide +kernel
theorem dX11_lighten_26 : decode cX11_lighten 26 = .ok (.aload_n 0, 1) := by decide +kernel
theorem dX11_lighten_27 : decode cX11_lighten 27 = .ok (.getfield 19, 3) := by decide +kernel
theorem dX11_lighten_30 : decode cX11_lighten 30 = .ok (.aload_n 0, 1) := by decide +kernel
theorem dX11_lighten_31 : decode cX11_lighten 31 = .ok (.getfield 29, 3) := by decide +kernel
theorem dX11_lighten_34 : decode cX11_lighten 34 = .ok (.getfield 163, 3) := by decide +kernel
theorem dX11_lighten_37 : decode cX11_lighten 37 = .ok (.aload_n 0, 1) := by decide +kernel
theorem dX11_lighten_38 : decode cX11_lighten 38 = .ok (.getfield 19, 3) := by decide +kernel
theorem dX11_lighten_41 : decode cX11_lighten 41 = .ok (.iload_n 1, 1) := by decide +kernel
theorem dX11_lighten_42 : decode cX11_lighten 42 = .ok (.invokevirtual 166, 3) := by decide +kernel
theorem dX11_lighten_45 : decode cX11_lighten 45 = .ok (.iand, 1) := by decide +kernel
theorem dX11_lighten_46 : decode cX11_lighten 46 = .ok (.iload_n 2, 1) := by decide +kernel
theorem dX11_lighten_47 : decode cX11_lighten 47 = .ok (.invokevirtual 264, 3) := by decide +kernel
theorem dX11_lighten_50 : decode cX11_lighten 50 = .ok (.putfield 99, 3) := by decide +kernel
theorem dX11_lighten_53 : decode cX11_lighten 53 = .ok (.aload_n 0, 1) := by decide +kernel
theorem dX11_lighten_54 : decode cX11_lighten 54 = .ok (.getfield 99, 3) := by decide +kernel
theorem dX11_lighten_57 : decode cX11_lighten 57 = .ok (.invokestatic 267, 3) := by decide +kernel
theorem dX11_lighten_60 : decode cX11_lighten 60 = .ok (.ireturn, 1) := by decide +kernel
theorem dX11_lightened_0 : decode cX11_lightened 0 = .ok (.aload_n 0, 1) := by decide +kernel
theorem dX11_lightened_1 : decode cX11_lightened 1 = .ok (.getfield 99, 3) := by decide +kernel
theorem dX11_lightened_4 : decode cX11_lightened 4 = .ok (.ireturn, 1) := by decide +kernel
theorem dX11_keep_0 : decode cX11_keep 0 = .ok (.aload_n 0, 1) := by decide +kernel
theorem dX11_keep_1 : decode cX11_keep 1 = .ok (.iload_n 1, 1) := by decide +kernel
theorem dX11_keep_2 : decode cX11_keep 2 = .ok (.invokevirtual 255, 3) := by decide +kernel
theorem dX11_keep_5 : decode cX11_keep 5 = .ok (.ifCond .ne 5, 3) := by decide +kernel
theorem dX11_keep_8 : decode cX11_keep 8 = .ok (.iconst (-1), 1) := by decide +kernel
theorem dX11_keep_9 : decode cX11_keep 9 = .ok (.ireturn, 1) := by decide +kernel
theorem dX11_keep_10 : decode cX11_keep 10 = .ok (.aload_n 0, 1) := by decide +kernel
theorem dX11_keep_11 : decode cX11_keep 11 = .ok (.getfield 29, 3) := by decide +kernel
theorem dX11_keep_14 : decode cX11_keep 14 = .ok (.getfield 163, 3) := by decide +kernel
theorem dX11_keep_17 : decode cX11_keep 17 = .ok (.aload_n 0, 1) := by decide +kernel
theorem dX11_keep_18 : decode cX11_keep 18 = .ok (.getfield 19, 3) := by decide +kernel
theorem dX11_keep_21 : decode cX11_keep 21 = .ok (.iload_n 1, 1) := by decide +kernel
theorem dX11_keep_22 : decode cX11_keep 22 = .ok (.invokevirtual 166, 3) := by decide +kernel
theorem dX11_keep_25 : decode cX11_keep 25 = .ok (.iand, 1) := by decide +kernel
theorem dX11_keep_26 : decode cX11_keep 26 = .ok (.istore_n 2, 1) := by decide +kernel
theorem dX11_keep_27 : decode cX11_keep 27 = .ok (.aload_n 0, 1) := by decide +kernel
theorem dX11_keep_28 : decode cX11_keep 28 = .ok (.getfield 53, 3) := by decide +kernel
theorem dX11_keep_31 : decode cX11_keep 31 = .ok (.aload_n 0, 1) := by decide +kernel
theorem dX11_keep_32 : decode cX11_keep 32 = .ok (.getfield 19, 3) := by decide +kernel
theorem dX11_keep_35 : decode cX11_keep 35 = .ok (.aload_n 0, 1) := by decide +kernel
theorem dX11_keep_36 : decode cX11_keep 36 = .ok (.getfield 29, 3) := by decide +kernel
theorem dX11_keep_39 : decode cX11_keep 39 = .ok (.iload_n 1, 1) := by decide +kernel
theorem dX11_keep_40 : decode cX11_keep 40 = .ok (.invokevirtual 272, 3) := by decide +kernel
theorem dX11_keep_43 : decode cX11_keep 43 = .ok (.aload_n 0, 1) := by decide +kernel
theorem dX11_keep_44 : decode cX11_keep 44 = .ok (.aload_n 0, 1) := by decide +kernel
theorem dX11_keep_45 : decode cX11_keep 45 = .ok (.getfield 53, 3) := by decide +kernel
theorem dX11_keep_48 : decode cX11_keep 48 = .ok (.aload_n 0, 1) := by decide +kernel
theorem dX11_keep_49 : decode cX11_keep 49 = .ok (.getfield 19, 3) := by decide +kernel
theorem dX11_keep_52 : decode cX11_keep 52 = .ok (.iload_n 2, 1) := by decide +kernel
theorem dX11_keep_53 : decode cX11_keep 53 = .ok (.aload_n 0, 1) := by decide +kernel
theorem dX11_keep_54 : decode cX11_keep 54 = .ok (.getfield 19, 3) := by decide +kernel
theorem dX11_keep_57 : decode cX11_keep 57 = .ok (.aload_n 0, 1) := by decide +kernel
theorem dX11_keep_58 : decode cX11_keep 58 = .ok (.getfield 29, 3) := by decide +kernel
theorem dX11_keep_61 : decode cX11_keep 61 = .ok (.getfield 219, 3) := by decide +kernel
theorem dX11_keep_64 : decode cX11_keep 64 = .ok (.invokevirtual 222, 3) := by decide +kernel
theorem dX11_keep_67 : decode cX11_keep 67 = .ok (.invokevirtual 276, 3) := by decide +kernel
theorem dX11_keep_70 : decode cX11_keep 70 = .ok (.putfield 103, 3) := by decide +kernel
theorem dX11_keep_73 : decode cX11_keep 73 = .ok (.aload_n 0, 1) := by decide +kernel
theorem dX11_keep_74 : decode cX11_keep 74 = .ok (.getfield 19, 3) := by decide +kernel
theorem dX11_keep_77 : decode cX11_keep 77 = .ok (.aload_n 0, 1) := by decide +kernel
theorem dX11_keep_78 : decode cX11_keep 78 = .ok (.getfield 103, 3) := by decide +kernel
theorem dX11_keep_81 : decode cX11_keep 81 = .ok (.invokevirtual 279, 3) := by decide +kernel
theorem dX11_keep_84 : decode cX11_keep 84 = .ok (.ireturn, 1) := by decide +kernel
theorem dX11_keeps_0 : decode cX11_keeps 0 = .ok (.aload_n 0, 1) := by decide +kernel
theorem dX11_keeps_1 : decode cX11_keeps 1 = .ok (.getfield 103, 3) := by decide +kernel
theorem dX11_keeps_4 : decode cX11_keeps 4 = .ok (.ireturn, 1) := by decide +kernel
theorem dX11_apart_0 : decode cX11_apart 0 = .ok (.aload_n 0, 1) := by decide +kernel
theorem dX11_apart_1 : decode cX11_apart 1 = .ok (.getfield 19, 3) := by decide +kernel
theorem dX11_apart_4 : decode cX11_apart 4 = .ok (.iload_n 1, 1) := by decide +kernel
theorem dX11_apart_5 : decode cX11_apart 5 = .ok (.invokevirtual 172, 3) := by decide +kernel
theorem dX11_apart_8 : decode cX11_apart 8 = .ok (.ifCond .eq 19, 3) := by decide +kernel
theorem dX11_apart_11 : decode cX11_apart 11 = .ok (.aload_n 0, 1) := by decide +kernel
theorem dX11_apart_12 : decode cX11_apart 12 = .ok (.getfield 19, 3) := by decide +kernel
theorem dX11_apart_15 : decode cX11_apart 15 = .ok (.iload_n 2, 1) := by decide +kernel
theorem dX11_apart_16 : decode cX11_apart 16 = .ok (.invokevirtual 172, 3) := by decide +kernel
theorem dX11_apart_19 : decode cX11_apart 19 = .ok (.ifCond .eq 8, 3) := by decide +kernel
theorem dX11_apart_22 : decode cX11_apart 22 = .ok (.iload_n 1, 1) := by decide +kernel
theorem dX11_apart_23 : decode cX11_apart 23 = .ok (.iload_n 2, 1) := by decide +kernel
theorem dX11_apart_24 : decode cX11_apart 24 = .ok (.if_icmp .ne 5, 3) := by decide +kernel
theorem dX11_apart_27 : decode cX11_apart 27 = .ok (.iconst (-1), 1) := by decide +kernel
theorem dX11_apart_28 : decode cX11_apart 28 = .ok (.ireturn, 1) := by decide +kernel
theorem dX11_apart_29 : decode cX11_apart 29 = .ok (.aload_n 0, 1) := by decide +kernel
theorem dX11_apart_30 : decode cX11_apart 30 = .ok (.getfield 19, 3) := by decide +kernel
theorem dX11_apart_33 : decode cX11_apart 33 = .ok (.getfield 175, 3) := by decide +kernel
theorem dX11_apart_36 : decode cX11_apart 36 = .ok (.iload_n 1, 1) := by decide +kernel
theorem dX11_apart_37 : decode cX11_apart 37 = .ok (.iaload, 1) := by decide +kernel
theorem dX11_apart_38 : decode cX11_apart 38 = .ok (.istore_n 3, 1) := by decide +kernel
theorem dX11_apart_39 : decode cX11_apart 39 = .ok (.aload_n 0, 1) := by decide +kernel
theorem dX11_apart_40 : decode cX11_apart 40 = .ok (.getfield 19, 3) := by decide +kernel
theorem dX11_apart_43 : decode cX11_apart 43 = .ok (.getfield 175, 3) := by decide +kernel
theorem dX11_apart_46 : decode cX11_apart 46 = .ok (.iload_n 2, 1) := by decide +kernel
theorem dX11_apart_47 : decode cX11_apart 47 = .ok (.iaload, 1) := by decide +kernel
theorem dX11_apart_48 : decode cX11_apart 48 = .ok (.iload_n 3, 1) := by decide +kernel
theorem dX11_apart_49 : decode cX11_apart 49 = .ok (.if_icmp .ne 25, 3) := by decide +kernel
theorem dX11_apart_52 : decode cX11_apart 52 = .ok (.aload_n 0, 1) := by decide +kernel
theorem dX11_apart_53 : decode cX11_apart 53 = .ok (.getfield 29, 3) := by decide +kernel
theorem dX11_apart_56 : decode cX11_apart 56 = .ok (.iload_n 1, 1) := by decide +kernel
theorem dX11_apart_57 : decode cX11_apart 57 = .ok (.invokevirtual 180, 3) := by decide +kernel
theorem dX11_apart_60 : decode cX11_apart 60 = .ok (.ifCond .eq 14, 3) := by decide +kernel
theorem dX11_apart_63 : decode cX11_apart 63 = .ok (.aload_n 0, 1) := by decide +kernel
theorem dX11_apart_64 : decode cX11_apart 64 = .ok (.getfield 29, 3) := by decide +kernel
theorem dX11_apart_67 : decode cX11_apart 67 = .ok (.iload_n 2, 1) := by decide +kernel
theorem dX11_apart_68 : decode cX11_apart 68 = .ok (.invokevirtual 180, 3) := by decide +kernel
theorem dX11_apart_71 : decode cX11_apart 71 = .ok (.ifCond .ne 5, 3) := by decide +kernel
theorem dX11_apart_74 : decode cX11_apart 74 = .ok (.iconst (-1), 1) := by decide +kernel
theorem dX11_apart_75 : decode cX11_apart 75 = .ok (.ireturn, 1) := by decide +kernel
theorem dX11_apart_76 : decode cX11_apart 76 = .ok (.aload_n 0, 1) := by decide +kernel
theorem dX11_apart_77 : decode cX11_apart 77 = .ok (.getfield 53, 3) := by decide +kernel
theorem dX11_apart_80 : decode cX11_apart 80 = .ok (.aload_n 0, 1) := by decide +kernel
theorem dX11_apart_81 : decode cX11_apart 81 = .ok (.getfield 19, 3) := by decide +kernel
theorem dX11_apart_84 : decode cX11_apart 84 = .ok (.aload_n 0, 1) := by decide +kernel
theorem dX11_apart_85 : decode cX11_apart 85 = .ok (.getfield 29, 3) := by decide +kernel
theorem dX11_apart_88 : decode cX11_apart 88 = .ok (.iload_n 3, 1) := by decide +kernel
theorem dX11_apart_89 : decode cX11_apart 89 = .ok (.invokevirtual 272, 3) := by decide +kernel
theorem dX11_apart_92 : decode cX11_apart 92 = .ok (.aload_n 0, 1) := by decide +kernel
theorem dX11_apart_93 : decode cX11_apart 93 = .ok (.getfield 53, 3) := by decide +kernel
theorem dX11_apart_96 : decode cX11_apart 96 = .ok (.iload_n 1, 1) := by decide +kernel
theorem dX11_apart_97 : decode cX11_apart 97 = .ok (.aload_n 0, 1) := by decide +kernel
theorem dX11_apart_98 : decode cX11_apart 98 = .ok (.getfield 29, 3) := by decide +kernel
theorem dX11_apart_101 : decode cX11_apart 101 = .ok (.getfield 163, 3) := by decide +kernel
theorem dX11_apart_104 : decode cX11_apart 104 = .ok (.invokevirtual 197, 3) := by decide +kernel
theorem dX11_apart_107 : decode cX11_apart 107 = .ok (.iload_n 2, 1) := by decide +kernel
theorem dX11_apart_108 : decode cX11_apart 108 = .ok (.ishr, 1) := by decide +kernel
theorem dX11_apart_109 : decode cX11_apart 109 = .ok (.iconst 1, 1) := by decide +kernel
theorem dX11_apart_110 : decode cX11_apart 110 = .ok (.iand, 1) := by decide +kernel
theorem dX11_apart_111 : decode cX11_apart 111 = .ok (.ifCond .ne 7, 3) := by decide +kernel
theorem dX11_apart_114 : decode cX11_apart 114 = .ok (.iconst 1, 1) := by decide +kernel
theorem dX11_apart_115 : decode cX11_apart 115 = .ok (.goto 4, 3) := by decide +kernel
theorem dX11_apart_118 : decode cX11_apart 118 = .ok (.iconst 0, 1) := by decide +kernel
theorem dX11_apart_119 : decode cX11_apart 119 = .ok (.ireturn, 1) := by decide +kernel
theorem dX11_crack_0 : decode cX11_crack 0 = .ok (.aload_n 0, 1) := by decide +kernel
theorem dX11_crack_1 : decode cX11_crack 1 = .ok (.getfield 19, 3) := by decide +kernel
theorem dX11_crack_4 : decode cX11_crack 4 = .ok (.iload_n 1, 1) := by decide +kernel
theorem dX11_crack_5 : decode cX11_crack 5 = .ok (.invokevirtual 138, 3) := by decide +kernel
theorem dX11_crack_8 : decode cX11_crack 8 = .ok (.ifCond .ne 5, 3) := by decide +kernel
theorem dX11_crack_11 : decode cX11_crack 11 = .ok (.iconst (-1), 1) := by decide +kernel
theorem dX11_crack_12 : decode cX11_crack 12 = .ok (.ireturn, 1) := by decide +kernel
theorem dX11_crack_13 : decode cX11_crack 13 = .ok (.iconst (-1), 1) := by decide +kernel
theorem dX11_crack_14 : decode cX11_crack 14 = .ok (.istore_n 2, 1) := by decide +kernel
theorem dX11_crack_15 : decode cX11_crack 15 = .ok (.iconst 0, 1) := by decide +kernel
theorem dX11_crack_16 : decode cX11_crack 16 = .ok (.istore_n 3, 1) := by decide +kernel
theorem dX11_crack_17 : decode cX11_crack 17 = .ok (.iload_n 3, 1) := by decide +kernel
theorem dX11_crack_18 : decode cX11_crack 18 = .ok (.aload_n 0, 1) := by decide +kernel
theorem dX11_crack_19 : decode cX11_crack 19 = .ok (.getfield 19, 3) := by decide +kernel
theorem dX11_crack_22 : decode cX11_crack 22 = .ok (.getfield 282, 3) := by decide +kernel
theorem dX11_crack_25 : decode cX11_crack 25 = .ok (.if_icmp .ge 60, 3) := by decide +kernel
theorem dX11_crack_28 : decode cX11_crack 28 = .ok (.aload_n 0, 1) := by decide +kernel
theorem dX11_crack_29 : decode cX11_crack 29 = .ok (.getfield 19, 3) := by decide +kernel
theorem dX11_crack_32 : decode cX11_crack 32 = .ok (.iload_n 3, 1) := by decide +kernel
theorem dX11_crack_33 : decode cX11_crack 33 = .ok (.invokevirtual 285, 3) := by decide +kernel
theorem dX11_crack_36 : decode cX11_crack 36 = .ok (.iload_n 1, 1) := by decide +kernel
theorem dX11_crack_37 : decode cX11_crack 37 = .ok (.if_icmp .ne 42, 3) := by decide +kernel
theorem dX11_crack_40 : decode cX11_crack 40 = .ok (.aload_n 0, 1) := by decide +kernel
theorem dX11_crack_41 : decode cX11_crack 41 = .ok (.getfield 29, 3) := by decide +kernel
theorem dX11_crack_44 : decode cX11_crack 44 = .ok (.iload_n 3, 1) := by decide +kernel
theorem dX11_crack_45 : decode cX11_crack 45 = .ok (.invokevirtual 216, 3) := by decide +kernel
theorem dX11_crack_48 : decode cX11_crack 48 = .ok (.ifCond .eq 31, 3) := by decide +kernel
theorem dX11_crack_51 : decode cX11_crack 51 = .ok (.iload_n 2, 1) := by decide +kernel
theorem dX11_crack_52 : decode cX11_crack 52 = .ok (.iconst (-1), 1) := by decide +kernel
theorem dX11_crack_53 : decode cX11_crack 53 = .ok (.if_icmp .eq 24, 3) := by decide +kernel
theorem dX11_crack_56 : decode cX11_crack 56 = .ok (.aload_n 0, 1) := by decide +kernel
theorem dX11_crack_57 : decode cX11_crack 57 = .ok (.getfield 19, 3) := by decide +kernel
theorem dX11_crack_60 : decode cX11_crack 60 = .ok (.getfield 213, 3) := by decide +kernel
theorem dX11_crack_63 : decode cX11_crack 63 = .ok (.iload_n 3, 1) := by decide +kernel
theorem dX11_crack_64 : decode cX11_crack 64 = .ok (.iaload, 1) := by decide +kernel
theorem dX11_crack_65 : decode cX11_crack 65 = .ok (.aload_n 0, 1) := by decide +kernel
theorem dX11_crack_66 : decode cX11_crack 66 = .ok (.getfield 19, 3) := by decide +kernel
theorem dX11_crack_69 : decode cX11_crack 69 = .ok (.getfield 213, 3) := by decide +kernel
theorem dX11_crack_72 : decode cX11_crack 72 = .ok (.iload_n 2, 1) := by decide +kernel
theorem dX11_crack_73 : decode cX11_crack 73 = .ok (.iaload, 1) := by decide +kernel
theorem dX11_crack_74 : decode cX11_crack 74 = .ok (.if_icmp .ge 5, 3) := by decide +kernel
theorem dX11_crack_77 : decode cX11_crack 77 = .ok (.iload_n 3, 1) := by decide +kernel
theorem dX11_crack_78 : decode cX11_crack 78 = .ok (.istore_n 2, 1) := by decide +kernel
theorem dX11_crack_79 : decode cX11_crack 79 = .ok (.iinc 3 1, 3) := by decide +kernel
theorem dX11_crack_82 : decode cX11_crack 82 = .ok (.goto (-65), 3) := by decide +kernel
theorem dX11_crack_85 : decode cX11_crack 85 = .ok (.iload_n 2, 1) := by decide +kernel
theorem dX11_crack_86 : decode cX11_crack 86 = .ok (.ireturn, 1) := by decide +kernel
theorem dX11_drops_0 : decode cX11_drops 0 = .ok (.aload_n 0, 1) := by decide +kernel
theorem dX11_drops_1 : decode cX11_drops 1 = .ok (.getfield 19, 3) := by decide +kernel
theorem dX11_drops_4 : decode cX11_drops 4 = .ok (.iload_n 1, 1) := by decide +kernel
theorem dX11_drops_5 : decode cX11_drops 5 = .ok (.invokevirtual 138, 3) := by decide +kernel
theorem dX11_drops_8 : decode cX11_drops 8 = .ok (.ifCond .eq 16, 3) := by decide +kernel
theorem dX11_drops_11 : decode cX11_drops 11 = .ok (.aload_n 0, 1) := by decide +kernel
theorem dX11_drops_12 : decode cX11_drops 12 = .ok (.getfield 29, 3) := by decide +kernel
theorem dX11_drops_15 : decode cX11_drops 15 = .ok (.getfield 152, 3) := by decide +kernel
theorem dX11_drops_18 : decode cX11_drops 18 = .ok (.iload_n 1, 1) := by decide +kernel
theorem dX11_drops_19 : decode cX11_drops 19 = .ok (.iaload, 1) := by decide +kernel
theorem dX11_drops_20 : decode cX11_drops 20 = .ok (.iconst 1, 1) := by decide +kernel
theorem dX11_drops_21 : decode cX11_drops 21 = .ok (.if_icmp .eq 5, 3) := by decide +kernel
theorem dX11_drops_24 : decode cX11_drops 24 = .ok (.iconst (-1), 1) := by decide +kernel
theorem dX11_drops_25 : decode cX11_drops 25 = .ok (.ireturn, 1) := by decide +kernel
theorem dX11_drops_26 : decode cX11_drops 26 = .ok (.aload_n 0, 1) := by decide +kernel
theorem dX11_drops_27 : decode cX11_drops 27 = .ok (.getfield 29, 3) := by decide +kernel
theorem dX11_drops_30 : decode cX11_drops 30 = .ok (.aload_n 0, 1) := by decide +kernel
theorem dX11_drops_31 : decode cX11_drops 31 = .ok (.getfield 19, 3) := by decide +kernel
theorem dX11_drops_34 : decode cX11_drops 34 = .ok (.iload_n 1, 1) := by decide +kernel
theorem dX11_drops_35 : decode cX11_drops 35 = .ok (.invokevirtual 155, 3) := by decide +kernel
theorem dX11_drops_38 : decode cX11_drops 38 = .ok (.istore_n 2, 1) := by decide +kernel
theorem dX11_drops_39 : decode cX11_drops 39 = .ok (.iconst 1, 1) := by decide +kernel
theorem dX11_drops_40 : decode cX11_drops 40 = .ok (.istore_n 3, 1) := by decide +kernel
theorem dX11_drops_41 : decode cX11_drops 41 = .ok (.iload_n 3, 1) := by decide +kernel
theorem dX11_drops_42 : decode cX11_drops 42 = .ok (.bipush 99, 2) := by decide +kernel
theorem dX11_drops_44 : decode cX11_drops 44 = .ok (.if_icmp .gt 31, 3) := by decide +kernel
theorem dX11_drops_47 : decode cX11_drops 47 = .ok (.iload_n 2, 1) := by decide +kernel
theorem dX11_drops_48 : decode cX11_drops 48 = .ok (.aload_n 0, 1) := by decide +kernel
theorem dX11_drops_49 : decode cX11_drops 49 = .ok (.getfield 19, 3) := by decide +kernel
theorem dX11_drops_52 : decode cX11_drops 52 = .ok (.aload_n 0, 1) := by decide +kernel
theorem dX11_drops_53 : decode cX11_drops 53 = .ok (.getfield 29, 3) := by decide +kernel
theorem dX11_drops_56 : decode cX11_drops 56 = .ok (.getfield 219, 3) := by decide +kernel
theorem dX11_drops_59 : decode cX11_drops 59 = .ok (.iload_n 3, 1) := by decide +kernel
theorem dX11_drops_60 : decode cX11_drops 60 = .ok (.iadd, 1) := by decide +kernel
theorem dX11_drops_61 : decode cX11_drops 61 = .ok (.invokevirtual 222, 3) := by decide +kernel
theorem dX11_drops_64 : decode cX11_drops 64 = .ok (.if_icmp .gt 5, 3) := by decide +kernel
theorem dX11_drops_67 : decode cX11_drops 67 = .ok (.iload_n 3, 1) := by decide +kernel
theorem dX11_drops_68 : decode cX11_drops 68 = .ok (.ireturn, 1) := by decide +kernel
theorem dX11_drops_69 : decode cX11_drops 69 = .ok (.iinc 3 1, 3) := by decide +kernel
theorem dX11_drops_72 : decode cX11_drops 72 = .ok (.goto (-31), 3) := by decide +kernel
theorem dX11_drops_75 : decode cX11_drops 75 = .ok (.iconst (-1), 1) := by decide +kernel
theorem dX11_drops_76 : decode cX11_drops 76 = .ok (.ireturn, 1) := by decide +kernel
theorem dX11_who_0 : decode cX11_who 0 = .ok (.aload_n 0, 1) := by decide +kernel
theorem dX11_who_1 : decode cX11_who 1 = .ok (.getfield 10, 3) := by decide +kernel
theorem dX11_who_4 : decode cX11_who 4 = .ok (.getfield 112, 3) := by decide +kernel
theorem dX11_who_7 : decode cX11_who 7 = .ok (.istore_n 1, 1) := by decide +kernel
theorem dX11_who_8 : decode cX11_who 8 = .ok (.aload_n 0, 1) := by decide +kernel
theorem dX11_who_9 : decode cX11_who 9 = .ok (.getfield 10, 3) := by decide +kernel
theorem dX11_who_12 : decode cX11_who 12 = .ok (.iconst 0, 1) := by decide +kernel
theorem dX11_who_13 : decode cX11_who 13 = .ok (.putfield 112, 3) := by decide +kernel
theorem dX11_who_16 : decode cX11_who 16 = .ok (.iload_n 1, 1) := by decide +kernel
theorem dX11_who_17 : decode cX11_who 17 = .ok (.iconst 1, 1) := by decide +kernel
theorem dX11_who_18 : decode cX11_who 18 = .ok (.if_icmp .lt 9, 3) := by decide +kernel
theorem dX11_who_21 : decode cX11_who 21 = .ok (.iload_n 1, 1) := by decide +kernel
theorem dX11_who_22 : decode cX11_who 22 = .ok (.bipush 6, 2) := by decide +kernel
theorem dX11_who_24 : decode cX11_who 24 = .ok (.if_icmp .le 5, 3) := by decide +kernel
theorem dX11_who_27 : decode cX11_who 27 = .ok (.iconst (-1), 1) := by decide +kernel
theorem dX11_who_28 : decode cX11_who 28 = .ok (.ireturn, 1) := by decide +kernel
theorem dX11_who_29 : decode cX11_who 29 = .ok (.iconst 0, 1) := by decide +kernel
theorem dX11_who_30 : decode cX11_who 30 = .ok (.istore_n 2, 1) := by decide +kernel
theorem dX11_who_31 : decode cX11_who 31 = .ok (.iconst 0, 1) := by decide +kernel
theorem dX11_who_32 : decode cX11_who 32 = .ok (.istore_n 3, 1) := by decide +kernel
theorem dX11_who_33 : decode cX11_who 33 = .ok (.iload_n 3, 1) := by decide +kernel
theorem dX11_who_34 : decode cX11_who 34 = .ok (.aload_n 0, 1) := by decide +kernel
theorem dX11_who_35 : decode cX11_who 35 = .ok (.getfield 19, 3) := by decide +kernel
theorem dX11_who_38 : decode cX11_who 38 = .ok (.getfield 288, 3) := by decide +kernel
theorem dX11_who_41 : decode cX11_who 41 = .ok (.if_icmp .ge 69, 3) := by decide +kernel
theorem dX11_who_44 : decode cX11_who 44 = .ok (.aload_n 0, 1) := by decide +kernel
theorem dX11_who_45 : decode cX11_who 45 = .ok (.getfield 53, 3) := by decide +kernel
theorem dX11_who_48 : decode cX11_who 48 = .ok (.aload_n 0, 1) := by decide +kernel
theorem dX11_who_49 : decode cX11_who 49 = .ok (.getfield 19, 3) := by decide +kernel
theorem dX11_who_52 : decode cX11_who 52 = .ok (.aload_n 0, 1) := by decide +kernel
theorem dX11_who_53 : decode cX11_who 53 = .ok (.getfield 29, 3) := by decide +kernel
theorem dX11_who_56 : decode cX11_who 56 = .ok (.iload_n 3, 1) := by decide +kernel
theorem dX11_who_57 : decode cX11_who 57 = .ok (.invokevirtual 272, 3) := by decide +kernel
theorem dX11_who_60 : decode cX11_who 60 = .ok (.aload_n 0, 1) := by decide +kernel
theorem dX11_who_61 : decode cX11_who 61 = .ok (.getfield 53, 3) := by decide +kernel
theorem dX11_who_64 : decode cX11_who 64 = .ok (.aload_n 0, 1) := by decide +kernel
theorem dX11_who_65 : decode cX11_who 65 = .ok (.getfield 19, 3) := by decide +kernel
theorem dX11_who_68 : decode cX11_who 68 = .ok (.aload_n 0, 1) := by decide +kernel
