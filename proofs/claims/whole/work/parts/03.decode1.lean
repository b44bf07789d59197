theorem dX0_init_0 : decode cX0_init 0 = .ok (.aload_n 0, 1) := by decide +kernel
theorem dX0_init_1 : decode cX0_init 1 = .ok (.invokespecial 3, 3) := by decide +kernel
theorem dX0_init_4 : decode cX0_init 4 = .ok (.aload_n 0, 1) := by decide +kernel
theorem dX0_init_5 : decode cX0_init 5 = .ok (.bipush 40, 2) := by decide +kernel
theorem dX0_init_7 : decode cX0_init 7 = .ok (.newarray .int, 2) := by decide +kernel
theorem dX0_init_9 : decode cX0_init 9 = .ok (.putfield 11, 3) := by decide +kernel
theorem dX0_init_12 : decode cX0_init 12 = .ok (.aload_n 0, 1) := by decide +kernel
theorem dX0_init_13 : decode cX0_init 13 = .ok (.bipush 40, 2) := by decide +kernel
theorem dX0_init_15 : decode cX0_init 15 = .ok (.newarray .int, 2) := by decide +kernel
theorem dX0_init_17 : decode cX0_init 17 = .ok (.putfield 15, 3) := by decide +kernel
theorem dX0_init_20 : decode cX0_init 20 = .ok (.return_, 1) := by decide +kernel
theorem dX0_read_0 : decode cX0_read 0 = .ok (.aload_n 0, 1) := by decide +kernel
theorem dX0_read_1 : decode cX0_read 1 = .ok (.iconst 0, 1) := by decide +kernel
theorem dX0_read_2 : decode cX0_read 2 = .ok (.putfield 18, 3) := by decide +kernel
theorem dX0_read_5 : decode cX0_read 5 = .ok (.aload_n 1, 1) := by decide +kernel
theorem dX0_read_6 : decode cX0_read 6 = .ok (.sipush 400, 3) := by decide +kernel
theorem dX0_read_9 : decode cX0_read 9 = .ok (.invokevirtual 22, 3) := by decide +kernel
theorem dX0_read_12 : decode cX0_read 12 = .ok (.aload_n 0, 1) := by decide +kernel
theorem dX0_read_13 : decode cX0_read 13 = .ok (.getfield 18, 3) := by decide +kernel
theorem dX0_read_16 : decode cX0_read 16 = .ok (.bipush 40, 2) := by decide +kernel
theorem dX0_read_18 : decode cX0_read 18 = .ok (.if_icmp .gt 33, 3) := by decide +kernel
theorem dX0_read_21 : decode cX0_read 21 = .ok (.aload_n 1, 1) := by decide +kernel
theorem dX0_read_22 : decode cX0_read 22 = .ok (.invokevirtual 28, 3) := by decide +kernel
theorem dX0_read_25 : decode cX0_read 25 = .ok (.ifCond .ne 26, 3) := by decide +kernel
theorem dX0_read_28 : decode cX0_read 28 = .ok (.aload_n 0, 1) := by decide +kernel
theorem dX0_read_29 : decode cX0_read 29 = .ok (.aload_n 1, 1) := by decide +kernel
theorem dX0_read_30 : decode cX0_read 30 = .ok (.aload_n 2, 1) := by decide +kernel
theorem dX0_read_31 : decode cX0_read 31 = .ok (.invokevirtual 32, 3) := by decide +kernel
theorem dX0_read_34 : decode cX0_read 34 = .ok (.ifCond .ne 4, 3) := by decide +kernel
theorem dX0_read_37 : decode cX0_read 37 = .ok (.return_, 1) := by decide +kernel
theorem dX0_read_38 : decode cX0_read 38 = .ok (.aload_n 0, 1) := by decide +kernel
theorem dX0_read_39 : decode cX0_read 39 = .ok (.dup, 1) := by decide +kernel
theorem dX0_read_40 : decode cX0_read 40 = .ok (.getfield 18, 3) := by decide +kernel
theorem dX0_read_43 : decode cX0_read 43 = .ok (.iconst 1, 1) := by decide +kernel
theorem dX0_read_44 : decode cX0_read 44 = .ok (.iadd, 1) := by decide +kernel
theorem dX0_read_45 : decode cX0_read 45 = .ok (.putfield 18, 3) := by decide +kernel
theorem dX0_read_48 : decode cX0_read 48 = .ok (.goto (-36), 3) := by decide +kernel
theorem dX0_read_51 : decode cX0_read 51 = .ok (.aload_n 1, 1) := by decide +kernel
theorem dX0_read_52 : decode cX0_read 52 = .ok (.invokevirtual 36, 3) := by decide +kernel
theorem dX0_read_55 : decode cX0_read 55 = .ok (.pop, 1) := by decide +kernel
theorem dX0_read_56 : decode cX0_read 56 = .ok (.return_, 1) := by decide +kernel
theorem dX0_readLine_0 : decode cX0_readLine 0 = .ok (.aload_n 1, 1) := by decide +kernel
theorem dX0_readLine_1 : decode cX0_readLine 1 = .ok (.invokevirtual 39, 3) := by decide +kernel
theorem dX0_readLine_4 : decode cX0_readLine 4 = .ok (.istore_n 3, 1) := by decide +kernel
theorem dX0_readLine_5 : decode cX0_readLine 5 = .ok (.iload_n 3, 1) := by decide +kernel
theorem dX0_readLine_6 : decode cX0_readLine 6 = .ok (.bipush 7, 2) := by decide +kernel
theorem dX0_readLine_8 : decode cX0_readLine 8 = .ok (.if_icmp .lt 13, 3) := by decide +kernel
theorem dX0_readLine_11 : decode cX0_readLine 11 = .ok (.iload_n 3, 1) := by decide +kernel
theorem dX0_readLine_12 : decode cX0_readLine 12 = .ok (.bipush 10, 2) := by decide +kernel
theorem dX0_readLine_14 : decode cX0_readLine 14 = .ok (.if_icmp .gt 7, 3) := by decide +kernel
theorem dX0_readLine_17 : decode cX0_readLine 17 = .ok (.iconst 1, 1) := by decide +kernel
theorem dX0_readLine_18 : decode cX0_readLine 18 = .ok (.goto 4, 3) := by decide +kernel
theorem dX0_readLine_21 : decode cX0_readLine 21 = .ok (.iconst 0, 1) := by decide +kernel
theorem dX0_readLine_22 : decode cX0_readLine 22 = .ok (.istore 4, 2) := by decide +kernel
theorem dX0_readLine_24 : decode cX0_readLine 24 = .ok (.iload 4, 2) := by decide +kernel
theorem dX0_readLine_26 : decode cX0_readLine 26 = .ok (.ifCond .ne 16, 3) := by decide +kernel
theorem dX0_readLine_29 : decode cX0_readLine 29 = .ok (.aload_n 1, 1) := by decide +kernel
theorem dX0_readLine_30 : decode cX0_readLine 30 = .ok (.invokevirtual 43, 3) := by decide +kernel
theorem dX0_readLine_33 : decode cX0_readLine 33 = .ok (.ifCond .ne 9, 3) := by decide +kernel
theorem dX0_readLine_36 : decode cX0_readLine 36 = .ok (.aload_n 1, 1) := by decide +kernel
theorem dX0_readLine_37 : decode cX0_readLine 37 = .ok (.iconst 1, 1) := by decide +kernel
theorem dX0_readLine_38 : decode cX0_readLine 38 = .ok (.invokevirtual 46, 3) := by decide +kernel
theorem dX0_readLine_41 : decode cX0_readLine 41 = .ok (.ireturn, 1) := by decide +kernel
theorem dX0_readLine_42 : decode cX0_readLine 42 = .ok (.iload 4, 2) := by decide +kernel
theorem dX0_readLine_44 : decode cX0_readLine 44 = .ok (.ifCond .ne 21, 3) := by decide +kernel
theorem dX0_readLine_47 : decode cX0_readLine 47 = .ok (.aload_n 2, 1) := by decide +kernel
theorem dX0_readLine_48 : decode cX0_readLine 48 = .ok (.aload_n 1, 1) := by decide +kernel
theorem dX0_readLine_49 : decode cX0_readLine 49 = .ok (.invokevirtual 50, 3) := by decide +kernel
theorem dX0_readLine_52 : decode cX0_readLine 52 = .ok (.invokevirtual 54, 3) := by decide +kernel
theorem dX0_readLine_55 : decode cX0_readLine 55 = .ok (.iconst (-1), 1) := by decide +kernel
theorem dX0_readLine_56 : decode cX0_readLine 56 = .ok (.if_icmp .ne 9, 3) := by decide +kernel
theorem dX0_readLine_59 : decode cX0_readLine 59 = .ok (.aload_n 1, 1) := by decide +kernel
theorem dX0_readLine_60 : decode cX0_readLine 60 = .ok (.iconst 3, 1) := by decide +kernel
theorem dX0_readLine_61 : decode cX0_readLine 61 = .ok (.invokevirtual 46, 3) := by decide +kernel
theorem dX0_readLine_64 : decode cX0_readLine 64 = .ok (.ireturn, 1) := by decide +kernel
theorem dX0_readLine_65 : decode cX0_readLine 65 = .ok (.aload_n 0, 1) := by decide +kernel
theorem dX0_readLine_66 : decode cX0_readLine 66 = .ok (.getfield 18, 3) := by decide +kernel
theorem dX0_readLine_69 : decode cX0_readLine 69 = .ok (.bipush 40, 2) := by decide +kernel
theorem dX0_readLine_71 : decode cX0_readLine 71 = .ok (.if_icmp .lt 9, 3) := by decide +kernel
theorem dX0_readLine_74 : decode cX0_readLine 74 = .ok (.aload_n 1, 1) := by decide +kernel
theorem dX0_readLine_75 : decode cX0_readLine 75 = .ok (.iconst 4, 1) := by decide +kernel
theorem dX0_readLine_76 : decode cX0_readLine 76 = .ok (.invokevirtual 46, 3) := by decide +kernel
theorem dX0_readLine_79 : decode cX0_readLine 79 = .ok (.ireturn, 1) := by decide +kernel
theorem dX0_readLine_80 : decode cX0_readLine 80 = .ok (.iload 4, 2) := by decide +kernel
theorem dX0_readLine_82 : decode cX0_readLine 82 = .ok (.ifCond .ne 27, 3) := by decide +kernel
theorem dX0_readLine_85 : decode cX0_readLine 85 = .ok (.aload_n 0, 1) := by decide +kernel
theorem dX0_readLine_86 : decode cX0_readLine 86 = .ok (.aload_n 1, 1) := by decide +kernel
theorem dX0_readLine_87 : decode cX0_readLine 87 = .ok (.aload_n 2, 1) := by decide +kernel
theorem dX0_readLine_88 : decode cX0_readLine 88 = .ok (.invokevirtual 60, 3) := by decide +kernel
theorem dX0_readLine_91 : decode cX0_readLine 91 = .ok (.ifCond .eq 16, 3) := by decide +kernel
theorem dX0_readLine_94 : decode cX0_readLine 94 = .ok (.aload_n 1, 1) := by decide +kernel
theorem dX0_readLine_95 : decode cX0_readLine 95 = .ok (.bipush 59, 2) := by decide +kernel
theorem dX0_readLine_97 : decode cX0_readLine 97 = .ok (.invokevirtual 63, 3) := by decide +kernel
theorem dX0_readLine_100 : decode cX0_readLine 100 = .ok (.ifCond .eq 7, 3) := by decide +kernel
theorem dX0_readLine_103 : decode cX0_readLine 103 = .ok (.iconst 1, 1) := by decide +kernel
theorem dX0_readLine_104 : decode cX0_readLine 104 = .ok (.goto 4, 3) := by decide +kernel
theorem dX0_readLine_107 : decode cX0_readLine 107 = .ok (.iconst 0, 1) := by decide +kernel
theorem dX0_readLine_108 : decode cX0_readLine 108 = .ok (.ireturn, 1) := by decide +kernel
theorem dX0_readLine_109 : decode cX0_readLine 109 = .ok (.aload_n 1, 1) := by decide +kernel
theorem dX0_readLine_110 : decode cX0_readLine 110 = .ok (.invokevirtual 66, 3) := by decide +kernel
theorem dX0_readLine_113 : decode cX0_readLine 113 = .ok (.aload_n 0, 1) := by decide +kernel
theorem dX0_readLine_114 : decode cX0_readLine 114 = .ok (.getfield 11, 3) := by decide +kernel
theorem dX0_readLine_117 : decode cX0_readLine 117 = .ok (.aload_n 0, 1) := by decide +kernel
theorem dX0_readLine_118 : decode cX0_readLine 118 = .ok (.getfield 18, 3) := by decide +kernel
theorem dX0_readLine_121 : decode cX0_readLine 121 = .ok (.iload_n 3, 1) := by decide +kernel
theorem dX0_readLine_122 : decode cX0_readLine 122 = .ok (.iastore, 1) := by decide +kernel
theorem dX0_readLine_123 : decode cX0_readLine 123 = .ok (.aload_n 0, 1) := by decide +kernel
theorem dX0_readLine_124 : decode cX0_readLine 124 = .ok (.getfield 15, 3) := by decide +kernel
theorem dX0_readLine_127 : decode cX0_readLine 127 = .ok (.aload_n 0, 1) := by decide +kernel
theorem dX0_readLine_128 : decode cX0_readLine 128 = .ok (.getfield 18, 3) := by decide +kernel
theorem dX0_readLine_131 : decode cX0_readLine 131 = .ok (.aload_n 1, 1) := by decide +kernel
theorem dX0_readLine_132 : decode cX0_readLine 132 = .ok (.aload_n 2, 1) := by decide +kernel
theorem dX0_readLine_133 : decode cX0_readLine 133 = .ok (.iload_n 3, 1) := by decide +kernel
theorem dX0_readLine_134 : decode cX0_readLine 134 = .ok (.invokestatic 69, 3) := by decide +kernel
theorem dX0_readLine_137 : decode cX0_readLine 137 = .ok (.iastore, 1) := by decide +kernel
theorem dX0_readLine_138 : decode cX0_readLine 138 = .ok (.aload_n 0, 1) := by decide +kernel
theorem dX0_readLine_139 : decode cX0_readLine 139 = .ok (.getfield 15, 3) := by decide +kernel
theorem dX0_readLine_142 : decode cX0_readLine 142 = .ok (.aload_n 0, 1) := by decide +kernel
theorem dX0_readLine_143 : decode cX0_readLine 143 = .ok (.getfield 18, 3) := by decide +kernel
theorem dX0_readLine_146 : decode cX0_readLine 146 = .ok (.iaload, 1) := by decide +kernel
theorem dX0_readLine_147 : decode cX0_readLine 147 = .ok (.iconst (-1), 1) := by decide +kernel
theorem dX0_readLine_148 : decode cX0_readLine 148 = .ok (.if_icmp .eq 16, 3) := by decide +kernel
theorem dX0_readLine_151 : decode cX0_readLine 151 = .ok (.aload_n 1, 1) := by decide +kernel
theorem dX0_readLine_152 : decode cX0_readLine 152 = .ok (.bipush 59, 2) := by decide +kernel
theorem dX0_readLine_154 : decode cX0_readLine 154 = .ok (.invokevirtual 63, 3) := by decide +kernel
theorem dX0_readLine_157 : decode cX0_readLine 157 = .ok (.ifCond .eq 7, 3) := by decide +kernel
theorem dX0_readLine_160 : decode cX0_readLine 160 = .ok (.iconst 1, 1) := by decide +kernel
theorem dX0_readLine_161 : decode cX0_readLine 161 = .ok (.goto 4, 3) := by decide +kernel
theorem dX0_readLine_164 : decode cX0_readLine 164 = .ok (.iconst 0, 1) := by decide +kernel
theorem dX0_readLine_165 : decode cX0_readLine 165 = .ok (.ireturn, 1) := by decide +kernel
theorem dX0_readOfPerson_0 : decode cX0_readOfPerson 0 = .ok (.aload_n 0, 1) := by decide +kernel
theorem dX0_readOfPerson_1 : decode cX0_readOfPerson 1 = .ok (.getfield 15, 3) := by decide +kernel
theorem dX0_readOfPerson_4 : decode cX0_readOfPerson 4 = .ok (.aload_n 0, 1) := by decide +kernel
theorem dX0_readOfPerson_5 : decode cX0_readOfPerson 5 = .ok (.getfield 18, 3) := by decide +kernel
theorem dX0_readOfPerson_8 : decode cX0_readOfPerson 8 = .ok (.aload_n 2, 1) := by decide +kernel
theorem dX0_readOfPerson_9 : decode cX0_readOfPerson 9 = .ok (.aload_n 1, 1) := by decide +kernel
theorem dX0_readOfPerson_10 : decode cX0_readOfPerson 10 = .ok (.invokevirtual 73, 3) := by decide +kernel
theorem dX0_readOfPerson_13 : decode cX0_readOfPerson 13 = .ok (.iastore, 1) := by decide +kernel
theorem dX0_readOfPerson_14 : decode cX0_readOfPerson 14 = .ok (.aload_n 1, 1) := by decide +kernel
theorem dX0_readOfPerson_15 : decode cX0_readOfPerson 15 = .ok (.invokevirtual 39, 3) := by decide +kernel
theorem dX0_readOfPerson_18 : decode cX0_readOfPerson 18 = .ok (.istore_n 3, 1) := by decide +kernel
theorem dX0_readOfPerson_19 : decode cX0_readOfPerson 19 = .ok (.iload_n 3, 1) := by decide +kernel
theorem dX0_readOfPerson_20 : decode cX0_readOfPerson 20 = .ok (.iconst 5, 1) := by decide +kernel
theorem dX0_readOfPerson_21 : decode cX0_readOfPerson 21 = .ok (.if_icmp .eq 15, 3) := by decide +kernel
theorem dX0_readOfPerson_24 : decode cX0_readOfPerson 24 = .ok (.iload_n 3, 1) := by decide +kernel
theorem dX0_readOfPerson_25 : decode cX0_readOfPerson 25 = .ok (.bipush 6, 2) := by decide +kernel
theorem dX0_readOfPerson_27 : decode cX0_readOfPerson 27 = .ok (.if_icmp .eq 9, 3) := by decide +kernel
theorem dX0_readOfPerson_30 : decode cX0_readOfPerson 30 = .ok (.aload_n 1, 1) := by decide +kernel
theorem dX0_readOfPerson_31 : decode cX0_readOfPerson 31 = .ok (.iconst 1, 1) := by decide +kernel
theorem dX0_readOfPerson_32 : decode cX0_readOfPerson 32 = .ok (.invokevirtual 46, 3) := by decide +kernel
theorem dX0_readOfPerson_35 : decode cX0_readOfPerson 35 = .ok (.ireturn, 1) := by decide +kernel
theorem dX0_readOfPerson_36 : decode cX0_readOfPerson 36 = .ok (.aload_n 0, 1) := by decide +kernel
theorem dX0_readOfPerson_37 : decode cX0_readOfPerson 37 = .ok (.getfield 11, 3) := by decide +kernel
theorem dX0_readOfPerson_40 : decode cX0_readOfPerson 40 = .ok (.aload_n 0, 1) := by decide +kernel
theorem dX0_readOfPerson_41 : decode cX0_readOfPerson 41 = .ok (.getfield 18, 3) := by decide +kernel
theorem dX0_readOfPerson_44 : decode cX0_readOfPerson 44 = .ok (.iload_n 3, 1) := by decide +kernel
theorem dX0_readOfPerson_45 : decode cX0_readOfPerson 45 = .ok (.iastore, 1) := by decide +kernel
theorem dX0_readOfPerson_46 : decode cX0_readOfPerson 46 = .ok (.aload_n 1, 1) := by decide +kernel
theorem dX0_readOfPerson_47 : decode cX0_readOfPerson 47 = .ok (.invokevirtual 66, 3) := by decide +kernel
theorem dX0_readOfPerson_50 : decode cX0_readOfPerson 50 = .ok (.iconst 1, 1) := by decide +kernel
theorem dX0_readOfPerson_51 : decode cX0_readOfPerson 51 = .ok (.ireturn, 1) := by decide +kernel
theorem dX0_takeObject_0 : decode cX0_takeObject 0 = .ok (.iload_n 2, 1) := by decide +kernel
theorem dX0_takeObject_1 : decode cX0_takeObject 1 = .ok (.bipush 9, 2) := by decide +kernel
theorem dX0_takeObject_3 : decode cX0_takeObject 3 = .ok (.if_icmp .ne 11, 3) := by decide +kernel
theorem dX0_takeObject_6 : decode cX0_takeObject 6 = .ok (.aload_n 0, 1) := by decide +kernel
theorem dX0_takeObject_7 : decode cX0_takeObject 7 = .ok (.iconst 0, 1) := by decide +kernel
theorem dX0_takeObject_8 : decode cX0_takeObject 8 = .ok (.bipush 15, 2) := by decide +kernel
theorem dX0_takeObject_10 : decode cX0_takeObject 10 = .ok (.invokevirtual 77, 3) := by decide +kernel
theorem dX0_takeObject_13 : decode cX0_takeObject 13 = .ok (.ireturn, 1) := by decide +kernel
theorem dX0_takeObject_14 : decode cX0_takeObject 14 = .ok (.iload_n 2, 1) := by decide +kernel
theorem dX0_takeObject_15 : decode cX0_takeObject 15 = .ok (.bipush 10, 2) := by decide +kernel
theorem dX0_takeObject_17 : decode cX0_takeObject 17 = .ok (.if_icmp .ne 13, 3) := by decide +kernel
theorem dX0_takeObject_20 : decode cX0_takeObject 20 = .ok (.aload_n 0, 1) := by decide +kernel
theorem dX0_takeObject_21 : decode cX0_takeObject 21 = .ok (.iconst 1, 1) := by decide +kernel
theorem dX0_takeObject_22 : decode cX0_takeObject 22 = .ok (.bipush 60, 2) := by decide +kernel
theorem dX0_takeObject_24 : decode cX0_takeObject 24 = .ok (.invokevirtual 77, 3) := by decide +kernel
theorem dX0_takeObject_27 : decode cX0_takeObject 27 = .ok (.goto 8, 3) := by decide +kernel
theorem dX0_takeObject_30 : decode cX0_takeObject 30 = .ok (.aload_n 1, 1) := by decide +kernel
theorem dX0_takeObject_31 : decode cX0_takeObject 31 = .ok (.aload_n 0, 1) := by decide +kernel
theorem dX0_takeObject_32 : decode cX0_takeObject 32 = .ok (.invokevirtual 81, 3) := by decide +kernel
theorem dX0_takeObject_35 : decode cX0_takeObject 35 = .ok (.ireturn, 1) := by decide +kernel
theorem dX0_live_0 : decode cX0_live 0 = .ok (.iconst 0, 1) := by decide +kernel
theorem dX0_live_1 : decode cX0_live 1 = .ok (.istore_n 3, 1) := by decide +kernel
theorem dX0_live_2 : decode cX0_live 2 = .ok (.iload_n 3, 1) := by decide +kernel
theorem dX0_live_3 : decode cX0_live 3 = .ok (.aload_n 0, 1) := by decide +kernel
theorem dX0_live_4 : decode cX0_live 4 = .ok (.getfield 18, 3) := by decide +kernel
theorem dX0_live_7 : decode cX0_live 7 = .ok (.if_icmp .ge 39, 3) := by decide +kernel
theorem dX0_live_10 : decode cX0_live 10 = .ok (.aload_n 0, 1) := by decide +kernel
theorem dX0_live_11 : decode cX0_live 11 = .ok (.aload_n 1, 1) := by decide +kernel
theorem dX0_live_12 : decode cX0_live 12 = .ok (.aload_n 2, 1) := by decide +kernel
theorem dX0_live_13 : decode cX0_live 13 = .ok (.aload_n 0, 1) := by decide +kernel
theorem dX0_live_14 : decode cX0_live 14 = .ok (.getfield 11, 3) := by decide +kernel
theorem dX0_live_17 : decode cX0_live 17 = .ok (.iload_n 3, 1) := by decide +kernel
theorem dX0_live_18 : decode cX0_live 18 = .ok (.iaload, 1) := by decide +kernel
theorem dX0_live_19 : decode cX0_live 19 = .ok (.aload_n 0, 1) := by decide +kernel
theorem dX0_live_20 : decode cX0_live 20 = .ok (.getfield 15, 3) := by decide +kernel
theorem dX0_live_23 : decode cX0_live 23 = .ok (.iload_n 3, 1) := by decide +kernel
theorem dX0_live_24 : decode cX0_live 24 = .ok (.iaload, 1) := by decide +kernel
theorem dX0_live_25 : decode cX0_live 25 = .ok (.invokestatic 84, 3) := by decide +kernel
theorem dX0_live_28 : decode cX0_live 28 = .ok (.putfield 88, 3) := by decide +kernel
theorem dX0_live_31 : decode cX0_live 31 = .ok (.aload_n 0, 1) := by decide +kernel
theorem dX0_live_32 : decode cX0_live 32 = .ok (.getfield 88, 3) := by decide +kernel
theorem dX0_live_35 : decode cX0_live 35 = .ok (.ifCond .eq 5, 3) := by decide +kernel
theorem dX0_live_38 : decode cX0_live 38 = .ok (.iload_n 3, 1) := by decide +kernel
theorem dX0_live_39 : decode cX0_live 39 = .ok (.ireturn, 1) := by decide +kernel
theorem dX0_live_40 : decode cX0_live 40 = .ok (.iinc 3 1, 3) := by decide +kernel
theorem dX0_live_43 : decode cX0_live 43 = .ok (.goto (-41), 3) := by decide +kernel
theorem dX0_live_46 : decode cX0_live 46 = .ok (.aload_n 0, 1) := by decide +kernel
theorem dX0_live_47 : decode cX0_live 47 = .ok (.iconst 0, 1) := by decide +kernel
theorem dX0_live_48 : decode cX0_live 48 = .ok (.putfield 88, 3) := by decide +kernel
theorem dX0_live_51 : decode cX0_live 51 = .ok (.aload_n 0, 1) := by decide +kernel
theorem dX0_live_52 : decode cX0_live 52 = .ok (.getfield 18, 3) := by decide +kernel
theorem dX0_live_55 : decode cX0_live 55 = .ok (.ireturn, 1) := by decide +kernel
theorem dX0_liveLine_0 : decode cX0_liveLine 0 = .ok (.iload_n 2, 1) := by decide +kernel
theorem dX0_liveLine_1 : decode cX0_liveLine 1 = .ok (.bipush 10, 2) := by decide +kernel
theorem dX0_liveLine_3 : decode cX0_liveLine 3 = .ok (.if_icmp .ne 10, 3) := by decide +kernel
theorem dX0_liveLine_6 : decode cX0_liveLine 6 = .ok (.aload_n 0, 1) := by decide +kernel
theorem dX0_liveLine_7 : decode cX0_liveLine 7 = .ok (.aload_n 1, 1) := by decide +kernel
theorem dX0_liveLine_8 : decode cX0_liveLine 8 = .ok (.iload_n 3, 1) := by decide +kernel
theorem dX0_liveLine_9 : decode cX0_liveLine 9 = .ok (.invokestatic 91, 3) := by decide +kernel
theorem dX0_liveLine_12 : decode cX0_liveLine 12 = .ok (.ireturn, 1) := by decide +kernel
theorem dX0_liveLine_13 : decode cX0_liveLine 13 = .ok (.iload_n 2, 1) := by decide +kernel
theorem dX0_liveLine_14 : decode cX0_liveLine 14 = .ok (.bipush 9, 2) := by decide +kernel
theorem dX0_liveLine_16 : decode cX0_liveLine 16 = .ok (.if_icmp .ne 14, 3) := by decide +kernel
theorem dX0_liveLine_19 : decode cX0_liveLine 19 = .ok (.aload_n 0, 1) := by decide +kernel
theorem dX0_liveLine_20 : decode cX0_liveLine 20 = .ok (.iload_n 3, 1) := by decide +kernel
theorem dX0_liveLine_21 : decode cX0_liveLine 21 = .ok (.invokevirtual 95, 3) := by decide +kernel
theorem dX0_liveLine_24 : decode cX0_liveLine 24 = .ok (.ifCond .ne 6, 3) := by decide +kernel
theorem dX0_liveLine_27 : decode cX0_liveLine 27 = .ok (.bipush 49, 2) := by decide +kernel
theorem dX0_liveLine_29 : decode cX0_liveLine 29 = .ok (.ireturn, 1) := by decide +kernel
theorem dX0_liveLine_30 : decode cX0_liveLine 30 = .ok (.aload_n 1, 1) := by decide +kernel
theorem dX0_liveLine_31 : decode cX0_liveLine 31 = .ok (.aload_n 0, 1) := by decide +kernel
theorem dX0_liveLine_32 : decode cX0_liveLine 32 = .ok (.iload_n 2, 1) := by decide +kernel
theorem dX0_liveLine_33 : decode cX0_liveLine 33 = .ok (.iload_n 3, 1) := by decide +kernel
theorem dX0_liveLine_34 : decode cX0_liveLine 34 = .ok (.invokevirtual 98, 3) := by decide +kernel
theorem dX0_liveLine_37 : decode cX0_liveLine 37 = .ok (.istore 4, 2) := by decide +kernel
theorem dX0_liveLine_39 : decode cX0_liveLine 39 = .ok (.iload 4, 2) := by decide +kernel
theorem dX0_liveLine_41 : decode cX0_liveLine 41 = .ok (.ifCond .ne 7, 3) := by decide +kernel
theorem dX0_liveLine_44 : decode cX0_liveLine 44 = .ok (.iconst 0, 1) := by decide +kernel
theorem dX0_liveLine_45 : decode cX0_liveLine 45 = .ok (.goto 12, 3) := by decide +kernel
theorem dX0_liveLine_48 : decode cX0_liveLine 48 = .ok (.iload_n 2, 1) := by decide +kernel
theorem dX0_liveLine_49 : decode cX0_liveLine 49 = .ok (.iconst 5, 1) := by decide +kernel
theorem dX0_liveLine_50 : decode cX0_liveLine 50 = .ok (.isub, 1) := by decide +kernel
theorem dX0_liveLine_51 : decode cX0_liveLine 51 = .ok (.bipush 10, 2) := by decide +kernel
theorem dX0_liveLine_53 : decode cX0_liveLine 53 = .ok (.imul, 1) := by decide +kernel
theorem dX0_liveLine_54 : decode cX0_liveLine 54 = .ok (.iload 4, 2) := by decide +kernel
theorem dX0_liveLine_56 : decode cX0_liveLine 56 = .ok (.iadd, 1) := by decide +kernel
theorem dX0_liveLine_57 : decode cX0_liveLine 57 = .ok (.ireturn, 1) := by decide +kernel
theorem dX0_liveDays_0 : decode cX0_liveDays 0 = .ok (.iload_n 2, 1) := by decide +kernel
theorem dX0_liveDays_1 : decode cX0_liveDays 1 = .ok (.sipush 400, 3) := by decide +kernel
theorem dX0_liveDays_4 : decode cX0_liveDays 4 = .ok (.aload_n 1, 1) := by decide +kernel
theorem dX0_liveDays_5 : decode cX0_liveDays 5 = .ok (.getfield 104, 3) := by decide +kernel
theorem dX0_liveDays_8 : decode cX0_liveDays 8 = .ok (.isub, 1) := by decide +kernel
theorem dX0_liveDays_9 : decode cX0_liveDays 9 = .ok (.if_icmp .le 6, 3) := by decide +kernel
theorem dX0_liveDays_12 : decode cX0_liveDays 12 = .ok (.bipush 51, 2) := by decide +kernel
theorem dX0_liveDays_14 : decode cX0_liveDays 14 = .ok (.ireturn, 1) := by decide +kernel
theorem dX0_liveDays_15 : decode cX0_liveDays 15 = .ok (.iconst 0, 1) := by decide +kernel
theorem dX0_liveDays_16 : decode cX0_liveDays 16 = .ok (.istore_n 3, 1) := by decide +kernel
theorem dX0_liveDays_17 : decode cX0_liveDays 17 = .ok (.iload_n 3, 1) := by decide +kernel
theorem dX0_liveDays_18 : decode cX0_liveDays 18 = .ok (.iload_n 2, 1) := by decide +kernel
theorem dX0_liveDays_19 : decode cX0_liveDays 19 = .ok (.if_icmp .ge 14, 3) := by decide +kernel
theorem dX0_liveDays_22 : decode cX0_liveDays 22 = .ok (.aload_n 1, 1) := by decide +kernel
theorem dX0_liveDays_23 : decode cX0_liveDays 23 = .ok (.aload_n 0, 1) := by decide +kernel
theorem dX0_liveDays_24 : decode cX0_liveDays 24 = .ok (.invokevirtual 107, 3) := by decide +kernel
theorem dX0_liveDays_27 : decode cX0_liveDays 27 = .ok (.iinc 3 1, 3) := by decide +kernel
theorem dX0_liveDays_30 : decode cX0_liveDays 30 = .ok (.goto (-13), 3) := by decide +kernel
theorem dX0_liveDays_33 : decode cX0_liveDays 33 = .ok (.iconst 0, 1) := by decide +kernel
theorem dX0_liveDays_34 : decode cX0_liveDays 34 = .ok (.ireturn, 1) := by decide +kernel
theorem dX1_init_0 : decode cX1_init 0 = .ok (.aload_n 0, 1) := by decide +kernel
theorem dX1_init_1 : decode cX1_init 1 = .ok (.invokespecial 3, 3) := by decide +kernel
theorem dX1_init_4 : decode cX1_init 4 = .ok (.aload_n 0, 1) := by decide +kernel
theorem dX1_init_5 : decode cX1_init 5 = .ok (.iconst 5, 1) := by decide +kernel
theorem dX1_init_6 : decode cX1_init 6 = .ok (.newarray .int, 2) := by decide +kernel
theorem dX1_init_8 : decode cX1_init 8 = .ok (.putfield 9, 3) := by decide +kernel
theorem dX1_init_11 : decode cX1_init 11 = .ok (.return_, 1) := by decide +kernel
theorem dX1_begin_0 : decode cX1_begin 0 = .ok (.aload_n 0, 1) := by decide +kernel
theorem dX1_begin_1 : decode cX1_begin 1 = .ok (.iconst 0, 1) := by decide +kernel
theorem dX1_begin_2 : decode cX1_begin 2 = .ok (.putfield 15, 3) := by decide +kernel
theorem dX1_begin_5 : decode cX1_begin 5 = .ok (.aload_n 0, 1) := by decide +kernel
theorem dX1_begin_6 : decode cX1_begin 6 = .ok (.iconst 1, 1) := by decide +kernel
theorem dX1_begin_7 : decode cX1_begin 7 = .ok (.aload_n 1, 1) := by decide +kernel
theorem dX1_begin_8 : decode cX1_begin 8 = .ok (.getfield 19, 3) := by decide +kernel
theorem dX1_begin_11 : decode cX1_begin 11 = .ok (.ishl, 1) := by decide +kernel
theorem dX1_begin_12 : decode cX1_begin 12 = .ok (.iconst 1, 1) := by decide +kernel
theorem dX1_begin_13 : decode cX1_begin 13 = .ok (.isub, 1) := by decide +kernel
theorem dX1_begin_14 : decode cX1_begin 14 = .ok (.putfield 24, 3) := by decide +kernel
theorem dX1_begin_17 : decode cX1_begin 17 = .ok (.aload_n 0, 1) := by decide +kernel
theorem dX1_begin_18 : decode cX1_begin 18 = .ok (.iconst 0, 1) := by decide +kernel
theorem dX1_begin_19 : decode cX1_begin 19 = .ok (.putfield 27, 3) := by decide +kernel
theorem dX1_begin_22 : decode cX1_begin 22 = .ok (.aload_n 0, 1) := by decide +kernel
theorem dX1_begin_23 : decode cX1_begin 23 = .ok (.iconst 0, 1) := by decide +kernel
theorem dX1_begin_24 : decode cX1_begin 24 = .ok (.putfield 30, 3) := by decide +kernel
theorem dX1_begin_27 : decode cX1_begin 27 = .ok (.iconst 0, 1) := by decide +kernel
theorem dX1_begin_28 : decode cX1_begin 28 = .ok (.istore_n 2, 1) := by decide +kernel
theorem dX1_begin_29 : decode cX1_begin 29 = .ok (.iload_n 2, 1) := by decide +kernel
theorem dX1_begin_30 : decode cX1_begin 30 = .ok (.iconst 5, 1) := by decide +kernel
theorem dX1_begin_31 : decode cX1_begin 31 = .ok (.if_icmp .ge 16, 3) := by decide +kernel
theorem dX1_begin_34 : decode cX1_begin 34 = .ok (.aload_n 0, 1) := by decide +kernel
theorem dX1_begin_35 : decode cX1_begin 35 = .ok (.getfield 9, 3) := by decide +kernel
theorem dX1_begin_38 : decode cX1_begin 38 = .ok (.iload_n 2, 1) := by decide +kernel
theorem dX1_begin_39 : decode cX1_begin 39 = .ok (.iconst 0, 1) := by decide +kernel
theorem dX1_begin_40 : decode cX1_begin 40 = .ok (.iastore, 1) := by decide +kernel
theorem dX1_begin_41 : decode cX1_begin 41 = .ok (.iinc 2 1, 3) := by decide +kernel
theorem dX1_begin_44 : decode cX1_begin 44 = .ok (.goto (-15), 3) := by decide +kernel
theorem dX1_begin_47 : decode cX1_begin 47 = .ok (.return_, 1) := by decide +kernel
theorem dX1_copy_0 : decode cX1_copy 0 = .ok (.aload_n 0, 1) := by decide +kernel
theorem dX1_copy_1 : decode cX1_copy 1 = .ok (.aload_n 1, 1) := by decide +kernel
theorem dX1_copy_2 : decode cX1_copy 2 = .ok (.getfield 15, 3) := by decide +kernel
theorem dX1_copy_5 : decode cX1_copy 5 = .ok (.putfield 15, 3) := by decide +kernel
theorem dX1_copy_8 : decode cX1_copy 8 = .ok (.aload_n 0, 1) := by decide +kernel
theorem dX1_copy_9 : decode cX1_copy 9 = .ok (.aload_n 1, 1) := by decide +kernel
theorem dX1_copy_10 : decode cX1_copy 10 = .ok (.getfield 24, 3) := by decide +kernel
theorem dX1_copy_13 : decode cX1_copy 13 = .ok (.putfield 24, 3) := by decide +kernel
theorem dX1_copy_16 : decode cX1_copy 16 = .ok (.aload_n 0, 1) := by decide +kernel
theorem dX1_copy_17 : decode cX1_copy 17 = .ok (.aload_n 1, 1) := by decide +kernel
theorem dX1_copy_18 : decode cX1_copy 18 = .ok (.getfield 27, 3) := by decide +kernel
theorem dX1_copy_21 : decode cX1_copy 21 = .ok (.putfield 27, 3) := by decide +kernel
theorem dX1_copy_24 : decode cX1_copy 24 = .ok (.aload_n 0, 1) := by decide +kernel
theorem dX1_copy_25 : decode cX1_copy 25 = .ok (.aload_n 1, 1) := by decide +kernel
theorem dX1_copy_26 : decode cX1_copy 26 = .ok (.getfield 30, 3) := by decide +kernel
theorem dX1_copy_29 : decode cX1_copy 29 = .ok (.putfield 30, 3) := by decide +kernel
theorem dX1_copy_32 : decode cX1_copy 32 = .ok (.aload_n 1, 1) := by decide +kernel
theorem dX1_copy_33 : decode cX1_copy 33 = .ok (.getfield 9, 3) := by decide +kernel
theorem dX1_copy_36 : decode cX1_copy 36 = .ok (.iconst 0, 1) := by decide +kernel
theorem dX1_copy_37 : decode cX1_copy 37 = .ok (.aload_n 0, 1) := by decide +kernel
theorem dX1_copy_38 : decode cX1_copy 38 = .ok (.getfield 9, 3) := by decide +kernel
theorem dX1_copy_41 : decode cX1_copy 41 = .ok (.iconst 0, 1) := by decide +kernel
theorem dX1_copy_42 : decode cX1_copy 42 = .ok (.iconst 5, 1) := by decide +kernel
theorem dX1_copy_43 : decode cX1_copy 43 = .ok (.invokestatic 33, 3) := by decide +kernel
theorem dX1_copy_46 : decode cX1_copy 46 = .ok (.return_, 1) := by decide +kernel
theorem dX1_hasInside_0 : decode cX1_hasInside 0 = .ok (.aload_n 0, 1) := by decide +kernel
theorem dX1_hasInside_1 : decode cX1_hasInside 1 = .ok (.getfield 24, 3) := by decide +kernel
theorem dX1_hasInside_4 : decode cX1_hasInside 4 = .ok (.iload_n 1, 1) := by decide +kernel
theorem dX1_hasInside_5 : decode cX1_hasInside 5 = .ok (.ishr, 1) := by decide +kernel
theorem dX1_hasInside_6 : decode cX1_hasInside 6 = .ok (.iconst 1, 1) := by decide +kernel
theorem dX1_hasInside_7 : decode cX1_hasInside 7 = .ok (.iand, 1) := by decide +kernel
theorem dX1_hasInside_8 : decode cX1_hasInside 8 = .ok (.ifCond .eq 7, 3) := by decide +kernel
theorem dX1_hasInside_11 : decode cX1_hasInside 11 = .ok (.iconst 1, 1) := by decide +kernel
theorem dX1_hasInside_12 : decode cX1_hasInside 12 = .ok (.goto 4, 3) := by decide +kernel
theorem dX1_hasInside_15 : decode cX1_hasInside 15 = .ok (.iconst 0, 1) := by decide +kernel
theorem dX1_hasInside_16 : decode cX1_hasInside 16 = .ok (.ireturn, 1) := by decide +kernel
theorem dX1_isWhole_0 : decode cX1_isWhole 0 = .ok (.aload_n 0, 1) := by decide +kernel
theorem dX1_isWhole_1 : decode cX1_isWhole 1 = .ok (.getfield 27, 3) := by decide +kernel
theorem dX1_isWhole_4 : decode cX1_isWhole 4 = .ok (.iload_n 1, 1) := by decide +kernel
theorem dX1_isWhole_5 : decode cX1_isWhole 5 = .ok (.ishr, 1) := by decide +kernel
theorem dX1_isWhole_6 : decode cX1_isWhole 6 = .ok (.iconst 1, 1) := by decide +kernel
theorem dX1_isWhole_7 : decode cX1_isWhole 7 = .ok (.iand, 1) := by decide +kernel
theorem dX1_isWhole_8 : decode cX1_isWhole 8 = .ok (.ifCond .ne 7, 3) := by decide +kernel
theorem dX1_isWhole_11 : decode cX1_isWhole 11 = .ok (.iconst 1, 1) := by decide +kernel
theorem dX1_isWhole_12 : decode cX1_isWhole 12 = .ok (.goto 4, 3) := by decide +kernel
theorem dX1_isWhole_15 : decode cX1_isWhole 15 = .ok (.iconst 0, 1) := by decide +kernel
theorem dX1_isWhole_16 : decode cX1_isWhole 16 = .ok (.ireturn, 1) := by decide +kernel
theorem dX1_weight_0 : decode cX1_weight 0 = .ok (.iconst 0, 1) := by decide +kernel
theorem dX1_weight_1 : decode cX1_weight 1 = .ok (.istore_n 3, 1) := by decide +kernel
theorem dX1_weight_2 : decode cX1_weight 2 = .ok (.iconst 0, 1) := by decide +kernel
theorem dX1_weight_3 : decode cX1_weight 3 = .ok (.istore 4, 2) := by decide +kernel
theorem dX1_weight_5 : decode cX1_weight 5 = .ok (.iload 4, 2) := by decide +kernel
theorem dX1_weight_7 : decode cX1_weight 7 = .ok (.aload_n 1, 1) := by decide +kernel
theorem dX1_weight_8 : decode cX1_weight 8 = .ok (.getfield 19, 3) := by decide +kernel
theorem dX1_weight_11 : decode cX1_weight 11 = .ok (.if_icmp .ge 42, 3) := by decide +kernel
theorem dX1_weight_14 : decode cX1_weight 14 = .ok (.aload_n 1, 1) := by decide +kernel
theorem dX1_weight_15 : decode cX1_weight 15 = .ok (.getfield 39, 3) := by decide +kernel
theorem dX1_weight_18 : decode cX1_weight 18 = .ok (.iload 4, 2) := by decide +kernel
theorem dX1_weight_20 : decode cX1_weight 20 = .ok (.iaload, 1) := by decide +kernel
theorem dX1_weight_21 : decode cX1_weight 21 = .ok (.iload_n 2, 1) := by decide +kernel
theorem dX1_weight_22 : decode cX1_weight 22 = .ok (.if_icmp .ne 25, 3) := by decide +kernel
theorem dX1_weight_25 : decode cX1_weight 25 = .ok (.aload_n 0, 1) := by decide +kernel
theorem dX1_weight_26 : decode cX1_weight 26 = .ok (.getfield 24, 3) := by decide +kernel
theorem dX1_weight_29 : decode cX1_weight 29 = .ok (.iload 4, 2) := by decide +kernel
theorem dX1_weight_31 : decode cX1_weight 31 = .ok (.ishr, 1) := by decide +kernel
theorem dX1_weight_32 : decode cX1_weight 32 = .ok (.iconst 1, 1) := by decide +kernel
theorem dX1_weight_33 : decode cX1_weight 33 = .ok (.iand, 1) := by decide +kernel
theorem dX1_weight_34 : decode cX1_weight 34 = .ok (.ifCond .eq 13, 3) := by decide +kernel
theorem dX1_weight_37 : decode cX1_weight 37 = .ok (.iload_n 3, 1) := by decide +kernel
theorem dX1_weight_38 : decode cX1_weight 38 = .ok (.aload_n 1, 1) := by decide +kernel
theorem dX1_weight_39 : decode cX1_weight 39 = .ok (.getfield 42, 3) := by decide +kernel
theorem dX1_weight_42 : decode cX1_weight 42 = .ok (.iload 4, 2) := by decide +kernel
theorem dX1_weight_44 : decode cX1_weight 44 = .ok (.iaload, 1) := by decide +kernel
theorem dX1_weight_45 : decode cX1_weight 45 = .ok (.iadd, 1) := by decide +kernel
theorem dX1_weight_46 : decode cX1_weight 46 = .ok (.istore_n 3, 1) := by decide +kernel
theorem dX1_weight_47 : decode cX1_weight 47 = .ok (.iinc 4 1, 3) := by decide +kernel
theorem dX1_weight_50 : decode cX1_weight 50 = .ok (.goto (-45), 3) := by decide +kernel
theorem dX1_weight_53 : decode cX1_weight 53 = .ok (.iload_n 3, 1) := by decide +kernel
theorem dX1_weight_54 : decode cX1_weight 54 = .ok (.ireturn, 1) := by decide +kernel
theorem dX1_whoAre_0 : decode cX1_whoAre 0 = .ok (.iconst 0, 1) := by decide +kernel
theorem dX1_whoAre_1 : decode cX1_whoAre 1 = .ok (.istore_n 3, 1) := by decide +kernel
theorem dX1_whoAre_2 : decode cX1_whoAre 2 = .ok (.iconst 0, 1) := by decide +kernel
theorem dX1_whoAre_3 : decode cX1_whoAre 3 = .ok (.istore 4, 2) := by decide +kernel
theorem dX1_whoAre_5 : decode cX1_whoAre 5 = .ok (.iload 4, 2) := by decide +kernel
theorem dX1_whoAre_7 : decode cX1_whoAre 7 = .ok (.aload_n 1, 1) := by decide +kernel
theorem dX1_whoAre_8 : decode cX1_whoAre 8 = .ok (.getfield 45, 3) := by decide +kernel
theorem dX1_whoAre_11 : decode cX1_whoAre 11 = .ok (.if_icmp .ge 27, 3) := by decide +kernel
theorem dX1_whoAre_14 : decode cX1_whoAre 14 = .ok (.aload_n 0, 1) := by decide +kernel
theorem dX1_whoAre_15 : decode cX1_whoAre 15 = .ok (.getfield 9, 3) := by decide +kernel
theorem dX1_whoAre_18 : decode cX1_whoAre 18 = .ok (.iload 4, 2) := by decide +kernel
theorem dX1_whoAre_20 : decode cX1_whoAre 20 = .ok (.iaload, 1) := by decide +kernel
theorem dX1_whoAre_21 : decode cX1_whoAre 21 = .ok (.iload_n 2, 1) := by decide +kernel
theorem dX1_whoAre_22 : decode cX1_whoAre 22 = .ok (.if_icmp .ne 10, 3) := by decide +kernel
theorem dX1_whoAre_25 : decode cX1_whoAre 25 = .ok (.iload_n 3, 1) := by decide +kernel
theorem dX1_whoAre_26 : decode cX1_whoAre 26 = .ok (.iconst 1, 1) := by decide +kernel
theorem dX1_whoAre_27 : decode cX1_whoAre 27 = .ok (.iload 4, 2) := by decide +kernel
theorem dX1_whoAre_29 : decode cX1_whoAre 29 = .ok (.ishl, 1) := by decide +kernel
theorem dX1_whoAre_30 : decode cX1_whoAre 30 = .ok (.ior, 1) := by decide +kernel
theorem dX1_whoAre_31 : decode cX1_whoAre 31 = .ok (.istore_n 3, 1) := by decide +kernel
theorem dX1_whoAre_32 : decode cX1_whoAre 32 = .ok (.iinc 4 1, 3) := by decide +kernel
theorem dX1_whoAre_35 : decode cX1_whoAre 35 = .ok (.goto (-30), 3) := by decide +kernel
theorem dX1_whoAre_38 : decode cX1_whoAre 38 = .ok (.iload_n 3, 1) := by decide +kernel
theorem dX1_whoAre_39 : decode cX1_whoAre 39 = .ok (.ireturn, 1) := by decide +kernel
theorem dX1_attempt_0 : decode cX1_attempt 0 = .ok (.iload_n 2, 1) := by decide +kernel
theorem dX1_attempt_1 : decode cX1_attempt 1 = .ok (.tableswitch 58 5 8 #[31, 38, 44, 51], 31) := by decide +kernel
theorem dX1_attempt_32 : decode cX1_attempt 32 = .ok (.aload_n 0, 1) := by decide +kernel
theorem dX1_attempt_33 : decode cX1_attempt 33 = .ok (.aload_n 1, 1) := by decide +kernel
theorem dX1_attempt_34 : decode cX1_attempt 34 = .ok (.iload_n 3, 1) := by decide +kernel
theorem dX1_attempt_35 : decode cX1_attempt 35 = .ok (.invokevirtual 48, 3) := by decide +kernel
theorem dX1_attempt_38 : decode cX1_attempt 38 = .ok (.ireturn, 1) := by decide +kernel
theorem dX1_attempt_39 : decode cX1_attempt 39 = .ok (.aload_n 0, 1) := by decide +kernel
theorem dX1_attempt_40 : decode cX1_attempt 40 = .ok (.iload_n 3, 1) := by decide +kernel
theorem dX1_attempt_41 : decode cX1_attempt 41 = .ok (.invokevirtual 52, 3) := by decide +kernel
theorem dX1_attempt_44 : decode cX1_attempt 44 = .ok (.ireturn, 1) := by decide +kernel
theorem dX1_attempt_45 : decode cX1_attempt 45 = .ok (.aload_n 0, 1) := by decide +kernel
theorem dX1_attempt_46 : decode cX1_attempt 46 = .ok (.aload_n 1, 1) := by decide +kernel
theorem dX1_attempt_47 : decode cX1_attempt 47 = .ok (.iload_n 3, 1) := by decide +kernel
theorem dX1_attempt_48 : decode cX1_attempt 48 = .ok (.invokevirtual 56, 3) := by decide +kernel
theorem dX1_attempt_51 : decode cX1_attempt 51 = .ok (.ireturn, 1) := by decide +kernel
theorem dX1_attempt_52 : decode cX1_attempt 52 = .ok (.aload_n 0, 1) := by decide +kernel
theorem dX1_attempt_53 : decode cX1_attempt 53 = .ok (.aload_n 1, 1) := by decide +kernel
theorem dX1_attempt_54 : decode cX1_attempt 54 = .ok (.iload_n 3, 1) := by decide +kernel
theorem dX1_attempt_55 : decode cX1_attempt 55 = .ok (.invokevirtual 59, 3) := by decide +kernel
theorem dX1_attempt_58 : decode cX1_attempt 58 = .ok (.ireturn, 1) := by decide +kernel
theorem dX1_attempt_59 : decode cX1_attempt 59 = .ok (.aload_n 0, 1) := by decide +kernel
theorem dX1_attempt_60 : decode cX1_attempt 60 = .ok (.aload_n 1, 1) := by decide +kernel
theorem dX1_attempt_61 : decode cX1_attempt 61 = .ok (.iload_n 3, 1) := by decide +kernel
theorem dX1_attempt_62 : decode cX1_attempt 62 = .ok (.invokevirtual 62, 3) := by decide +kernel
theorem dX1_attempt_65 : decode cX1_attempt 65 = .ok (.ireturn, 1) := by decide +kernel
theorem dX1_letGo_0 : decode cX1_letGo 0 = .ok (.aload_n 0, 1) := by decide +kernel
theorem dX1_letGo_1 : decode cX1_letGo 1 = .ok (.getfield 9, 3) := by decide +kernel
theorem dX1_letGo_4 : decode cX1_letGo 4 = .ok (.iload_n 2, 1) := by decide +kernel
theorem dX1_letGo_5 : decode cX1_letGo 5 = .ok (.iaload, 1) := by decide +kernel
theorem dX1_letGo_6 : decode cX1_letGo 6 = .ok (.ifCond .eq 5, 3) := by decide +kernel
theorem dX1_letGo_9 : decode cX1_letGo 9 = .ok (.iconst 1, 1) := by decide +kernel
theorem dX1_letGo_10 : decode cX1_letGo 10 = .ok (.ireturn, 1) := by decide +kernel
theorem dX1_letGo_11 : decode cX1_letGo 11 = .ok (.aload_n 0, 1) := by decide +kernel
theorem dX1_letGo_12 : decode cX1_letGo 12 = .ok (.getfield 9, 3) := by decide +kernel
theorem dX1_letGo_15 : decode cX1_letGo 15 = .ok (.iload_n 2, 1) := by decide +kernel
theorem dX1_letGo_16 : decode cX1_letGo 16 = .ok (.iconst 1, 1) := by decide +kernel
theorem dX1_letGo_17 : decode cX1_letGo 17 = .ok (.iastore, 1) := by decide +kernel
theorem dX1_letGo_18 : decode cX1_letGo 18 = .ok (.aload_n 0, 1) := by decide +kernel
theorem dX1_letGo_19 : decode cX1_letGo 19 = .ok (.aload_n 1, 1) := by decide +kernel
theorem dX1_letGo_20 : decode cX1_letGo 20 = .ok (.iload_n 2, 1) := by decide +kernel
theorem dX1_letGo_21 : decode cX1_letGo 21 = .ok (.invokevirtual 65, 3) := by decide +kernel
theorem dX1_letGo_24 : decode cX1_letGo 24 = .ok (.iconst 0, 1) := by decide +kernel
theorem dX1_letGo_25 : decode cX1_letGo 25 = .ok (.ireturn, 1) := by decide +kernel
theorem dX1_letOut_0 : decode cX1_letOut 0 = .ok (.aload_n 0, 1) := by decide +kernel
theorem dX1_letOut_1 : decode cX1_letOut 1 = .ok (.getfield 9, 3) := by decide +kernel
theorem dX1_letOut_4 : decode cX1_letOut 4 = .ok (.iload_n 1, 1) := by decide +kernel
theorem dX1_letOut_5 : decode cX1_letOut 5 = .ok (.iaload, 1) := by decide +kernel
theorem dX1_letOut_6 : decode cX1_letOut 6 = .ok (.iconst 2, 1) := by decide +kernel
theorem dX1_letOut_7 : decode cX1_letOut 7 = .ok (.if_icmp .eq 5, 3) := by decide +kernel
theorem dX1_letOut_10 : decode cX1_letOut 10 = .ok (.iconst 1, 1) := by decide +kernel
theorem dX1_letOut_11 : decode cX1_letOut 11 = .ok (.ireturn, 1) := by decide +kernel
theorem dX1_letOut_12 : decode cX1_letOut 12 = .ok (.aload_n 0, 1) := by decide +kernel
theorem dX1_letOut_13 : decode cX1_letOut 13 = .ok (.getfield 9, 3) := by decide +kernel
theorem dX1_letOut_16 : decode cX1_letOut 16 = .ok (.iload_n 1, 1) := by decide +kernel
theorem dX1_letOut_17 : decode cX1_letOut 17 = .ok (.iconst 3, 1) := by decide +kernel
theorem dX1_letOut_18 : decode cX1_letOut 18 = .ok (.iastore, 1) := by decide +kernel
theorem dX1_letOut_19 : decode cX1_letOut 19 = .ok (.iconst 0, 1) := by decide +kernel
theorem dX1_letOut_20 : decode cX1_letOut 20 = .ok (.ireturn, 1) := by decide +kernel
theorem dX1_takeOut_0 : decode cX1_takeOut 0 = .ok (.aload_n 1, 1) := by decide +kernel
theorem dX1_takeOut_1 : decode cX1_takeOut 1 = .ok (.getfield 39, 3) := by decide +kernel
theorem dX1_takeOut_4 : decode cX1_takeOut 4 = .ok (.iload_n 2, 1) := by decide +kernel
theorem dX1_takeOut_5 : decode cX1_takeOut 5 = .ok (.iaload, 1) := by decide +kernel
theorem dX1_takeOut_6 : decode cX1_takeOut 6 = .ok (.istore_n 3, 1) := by decide +kernel
theorem dX1_takeOut_7 : decode cX1_takeOut 7 = .ok (.aload_n 0, 1) := by decide +kernel
theorem dX1_takeOut_8 : decode cX1_takeOut 8 = .ok (.iload_n 2, 1) := by decide +kernel
theorem dX1_takeOut_9 : decode cX1_takeOut 9 = .ok (.invokevirtual 69, 3) := by decide +kernel
theorem dX1_takeOut_12 : decode cX1_takeOut 12 = .ok (.ifCond .ne 5, 3) := by decide +kernel
theorem dX1_takeOut_15 : decode cX1_takeOut 15 = .ok (.iconst 1, 1) := by decide +kernel
theorem dX1_takeOut_16 : decode cX1_takeOut 16 = .ok (.ireturn, 1) := by decide +kernel
theorem dX1_takeOut_17 : decode cX1_takeOut 17 = .ok (.aload_n 0, 1) := by decide +kernel
theorem dX1_takeOut_18 : decode cX1_takeOut 18 = .ok (.getfield 9, 3) := by decide +kernel
theorem dX1_takeOut_21 : decode cX1_takeOut 21 = .ok (.iload_n 3, 1) := by decide +kernel
theorem dX1_takeOut_22 : decode cX1_takeOut 22 = .ok (.iaload, 1) := by decide +kernel
theorem dX1_takeOut_23 : decode cX1_takeOut 23 = .ok (.iconst 2, 1) := by decide +kernel
theorem dX1_takeOut_24 : decode cX1_takeOut 24 = .ok (.if_icmp .lt 5, 3) := by decide +kernel
theorem dX1_takeOut_27 : decode cX1_takeOut 27 = .ok (.iconst 2, 1) := by decide +kernel
theorem dX1_takeOut_28 : decode cX1_takeOut 28 = .ok (.ireturn, 1) := by decide +kernel
theorem dX1_takeOut_29 : decode cX1_takeOut 29 = .ok (.aload_n 0, 1) := by decide +kernel
theorem dX1_takeOut_30 : decode cX1_takeOut 30 = .ok (.dup, 1) := by decide +kernel
theorem dX1_takeOut_31 : decode cX1_takeOut 31 = .ok (.getfield 24, 3) := by decide +kernel
theorem dX1_takeOut_34 : decode cX1_takeOut 34 = .ok (.iconst 1, 1) := by decide +kernel
theorem dX1_takeOut_35 : decode cX1_takeOut 35 = .ok (.iload_n 2, 1) := by decide +kernel
theorem dX1_takeOut_36 : decode cX1_takeOut 36 = .ok (.ishl, 1) := by decide +kernel
theorem dX1_takeOut_37 : decode cX1_takeOut 37 = .ok (.iconst (-1), 1) := by decide +kernel
theorem dX1_takeOut_38 : decode cX1_takeOut 38 = .ok (.ixor, 1) := by decide +kernel
theorem dX1_takeOut_39 : decode cX1_takeOut 39 = .ok (.iand, 1) := by decide +kernel
theorem dX1_takeOut_40 : decode cX1_takeOut 40 = .ok (.putfield 24, 3) := by decide +kernel
theorem dX1_takeOut_43 : decode cX1_takeOut 43 = .ok (.aload_n 0, 1) := by decide +kernel
theorem dX1_takeOut_44 : decode cX1_takeOut 44 = .ok (.dup, 1) := by decide +kernel
theorem dX1_takeOut_45 : decode cX1_takeOut 45 = .ok (.getfield 27, 3) := by decide +kernel
theorem dX1_takeOut_48 : decode cX1_takeOut 48 = .ok (.aload_n 1, 1) := by decide +kernel
theorem dX1_takeOut_49 : decode cX1_takeOut 49 = .ok (.iload_n 2, 1) := by decide +kernel
theorem dX1_takeOut_50 : decode cX1_takeOut 50 = .ok (.invokevirtual 73, 3) := by decide +kernel
theorem dX1_takeOut_53 : decode cX1_takeOut 53 = .ok (.ior, 1) := by decide +kernel
theorem dX1_takeOut_54 : decode cX1_takeOut 54 = .ok (.putfield 27, 3) := by decide +kernel
theorem dX1_takeOut_57 : decode cX1_takeOut 57 = .ok (.aload_n 0, 1) := by decide +kernel
theorem dX1_takeOut_58 : decode cX1_takeOut 58 = .ok (.aload_n 1, 1) := by decide +kernel
theorem dX1_takeOut_59 : decode cX1_takeOut 59 = .ok (.iload_n 3, 1) := by decide +kernel
theorem dX1_takeOut_60 : decode cX1_takeOut 60 = .ok (.invokevirtual 65, 3) := by decide +kernel
theorem dX1_takeOut_63 : decode cX1_takeOut 63 = .ok (.iconst 0, 1) := by decide +kernel
theorem dX1_takeOut_64 : decode cX1_takeOut 64 = .ok (.ireturn, 1) := by decide +kernel
theorem dX1_putIn_0 : decode cX1_putIn 0 = .ok (.aload_n 0, 1) := by decide +kernel
theorem dX1_putIn_1 : decode cX1_putIn 1 = .ok (.iload_n 2, 1) := by decide +kernel
theorem dX1_putIn_2 : decode cX1_putIn 2 = .ok (.invokevirtual 69, 3) := by decide +kernel
theorem dX1_putIn_5 : decode cX1_putIn 5 = .ok (.ifCond .eq 5, 3) := by decide +kernel
theorem dX1_putIn_8 : decode cX1_putIn 8 = .ok (.iconst 1, 1) := by decide +kernel
theorem dX1_putIn_9 : decode cX1_putIn 9 = .ok (.ireturn, 1) := by decide +kernel
theorem dX1_putIn_10 : decode cX1_putIn 10 = .ok (.aload_n 0, 1) := by decide +kernel
theorem dX1_putIn_11 : decode cX1_putIn 11 = .ok (.getfield 9, 3) := by decide +kernel
theorem dX1_putIn_14 : decode cX1_putIn 14 = .ok (.aload_n 1, 1) := by decide +kernel
theorem dX1_putIn_15 : decode cX1_putIn 15 = .ok (.getfield 39, 3) := by decide +kernel
theorem dX1_putIn_18 : decode cX1_putIn 18 = .ok (.iload_n 2, 1) := by decide +kernel
theorem dX1_putIn_19 : decode cX1_putIn 19 = .ok (.iaload, 1) := by decide +kernel
theorem dX1_putIn_20 : decode cX1_putIn 20 = .ok (.iaload, 1) := by decide +kernel
theorem dX1_putIn_21 : decode cX1_putIn 21 = .ok (.ifCond .eq 5, 3) := by decide +kernel
theorem dX1_putIn_24 : decode cX1_putIn 24 = .ok (.iconst 2, 1) := by decide +kernel
theorem dX1_putIn_25 : decode cX1_putIn 25 = .ok (.ireturn, 1) := by decide +kernel
theorem dX1_putIn_26 : decode cX1_putIn 26 = .ok (.aload_n 0, 1) := by decide +kernel
theorem dX1_putIn_27 : decode cX1_putIn 27 = .ok (.dup, 1) := by decide +kernel
theorem dX1_putIn_28 : decode cX1_putIn 28 = .ok (.getfield 24, 3) := by decide +kernel
theorem dX1_putIn_31 : decode cX1_putIn 31 = .ok (.iconst 1, 1) := by decide +kernel
theorem dX1_putIn_32 : decode cX1_putIn 32 = .ok (.iload_n 2, 1) := by decide +kernel
theorem dX1_putIn_33 : decode cX1_putIn 33 = .ok (.ishl, 1) := by decide +kernel
theorem dX1_putIn_34 : decode cX1_putIn 34 = .ok (.ior, 1) := by decide +kernel
theorem dX1_putIn_35 : decode cX1_putIn 35 = .ok (.putfield 24, 3) := by decide +kernel
theorem dX1_putIn_38 : decode cX1_putIn 38 = .ok (.iconst 0, 1) := by decide +kernel
theorem dX1_putIn_39 : decode cX1_putIn 39 = .ok (.ireturn, 1) := by decide +kernel
theorem dX1_makeWhole_0 : decode cX1_makeWhole 0 = .ok (.aload_n 0, 1) := by decide +kernel
theorem dX1_makeWhole_1 : decode cX1_makeWhole 1 = .ok (.iload_n 2, 1) := by decide +kernel
theorem dX1_makeWhole_2 : decode cX1_makeWhole 2 = .ok (.invokevirtual 76, 3) := by decide +kernel
theorem dX1_makeWhole_5 : decode cX1_makeWhole 5 = .ok (.ifCond .eq 5, 3) := by decide +kernel
theorem dX1_makeWhole_8 : decode cX1_makeWhole 8 = .ok (.iconst 1, 1) := by decide +kernel
theorem dX1_makeWhole_9 : decode cX1_makeWhole 9 = .ok (.ireturn, 1) := by decide +kernel
theorem dX1_makeWhole_10 : decode cX1_makeWhole 10 = .ok (.aload_n 0, 1) := by decide +kernel
theorem dX1_makeWhole_11 : decode cX1_makeWhole 11 = .ok (.aload_n 1, 1) := by decide +kernel
theorem dX1_makeWhole_12 : decode cX1_makeWhole 12 = .ok (.getfield 79, 3) := by decide +kernel
theorem dX1_makeWhole_15 : decode cX1_makeWhole 15 = .ok (.iload_n 2, 1) := by decide +kernel
theorem dX1_makeWhole_16 : decode cX1_makeWhole 16 = .ok (.iaload, 1) := by decide +kernel
theorem dX1_makeWhole_17 : decode cX1_makeWhole 17 = .ok (.invokevirtual 69, 3) := by decide +kernel
theorem dX1_makeWhole_20 : decode cX1_makeWhole 20 = .ok (.ifCond .eq 16, 3) := by decide +kernel
theorem dX1_makeWhole_23 : decode cX1_makeWhole 23 = .ok (.aload_n 0, 1) := by decide +kernel
theorem dX1_makeWhole_24 : decode cX1_makeWhole 24 = .ok (.aload_n 1, 1) := by decide +kernel
theorem dX1_makeWhole_25 : decode cX1_makeWhole 25 = .ok (.getfield 82, 3) := by decide +kernel
theorem dX1_makeWhole_28 : decode cX1_makeWhole 28 = .ok (.iload_n 2, 1) := by decide +kernel
theorem dX1_makeWhole_29 : decode cX1_makeWhole 29 = .ok (.iaload, 1) := by decide +kernel
theorem dX1_makeWhole_30 : decode cX1_makeWhole 30 = .ok (.invokevirtual 69, 3) := by decide +kernel
theorem dX1_makeWhole_33 : decode cX1_makeWhole 33 = .ok (.ifCond .ne 5, 3) := by decide +kernel
theorem dX1_makeWhole_36 : decode cX1_makeWhole 36 = .ok (.iconst 2, 1) := by decide +kernel
theorem dX1_makeWhole_37 : decode cX1_makeWhole 37 = .ok (.ireturn, 1) := by decide +kernel
theorem dX1_makeWhole_38 : decode cX1_makeWhole 38 = .ok (.aload_n 0, 1) := by decide +kernel
theorem dX1_makeWhole_39 : decode cX1_makeWhole 39 = .ok (.getfield 9, 3) := by decide +kernel
theorem dX1_makeWhole_42 : decode cX1_makeWhole 42 = .ok (.aload_n 1, 1) := by decide +kernel
theorem dX1_makeWhole_43 : decode cX1_makeWhole 43 = .ok (.iload_n 2, 1) := by decide +kernel
theorem dX1_makeWhole_44 : decode cX1_makeWhole 44 = .ok (.invokevirtual 85, 3) := by decide +kernel
theorem dX1_makeWhole_47 : decode cX1_makeWhole 47 = .ok (.iaload, 1) := by decide +kernel
theorem dX1_makeWhole_48 : decode cX1_makeWhole 48 = .ok (.ifCond .eq 5, 3) := by decide +kernel
theorem dX1_makeWhole_51 : decode cX1_makeWhole 51 = .ok (.iconst 3, 1) := by decide +kernel
theorem dX1_makeWhole_52 : decode cX1_makeWhole 52 = .ok (.ireturn, 1) := by decide +kernel
theorem dX1_makeWhole_53 : decode cX1_makeWhole 53 = .ok (.aload_n 0, 1) := by decide +kernel
theorem dX1_makeWhole_54 : decode cX1_makeWhole 54 = .ok (.dup, 1) := by decide +kernel
theorem dX1_makeWhole_55 : decode cX1_makeWhole 55 = .ok (.getfield 27, 3) := by decide +kernel
theorem dX1_makeWhole_58 : decode cX1_makeWhole 58 = .ok (.iconst 1, 1) := by decide +kernel
theorem dX1_makeWhole_59 : decode cX1_makeWhole 59 = .ok (.iload_n 2, 1) := by decide +kernel
theorem dX1_makeWhole_60 : decode cX1_makeWhole 60 = .ok (.ishl, 1) := by decide +kernel
theorem dX1_makeWhole_61 : decode cX1_makeWhole 61 = .ok (.iconst (-1), 1) := by decide +kernel
theorem dX1_makeWhole_62 : decode cX1_makeWhole 62 = .ok (.ixor, 1) := by decide +kernel
theorem dX1_makeWhole_63 : decode cX1_makeWhole 63 = .ok (.iand, 1) := by decide +kernel
theorem dX1_makeWhole_64 : decode cX1_makeWhole 64 = .ok (.putfield 27, 3) := by decide +kernel
theorem dX1_makeWhole_67 : decode cX1_makeWhole 67 = .ok (.iconst 0, 1) := by decide +kernel
theorem dX1_makeWhole_68 : decode cX1_makeWhole 68 = .ok (.ireturn, 1) := by decide +kernel
theorem dX1_holdingAt_0 : decode cX1_holdingAt 0 = .ok (.aload_n 1, 1) := by decide +kernel
theorem dX1_holdingAt_1 : decode cX1_holdingAt 1 = .ok (.iload_n 2, 1) := by decide +kernel
theorem dX1_holdingAt_2 : decode cX1_holdingAt 2 = .ok (.aload_n 0, 1) := by decide +kernel
theorem dX1_holdingAt_3 : decode cX1_holdingAt 3 = .ok (.getfield 27, 3) := by decide +kernel
theorem dX1_holdingAt_6 : decode cX1_holdingAt 6 = .ok (.aload_n 0, 1) := by decide +kernel
theorem dX1_holdingAt_7 : decode cX1_holdingAt 7 = .ok (.getfield 9, 3) := by decide +kernel
theorem dX1_holdingAt_10 : decode cX1_holdingAt 10 = .ok (.iload_n 2, 1) := by decide +kernel
theorem dX1_holdingAt_11 : decode cX1_holdingAt 11 = .ok (.iaload, 1) := by decide +kernel
theorem dX1_holdingAt_12 : decode cX1_holdingAt 12 = .ok (.iconst 2, 1) := by decide +kernel
theorem dX1_holdingAt_13 : decode cX1_holdingAt 13 = .ok (.if_icmp .lt 7, 3) := by decide +kernel
theorem dX1_holdingAt_16 : decode cX1_holdingAt 16 = .ok (.iconst 0, 1) := by decide +kernel
theorem dX1_holdingAt_17 : decode cX1_holdingAt 17 = .ok (.goto 11, 3) := by decide +kernel
theorem dX1_holdingAt_20 : decode cX1_holdingAt 20 = .ok (.iload_n 3, 1) := by decide +kernel
theorem dX1_holdingAt_21 : decode cX1_holdingAt 21 = .ok (.aload_n 1, 1) := by decide +kernel
theorem dX1_holdingAt_22 : decode cX1_holdingAt 22 = .ok (.getfield 88, 3) := by decide +kernel
theorem dX1_holdingAt_25 : decode cX1_holdingAt 25 = .ok (.iload_n 2, 1) := by decide +kernel
theorem dX1_holdingAt_26 : decode cX1_holdingAt 26 = .ok (.iaload, 1) := by decide +kernel
theorem dX1_holdingAt_27 : decode cX1_holdingAt 27 = .ok (.isub, 1) := by decide +kernel
theorem dX1_holdingAt_28 : decode cX1_holdingAt 28 = .ok (.invokevirtual 91, 3) := by decide +kernel
theorem dX1_holdingAt_31 : decode cX1_holdingAt 31 = .ok (.ireturn, 1) := by decide +kernel
theorem dX1_passDay_0 : decode cX1_passDay 0 = .ok (.aload_n 0, 1) := by decide +kernel
theorem dX1_passDay_1 : decode cX1_passDay 1 = .ok (.dup, 1) := by decide +kernel
theorem dX1_passDay_2 : decode cX1_passDay 2 = .ok (.getfield 15, 3) := by decide +kernel
theorem dX1_passDay_5 : decode cX1_passDay 5 = .ok (.iconst 1, 1) := by decide +kernel
theorem dX1_passDay_6 : decode cX1_passDay 6 = .ok (.iadd, 1) := by decide +kernel
theorem dX1_passDay_7 : decode cX1_passDay 7 = .ok (.putfield 15, 3) := by decide +kernel
theorem dX1_passDay_10 : decode cX1_passDay 10 = .ok (.iconst 0, 1) := by decide +kernel
theorem dX1_passDay_11 : decode cX1_passDay 11 = .ok (.istore_n 2, 1) := by decide +kernel
theorem dX1_passDay_12 : decode cX1_passDay 12 = .ok (.iload_n 2, 1) := by decide +kernel
theorem dX1_passDay_13 : decode cX1_passDay 13 = .ok (.aload_n 1, 1) := by decide +kernel
theorem dX1_passDay_14 : decode cX1_passDay 14 = .ok (.getfield 45, 3) := by decide +kernel
theorem dX1_passDay_17 : decode cX1_passDay 17 = .ok (.if_icmp .ge 15, 3) := by decide +kernel
theorem dX1_passDay_20 : decode cX1_passDay 20 = .ok (.aload_n 0, 1) := by decide +kernel
theorem dX1_passDay_21 : decode cX1_passDay 21 = .ok (.aload_n 1, 1) := by decide +kernel
theorem dX1_passDay_22 : decode cX1_passDay 22 = .ok (.iload_n 2, 1) := by decide +kernel
theorem dX1_passDay_23 : decode cX1_passDay 23 = .ok (.invokevirtual 65, 3) := by decide +kernel
theorem dX1_passDay_26 : decode cX1_passDay 26 = .ok (.iinc 2 1, 3) := by decide +kernel
theorem dX1_passDay_29 : decode cX1_passDay 29 = .ok (.goto (-17), 3) := by decide +kernel
theorem dX1_passDay_32 : decode cX1_passDay 32 = .ok (.return_, 1) := by decide +kernel
theorem dX1_dropIfLight_0 : decode cX1_dropIfLight 0 = .ok (.aload_n 0, 1) := by decide +kernel
theorem dX1_dropIfLight_1 : decode cX1_dropIfLight 1 = .ok (.getfield 9, 3) := by decide +kernel
theorem dX1_dropIfLight_4 : decode cX1_dropIfLight 4 = .ok (.iload_n 2, 1) := by decide +kernel
theorem dX1_dropIfLight_5 : decode cX1_dropIfLight 5 = .ok (.iaload, 1) := by decide +kernel
theorem dX1_dropIfLight_6 : decode cX1_dropIfLight 6 = .ok (.iconst 1, 1) := by decide +kernel
theorem dX1_dropIfLight_7 : decode cX1_dropIfLight 7 = .ok (.if_icmp .ne 20, 3) := by decide +kernel
theorem dX1_dropIfLight_10 : decode cX1_dropIfLight 10 = .ok (.aload_n 0, 1) := by decide +kernel
theorem dX1_dropIfLight_11 : decode cX1_dropIfLight 11 = .ok (.aload_n 1, 1) := by decide +kernel
theorem dX1_dropIfLight_12 : decode cX1_dropIfLight 12 = .ok (.iload_n 2, 1) := by decide +kernel
theorem dX1_dropIfLight_13 : decode cX1_dropIfLight 13 = .ok (.invokevirtual 95, 3) := by decide +kernel
theorem dX1_dropIfLight_16 : decode cX1_dropIfLight 16 = .ok (.aload_n 1, 1) := by decide +kernel
theorem dX1_dropIfLight_17 : decode cX1_dropIfLight 17 = .ok (.aload_n 0, 1) := by decide +kernel
theorem dX1_dropIfLight_18 : decode cX1_dropIfLight 18 = .ok (.getfield 15, 3) := by decide +kernel
theorem dX1_dropIfLight_21 : decode cX1_dropIfLight 21 = .ok (.invokevirtual 97, 3) := by decide +kernel
theorem dX1_dropIfLight_24 : decode cX1_dropIfLight 24 = .ok (.if_icmp .le 4, 3) := by decide +kernel
theorem dX1_dropIfLight_27 : decode cX1_dropIfLight 27 = .ok (.return_, 1) := by decide +kernel
theorem dX1_dropIfLight_28 : decode cX1_dropIfLight 28 = .ok (.iconst 0, 1) := by decide +kernel
theorem dX1_dropIfLight_29 : decode cX1_dropIfLight 29 = .ok (.istore_n 3, 1) := by decide +kernel
theorem dX1_dropIfLight_30 : decode cX1_dropIfLight 30 = .ok (.iload_n 3, 1) := by decide +kernel
theorem dX1_dropIfLight_31 : decode cX1_dropIfLight 31 = .ok (.aload_n 1, 1) := by decide +kernel
theorem dX1_dropIfLight_32 : decode cX1_dropIfLight 32 = .ok (.getfield 100, 3) := by decide +kernel
theorem dX1_dropIfLight_35 : decode cX1_dropIfLight 35 = .ok (.if_icmp .ge 50, 3) := by decide +kernel
theorem dX1_dropIfLight_38 : decode cX1_dropIfLight 38 = .ok (.aload_n 1, 1) := by decide +kernel
theorem dX1_dropIfLight_39 : decode cX1_dropIfLight 39 = .ok (.iload_n 3, 1) := by decide +kernel
theorem dX1_dropIfLight_40 : decode cX1_dropIfLight 40 = .ok (.invokevirtual 85, 3) := by decide +kernel
theorem dX1_dropIfLight_43 : decode cX1_dropIfLight 43 = .ok (.iload_n 2, 1) := by decide +kernel
theorem dX1_dropIfLight_44 : decode cX1_dropIfLight 44 = .ok (.if_icmp .ne 35, 3) := by decide +kernel
theorem dX1_dropIfLight_47 : decode cX1_dropIfLight 47 = .ok (.aload_n 1, 1) := by decide +kernel
theorem dX1_dropIfLight_48 : decode cX1_dropIfLight 48 = .ok (.getfield 103, 3) := by decide +kernel
theorem dX1_dropIfLight_51 : decode cX1_dropIfLight 51 = .ok (.iload_n 3, 1) := by decide +kernel
theorem dX1_dropIfLight_52 : decode cX1_dropIfLight 52 = .ok (.iaload, 1) := by decide +kernel
theorem dX1_dropIfLight_53 : decode cX1_dropIfLight 53 = .ok (.aload_n 1, 1) := by decide +kernel
theorem dX1_dropIfLight_54 : decode cX1_dropIfLight 54 = .ok (.getfield 106, 3) := by decide +kernel
theorem dX1_dropIfLight_57 : decode cX1_dropIfLight 57 = .ok (.aload_n 1, 1) := by decide +kernel
theorem dX1_dropIfLight_58 : decode cX1_dropIfLight 58 = .ok (.getfield 88, 3) := by decide +kernel
theorem dX1_dropIfLight_61 : decode cX1_dropIfLight 61 = .ok (.iload_n 2, 1) := by decide +kernel
theorem dX1_dropIfLight_62 : decode cX1_dropIfLight 62 = .ok (.iaload, 1) := by decide +kernel
theorem dX1_dropIfLight_63 : decode cX1_dropIfLight 63 = .ok (.isub, 1) := by decide +kernel
theorem dX1_dropIfLight_64 : decode cX1_dropIfLight 64 = .ok (.if_icmp .ge 15, 3) := by decide +kernel
theorem dX1_dropIfLight_67 : decode cX1_dropIfLight 67 = .ok (.aload_n 0, 1) := by decide +kernel
theorem dX1_dropIfLight_68 : decode cX1_dropIfLight 68 = .ok (.dup, 1) := by decide +kernel
theorem dX1_dropIfLight_69 : decode cX1_dropIfLight 69 = .ok (.getfield 27, 3) := by decide +kernel
theorem dX1_dropIfLight_72 : decode cX1_dropIfLight 72 = .ok (.iconst 1, 1) := by decide +kernel
theorem dX1_dropIfLight_73 : decode cX1_dropIfLight 73 = .ok (.iload_n 3, 1) := by decide +kernel
theorem dX1_dropIfLight_74 : decode cX1_dropIfLight 74 = .ok (.ishl, 1) := by decide +kernel
theorem dX1_dropIfLight_75 : decode cX1_dropIfLight 75 = .ok (.ior, 1) := by decide +kernel
theorem dX1_dropIfLight_76 : decode cX1_dropIfLight 76 = .ok (.putfield 27, 3) := by decide +kernel
theorem dX1_dropIfLight_79 : decode cX1_dropIfLight 79 = .ok (.iinc 3 1, 3) := by decide +kernel
theorem dX1_dropIfLight_82 : decode cX1_dropIfLight 82 = .ok (.goto (-52), 3) := by decide +kernel
theorem dX1_dropIfLight_85 : decode cX1_dropIfLight 85 = .ok (.aload_n 0, 1) := by decide +kernel
theorem dX1_dropIfLight_86 : decode cX1_dropIfLight 86 = .ok (.getfield 9, 3) := by decide +kernel
theorem dX1_dropIfLight_89 : decode cX1_dropIfLight 89 = .ok (.iload_n 2, 1) := by decide +kernel
theorem dX1_dropIfLight_90 : decode cX1_dropIfLight 90 = .ok (.iconst 2, 1) := by decide +kernel
theorem dX1_dropIfLight_91 : decode cX1_dropIfLight 91 = .ok (.iastore, 1) := by decide +kernel
theorem dX1_dropIfLight_92 : decode cX1_dropIfLight 92 = .ok (.aload_n 0, 1) := by decide +kernel
theorem dX1_dropIfLight_93 : decode cX1_dropIfLight 93 = .ok (.dup, 1) := by decide +kernel
theorem dX1_dropIfLight_94 : decode cX1_dropIfLight 94 = .ok (.getfield 30, 3) := by decide +kernel
theorem dX1_dropIfLight_97 : decode cX1_dropIfLight 97 = .ok (.iconst 1, 1) := by decide +kernel
theorem dX1_dropIfLight_98 : decode cX1_dropIfLight 98 = .ok (.iadd, 1) := by decide +kernel
theorem dX1_dropIfLight_99 : decode cX1_dropIfLight 99 = .ok (.putfield 30, 3) := by decide +kernel
theorem dX1_dropIfLight_102 : decode cX1_dropIfLight 102 = .ok (.return_, 1) := by decide +kernel
theorem dX2_init_0 : decode cX2_init 0 = .ok (.aload_n 0, 1) := by decide +kernel
theorem dX2_init_1 : decode cX2_init 1 = .ok (.invokespecial 3, 3) := by decide +kernel
theorem dX2_init_4 : decode cX2_init 4 = .ok (.return_, 1) := by decide +kernel
theorem dX2_live_0 : decode cX2_live 0 = .ok (.aload_n 0, 1) := by decide +kernel
theorem dX2_live_1 : decode cX2_live 1 = .ok (.iload 4, 2) := by decide +kernel
theorem dX2_live_3 : decode cX2_live 3 = .ok (.putfield 9, 3) := by decide +kernel
theorem dX2_live_6 : decode cX2_live 6 = .ok (.iconst 0, 1) := by decide +kernel
theorem dX2_live_7 : decode cX2_live 7 = .ok (.istore 5, 2) := by decide +kernel
theorem dX2_live_9 : decode cX2_live 9 = .ok (.iload 5, 2) := by decide +kernel
theorem dX2_live_11 : decode cX2_live 11 = .ok (.iload_n 3, 1) := by decide +kernel
theorem dX2_live_12 : decode cX2_live 12 = .ok (.if_icmp .ge 25, 3) := by decide +kernel
theorem dX2_live_15 : decode cX2_live 15 = .ok (.aload_n 2, 1) := by decide +kernel
theorem dX2_live_16 : decode cX2_live 16 = .ok (.getfield 15, 3) := by decide +kernel
theorem dX2_live_19 : decode cX2_live 19 = .ok (.sipush 400, 3) := by decide +kernel
theorem dX2_live_22 : decode cX2_live 22 = .ok (.if_icmp .ge 15, 3) := by decide +kernel
theorem dX2_live_25 : decode cX2_live 25 = .ok (.aload_n 0, 1) := by decide +kernel
theorem dX2_live_26 : decode cX2_live 26 = .ok (.aload_n 1, 1) := by decide +kernel
theorem dX2_live_27 : decode cX2_live 27 = .ok (.aload_n 2, 1) := by decide +kernel
theorem dX2_live_28 : decode cX2_live 28 = .ok (.invokevirtual 20, 3) := by decide +kernel
theorem dX2_live_31 : decode cX2_live 31 = .ok (.iinc 5 1, 3) := by decide +kernel
theorem dX2_live_34 : decode cX2_live 34 = .ok (.goto (-25), 3) := by decide +kernel
theorem dX2_live_37 : decode cX2_live 37 = .ok (.iload 5, 2) := by decide +kernel
theorem dX2_live_39 : decode cX2_live 39 = .ok (.ireturn, 1) := by decide +kernel
theorem dX2_liveDay_0 : decode cX2_liveDay 0 = .ok (.iconst 0, 1) := by decide +kernel
theorem dX2_liveDay_1 : decode cX2_liveDay 1 = .ok (.istore_n 3, 1) := by decide +kernel
theorem dX2_liveDay_2 : decode cX2_liveDay 2 = .ok (.iload_n 3, 1) := by decide +kernel
theorem dX2_liveDay_3 : decode cX2_liveDay 3 = .ok (.aload_n 1, 1) := by decide +kernel
theorem dX2_liveDay_4 : decode cX2_liveDay 4 = .ok (.getfield 24, 3) := by decide +kernel
theorem dX2_liveDay_7 : decode cX2_liveDay 7 = .ok (.if_icmp .ge 44, 3) := by decide +kernel
theorem dX2_liveDay_10 : decode cX2_liveDay 10 = .ok (.aload_n 0, 1) := by decide +kernel
theorem dX2_liveDay_11 : decode cX2_liveDay 11 = .ok (.bipush 8, 2) := by decide +kernel
theorem dX2_liveDay_13 : decode cX2_liveDay 13 = .ok (.invokevirtual 29, 3) := by decide +kernel
theorem dX2_liveDay_16 : decode cX2_liveDay 16 = .ok (.istore 4, 2) := by decide +kernel
theorem dX2_liveDay_18 : decode cX2_liveDay 18 = .ok (.iload 4, 2) := by decide +kernel
theorem dX2_liveDay_20 : decode cX2_liveDay 20 = .ok (.ifCond .ne 13, 3) := by decide +kernel
theorem dX2_liveDay_23 : decode cX2_liveDay 23 = .ok (.aload_n 2, 1) := by decide +kernel
theorem dX2_liveDay_24 : decode cX2_liveDay 24 = .ok (.aload_n 1, 1) := by decide +kernel
theorem dX2_liveDay_25 : decode cX2_liveDay 25 = .ok (.iload_n 3, 1) := by decide +kernel
theorem dX2_liveDay_26 : decode cX2_liveDay 26 = .ok (.invokevirtual 33, 3) := by decide +kernel
theorem dX2_liveDay_29 : decode cX2_liveDay 29 = .ok (.pop, 1) := by decide +kernel
theorem dX2_liveDay_30 : decode cX2_liveDay 30 = .ok (.goto 15, 3) := by decide +kernel
theorem dX2_liveDay_33 : decode cX2_liveDay 33 = .ok (.iload 4, 2) := by decide +kernel
theorem dX2_liveDay_35 : decode cX2_liveDay 35 = .ok (.iconst 1, 1) := by decide +kernel
theorem dX2_liveDay_36 : decode cX2_liveDay 36 = .ok (.if_icmp .ne 9, 3) := by decide +kernel
theorem dX2_liveDay_39 : decode cX2_liveDay 39 = .ok (.aload_n 2, 1) := by decide +kernel
theorem dX2_liveDay_40 : decode cX2_liveDay 40 = .ok (.iload_n 3, 1) := by decide +kernel
theorem dX2_liveDay_41 : decode cX2_liveDay 41 = .ok (.invokevirtual 37, 3) := by decide +kernel
theorem dX2_liveDay_44 : decode cX2_liveDay 44 = .ok (.pop, 1) := by decide +kernel
theorem dX2_liveDay_45 : decode cX2_liveDay 45 = .ok (.iinc 3 1, 3) := by decide +kernel
theorem dX2_liveDay_48 : decode cX2_liveDay 48 = .ok (.goto (-46), 3) := by decide +kernel
theorem dX2_liveDay_51 : decode cX2_liveDay 51 = .ok (.aload_n 0, 1) := by decide +kernel
theorem dX2_liveDay_52 : decode cX2_liveDay 52 = .ok (.iconst 4, 1) := by decide +kernel
theorem dX2_liveDay_53 : decode cX2_liveDay 53 = .ok (.invokevirtual 29, 3) := by decide +kernel
theorem dX2_liveDay_56 : decode cX2_liveDay 56 = .ok (.istore_n 3, 1) := by decide +kernel
theorem dX2_liveDay_57 : decode cX2_liveDay 57 = .ok (.iload_n 3, 1) := by decide +kernel
theorem dX2_liveDay_58 : decode cX2_liveDay 58 = .ok (.ifCond .ne 51, 3) := by decide +kernel
theorem dX2_liveDay_61 : decode cX2_liveDay 61 = .ok (.aload_n 1, 1) := by decide +kernel
theorem dX2_liveDay_62 : decode cX2_liveDay 62 = .ok (.getfield 40, 3) := by decide +kernel
theorem dX2_liveDay_65 : decode cX2_liveDay 65 = .ok (.ifCond .le 44, 3) := by decide +kernel
theorem dX2_liveDay_68 : decode cX2_liveDay 68 = .ok (.aload_n 0, 1) := by decide +kernel
theorem dX2_liveDay_69 : decode cX2_liveDay 69 = .ok (.aload_n 1, 1) := by decide +kernel
theorem dX2_liveDay_70 : decode cX2_liveDay 70 = .ok (.getfield 40, 3) := by decide +kernel
theorem dX2_liveDay_73 : decode cX2_liveDay 73 = .ok (.invokevirtual 29, 3) := by decide +kernel
theorem dX2_liveDay_76 : decode cX2_liveDay 76 = .ok (.istore 4, 2) := by decide +kernel
theorem dX2_liveDay_78 : decode cX2_liveDay 78 = .ok (.aload_n 2, 1) := by decide +kernel
theorem dX2_liveDay_79 : decode cX2_liveDay 79 = .ok (.iload 4, 2) := by decide +kernel
theorem dX2_liveDay_81 : decode cX2_liveDay 81 = .ok (.invokevirtual 43, 3) := by decide +kernel
theorem dX2_liveDay_84 : decode cX2_liveDay 84 = .ok (.ifCond .eq 14, 3) := by decide +kernel
theorem dX2_liveDay_87 : decode cX2_liveDay 87 = .ok (.aload_n 2, 1) := by decide +kernel
theorem dX2_liveDay_88 : decode cX2_liveDay 88 = .ok (.aload_n 1, 1) := by decide +kernel
theorem dX2_liveDay_89 : decode cX2_liveDay 89 = .ok (.iload 4, 2) := by decide +kernel
theorem dX2_liveDay_91 : decode cX2_liveDay 91 = .ok (.invokevirtual 47, 3) := by decide +kernel
theorem dX2_liveDay_94 : decode cX2_liveDay 94 = .ok (.pop, 1) := by decide +kernel
theorem dX2_liveDay_95 : decode cX2_liveDay 95 = .ok (.goto 11, 3) := by decide +kernel
theorem dX2_liveDay_98 : decode cX2_liveDay 98 = .ok (.aload_n 2, 1) := by decide +kernel
theorem dX2_liveDay_99 : decode cX2_liveDay 99 = .ok (.aload_n 1, 1) := by decide +kernel
theorem dX2_liveDay_100 : decode cX2_liveDay 100 = .ok (.iload 4, 2) := by decide +kernel
theorem dX2_liveDay_102 : decode cX2_liveDay 102 = .ok (.invokevirtual 50, 3) := by decide +kernel
theorem dX2_liveDay_105 : decode cX2_liveDay 105 = .ok (.pop, 1) := by decide +kernel
theorem dX2_liveDay_106 : decode cX2_liveDay 106 = .ok (.goto 29, 3) := by decide +kernel
theorem dX2_liveDay_109 : decode cX2_liveDay 109 = .ok (.iload_n 3, 1) := by decide +kernel
theorem dX2_liveDay_110 : decode cX2_liveDay 110 = .ok (.iconst 1, 1) := by decide +kernel
theorem dX2_liveDay_111 : decode cX2_liveDay 111 = .ok (.if_icmp .ne 24, 3) := by decide +kernel
theorem dX2_liveDay_114 : decode cX2_liveDay 114 = .ok (.aload_n 1, 1) := by decide +kernel
theorem dX2_liveDay_115 : decode cX2_liveDay 115 = .ok (.getfield 53, 3) := by decide +kernel
theorem dX2_liveDay_118 : decode cX2_liveDay 118 = .ok (.ifCond .le 17, 3) := by decide +kernel
theorem dX2_liveDay_121 : decode cX2_liveDay 121 = .ok (.aload_n 2, 1) := by decide +kernel
theorem dX2_liveDay_122 : decode cX2_liveDay 122 = .ok (.aload_n 1, 1) := by decide +kernel
theorem dX2_liveDay_123 : decode cX2_liveDay 123 = .ok (.aload_n 0, 1) := by decide +kernel
theorem dX2_liveDay_124 : decode cX2_liveDay 124 = .ok (.aload_n 1, 1) := by decide +kernel
theorem dX2_liveDay_125 : decode cX2_liveDay 125 = .ok (.getfield 53, 3) := by decide +kernel
theorem dX2_liveDay_128 : decode cX2_liveDay 128 = .ok (.invokevirtual 29, 3) := by decide +kernel
theorem dX2_liveDay_131 : decode cX2_liveDay 131 = .ok (.invokevirtual 56, 3) := by decide +kernel
theorem dX2_liveDay_134 : decode cX2_liveDay 134 = .ok (.pop, 1) := by decide +kernel
theorem dX2_liveDay_135 : decode cX2_liveDay 135 = .ok (.aload_n 2, 1) := by decide +kernel
theorem dX2_liveDay_136 : decode cX2_liveDay 136 = .ok (.aload_n 1, 1) := by decide +kernel
theorem dX2_liveDay_137 : decode cX2_liveDay 137 = .ok (.invokevirtual 59, 3) := by decide +kernel
theorem dX2_liveDay_140 : decode cX2_liveDay 140 = .ok (.return_, 1) := by decide +kernel
theorem dX2_next_0 : decode cX2_next 0 = .ok (.aload_n 0, 1) := by decide +kernel
theorem dX2_next_1 : decode cX2_next 1 = .ok (.aload_n 0, 1) := by decide +kernel
theorem dX2_next_2 : decode cX2_next 2 = .ok (.getfield 9, 3) := by decide +kernel
theorem dX2_next_5 : decode cX2_next 5 = .ok (.ldc 63, 2) := by decide +kernel
theorem dX2_next_7 : decode cX2_next 7 = .ok (.imul, 1) := by decide +kernel
theorem dX2_next_8 : decode cX2_next 8 = .ok (.sipush 12345, 3) := by decide +kernel
theorem dX2_next_11 : decode cX2_next 11 = .ok (.iadd, 1) := by decide +kernel
theorem dX2_next_12 : decode cX2_next 12 = .ok (.putfield 9, 3) := by decide +kernel
theorem dX2_next_15 : decode cX2_next 15 = .ok (.iload_n 1, 1) := by decide +kernel
theorem dX2_next_16 : decode cX2_next 16 = .ok (.ifCond .le 15, 3) := by decide +kernel
theorem dX2_next_19 : decode cX2_next 19 = .ok (.aload_n 0, 1) := by decide +kernel
theorem dX2_next_20 : decode cX2_next 20 = .ok (.getfield 9, 3) := by decide +kernel
theorem dX2_next_23 : decode cX2_next 23 = .ok (.bipush 8, 2) := by decide +kernel
theorem dX2_next_25 : decode cX2_next 25 = .ok (.iushr, 1) := by decide +kernel
theorem dX2_next_26 : decode cX2_next 26 = .ok (.iload_n 1, 1) := by decide +kernel
theorem dX2_next_27 : decode cX2_next 27 = .ok (.irem, 1) := by decide +kernel
theorem dX2_next_28 : decode cX2_next 28 = .ok (.goto 4, 3) := by decide +kernel
theorem dX2_next_31 : decode cX2_next 31 = .ok (.iconst 0, 1) := by decide +kernel
theorem dX2_next_32 : decode cX2_next 32 = .ok (.ireturn, 1) := by decide +kernel
theorem dX3_init_0 : decode cX3_init 0 = .ok (.aload_n 0, 1) := by decide +kernel
theorem dX3_init_1 : decode cX3_init 1 = .ok (.invokespecial 3, 3) := by decide +kernel
theorem dX3_init_4 : decode cX3_init 4 = .ok (.aload_n 0, 1) := by decide +kernel
theorem dX3_init_5 : decode cX3_init 5 = .ok (.bipush 10, 2) := by decide +kernel
theorem dX3_init_7 : decode cX3_init 7 = .ok (.putfield 9, 3) := by decide +kernel
theorem dX3_init_10 : decode cX3_init 10 = .ok (.aload_n 0, 1) := by decide +kernel
theorem dX3_init_11 : decode cX3_init 11 = .ok (.bipush 20, 2) := by decide +kernel
theorem dX3_init_13 : decode cX3_init 13 = .ok (.putfield 15, 3) := by decide +kernel
theorem dX3_init_16 : decode cX3_init 16 = .ok (.aload_n 0, 1) := by decide +kernel
theorem dX3_init_17 : decode cX3_init 17 = .ok (.iconst 5, 1) := by decide +kernel
theorem dX3_init_18 : decode cX3_init 18 = .ok (.newarray .int, 2) := by decide +kernel
theorem dX3_init_20 : decode cX3_init 20 = .ok (.putfield 18, 3) := by decide +kernel
theorem dX3_init_23 : decode cX3_init 23 = .ok (.aload_n 0, 1) := by decide +kernel
theorem dX3_init_24 : decode cX3_init 24 = .ok (.iconst 5, 1) := by decide +kernel
theorem dX3_init_25 : decode cX3_init 25 = .ok (.newarray .long, 2) := by decide +kernel
theorem dX3_init_27 : decode cX3_init 27 = .ok (.putfield 22, 3) := by decide +kernel
theorem dX3_init_30 : decode cX3_init 30 = .ok (.aload_n 0, 1) := by decide +kernel
theorem dX3_init_31 : decode cX3_init 31 = .ok (.bipush 10, 2) := by decide +kernel
theorem dX3_init_33 : decode cX3_init 33 = .ok (.newarray .long, 2) := by decide +kernel
theorem dX3_init_35 : decode cX3_init 35 = .ok (.putfield 26, 3) := by decide +kernel
theorem dX3_init_38 : decode cX3_init 38 = .ok (.aload_n 0, 1) := by decide +kernel
theorem dX3_init_39 : decode cX3_init 39 = .ok (.bipush 10, 2) := by decide +kernel
theorem dX3_init_41 : decode cX3_init 41 = .ok (.newarray .int, 2) := by decide +kernel
theorem dX3_init_43 : decode cX3_init 43 = .ok (.putfield 29, 3) := by decide +kernel
theorem dX3_init_46 : decode cX3_init 46 = .ok (.aload_n 0, 1) := by decide +kernel
theorem dX3_init_47 : decode cX3_init 47 = .ok (.bipush 10, 2) := by decide +kernel
theorem dX3_init_49 : decode cX3_init 49 = .ok (.newarray .int, 2) := by decide +kernel
theorem dX3_init_51 : decode cX3_init 51 = .ok (.putfield 32, 3) := by decide +kernel
theorem dX3_init_54 : decode cX3_init 54 = .ok (.aload_n 0, 1) := by decide +kernel
theorem dX3_init_55 : decode cX3_init 55 = .ok (.bipush 16, 2) := by decide +kernel
theorem dX3_init_57 : decode cX3_init 57 = .ok (.newarray .int, 2) := by decide +kernel
theorem dX3_init_59 : decode cX3_init 59 = .ok (.putfield 35, 3) := by decide +kernel
theorem dX3_init_62 : decode cX3_init 62 = .ok (.aload_n 0, 1) := by decide +kernel
theorem dX3_init_63 : decode cX3_init 63 = .ok (.bipush 16, 2) := by decide +kernel
theorem dX3_init_65 : decode cX3_init 65 = .ok (.newarray .int, 2) := by decide +kernel
theorem dX3_init_67 : decode cX3_init 67 = .ok (.putfield 38, 3) := by decide +kernel
theorem dX3_init_70 : decode cX3_init 70 = .ok (.aload_n 0, 1) := by decide +kernel
theorem dX3_init_71 : decode cX3_init 71 = .ok (.bipush 16, 2) := by decide +kernel
theorem dX3_init_73 : decode cX3_init 73 = .ok (.newarray .int, 2) := by decide +kernel
theorem dX3_init_75 : decode cX3_init 75 = .ok (.putfield 41, 3) := by decide +kernel
theorem dX3_init_78 : decode cX3_init 78 = .ok (.return_, 1) := by decide +kernel
theorem dX3_clear_0 : decode cX3_clear 0 = .ok (.aload_n 0, 1) := by decide +kernel
theorem dX3_clear_1 : decode cX3_clear 1 = .ok (.iconst 0, 1) := by decide +kernel
theorem dX3_clear_2 : decode cX3_clear 2 = .ok (.putfield 44, 3) := by decide +kernel
theorem dX3_clear_5 : decode cX3_clear 5 = .ok (.aload_n 0, 1) := by decide +kernel
theorem dX3_clear_6 : decode cX3_clear 6 = .ok (.iconst 0, 1) := by decide +kernel
theorem dX3_clear_7 : decode cX3_clear 7 = .ok (.putfield 47, 3) := by decide +kernel
theorem dX3_clear_10 : decode cX3_clear 10 = .ok (.aload_n 0, 1) := by decide +kernel
theorem dX3_clear_11 : decode cX3_clear 11 = .ok (.iconst 0, 1) := by decide +kernel
theorem dX3_clear_12 : decode cX3_clear 12 = .ok (.putfield 50, 3) := by decide +kernel
theorem dX3_clear_15 : decode cX3_clear 15 = .ok (.aload_n 0, 1) := by decide +kernel
theorem dX3_clear_16 : decode cX3_clear 16 = .ok (.bipush 10, 2) := by decide +kernel
theorem dX3_clear_18 : decode cX3_clear 18 = .ok (.putfield 9, 3) := by decide +kernel
theorem dX3_clear_21 : decode cX3_clear 21 = .ok (.aload_n 0, 1) := by decide +kernel
theorem dX3_clear_22 : decode cX3_clear 22 = .ok (.bipush 20, 2) := by decide +kernel
theorem dX3_clear_24 : decode cX3_clear 24 = .ok (.putfield 15, 3) := by decide +kernel
theorem dX3_clear_27 : decode cX3_clear 27 = .ok (.aload_n 0, 1) := by decide +kernel
theorem dX3_clear_28 : decode cX3_clear 28 = .ok (.iconst 0, 1) := by decide +kernel
theorem dX3_clear_29 : decode cX3_clear 29 = .ok (.putfield 53, 3) := by decide +kernel
theorem dX3_clear_32 : decode cX3_clear 32 = .ok (.aload_n 0, 1) := by decide +kernel
theorem dX3_clear_33 : decode cX3_clear 33 = .ok (.iconst 0, 1) := by decide +kernel
theorem dX3_clear_34 : decode cX3_clear 34 = .ok (.putfield 57, 3) := by decide +kernel
theorem dX3_clear_37 : decode cX3_clear 37 = .ok (.aload_n 0, 1) := by decide +kernel
theorem dX3_clear_38 : decode cX3_clear 38 = .ok (.iconst 0, 1) := by decide +kernel
theorem dX3_clear_39 : decode cX3_clear 39 = .ok (.putfield 60, 3) := by decide +kernel
theorem dX3_clear_42 : decode cX3_clear 42 = .ok (.return_, 1) := by decide +kernel
theorem dX3_copy_0 : decode cX3_copy 0 = .ok (.aload_n 0, 1) := by decide +kernel
theorem dX3_copy_1 : decode cX3_copy 1 = .ok (.aload_n 1, 1) := by decide +kernel
theorem dX3_copy_2 : decode cX3_copy 2 = .ok (.getfield 44, 3) := by decide +kernel
theorem dX3_copy_5 : decode cX3_copy 5 = .ok (.putfield 44, 3) := by decide +kernel
theorem dX3_copy_8 : decode cX3_copy 8 = .ok (.aload_n 0, 1) := by decide +kernel
theorem dX3_copy_9 : decode cX3_copy 9 = .ok (.aload_n 1, 1) := by decide +kernel
theorem dX3_copy_10 : decode cX3_copy 10 = .ok (.getfield 47, 3) := by decide +kernel
theorem dX3_copy_13 : decode cX3_copy 13 = .ok (.putfield 47, 3) := by decide +kernel
theorem dX3_copy_16 : decode cX3_copy 16 = .ok (.aload_n 0, 1) := by decide +kernel
theorem dX3_copy_17 : decode cX3_copy 17 = .ok (.aload_n 1, 1) := by decide +kernel
theorem dX3_copy_18 : decode cX3_copy 18 = .ok (.getfield 50, 3) := by decide +kernel
theorem dX3_copy_21 : decode cX3_copy 21 = .ok (.putfield 50, 3) := by decide +kernel
theorem dX3_copy_24 : decode cX3_copy 24 = .ok (.aload_n 0, 1) := by decide +kernel
theorem dX3_copy_25 : decode cX3_copy 25 = .ok (.aload_n 1, 1) := by decide +kernel
theorem dX3_copy_26 : decode cX3_copy 26 = .ok (.getfield 9, 3) := by decide +kernel
theorem dX3_copy_29 : decode cX3_copy 29 = .ok (.putfield 9, 3) := by decide +kernel
theorem dX3_copy_32 : decode cX3_copy 32 = .ok (.aload_n 0, 1) := by decide +kernel
theorem dX3_copy_33 : decode cX3_copy 33 = .ok (.aload_n 1, 1) := by decide +kernel
theorem dX3_copy_34 : decode cX3_copy 34 = .ok (.getfield 15, 3) := by decide +kernel
theorem dX3_copy_37 : decode cX3_copy 37 = .ok (.putfield 15, 3) := by decide +kernel
theorem dX3_copy_40 : decode cX3_copy 40 = .ok (.aload_n 0, 1) := by decide +kernel
theorem dX3_copy_41 : decode cX3_copy 41 = .ok (.aload_n 1, 1) := by decide +kernel
theorem dX3_copy_42 : decode cX3_copy 42 = .ok (.getfield 53, 3) := by decide +kernel
theorem dX3_copy_45 : decode cX3_copy 45 = .ok (.putfield 53, 3) := by decide +kernel
theorem dX3_copy_48 : decode cX3_copy 48 = .ok (.aload_n 0, 1) := by decide +kernel
theorem dX3_copy_49 : decode cX3_copy 49 = .ok (.aload_n 1, 1) := by decide +kernel
theorem dX3_copy_50 : decode cX3_copy 50 = .ok (.getfield 57, 3) := by decide +kernel
theorem dX3_copy_53 : decode cX3_copy 53 = .ok (.putfield 57, 3) := by decide +kernel
theorem dX3_copy_56 : decode cX3_copy 56 = .ok (.aload_n 0, 1) := by decide +kernel
theorem dX3_copy_57 : decode cX3_copy 57 = .ok (.aload_n 1, 1) := by decide +kernel
theorem dX3_copy_58 : decode cX3_copy 58 = .ok (.getfield 60, 3) := by decide +kernel
theorem dX3_copy_61 : decode cX3_copy 61 = .ok (.putfield 60, 3) := by decide +kernel
theorem dX3_copy_64 : decode cX3_copy 64 = .ok (.aload_n 1, 1) := by decide +kernel
theorem dX3_copy_65 : decode cX3_copy 65 = .ok (.getfield 18, 3) := by decide +kernel
theorem dX3_copy_68 : decode cX3_copy 68 = .ok (.iconst 0, 1) := by decide +kernel
theorem dX3_copy_69 : decode cX3_copy 69 = .ok (.aload_n 0, 1) := by decide +kernel
theorem dX3_copy_70 : decode cX3_copy 70 = .ok (.getfield 18, 3) := by decide +kernel
theorem dX3_copy_73 : decode cX3_copy 73 = .ok (.iconst 0, 1) := by decide +kernel
theorem dX3_copy_74 : decode cX3_copy 74 = .ok (.iconst 5, 1) := by decide +kernel
theorem dX3_copy_75 : decode cX3_copy 75 = .ok (.invokestatic 63, 3) := by decide +kernel
theorem dX3_copy_78 : decode cX3_copy 78 = .ok (.aload_n 1, 1) := by decide +kernel
theorem dX3_copy_79 : decode cX3_copy 79 = .ok (.getfield 22, 3) := by decide +kernel
theorem dX3_copy_82 : decode cX3_copy 82 = .ok (.iconst 0, 1) := by decide +kernel
theorem dX3_copy_83 : decode cX3_copy 83 = .ok (.aload_n 0, 1) := by decide +kernel
theorem dX3_copy_84 : decode cX3_copy 84 = .ok (.getfield 22, 3) := by decide +kernel
theorem dX3_copy_87 : decode cX3_copy 87 = .ok (.iconst 0, 1) := by decide +kernel
theorem dX3_copy_88 : decode cX3_copy 88 = .ok (.iconst 5, 1) := by decide +kernel
theorem dX3_copy_89 : decode cX3_copy 89 = .ok (.invokestatic 63, 3) := by decide +kernel
theorem dX3_copy_92 : decode cX3_copy 92 = .ok (.aload_n 1, 1) := by decide +kernel
theorem dX3_copy_93 : decode cX3_copy 93 = .ok (.getfield 26, 3) := by decide +kernel
theorem dX3_copy_96 : decode cX3_copy 96 = .ok (.iconst 0, 1) := by decide +kernel
theorem dX3_copy_97 : decode cX3_copy 97 = .ok (.aload_n 0, 1) := by decide +kernel
theorem dX3_copy_98 : decode cX3_copy 98 = .ok (.getfield 26, 3) := by decide +kernel
theorem dX3_copy_101 : decode cX3_copy 101 = .ok (.iconst 0, 1) := by decide +kernel
theorem dX3_copy_102 : decode cX3_copy 102 = .ok (.bipush 10, 2) := by decide +kernel
theorem dX3_copy_104 : decode cX3_copy 104 = .ok (.invokestatic 63, 3) := by decide +kernel
theorem dX3_copy_107 : decode cX3_copy 107 = .ok (.aload_n 1, 1) := by decide +kernel
theorem dX3_copy_108 : decode cX3_copy 108 = .ok (.getfield 29, 3) := by decide +kernel
theorem dX3_copy_111 : decode cX3_copy 111 = .ok (.iconst 0, 1) := by decide +kernel
theorem dX3_copy_112 : decode cX3_copy 112 = .ok (.aload_n 0, 1) := by decide +kernel
theorem dX3_copy_113 : decode cX3_copy 113 = .ok (.getfield 29, 3) := by decide +kernel
theorem dX3_copy_116 : decode cX3_copy 116 = .ok (.iconst 0, 1) := by decide +kernel
theorem dX3_copy_117 : decode cX3_copy 117 = .ok (.bipush 10, 2) := by decide +kernel
theorem dX3_copy_119 : decode cX3_copy 119 = .ok (.invokestatic 63, 3) := by decide +kernel
theorem dX3_copy_122 : decode cX3_copy 122 = .ok (.aload_n 1, 1) := by decide +kernel
theorem dX3_copy_123 : decode cX3_copy 123 = .ok (.getfield 32, 3) := by decide +kernel
theorem dX3_copy_126 : decode cX3_copy 126 = .ok (.iconst 0, 1) := by decide +kernel
theorem dX3_copy_127 : decode cX3_copy 127 = .ok (.aload_n 0, 1) := by decide +kernel
theorem dX3_copy_128 : decode cX3_copy 128 = .ok (.getfield 32, 3) := by decide +kernel
theorem dX3_copy_131 : decode cX3_copy 131 = .ok (.iconst 0, 1) := by decide +kernel
theorem dX3_copy_132 : decode cX3_copy 132 = .ok (.bipush 10, 2) := by decide +kernel
theorem dX3_copy_134 : decode cX3_copy 134 = .ok (.invokestatic 63, 3) := by decide +kernel
theorem dX3_copy_137 : decode cX3_copy 137 = .ok (.aload_n 1, 1) := by decide +kernel
theorem dX3_copy_138 : decode cX3_copy 138 = .ok (.getfield 35, 3) := by decide +kernel
theorem dX3_copy_141 : decode cX3_copy 141 = .ok (.iconst 0, 1) := by decide +kernel
theorem dX3_copy_142 : decode cX3_copy 142 = .ok (.aload_n 0, 1) := by decide +kernel
theorem dX3_copy_143 : decode cX3_copy 143 = .ok (.getfield 35, 3) := by decide +kernel
theorem dX3_copy_146 : decode cX3_copy 146 = .ok (.iconst 0, 1) := by decide +kernel
theorem dX3_copy_147 : decode cX3_copy 147 = .ok (.bipush 16, 2) := by decide +kernel
theorem dX3_copy_149 : decode cX3_copy 149 = .ok (.invokestatic 63, 3) := by decide +kernel
theorem dX3_copy_152 : decode cX3_copy 152 = .ok (.aload_n 1, 1) := by decide +kernel
theorem dX3_copy_153 : decode cX3_copy 153 = .ok (.getfield 38, 3) := by decide +kernel
theorem dX3_copy_156 : decode cX3_copy 156 = .ok (.iconst 0, 1) := by decide +kernel
theorem dX3_copy_157 : decode cX3_copy 157 = .ok (.aload_n 0, 1) := by decide +kernel
theorem dX3_copy_158 : decode cX3_copy 158 = .ok (.getfield 38, 3) := by decide +kernel
theorem dX3_copy_161 : decode cX3_copy 161 = .ok (.iconst 0, 1) := by decide +kernel
theorem dX3_copy_162 : decode cX3_copy 162 = .ok (.bipush 16, 2) := by decide +kernel
theorem dX3_copy_164 : decode cX3_copy 164 = .ok (.invokestatic 63, 3) := by decide +kernel
theorem dX3_copy_167 : decode cX3_copy 167 = .ok (.aload_n 1, 1) := by decide +kernel
theorem dX3_copy_168 : decode cX3_copy 168 = .ok (.getfield 41, 3) := by decide +kernel
theorem dX3_copy_171 : decode cX3_copy 171 = .ok (.iconst 0, 1) := by decide +kernel
theorem dX3_copy_172 : decode cX3_copy 172 = .ok (.aload_n 0, 1) := by decide +kernel
theorem dX3_copy_173 : decode cX3_copy 173 = .ok (.getfield 41, 3) := by decide +kernel
theorem dX3_copy_176 : decode cX3_copy 176 = .ok (.iconst 0, 1) := by decide +kernel
theorem dX3_copy_177 : decode cX3_copy 177 = .ok (.bipush 16, 2) := by decide +kernel
theorem dX3_copy_179 : decode cX3_copy 179 = .ok (.invokestatic 63, 3) := by decide +kernel
theorem dX3_copy_182 : decode cX3_copy 182 = .ok (.return_, 1) := by decide +kernel
theorem dX3_hasPerson_0 : decode cX3_hasPerson 0 = .ok (.iload_n 1, 1) := by decide +kernel
theorem dX3_hasPerson_1 : decode cX3_hasPerson 1 = .ok (.ifCond .lt 15, 3) := by decide +kernel
theorem dX3_hasPerson_4 : decode cX3_hasPerson 4 = .ok (.iload_n 1, 1) := by decide +kernel
theorem dX3_hasPerson_5 : decode cX3_hasPerson 5 = .ok (.aload_n 0, 1) := by decide +kernel
theorem dX3_hasPerson_6 : decode cX3_hasPerson 6 = .ok (.getfield 44, 3) := by decide +kernel
theorem dX3_hasPerson_9 : decode cX3_hasPerson 9 = .ok (.if_icmp .ge 7, 3) := by decide +kernel
theorem dX3_hasPerson_12 : decode cX3_hasPerson 12 = .ok (.iconst 1, 1) := by decide +kernel
theorem dX3_hasPerson_13 : decode cX3_hasPerson 13 = .ok (.goto 4, 3) := by decide +kernel
theorem dX3_hasPerson_16 : decode cX3_hasPerson 16 = .ok (.iconst 0, 1) := by decide +kernel
theorem dX3_hasPerson_17 : decode cX3_hasPerson 17 = .ok (.ireturn, 1) := by decide +kernel
theorem dX3_hasItem_0 : decode cX3_hasItem 0 = .ok (.iload_n 1, 1) := by decide +kernel
theorem dX3_hasItem_1 : decode cX3_hasItem 1 = .ok (.ifCond .lt 15, 3) := by decide +kernel
theorem dX3_hasItem_4 : decode cX3_hasItem 4 = .ok (.iload_n 1, 1) := by decide +kernel
theorem dX3_hasItem_5 : decode cX3_hasItem 5 = .ok (.aload_n 0, 1) := by decide +kernel
theorem dX3_hasItem_6 : decode cX3_hasItem 6 = .ok (.getfield 47, 3) := by decide +kernel
theorem dX3_hasItem_9 : decode cX3_hasItem 9 = .ok (.if_icmp .ge 7, 3) := by decide +kernel
theorem dX3_hasItem_12 : decode cX3_hasItem 12 = .ok (.iconst 1, 1) := by decide +kernel
theorem dX3_hasItem_13 : decode cX3_hasItem 13 = .ok (.goto 4, 3) := by decide +kernel
theorem dX3_hasItem_16 : decode cX3_hasItem 16 = .ok (.iconst 0, 1) := by decide +kernel
theorem dX3_hasItem_17 : decode cX3_hasItem 17 = .ok (.ireturn, 1) := by decide +kernel
theorem dX3_hasJoin_0 : decode cX3_hasJoin 0 = .ok (.iload_n 1, 1) := by decide +kernel
theorem dX3_hasJoin_1 : decode cX3_hasJoin 1 = .ok (.ifCond .lt 15, 3) := by decide +kernel
theorem dX3_hasJoin_4 : decode cX3_hasJoin 4 = .ok (.iload_n 1, 1) := by decide +kernel
theorem dX3_hasJoin_5 : decode cX3_hasJoin 5 = .ok (.aload_n 0, 1) := by decide +kernel
theorem dX3_hasJoin_6 : decode cX3_hasJoin 6 = .ok (.getfield 50, 3) := by decide +kernel
theorem dX3_hasJoin_9 : decode cX3_hasJoin 9 = .ok (.if_icmp .ge 7, 3) := by decide +kernel
theorem dX3_hasJoin_12 : decode cX3_hasJoin 12 = .ok (.iconst 1, 1) := by decide +kernel
theorem dX3_hasJoin_13 : decode cX3_hasJoin 13 = .ok (.goto 4, 3) := by decide +kernel
theorem dX3_hasJoin_16 : decode cX3_hasJoin 16 = .ok (.iconst 0, 1) := by decide +kernel
theorem dX3_hasJoin_17 : decode cX3_hasJoin 17 = .ok (.ireturn, 1) := by decide +kernel
theorem dX3_flowOn_0 : decode cX3_flowOn 0 = .ok (.aload_n 0, 1) := by decide +kernel
theorem dX3_flowOn_1 : decode cX3_flowOn 1 = .ok (.getfield 57, 3) := by decide +kernel
theorem dX3_flowOn_4 : decode cX3_flowOn 4 = .ok (.ifCond .le 24, 3) := by decide +kernel
theorem dX3_flowOn_7 : decode cX3_flowOn 7 = .ok (.iload_n 1, 1) := by decide +kernel
theorem dX3_flowOn_8 : decode cX3_flowOn 8 = .ok (.aload_n 0, 1) := by decide +kernel
theorem dX3_flowOn_9 : decode cX3_flowOn 9 = .ok (.getfield 57, 3) := by decide +kernel
theorem dX3_flowOn_12 : decode cX3_flowOn 12 = .ok (.irem, 1) := by decide +kernel
theorem dX3_flowOn_13 : decode cX3_flowOn 13 = .ok (.ifCond .ne 15, 3) := by decide +kernel
theorem dX3_flowOn_16 : decode cX3_flowOn 16 = .ok (.aload_n 0, 1) := by decide +kernel
theorem dX3_flowOn_17 : decode cX3_flowOn 17 = .ok (.getfield 15, 3) := by decide +kernel
theorem dX3_flowOn_20 : decode cX3_flowOn 20 = .ok (.aload_n 0, 1) := by decide +kernel
theorem dX3_flowOn_21 : decode cX3_flowOn 21 = .ok (.getfield 60, 3) := by decide +kernel
theorem dX3_flowOn_24 : decode cX3_flowOn 24 = .ok (.iadd, 1) := by decide +kernel
theorem dX3_flowOn_25 : decode cX3_flowOn 25 = .ok (.goto 7, 3) := by decide +kernel
theorem dX3_flowOn_28 : decode cX3_flowOn 28 = .ok (.aload_n 0, 1) := by decide +kernel
theorem dX3_flowOn_29 : decode cX3_flowOn 29 = .ok (.getfield 15, 3) := by decide +kernel
theorem dX3_flowOn_32 : decode cX3_flowOn 32 = .ok (.ireturn, 1) := by decide +kernel
theorem dX3_itemsOf_0 : decode cX3_itemsOf 0 = .ok (.iconst 0, 1) := by decide +kernel
theorem dX3_itemsOf_1 : decode cX3_itemsOf 1 = .ok (.istore_n 2, 1) := by decide +kernel
theorem dX3_itemsOf_2 : decode cX3_itemsOf 2 = .ok (.iconst 0, 1) := by decide +kernel
theorem dX3_itemsOf_3 : decode cX3_itemsOf 3 = .ok (.istore_n 3, 1) := by decide +kernel
theorem dX3_itemsOf_4 : decode cX3_itemsOf 4 = .ok (.iload_n 3, 1) := by decide +kernel
theorem dX3_itemsOf_5 : decode cX3_itemsOf 5 = .ok (.aload_n 0, 1) := by decide +kernel
theorem dX3_itemsOf_6 : decode cX3_itemsOf 6 = .ok (.getfield 47, 3) := by decide +kernel
theorem dX3_itemsOf_9 : decode cX3_itemsOf 9 = .ok (.if_icmp .ge 25, 3) := by decide +kernel
theorem dX3_itemsOf_12 : decode cX3_itemsOf 12 = .ok (.aload_n 0, 1) := by decide +kernel
theorem dX3_itemsOf_13 : decode cX3_itemsOf 13 = .ok (.getfield 29, 3) := by decide +kernel
theorem dX3_itemsOf_16 : decode cX3_itemsOf 16 = .ok (.iload_n 3, 1) := by decide +kernel
theorem dX3_itemsOf_17 : decode cX3_itemsOf 17 = .ok (.iaload, 1) := by decide +kernel
theorem dX3_itemsOf_18 : decode cX3_itemsOf 18 = .ok (.iload_n 1, 1) := by decide +kernel
theorem dX3_itemsOf_19 : decode cX3_itemsOf 19 = .ok (.if_icmp .ne 9, 3) := by decide +kernel
theorem dX3_itemsOf_22 : decode cX3_itemsOf 22 = .ok (.iload_n 2, 1) := by decide +kernel
theorem dX3_itemsOf_23 : decode cX3_itemsOf 23 = .ok (.iconst 1, 1) := by decide +kernel
theorem dX3_itemsOf_24 : decode cX3_itemsOf 24 = .ok (.iload_n 3, 1) := by decide +kernel
theorem dX3_itemsOf_25 : decode cX3_itemsOf 25 = .ok (.ishl, 1) := by decide +kernel
theorem dX3_itemsOf_26 : decode cX3_itemsOf 26 = .ok (.ior, 1) := by decide +kernel
theorem dX3_itemsOf_27 : decode cX3_itemsOf 27 = .ok (.istore_n 2, 1) := by decide +kernel
theorem dX3_itemsOf_28 : decode cX3_itemsOf 28 = .ok (.iinc 3 1, 3) := by decide +kernel
theorem dX3_itemsOf_31 : decode cX3_itemsOf 31 = .ok (.goto (-27), 3) := by decide +kernel
theorem dX3_itemsOf_34 : decode cX3_itemsOf 34 = .ok (.iload_n 2, 1) := by decide +kernel
theorem dX3_itemsOf_35 : decode cX3_itemsOf 35 = .ok (.ireturn, 1) := by decide +kernel
theorem dX3_weightOf_0 : decode cX3_weightOf 0 = .ok (.iconst 0, 1) := by decide +kernel
theorem dX3_weightOf_1 : decode cX3_weightOf 1 = .ok (.istore_n 2, 1) := by decide +kernel
theorem dX3_weightOf_2 : decode cX3_weightOf 2 = .ok (.iconst 0, 1) := by decide +kernel
theorem dX3_weightOf_3 : decode cX3_weightOf 3 = .ok (.istore_n 3, 1) := by decide +kernel
theorem dX3_weightOf_4 : decode cX3_weightOf 4 = .ok (.iload_n 3, 1) := by decide +kernel
theorem dX3_weightOf_5 : decode cX3_weightOf 5 = .ok (.aload_n 0, 1) := by decide +kernel
theorem dX3_weightOf_6 : decode cX3_weightOf 6 = .ok (.getfield 47, 3) := by decide +kernel
theorem dX3_weightOf_9 : decode cX3_weightOf 9 = .ok (.if_icmp .ge 26, 3) := by decide +kernel
theorem dX3_weightOf_12 : decode cX3_weightOf 12 = .ok (.iload_n 1, 1) := by decide +kernel
theorem dX3_weightOf_13 : decode cX3_weightOf 13 = .ok (.iload_n 3, 1) := by decide +kernel
theorem dX3_weightOf_14 : decode cX3_weightOf 14 = .ok (.ishr, 1) := by decide +kernel
theorem dX3_weightOf_15 : decode cX3_weightOf 15 = .ok (.iconst 1, 1) := by decide +kernel
theorem dX3_weightOf_16 : decode cX3_weightOf 16 = .ok (.iand, 1) := by decide +kernel
theorem dX3_weightOf_17 : decode cX3_weightOf 17 = .ok (.ifCond .eq 12, 3) := by decide +kernel
theorem dX3_weightOf_20 : decode cX3_weightOf 20 = .ok (.iload_n 2, 1) := by decide +kernel
theorem dX3_weightOf_21 : decode cX3_weightOf 21 = .ok (.aload_n 0, 1) := by decide +kernel
theorem dX3_weightOf_22 : decode cX3_weightOf 22 = .ok (.getfield 32, 3) := by decide +kernel
theorem dX3_weightOf_25 : decode cX3_weightOf 25 = .ok (.iload_n 3, 1) := by decide +kernel
theorem dX3_weightOf_26 : decode cX3_weightOf 26 = .ok (.iaload, 1) := by decide +kernel
theorem dX3_weightOf_27 : decode cX3_weightOf 27 = .ok (.iadd, 1) := by decide +kernel
theorem dX3_weightOf_28 : decode cX3_weightOf 28 = .ok (.istore_n 2, 1) := by decide +kernel
theorem dX3_weightOf_29 : decode cX3_weightOf 29 = .ok (.iinc 3 1, 3) := by decide +kernel
theorem dX3_weightOf_32 : decode cX3_weightOf 32 = .ok (.goto (-28), 3) := by decide +kernel
theorem dX3_weightOf_35 : decode cX3_weightOf 35 = .ok (.iload_n 2, 1) := by decide +kernel
theorem dX3_weightOf_36 : decode cX3_weightOf 36 = .ok (.ireturn, 1) := by decide +kernel
theorem dX3_joinsAt_0 : decode cX3_joinsAt 0 = .ok (.iconst 0, 1) := by decide +kernel
theorem dX3_joinsAt_1 : decode cX3_joinsAt 1 = .ok (.istore_n 2, 1) := by decide +kernel
theorem dX3_joinsAt_2 : decode cX3_joinsAt 2 = .ok (.iconst 0, 1) := by decide +kernel
theorem dX3_joinsAt_3 : decode cX3_joinsAt 3 = .ok (.istore_n 3, 1) := by decide +kernel
theorem dX3_joinsAt_4 : decode cX3_joinsAt 4 = .ok (.iload_n 3, 1) := by decide +kernel
theorem dX3_joinsAt_5 : decode cX3_joinsAt 5 = .ok (.aload_n 0, 1) := by decide +kernel
theorem dX3_joinsAt_6 : decode cX3_joinsAt 6 = .ok (.getfield 50, 3) := by decide +kernel
theorem dX3_joinsAt_9 : decode cX3_joinsAt 9 = .ok (.if_icmp .ge 35, 3) := by decide +kernel
theorem dX3_joinsAt_12 : decode cX3_joinsAt 12 = .ok (.aload_n 0, 1) := by decide +kernel
theorem dX3_joinsAt_13 : decode cX3_joinsAt 13 = .ok (.getfield 35, 3) := by decide +kernel
theorem dX3_joinsAt_16 : decode cX3_joinsAt 16 = .ok (.iload_n 3, 1) := by decide +kernel
theorem dX3_joinsAt_17 : decode cX3_joinsAt 17 = .ok (.iaload, 1) := by decide +kernel
theorem dX3_joinsAt_18 : decode cX3_joinsAt 18 = .ok (.iload_n 1, 1) := by decide +kernel
theorem dX3_joinsAt_19 : decode cX3_joinsAt 19 = .ok (.if_icmp .eq 13, 3) := by decide +kernel
theorem dX3_joinsAt_22 : decode cX3_joinsAt 22 = .ok (.aload_n 0, 1) := by decide +kernel
theorem dX3_joinsAt_23 : decode cX3_joinsAt 23 = .ok (.getfield 38, 3) := by decide +kernel
theorem dX3_joinsAt_26 : decode cX3_joinsAt 26 = .ok (.iload_n 3, 1) := by decide +kernel
theorem dX3_joinsAt_27 : decode cX3_joinsAt 27 = .ok (.iaload, 1) := by decide +kernel
theorem dX3_joinsAt_28 : decode cX3_joinsAt 28 = .ok (.iload_n 1, 1) := by decide +kernel
theorem dX3_joinsAt_29 : decode cX3_joinsAt 29 = .ok (.if_icmp .ne 9, 3) := by decide +kernel
theorem dX3_joinsAt_32 : decode cX3_joinsAt 32 = .ok (.iload_n 2, 1) := by decide +kernel
theorem dX3_joinsAt_33 : decode cX3_joinsAt 33 = .ok (.iconst 1, 1) := by decide +kernel
theorem dX3_joinsAt_34 : decode cX3_joinsAt 34 = .ok (.iload_n 3, 1) := by decide +kernel
theorem dX3_joinsAt_35 : decode cX3_joinsAt 35 = .ok (.ishl, 1) := by decide +kernel
theorem dX3_joinsAt_36 : decode cX3_joinsAt 36 = .ok (.ior, 1) := by decide +kernel
theorem dX3_joinsAt_37 : decode cX3_joinsAt 37 = .ok (.istore_n 2, 1) := by decide +kernel
theorem dX3_joinsAt_38 : decode cX3_joinsAt 38 = .ok (.iinc 3 1, 3) := by decide +kernel
theorem dX3_joinsAt_41 : decode cX3_joinsAt 41 = .ok (.goto (-37), 3) := by decide +kernel
theorem dX3_joinsAt_44 : decode cX3_joinsAt 44 = .ok (.iload_n 2, 1) := by decide +kernel
theorem dX3_joinsAt_45 : decode cX3_joinsAt 45 = .ok (.ireturn, 1) := by decide +kernel
theorem dX3_ownerOfJoin_0 : decode cX3_ownerOfJoin 0 = .ok (.aload_n 0, 1) := by decide +kernel
theorem dX3_ownerOfJoin_1 : decode cX3_ownerOfJoin 1 = .ok (.getfield 29, 3) := by decide +kernel
theorem dX3_ownerOfJoin_4 : decode cX3_ownerOfJoin 4 = .ok (.aload_n 0, 1) := by decide +kernel
theorem dX3_ownerOfJoin_5 : decode cX3_ownerOfJoin 5 = .ok (.getfield 35, 3) := by decide +kernel
theorem dX3_ownerOfJoin_8 : decode cX3_ownerOfJoin 8 = .ok (.iload_n 1, 1) := by decide +kernel
theorem dX3_ownerOfJoin_9 : decode cX3_ownerOfJoin 9 = .ok (.iaload, 1) := by decide +kernel
theorem dX3_ownerOfJoin_10 : decode cX3_ownerOfJoin 10 = .ok (.iaload, 1) := by decide +kernel
theorem dX3_ownerOfJoin_11 : decode cX3_ownerOfJoin 11 = .ok (.ireturn, 1) := by decide +kernel
theorem dX3_joinsHolding_0 : decode cX3_joinsHolding 0 = .ok (.iconst 0, 1) := by decide +kernel
theorem dX3_joinsHolding_1 : decode cX3_joinsHolding 1 = .ok (.istore 4, 2) := by decide +kernel
theorem dX3_joinsHolding_3 : decode cX3_joinsHolding 3 = .ok (.iconst 0, 1) := by decide +kernel
theorem dX3_joinsHolding_4 : decode cX3_joinsHolding 4 = .ok (.istore 5, 2) := by decide +kernel
theorem dX3_joinsHolding_6 : decode cX3_joinsHolding 6 = .ok (.iload 5, 2) := by decide +kernel
theorem dX3_joinsHolding_8 : decode cX3_joinsHolding 8 = .ok (.aload_n 0, 1) := by decide +kernel
theorem dX3_joinsHolding_9 : decode cX3_joinsHolding 9 = .ok (.getfield 50, 3) := by decide +kernel
theorem dX3_joinsHolding_12 : decode cX3_joinsHolding 12 = .ok (.if_icmp .ge 48, 3) := by decide +kernel
theorem dX3_joinsHolding_15 : decode cX3_joinsHolding 15 = .ok (.iload_n 2, 1) := by decide +kernel
theorem dX3_joinsHolding_16 : decode cX3_joinsHolding 16 = .ok (.iload 5, 2) := by decide +kernel
theorem dX3_joinsHolding_18 : decode cX3_joinsHolding 18 = .ok (.ishr, 1) := by decide +kernel
theorem dX3_joinsHolding_19 : decode cX3_joinsHolding 19 = .ok (.iconst 1, 1) := by decide +kernel
theorem dX3_joinsHolding_20 : decode cX3_joinsHolding 20 = .ok (.iand, 1) := by decide +kernel
theorem dX3_joinsHolding_21 : decode cX3_joinsHolding 21 = .ok (.ifCond .ne 33, 3) := by decide +kernel
theorem dX3_joinsHolding_24 : decode cX3_joinsHolding 24 = .ok (.aload_n 0, 1) := by decide +kernel
theorem dX3_joinsHolding_25 : decode cX3_joinsHolding 25 = .ok (.getfield 41, 3) := by decide +kernel
theorem dX3_joinsHolding_28 : decode cX3_joinsHolding 28 = .ok (.iload 5, 2) := by decide +kernel
theorem dX3_joinsHolding_30 : decode cX3_joinsHolding 30 = .ok (.iaload, 1) := by decide +kernel
theorem dX3_joinsHolding_31 : decode cX3_joinsHolding 31 = .ok (.iload_n 3, 1) := by decide +kernel
theorem dX3_joinsHolding_32 : decode cX3_joinsHolding 32 = .ok (.if_icmp .lt 22, 3) := by decide +kernel
theorem dX3_joinsHolding_35 : decode cX3_joinsHolding 35 = .ok (.aload_n 0, 1) := by decide +kernel
theorem dX3_joinsHolding_36 : decode cX3_joinsHolding 36 = .ok (.iload 5, 2) := by decide +kernel
theorem dX3_joinsHolding_38 : decode cX3_joinsHolding 38 = .ok (.invokevirtual 69, 3) := by decide +kernel
theorem dX3_joinsHolding_41 : decode cX3_joinsHolding 41 = .ok (.iload_n 1, 1) := by decide +kernel
theorem dX3_joinsHolding_42 : decode cX3_joinsHolding 42 = .ok (.if_icmp .ne 12, 3) := by decide +kernel
theorem dX3_joinsHolding_45 : decode cX3_joinsHolding 45 = .ok (.iload 4, 2) := by decide +kernel
theorem dX3_joinsHolding_47 : decode cX3_joinsHolding 47 = .ok (.iconst 1, 1) := by decide +kernel
theorem dX3_joinsHolding_48 : decode cX3_joinsHolding 48 = .ok (.iload 5, 2) := by decide +kernel
theorem dX3_joinsHolding_50 : decode cX3_joinsHolding 50 = .ok (.ishl, 1) := by decide +kernel
theorem dX3_joinsHolding_51 : decode cX3_joinsHolding 51 = .ok (.ior, 1) := by decide +kernel
theorem dX3_joinsHolding_52 : decode cX3_joinsHolding 52 = .ok (.istore 4, 2) := by decide +kernel
theorem dX3_joinsHolding_54 : decode cX3_joinsHolding 54 = .ok (.iinc 5 1, 3) := by decide +kernel
theorem dX3_joinsHolding_57 : decode cX3_joinsHolding 57 = .ok (.goto (-51), 3) := by decide +kernel
theorem dX3_joinsHolding_60 : decode cX3_joinsHolding 60 = .ok (.iload 4, 2) := by decide +kernel
theorem dX3_joinsHolding_62 : decode cX3_joinsHolding 62 = .ok (.ireturn, 1) := by decide +kernel
theorem dX3_fewestOut_0 : decode cX3_fewestOut 0 = .ok (.aload_n 0, 1) := by decide +kernel
theorem dX3_fewestOut_1 : decode cX3_fewestOut 1 = .ok (.iload_n 1, 1) := by decide +kernel
theorem dX3_fewestOut_2 : decode cX3_fewestOut 2 = .ok (.invokevirtual 73, 3) := by decide +kernel
theorem dX3_fewestOut_5 : decode cX3_fewestOut 5 = .ok (.iload_n 2, 1) := by decide +kernel
theorem dX3_fewestOut_6 : decode cX3_fewestOut 6 = .ok (.isub, 1) := by decide +kernel
theorem dX3_fewestOut_7 : decode cX3_fewestOut 7 = .ok (.istore_n 3, 1) := by decide +kernel
theorem dX3_fewestOut_8 : decode cX3_fewestOut 8 = .ok (.iload_n 1, 1) := by decide +kernel
theorem dX3_fewestOut_9 : decode cX3_fewestOut 9 = .ok (.istore 4, 2) := by decide +kernel
theorem dX3_fewestOut_11 : decode cX3_fewestOut 11 = .ok (.iload_n 1, 1) := by decide +kernel
theorem dX3_fewestOut_12 : decode cX3_fewestOut 12 = .ok (.invokestatic 76, 3) := by decide +kernel
theorem dX3_fewestOut_15 : decode cX3_fewestOut 15 = .ok (.istore 5, 2) := by decide +kernel
theorem dX3_fewestOut_17 : decode cX3_fewestOut 17 = .ok (.aload_n 0, 1) := by decide +kernel
theorem dX3_fewestOut_18 : decode cX3_fewestOut 18 = .ok (.iload_n 1, 1) := by decide +kernel
theorem dX3_fewestOut_19 : decode cX3_fewestOut 19 = .ok (.invokevirtual 73, 3) := by decide +kernel
theorem dX3_fewestOut_22 : decode cX3_fewestOut 22 = .ok (.istore 6, 2) := by decide +kernel
theorem dX3_fewestOut_24 : decode cX3_fewestOut 24 = .ok (.iconst 0, 1) := by decide +kernel
theorem dX3_fewestOut_25 : decode cX3_fewestOut 25 = .ok (.istore 7, 2) := by decide +kernel
theorem dX3_fewestOut_27 : decode cX3_fewestOut 27 = .ok (.iload 7, 2) := by decide +kernel
theorem dX3_fewestOut_29 : decode cX3_fewestOut 29 = .ok (.iconst 1, 1) := by decide +kernel
theorem dX3_fewestOut_30 : decode cX3_fewestOut 30 = .ok (.aload_n 0, 1) := by decide +kernel
theorem dX3_fewestOut_31 : decode cX3_fewestOut 31 = .ok (.getfield 47, 3) := by decide +kernel
theorem dX3_fewestOut_34 : decode cX3_fewestOut 34 = .ok (.ishl, 1) := by decide +kernel
theorem dX3_fewestOut_35 : decode cX3_fewestOut 35 = .ok (.if_icmp .ge 75, 3) := by decide +kernel
theorem dX3_fewestOut_38 : decode cX3_fewestOut 38 = .ok (.iload 7, 2) := by decide +kernel
theorem dX3_fewestOut_40 : decode cX3_fewestOut 40 = .ok (.invokestatic 76, 3) := by decide +kernel
theorem dX3_fewestOut_43 : decode cX3_fewestOut 43 = .ok (.istore 8, 2) := by decide +kernel
theorem dX3_fewestOut_45 : decode cX3_fewestOut 45 = .ok (.iload 7, 2) := by decide +kernel
theorem dX3_fewestOut_47 : decode cX3_fewestOut 47 = .ok (.iload_n 1, 1) := by decide +kernel
theorem dX3_fewestOut_48 : decode cX3_fewestOut 48 = .ok (.iconst (-1), 1) := by decide +kernel
theorem dX3_fewestOut_49 : decode cX3_fewestOut 49 = .ok (.ixor, 1) := by decide +kernel
theorem dX3_fewestOut_50 : decode cX3_fewestOut 50 = .ok (.iand, 1) := by decide +kernel
theorem dX3_fewestOut_51 : decode cX3_fewestOut 51 = .ok (.ifCond .ne 53, 3) := by decide +kernel
theorem dX3_fewestOut_54 : decode cX3_fewestOut 54 = .ok (.iload 8, 2) := by decide +kernel
theorem dX3_fewestOut_56 : decode cX3_fewestOut 56 = .ok (.iload 5, 2) := by decide +kernel
theorem dX3_fewestOut_58 : decode cX3_fewestOut 58 = .ok (.if_icmp .le 6, 3) := by decide +kernel
theorem dX3_fewestOut_61 : decode cX3_fewestOut 61 = .ok (.goto 43, 3) := by decide +kernel
theorem dX3_fewestOut_64 : decode cX3_fewestOut 64 = .ok (.aload_n 0, 1) := by decide +kernel
theorem dX3_fewestOut_65 : decode cX3_fewestOut 65 = .ok (.iload 7, 2) := by decide +kernel
theorem dX3_fewestOut_67 : decode cX3_fewestOut 67 = .ok (.invokevirtual 73, 3) := by decide +kernel
theorem dX3_fewestOut_70 : decode cX3_fewestOut 70 = .ok (.istore 9, 2) := by decide +kernel
theorem dX3_fewestOut_72 : decode cX3_fewestOut 72 = .ok (.iload 9, 2) := by decide +kernel
theorem dX3_fewestOut_74 : decode cX3_fewestOut 74 = .ok (.iload_n 3, 1) := by decide +kernel
theorem dX3_fewestOut_75 : decode cX3_fewestOut 75 = .ok (.if_icmp .lt 29, 3) := by decide +kernel
theorem dX3_fewestOut_78 : decode cX3_fewestOut 78 = .ok (.iload 8, 2) := by decide +kernel
theorem dX3_fewestOut_80 : decode cX3_fewestOut 80 = .ok (.iload 5, 2) := by decide +kernel
theorem dX3_fewestOut_82 : decode cX3_fewestOut 82 = .ok (.if_icmp .lt 10, 3) := by decide +kernel
theorem dX3_fewestOut_85 : decode cX3_fewestOut 85 = .ok (.iload 9, 2) := by decide +kernel
theorem dX3_fewestOut_87 : decode cX3_fewestOut 87 = .ok (.iload 6, 2) := by decide +kernel
theorem dX3_fewestOut_89 : decode cX3_fewestOut 89 = .ok (.if_icmp .ge 15, 3) := by decide +kernel
theorem dX3_fewestOut_92 : decode cX3_fewestOut 92 = .ok (.iload 7, 2) := by decide +kernel
theorem dX3_fewestOut_94 : decode cX3_fewestOut 94 = .ok (.istore 4, 2) := by decide +kernel
theorem dX3_fewestOut_96 : decode cX3_fewestOut 96 = .ok (.iload 8, 2) := by decide +kernel
theorem dX3_fewestOut_98 : decode cX3_fewestOut 98 = .ok (.istore 5, 2) := by decide +kernel
theorem dX3_fewestOut_100 : decode cX3_fewestOut 100 = .ok (.iload 9, 2) := by decide +kernel
theorem dX3_fewestOut_102 : decode cX3_fewestOut 102 = .ok (.istore 6, 2) := by decide +kernel
theorem dX3_fewestOut_104 : decode cX3_fewestOut 104 = .ok (.iinc 7 1, 3) := by decide +kernel
theorem dX3_fewestOut_107 : decode cX3_fewestOut 107 = .ok (.goto (-80), 3) := by decide +kernel
theorem dX3_fewestOut_110 : decode cX3_fewestOut 110 = .ok (.iload 4, 2) := by decide +kernel
theorem dX3_fewestOut_112 : decode cX3_fewestOut 112 = .ok (.ireturn, 1) := by decide +kernel
theorem dX3_read_0 : decode cX3_read 0 = .ok (.aload_n 0, 1) := by decide +kernel
theorem dX3_read_1 : decode cX3_read 1 = .ok (.invokevirtual 81, 3) := by decide +kernel
theorem dX3_read_4 : decode cX3_read 4 = .ok (.aload_n 1, 1) := by decide +kernel
theorem dX3_read_5 : decode cX3_read 5 = .ok (.sipush 900, 3) := by decide +kernel
theorem dX3_read_8 : decode cX3_read 8 = .ok (.invokevirtual 84, 3) := by decide +kernel
theorem dX3_read_11 : decode cX3_read 11 = .ok (.iconst 0, 1) := by decide +kernel
theorem dX3_read_12 : decode cX3_read 12 = .ok (.istore_n 2, 1) := by decide +kernel
theorem dX3_read_13 : decode cX3_read 13 = .ok (.iload_n 2, 1) := by decide +kernel
theorem dX3_read_14 : decode cX3_read 14 = .ok (.bipush 33, 2) := by decide +kernel
theorem dX3_read_16 : decode cX3_read 16 = .ok (.if_icmp .gt 26, 3) := by decide +kernel
theorem dX3_read_19 : decode cX3_read 19 = .ok (.aload_n 1, 1) := by decide +kernel
theorem dX3_read_20 : decode cX3_read 20 = .ok (.invokevirtual 90, 3) := by decide +kernel
theorem dX3_read_23 : decode cX3_read 23 = .ok (.ifCond .ne 19, 3) := by decide +kernel
theorem dX3_read_26 : decode cX3_read 26 = .ok (.aload_n 0, 1) := by decide +kernel
theorem dX3_read_27 : decode cX3_read 27 = .ok (.aload_n 1, 1) := by decide +kernel
theorem dX3_read_28 : decode cX3_read 28 = .ok (.invokevirtual 94, 3) := by decide +kernel
theorem dX3_read_31 : decode cX3_read 31 = .ok (.ifCond .ne 5, 3) := by decide +kernel
theorem dX3_read_34 : decode cX3_read 34 = .ok (.iconst (-1), 1) := by decide +kernel
theorem dX3_read_35 : decode cX3_read 35 = .ok (.ireturn, 1) := by decide +kernel
theorem dX3_read_36 : decode cX3_read 36 = .ok (.iinc 2 1, 3) := by decide +kernel
theorem dX3_read_39 : decode cX3_read 39 = .ok (.goto (-26), 3) := by decide +kernel
theorem dX3_read_42 : decode cX3_read 42 = .ok (.aload_n 1, 1) := by decide +kernel
theorem dX3_read_43 : decode cX3_read 43 = .ok (.invokevirtual 98, 3) := by decide +kernel
theorem dX3_read_46 : decode cX3_read 46 = .ok (.pop, 1) := by decide +kernel
theorem dX3_read_47 : decode cX3_read 47 = .ok (.iload_n 2, 1) := by decide +kernel
theorem dX3_read_48 : decode cX3_read 48 = .ok (.ireturn, 1) := by decide +kernel
theorem dX3_readLine_0 : decode cX3_readLine 0 = .ok (.aload_n 1, 1) := by decide +kernel
theorem dX3_readLine_1 : decode cX3_readLine 1 = .ok (.invokevirtual 101, 3) := by decide +kernel
theorem dX3_readLine_4 : decode cX3_readLine 4 = .ok (.tableswitch 151 0 4 #[36, 59, 82, 105, 128], 36) := by decide +kernel
theorem dX3_readLine_40 : decode cX3_readLine 40 = .ok (.aload_n 0, 1) := by decide +kernel
theorem dX3_readLine_41 : decode cX3_readLine 41 = .ok (.aload_n 1, 1) := by decide +kernel
theorem dX3_readLine_42 : decode cX3_readLine 42 = .ok (.invokevirtual 105, 3) := by decide +kernel
theorem dX3_readLine_45 : decode cX3_readLine 45 = .ok (.ifCond .eq 16, 3) := by decide +kernel
theorem dX3_readLine_48 : decode cX3_readLine 48 = .ok (.aload_n 1, 1) := by decide +kernel
theorem dX3_readLine_49 : decode cX3_readLine 49 = .ok (.bipush 59, 2) := by decide +kernel
theorem dX3_readLine_51 : decode cX3_readLine 51 = .ok (.invokevirtual 108, 3) := by decide +kernel
theorem dX3_readLine_54 : decode cX3_readLine 54 = .ok (.ifCond .eq 7, 3) := by decide +kernel
theorem dX3_readLine_57 : decode cX3_readLine 57 = .ok (.iconst 1, 1) := by decide +kernel
theorem dX3_readLine_58 : decode cX3_readLine 58 = .ok (.goto 4, 3) := by decide +kernel
theorem dX3_readLine_61 : decode cX3_readLine 61 = .ok (.iconst 0, 1) := by decide +kernel
theorem dX3_readLine_62 : decode cX3_readLine 62 = .ok (.ireturn, 1) := by decide +kernel
theorem dX3_readLine_63 : decode cX3_readLine 63 = .ok (.aload_n 0, 1) := by decide +kernel
theorem dX3_readLine_64 : decode cX3_readLine 64 = .ok (.aload_n 1, 1) := by decide +kernel
theorem dX3_readLine_65 : decode cX3_readLine 65 = .ok (.invokevirtual 112, 3) := by decide +kernel
theorem dX3_readLine_68 : decode cX3_readLine 68 = .ok (.ifCond .eq 16, 3) := by decide +kernel
theorem dX3_readLine_71 : decode cX3_readLine 71 = .ok (.aload_n 1, 1) := by decide +kernel
theorem dX3_readLine_72 : decode cX3_readLine 72 = .ok (.bipush 59, 2) := by decide +kernel
theorem dX3_readLine_74 : decode cX3_readLine 74 = .ok (.invokevirtual 108, 3) := by decide +kernel
theorem dX3_readLine_77 : decode cX3_readLine 77 = .ok (.ifCond .eq 7, 3) := by decide +kernel
theorem dX3_readLine_80 : decode cX3_readLine 80 = .ok (.iconst 1, 1) := by decide +kernel
theorem dX3_readLine_81 : decode cX3_readLine 81 = .ok (.goto 4, 3) := by decide +kernel
theorem dX3_readLine_84 : decode cX3_readLine 84 = .ok (.iconst 0, 1) := by decide +kernel
theorem dX3_readLine_85 : decode cX3_readLine 85 = .ok (.ireturn, 1) := by decide +kernel
theorem dX3_readLine_86 : decode cX3_readLine 86 = .ok (.aload_n 0, 1) := by decide +kernel
theorem dX3_readLine_87 : decode cX3_readLine 87 = .ok (.aload_n 1, 1) := by decide +kernel
theorem dX3_readLine_88 : decode cX3_readLine 88 = .ok (.invokevirtual 115, 3) := by decide +kernel
theorem dX3_readLine_91 : decode cX3_readLine 91 = .ok (.ifCond .eq 16, 3) := by decide +kernel
theorem dX3_readLine_94 : decode cX3_readLine 94 = .ok (.aload_n 1, 1) := by decide +kernel
theorem dX3_readLine_95 : decode cX3_readLine 95 = .ok (.bipush 59, 2) := by decide +kernel
theorem dX3_readLine_97 : decode cX3_readLine 97 = .ok (.invokevirtual 108, 3) := by decide +kernel
theorem dX3_readLine_100 : decode cX3_readLine 100 = .ok (.ifCond .eq 7, 3) := by decide +kernel
theorem dX3_readLine_103 : decode cX3_readLine 103 = .ok (.iconst 1, 1) := by decide +kernel
theorem dX3_readLine_104 : decode cX3_readLine 104 = .ok (.goto 4, 3) := by decide +kernel
theorem dX3_readLine_107 : decode cX3_readLine 107 = .ok (.iconst 0, 1) := by decide +kernel
theorem dX3_readLine_108 : decode cX3_readLine 108 = .ok (.ireturn, 1) := by decide +kernel
theorem dX3_readLine_109 : decode cX3_readLine 109 = .ok (.aload_n 0, 1) := by decide +kernel
theorem dX3_readLine_110 : decode cX3_readLine 110 = .ok (.aload_n 1, 1) := by decide +kernel
theorem dX3_readLine_111 : decode cX3_readLine 111 = .ok (.invokevirtual 118, 3) := by decide +kernel
theorem dX3_readLine_114 : decode cX3_readLine 114 = .ok (.ifCond .eq 16, 3) := by decide +kernel
theorem dX3_readLine_117 : decode cX3_readLine 117 = .ok (.aload_n 1, 1) := by decide +kernel
theorem dX3_readLine_118 : decode cX3_readLine 118 = .ok (.bipush 59, 2) := by decide +kernel
theorem dX3_readLine_120 : decode cX3_readLine 120 = .ok (.invokevirtual 108, 3) := by decide +kernel
theorem dX3_readLine_123 : decode cX3_readLine 123 = .ok (.ifCond .eq 7, 3) := by decide +kernel
theorem dX3_readLine_126 : decode cX3_readLine 126 = .ok (.iconst 1, 1) := by decide +kernel
theorem dX3_readLine_127 : decode cX3_readLine 127 = .ok (.goto 4, 3) := by decide +kernel
theorem dX3_readLine_130 : decode cX3_readLine 130 = .ok (.iconst 0, 1) := by decide +kernel
theorem dX3_readLine_131 : decode cX3_readLine 131 = .ok (.ireturn, 1) := by decide +kernel
theorem dX3_readLine_132 : decode cX3_readLine 132 = .ok (.aload_n 0, 1) := by decide +kernel
theorem dX3_readLine_133 : decode cX3_readLine 133 = .ok (.aload_n 1, 1) := by decide +kernel
theorem dX3_readLine_134 : decode cX3_readLine 134 = .ok (.invokevirtual 121, 3) := by decide +kernel
theorem dX3_readLine_137 : decode cX3_readLine 137 = .ok (.ifCond .eq 16, 3) := by decide +kernel
theorem dX3_readLine_140 : decode cX3_readLine 140 = .ok (.aload_n 1, 1) := by decide +kernel
theorem dX3_readLine_141 : decode cX3_readLine 141 = .ok (.bipush 59, 2) := by decide +kernel
theorem dX3_readLine_143 : decode cX3_readLine 143 = .ok (.invokevirtual 108, 3) := by decide +kernel
theorem dX3_readLine_146 : decode cX3_readLine 146 = .ok (.ifCond .eq 7, 3) := by decide +kernel
theorem dX3_readLine_149 : decode cX3_readLine 149 = .ok (.iconst 1, 1) := by decide +kernel
theorem dX3_readLine_150 : decode cX3_readLine 150 = .ok (.goto 4, 3) := by decide +kernel
theorem dX3_readLine_153 : decode cX3_readLine 153 = .ok (.iconst 0, 1) := by decide +kernel
theorem dX3_readLine_154 : decode cX3_readLine 154 = .ok (.ireturn, 1) := by decide +kernel
theorem dX3_readLine_155 : decode cX3_readLine 155 = .ok (.aload_n 1, 1) := by decide +kernel
theorem dX3_readLine_156 : decode cX3_readLine 156 = .ok (.iconst 1, 1) := by decide +kernel
theorem dX3_readLine_157 : decode cX3_readLine 157 = .ok (.invokevirtual 124, 3) := by decide +kernel
theorem dX3_readLine_160 : decode cX3_readLine 160 = .ok (.ireturn, 1) := by decide +kernel
theorem dX3_readFalls_0 : decode cX3_readFalls 0 = .ok (.aload_n 0, 1) := by decide +kernel
theorem dX3_readFalls_1 : decode cX3_readFalls 1 = .ok (.getfield 53, 3) := by decide +kernel
theorem dX3_readFalls_4 : decode cX3_readFalls 4 = .ok (.ifCond .eq 9, 3) := by decide +kernel
theorem dX3_readFalls_7 : decode cX3_readFalls 7 = .ok (.aload_n 1, 1) := by decide +kernel
theorem dX3_readFalls_8 : decode cX3_readFalls 8 = .ok (.iconst 3, 1) := by decide +kernel
theorem dX3_readFalls_9 : decode cX3_readFalls 9 = .ok (.invokevirtual 124, 3) := by decide +kernel
theorem dX3_readFalls_12 : decode cX3_readFalls 12 = .ok (.ireturn, 1) := by decide +kernel
theorem dX3_readFalls_13 : decode cX3_readFalls 13 = .ok (.aload_n 1, 1) := by decide +kernel
theorem dX3_readFalls_14 : decode cX3_readFalls 14 = .ok (.invokevirtual 127, 3) := by decide +kernel
theorem dX3_readFalls_17 : decode cX3_readFalls 17 = .ok (.aload_n 0, 1) := by decide +kernel
theorem dX3_readFalls_18 : decode cX3_readFalls 18 = .ok (.iconst 1, 1) := by decide +kernel
theorem dX3_readFalls_19 : decode cX3_readFalls 19 = .ok (.putfield 53, 3) := by decide +kernel
theorem dX3_readFalls_22 : decode cX3_readFalls 22 = .ok (.aload_n 0, 1) := by decide +kernel
theorem dX3_readFalls_23 : decode cX3_readFalls 23 = .ok (.aload_n 1, 1) := by decide +kernel
theorem dX3_readFalls_24 : decode cX3_readFalls 24 = .ok (.iconst 1, 1) := by decide +kernel
theorem dX3_readFalls_25 : decode cX3_readFalls 25 = .ok (.bipush 30, 2) := by decide +kernel
theorem dX3_readFalls_27 : decode cX3_readFalls 27 = .ok (.invokevirtual 130, 3) := by decide +kernel
theorem dX3_readFalls_30 : decode cX3_readFalls 30 = .ok (.putfield 9, 3) := by decide +kernel
theorem dX3_readFalls_33 : decode cX3_readFalls 33 = .ok (.aload_n 0, 1) := by decide +kernel
theorem dX3_readFalls_34 : decode cX3_readFalls 34 = .ok (.getfield 9, 3) := by decide +kernel
theorem dX3_readFalls_37 : decode cX3_readFalls 37 = .ok (.iconst (-1), 1) := by decide +kernel
theorem dX3_readFalls_38 : decode cX3_readFalls 38 = .ok (.if_icmp .ne 5, 3) := by decide +kernel
theorem dX3_readFalls_41 : decode cX3_readFalls 41 = .ok (.iconst 0, 1) := by decide +kernel
theorem dX3_readFalls_42 : decode cX3_readFalls 42 = .ok (.ireturn, 1) := by decide +kernel
theorem dX3_readFalls_43 : decode cX3_readFalls 43 = .ok (.aload_n 0, 1) := by decide +kernel
theorem dX3_readFalls_44 : decode cX3_readFalls 44 = .ok (.aload_n 1, 1) := by decide +kernel
theorem dX3_readFalls_45 : decode cX3_readFalls 45 = .ok (.iconst 1, 1) := by decide +kernel
theorem dX3_readFalls_46 : decode cX3_readFalls 46 = .ok (.bipush 99, 2) := by decide +kernel
theorem dX3_readFalls_48 : decode cX3_readFalls 48 = .ok (.invokevirtual 130, 3) := by decide +kernel
theorem dX3_readFalls_51 : decode cX3_readFalls 51 = .ok (.putfield 15, 3) := by decide +kernel
theorem dX3_readFalls_54 : decode cX3_readFalls 54 = .ok (.aload_n 0, 1) := by decide +kernel
theorem dX3_readFalls_55 : decode cX3_readFalls 55 = .ok (.getfield 15, 3) := by decide +kernel
theorem dX3_readFalls_58 : decode cX3_readFalls 58 = .ok (.iconst (-1), 1) := by decide +kernel
theorem dX3_readFalls_59 : decode cX3_readFalls 59 = .ok (.if_icmp .eq 7, 3) := by decide +kernel
theorem dX3_readFalls_62 : decode cX3_readFalls 62 = .ok (.iconst 1, 1) := by decide +kernel
theorem dX3_readFalls_63 : decode cX3_readFalls 63 = .ok (.goto 4, 3) := by decide +kernel
theorem dX3_readFalls_66 : decode cX3_readFalls 66 = .ok (.iconst 0, 1) := by decide +kernel
theorem dX3_readFalls_67 : decode cX3_readFalls 67 = .ok (.ireturn, 1) := by decide +kernel
theorem dX3_readRain_0 : decode cX3_readRain 0 = .ok (.aload_n 0, 1) := by decide +kernel
theorem dX3_readRain_1 : decode cX3_readRain 1 = .ok (.getfield 57, 3) := by decide +kernel
theorem dX3_readRain_4 : decode cX3_readRain 4 = .ok (.ifCond .le 9, 3) := by decide +kernel
theorem dX3_readRain_7 : decode cX3_readRain 7 = .ok (.aload_n 1, 1) := by decide +kernel
theorem dX3_readRain_8 : decode cX3_readRain 8 = .ok (.iconst 3, 1) := by decide +kernel
theorem dX3_readRain_9 : decode cX3_readRain 9 = .ok (.invokevirtual 124, 3) := by decide +kernel
theorem dX3_readRain_12 : decode cX3_readRain 12 = .ok (.ireturn, 1) := by decide +kernel
theorem dX3_readRain_13 : decode cX3_readRain 13 = .ok (.aload_n 1, 1) := by decide +kernel
theorem dX3_readRain_14 : decode cX3_readRain 14 = .ok (.invokevirtual 127, 3) := by decide +kernel
theorem dX3_readRain_17 : decode cX3_readRain 17 = .ok (.aload_n 0, 1) := by decide +kernel
theorem dX3_readRain_18 : decode cX3_readRain 18 = .ok (.aload_n 1, 1) := by decide +kernel
theorem dX3_readRain_19 : decode cX3_readRain 19 = .ok (.iconst 1, 1) := by decide +kernel
theorem dX3_readRain_20 : decode cX3_readRain 20 = .ok (.bipush 9, 2) := by decide +kernel
theorem dX3_readRain_22 : decode cX3_readRain 22 = .ok (.invokevirtual 130, 3) := by decide +kernel
theorem dX3_readRain_25 : decode cX3_readRain 25 = .ok (.putfield 57, 3) := by decide +kernel
theorem dX3_readRain_28 : decode cX3_readRain 28 = .ok (.aload_n 0, 1) := by decide +kernel
theorem dX3_readRain_29 : decode cX3_readRain 29 = .ok (.getfield 57, 3) := by decide +kernel
theorem dX3_readRain_32 : decode cX3_readRain 32 = .ok (.iconst (-1), 1) := by decide +kernel
theorem dX3_readRain_33 : decode cX3_readRain 33 = .ok (.if_icmp .ne 5, 3) := by decide +kernel
theorem dX3_readRain_36 : decode cX3_readRain 36 = .ok (.iconst 0, 1) := by decide +kernel
theorem dX3_readRain_37 : decode cX3_readRain 37 = .ok (.ireturn, 1) := by decide +kernel
theorem dX3_readRain_38 : decode cX3_readRain 38 = .ok (.aload_n 0, 1) := by decide +kernel
theorem dX3_readRain_39 : decode cX3_readRain 39 = .ok (.aload_n 1, 1) := by decide +kernel
theorem dX3_readRain_40 : decode cX3_readRain 40 = .ok (.iconst 1, 1) := by decide +kernel
theorem dX3_readRain_41 : decode cX3_readRain 41 = .ok (.bipush 99, 2) := by decide +kernel
theorem dX3_readRain_43 : decode cX3_readRain 43 = .ok (.invokevirtual 130, 3) := by decide +kernel
theorem dX3_readRain_46 : decode cX3_readRain 46 = .ok (.putfield 60, 3) := by decide +kernel
theorem dX3_readRain_49 : decode cX3_readRain 49 = .ok (.aload_n 0, 1) := by decide +kernel
theorem dX3_readRain_50 : decode cX3_readRain 50 = .ok (.getfield 60, 3) := by decide +kernel
theorem dX3_readRain_53 : decode cX3_readRain 53 = .ok (.iconst (-1), 1) := by decide +kernel
theorem dX3_readRain_54 : decode cX3_readRain 54 = .ok (.if_icmp .eq 7, 3) := by decide +kernel
theorem dX3_readRain_57 : decode cX3_readRain 57 = .ok (.iconst 1, 1) := by decide +kernel
theorem dX3_readRain_58 : decode cX3_readRain 58 = .ok (.goto 4, 3) := by decide +kernel
theorem dX3_readRain_61 : decode cX3_readRain 61 = .ok (.iconst 0, 1) := by decide +kernel
theorem dX3_readRain_62 : decode cX3_readRain 62 = .ok (.ireturn, 1) := by decide +kernel
theorem dX3_readPerson_0 : decode cX3_readPerson 0 = .ok (.aload_n 0, 1) := by decide +kernel
theorem dX3_readPerson_1 : decode cX3_readPerson 1 = .ok (.getfield 44, 3) := by decide +kernel
theorem dX3_readPerson_4 : decode cX3_readPerson 4 = .ok (.iconst 5, 1) := by decide +kernel
theorem dX3_readPerson_5 : decode cX3_readPerson 5 = .ok (.if_icmp .lt 9, 3) := by decide +kernel
theorem dX3_readPerson_8 : decode cX3_readPerson 8 = .ok (.aload_n 1, 1) := by decide +kernel
theorem dX3_readPerson_9 : decode cX3_readPerson 9 = .ok (.iconst 4, 1) := by decide +kernel
theorem dX3_readPerson_10 : decode cX3_readPerson 10 = .ok (.invokevirtual 124, 3) := by decide +kernel
theorem dX3_readPerson_13 : decode cX3_readPerson 13 = .ok (.ireturn, 1) := by decide +kernel
theorem dX3_readPerson_14 : decode cX3_readPerson 14 = .ok (.aload_n 1, 1) := by decide +kernel
theorem dX3_readPerson_15 : decode cX3_readPerson 15 = .ok (.invokevirtual 127, 3) := by decide +kernel
theorem dX3_readPerson_18 : decode cX3_readPerson 18 = .ok (.aload_n 0, 1) := by decide +kernel
theorem dX3_readPerson_19 : decode cX3_readPerson 19 = .ok (.aload_n 1, 1) := by decide +kernel
theorem dX3_readPerson_20 : decode cX3_readPerson 20 = .ok (.invokevirtual 134, 3) := by decide +kernel
theorem dX3_readPerson_23 : decode cX3_readPerson 23 = .ok (.ifCond .ne 5, 3) := by decide +kernel
theorem dX3_readPerson_26 : decode cX3_readPerson 26 = .ok (.iconst 0, 1) := by decide +kernel
theorem dX3_readPerson_27 : decode cX3_readPerson 27 = .ok (.ireturn, 1) := by decide +kernel
theorem dX3_readPerson_28 : decode cX3_readPerson 28 = .ok (.aload_n 0, 1) := by decide +kernel
theorem dX3_readPerson_29 : decode cX3_readPerson 29 = .ok (.getfield 22, 3) := by decide +kernel
theorem dX3_readPerson_32 : decode cX3_readPerson 32 = .ok (.aload_n 0, 1) := by decide +kernel
theorem dX3_readPerson_33 : decode cX3_readPerson 33 = .ok (.getfield 44, 3) := by decide +kernel
theorem dX3_readPerson_36 : decode cX3_readPerson 36 = .ok (.aload_n 1, 1) := by decide +kernel
theorem dX3_readPerson_37 : decode cX3_readPerson 37 = .ok (.invokevirtual 137, 3) := by decide +kernel
theorem dX3_readPerson_40 : decode cX3_readPerson 40 = .ok (.lastore, 1) := by decide +kernel
theorem dX3_readPerson_41 : decode cX3_readPerson 41 = .ok (.aload_n 1, 1) := by decide +kernel
theorem dX3_readPerson_42 : decode cX3_readPerson 42 = .ok (.invokevirtual 127, 3) := by decide +kernel
theorem dX3_readPerson_45 : decode cX3_readPerson 45 = .ok (.aload_n 0, 1) := by decide +kernel
theorem dX3_readPerson_46 : decode cX3_readPerson 46 = .ok (.getfield 18, 3) := by decide +kernel
theorem dX3_readPerson_49 : decode cX3_readPerson 49 = .ok (.aload_n 0, 1) := by decide +kernel
theorem dX3_readPerson_50 : decode cX3_readPerson 50 = .ok (.getfield 44, 3) := by decide +kernel
theorem dX3_readPerson_53 : decode cX3_readPerson 53 = .ok (.aload_n 1, 1) := by decide +kernel
theorem dX3_readPerson_54 : decode cX3_readPerson 54 = .ok (.iconst 0, 1) := by decide +kernel
theorem dX3_readPerson_55 : decode cX3_readPerson 55 = .ok (.bipush 9, 2) := by decide +kernel
theorem dX3_readPerson_57 : decode cX3_readPerson 57 = .ok (.invokevirtual 130, 3) := by decide +kernel
theorem dX3_readPerson_60 : decode cX3_readPerson 60 = .ok (.iastore, 1) := by decide +kernel
theorem dX3_readPerson_61 : decode cX3_readPerson 61 = .ok (.aload_n 0, 1) := by decide +kernel
theorem dX3_readPerson_62 : decode cX3_readPerson 62 = .ok (.getfield 18, 3) := by decide +kernel
theorem dX3_readPerson_65 : decode cX3_readPerson 65 = .ok (.aload_n 0, 1) := by decide +kernel
theorem dX3_readPerson_66 : decode cX3_readPerson 66 = .ok (.getfield 44, 3) := by decide +kernel
theorem dX3_readPerson_69 : decode cX3_readPerson 69 = .ok (.iaload, 1) := by decide +kernel
theorem dX3_readPerson_70 : decode cX3_readPerson 70 = .ok (.iconst (-1), 1) := by decide +kernel
theorem dX3_readPerson_71 : decode cX3_readPerson 71 = .ok (.if_icmp .ne 5, 3) := by decide +kernel
theorem dX3_readPerson_74 : decode cX3_readPerson 74 = .ok (.iconst 0, 1) := by decide +kernel
theorem dX3_readPerson_75 : decode cX3_readPerson 75 = .ok (.ireturn, 1) := by decide +kernel
theorem dX3_readPerson_76 : decode cX3_readPerson 76 = .ok (.aload_n 0, 1) := by decide +kernel
theorem dX3_readPerson_77 : decode cX3_readPerson 77 = .ok (.dup, 1) := by decide +kernel
theorem dX3_readPerson_78 : decode cX3_readPerson 78 = .ok (.getfield 44, 3) := by decide +kernel
theorem dX3_readPerson_81 : decode cX3_readPerson 81 = .ok (.iconst 1, 1) := by decide +kernel
theorem dX3_readPerson_82 : decode cX3_readPerson 82 = .ok (.iadd, 1) := by decide +kernel
theorem dX3_readPerson_83 : decode cX3_readPerson 83 = .ok (.putfield 44, 3) := by decide +kernel
theorem dX3_readPerson_86 : decode cX3_readPerson 86 = .ok (.iconst 1, 1) := by decide +kernel
theorem dX3_readPerson_87 : decode cX3_readPerson 87 = .ok (.ireturn, 1) := by decide +kernel
theorem dX3_readItem_0 : decode cX3_readItem 0 = .ok (.aload_n 0, 1) := by decide +kernel
theorem dX3_readItem_1 : decode cX3_readItem 1 = .ok (.getfield 47, 3) := by decide +kernel
theorem dX3_readItem_4 : decode cX3_readItem 4 = .ok (.bipush 10, 2) := by decide +kernel
theorem dX3_readItem_6 : decode cX3_readItem 6 = .ok (.if_icmp .lt 9, 3) := by decide +kernel
theorem dX3_readItem_9 : decode cX3_readItem 9 = .ok (.aload_n 1, 1) := by decide +kernel
theorem dX3_readItem_10 : decode cX3_readItem 10 = .ok (.iconst 4, 1) := by decide +kernel
theorem dX3_readItem_11 : decode cX3_readItem 11 = .ok (.invokevirtual 124, 3) := by decide +kernel
theorem dX3_readItem_14 : decode cX3_readItem 14 = .ok (.ireturn, 1) := by decide +kernel
theorem dX3_readItem_15 : decode cX3_readItem 15 = .ok (.aload_n 1, 1) := by decide +kernel
theorem dX3_readItem_16 : decode cX3_readItem 16 = .ok (.invokevirtual 127, 3) := by decide +kernel
theorem dX3_readItem_19 : decode cX3_readItem 19 = .ok (.aload_n 0, 1) := by decide +kernel
theorem dX3_readItem_20 : decode cX3_readItem 20 = .ok (.aload_n 1, 1) := by decide +kernel
theorem dX3_readItem_21 : decode cX3_readItem 21 = .ok (.invokevirtual 134, 3) := by decide +kernel
theorem dX3_readItem_24 : decode cX3_readItem 24 = .ok (.ifCond .ne 5, 3) := by decide +kernel
theorem dX3_readItem_27 : decode cX3_readItem 27 = .ok (.iconst 0, 1) := by decide +kernel
theorem dX3_readItem_28 : decode cX3_readItem 28 = .ok (.ireturn, 1) := by decide +kernel
theorem dX3_readItem_29 : decode cX3_readItem 29 = .ok (.aload_n 0, 1) := by decide +kernel
theorem dX3_readItem_30 : decode cX3_readItem 30 = .ok (.getfield 26, 3) := by decide +kernel
theorem dX3_readItem_33 : decode cX3_readItem 33 = .ok (.aload_n 0, 1) := by decide +kernel
theorem dX3_readItem_34 : decode cX3_readItem 34 = .ok (.getfield 47, 3) := by decide +kernel
theorem dX3_readItem_37 : decode cX3_readItem 37 = .ok (.aload_n 1, 1) := by decide +kernel
theorem dX3_readItem_38 : decode cX3_readItem 38 = .ok (.invokevirtual 137, 3) := by decide +kernel
theorem dX3_readItem_41 : decode cX3_readItem 41 = .ok (.lastore, 1) := by decide +kernel
theorem dX3_readItem_42 : decode cX3_readItem 42 = .ok (.aload_n 1, 1) := by decide +kernel
theorem dX3_readItem_43 : decode cX3_readItem 43 = .ok (.invokevirtual 127, 3) := by decide +kernel
theorem dX3_readItem_46 : decode cX3_readItem 46 = .ok (.aload_n 0, 1) := by decide +kernel
theorem dX3_readItem_47 : decode cX3_readItem 47 = .ok (.getfield 29, 3) := by decide +kernel
theorem dX3_readItem_50 : decode cX3_readItem 50 = .ok (.aload_n 0, 1) := by decide +kernel
theorem dX3_readItem_51 : decode cX3_readItem 51 = .ok (.getfield 47, 3) := by decide +kernel
theorem dX3_readItem_54 : decode cX3_readItem 54 = .ok (.aload_n 0, 1) := by decide +kernel
theorem dX3_readItem_55 : decode cX3_readItem 55 = .ok (.aload_n 1, 1) := by decide +kernel
theorem dX3_readItem_56 : decode cX3_readItem 56 = .ok (.invokevirtual 141, 3) := by decide +kernel
theorem dX3_readItem_59 : decode cX3_readItem 59 = .ok (.iastore, 1) := by decide +kernel
theorem dX3_readItem_60 : decode cX3_readItem 60 = .ok (.aload_n 0, 1) := by decide +kernel
theorem dX3_readItem_61 : decode cX3_readItem 61 = .ok (.getfield 29, 3) := by decide +kernel
theorem dX3_readItem_64 : decode cX3_readItem 64 = .ok (.aload_n 0, 1) := by decide +kernel
theorem dX3_readItem_65 : decode cX3_readItem 65 = .ok (.getfield 47, 3) := by decide +kernel
theorem dX3_readItem_68 : decode cX3_readItem 68 = .ok (.iaload, 1) := by decide +kernel
theorem dX3_readItem_69 : decode cX3_readItem 69 = .ok (.iconst (-1), 1) := by decide +kernel
theorem dX3_readItem_70 : decode cX3_readItem 70 = .ok (.if_icmp .ne 5, 3) := by decide +kernel
theorem dX3_readItem_73 : decode cX3_readItem 73 = .ok (.iconst 0, 1) := by decide +kernel
theorem dX3_readItem_74 : decode cX3_readItem 74 = .ok (.ireturn, 1) := by decide +kernel
theorem dX3_readItem_75 : decode cX3_readItem 75 = .ok (.aload_n 0, 1) := by decide +kernel
theorem dX3_readItem_76 : decode cX3_readItem 76 = .ok (.getfield 32, 3) := by decide +kernel
theorem dX3_readItem_79 : decode cX3_readItem 79 = .ok (.aload_n 0, 1) := by decide +kernel
theorem dX3_readItem_80 : decode cX3_readItem 80 = .ok (.getfield 47, 3) := by decide +kernel
theorem dX3_readItem_83 : decode cX3_readItem 83 = .ok (.aload_n 1, 1) := by decide +kernel
theorem dX3_readItem_84 : decode cX3_readItem 84 = .ok (.iconst 1, 1) := by decide +kernel
theorem dX3_readItem_85 : decode cX3_readItem 85 = .ok (.bipush 20, 2) := by decide +kernel
theorem dX3_readItem_87 : decode cX3_readItem 87 = .ok (.invokevirtual 130, 3) := by decide +kernel
theorem dX3_readItem_90 : decode cX3_readItem 90 = .ok (.iastore, 1) := by decide +kernel
theorem dX3_readItem_91 : decode cX3_readItem 91 = .ok (.aload_n 0, 1) := by decide +kernel
theorem dX3_readItem_92 : decode cX3_readItem 92 = .ok (.getfield 32, 3) := by decide +kernel
theorem dX3_readItem_95 : decode cX3_readItem 95 = .ok (.aload_n 0, 1) := by decide +kernel
theorem dX3_readItem_96 : decode cX3_readItem 96 = .ok (.getfield 47, 3) := by decide +kernel
theorem dX3_readItem_99 : decode cX3_readItem 99 = .ok (.iaload, 1) := by decide +kernel
theorem dX3_readItem_100 : decode cX3_readItem 100 = .ok (.iconst (-1), 1) := by decide +kernel
theorem dX3_readItem_101 : decode cX3_readItem 101 = .ok (.if_icmp .ne 5, 3) := by decide +kernel
theorem dX3_readItem_104 : decode cX3_readItem 104 = .ok (.iconst 0, 1) := by decide +kernel
theorem dX3_readItem_105 : decode cX3_readItem 105 = .ok (.ireturn, 1) := by decide +kernel
theorem dX3_readItem_106 : decode cX3_readItem 106 = .ok (.aload_n 0, 1) := by decide +kernel
theorem dX3_readItem_107 : decode cX3_readItem 107 = .ok (.dup, 1) := by decide +kernel
theorem dX3_readItem_108 : decode cX3_readItem 108 = .ok (.getfield 47, 3) := by decide +kernel
theorem dX3_readItem_111 : decode cX3_readItem 111 = .ok (.iconst 1, 1) := by decide +kernel
theorem dX3_readItem_112 : decode cX3_readItem 112 = .ok (.iadd, 1) := by decide +kernel
theorem dX3_readItem_113 : decode cX3_readItem 113 = .ok (.putfield 47, 3) := by decide +kernel
theorem dX3_readItem_116 : decode cX3_readItem 116 = .ok (.iconst 1, 1) := by decide +kernel
theorem dX3_readItem_117 : decode cX3_readItem 117 = .ok (.ireturn, 1) := by decide +kernel
theorem dX3_readJoin_0 : decode cX3_readJoin 0 = .ok (.aload_n 0, 1) := by decide +kernel
theorem dX3_readJoin_1 : decode cX3_readJoin 1 = .ok (.getfield 50, 3) := by decide +kernel
theorem dX3_readJoin_4 : decode cX3_readJoin 4 = .ok (.bipush 16, 2) := by decide +kernel
theorem dX3_readJoin_6 : decode cX3_readJoin 6 = .ok (.if_icmp .lt 9, 3) := by decide +kernel
theorem dX3_readJoin_9 : decode cX3_readJoin 9 = .ok (.aload_n 1, 1) := by decide +kernel
theorem dX3_readJoin_10 : decode cX3_readJoin 10 = .ok (.iconst 4, 1) := by decide +kernel
theorem dX3_readJoin_11 : decode cX3_readJoin 11 = .ok (.invokevirtual 124, 3) := by decide +kernel
theorem dX3_readJoin_14 : decode cX3_readJoin 14 = .ok (.ireturn, 1) := by decide +kernel
theorem dX3_readJoin_15 : decode cX3_readJoin 15 = .ok (.aload_n 1, 1) := by decide +kernel
theorem dX3_readJoin_16 : decode cX3_readJoin 16 = .ok (.invokevirtual 127, 3) := by decide +kernel
theorem dX3_readJoin_19 : decode cX3_readJoin 19 = .ok (.aload_n 0, 1) := by decide +kernel
theorem dX3_readJoin_20 : decode cX3_readJoin 20 = .ok (.aload_n 1, 1) := by decide +kernel
theorem dX3_readJoin_21 : decode cX3_readJoin 21 = .ok (.invokevirtual 145, 3) := by decide +kernel
theorem dX3_readJoin_24 : decode cX3_readJoin 24 = .ok (.istore_n 2, 1) := by decide +kernel
theorem dX3_readJoin_25 : decode cX3_readJoin 25 = .ok (.iload_n 2, 1) := by decide +kernel
theorem dX3_readJoin_26 : decode cX3_readJoin 26 = .ok (.iconst (-1), 1) := by decide +kernel
theorem dX3_readJoin_27 : decode cX3_readJoin 27 = .ok (.if_icmp .ne 5, 3) := by decide +kernel
theorem dX3_readJoin_30 : decode cX3_readJoin 30 = .ok (.iconst 0, 1) := by decide +kernel
theorem dX3_readJoin_31 : decode cX3_readJoin 31 = .ok (.ireturn, 1) := by decide +kernel
theorem dX3_readJoin_32 : decode cX3_readJoin 32 = .ok (.aload_n 1, 1) := by decide +kernel
theorem dX3_readJoin_33 : decode cX3_readJoin 33 = .ok (.invokevirtual 148, 3) := by decide +kernel
theorem dX3_readJoin_36 : decode cX3_readJoin 36 = .ok (.ifCond .eq 14, 3) := by decide +kernel
theorem dX3_readJoin_39 : decode cX3_readJoin 39 = .ok (.aload_n 0, 1) := by decide +kernel
theorem dX3_readJoin_40 : decode cX3_readJoin 40 = .ok (.aload_n 1, 1) := by decide +kernel
theorem dX3_readJoin_41 : decode cX3_readJoin 41 = .ok (.invokevirtual 137, 3) := by decide +kernel
theorem dX3_readJoin_44 : decode cX3_readJoin 44 = .ok (.invokevirtual 151, 3) := by decide +kernel
theorem dX3_readJoin_47 : decode cX3_readJoin 47 = .ok (.goto 4, 3) := by decide +kernel
theorem dX3_readJoin_50 : decode cX3_readJoin 50 = .ok (.iconst (-1), 1) := by decide +kernel
theorem dX3_readJoin_51 : decode cX3_readJoin 51 = .ok (.istore_n 3, 1) := by decide +kernel
theorem dX3_readJoin_52 : decode cX3_readJoin 52 = .ok (.iload_n 3, 1) := by decide +kernel
theorem dX3_readJoin_53 : decode cX3_readJoin 53 = .ok (.iconst (-1), 1) := by decide +kernel
theorem dX3_readJoin_54 : decode cX3_readJoin 54 = .ok (.if_icmp .eq 18, 3) := by decide +kernel
theorem dX3_readJoin_57 : decode cX3_readJoin 57 = .ok (.aload_n 0, 1) := by decide +kernel
theorem dX3_readJoin_58 : decode cX3_readJoin 58 = .ok (.iload_n 2, 1) := by decide +kernel
theorem dX3_readJoin_59 : decode cX3_readJoin 59 = .ok (.iload_n 3, 1) := by decide +kernel
theorem dX3_readJoin_60 : decode cX3_readJoin 60 = .ok (.invokevirtual 155, 3) := by decide +kernel
theorem dX3_readJoin_63 : decode cX3_readJoin 63 = .ok (.ifCond .ne 9, 3) := by decide +kernel
theorem dX3_readJoin_66 : decode cX3_readJoin 66 = .ok (.aload_n 1, 1) := by decide +kernel
theorem dX3_readJoin_67 : decode cX3_readJoin 67 = .ok (.iconst 3, 1) := by decide +kernel
theorem dX3_readJoin_68 : decode cX3_readJoin 68 = .ok (.invokevirtual 124, 3) := by decide +kernel
theorem dX3_readJoin_71 : decode cX3_readJoin 71 = .ok (.ireturn, 1) := by decide +kernel
theorem dX3_readJoin_72 : decode cX3_readJoin 72 = .ok (.aload_n 0, 1) := by decide +kernel
theorem dX3_readJoin_73 : decode cX3_readJoin 73 = .ok (.aload_n 1, 1) := by decide +kernel
theorem dX3_readJoin_74 : decode cX3_readJoin 74 = .ok (.invokevirtual 145, 3) := by decide +kernel
theorem dX3_readJoin_77 : decode cX3_readJoin 77 = .ok (.iconst (-1), 1) := by decide +kernel
theorem dX3_readJoin_78 : decode cX3_readJoin 78 = .ok (.if_icmp .ne 5, 3) := by decide +kernel
theorem dX3_readJoin_81 : decode cX3_readJoin 81 = .ok (.iconst 0, 1) := by decide +kernel
theorem dX3_readJoin_82 : decode cX3_readJoin 82 = .ok (.ireturn, 1) := by decide +kernel
theorem dX3_readJoin_83 : decode cX3_readJoin 83 = .ok (.aload_n 0, 1) := by decide +kernel
theorem dX3_readJoin_84 : decode cX3_readJoin 84 = .ok (.getfield 35, 3) := by decide +kernel
theorem dX3_readJoin_87 : decode cX3_readJoin 87 = .ok (.aload_n 0, 1) := by decide +kernel
theorem dX3_readJoin_88 : decode cX3_readJoin 88 = .ok (.getfield 50, 3) := by decide +kernel
theorem dX3_readJoin_91 : decode cX3_readJoin 91 = .ok (.iload_n 2, 1) := by decide +kernel
theorem dX3_readJoin_92 : decode cX3_readJoin 92 = .ok (.iastore, 1) := by decide +kernel
theorem dX3_readJoin_93 : decode cX3_readJoin 93 = .ok (.aload_n 0, 1) := by decide +kernel
theorem dX3_readJoin_94 : decode cX3_readJoin 94 = .ok (.getfield 38, 3) := by decide +kernel
theorem dX3_readJoin_97 : decode cX3_readJoin 97 = .ok (.aload_n 0, 1) := by decide +kernel
theorem dX3_readJoin_98 : decode cX3_readJoin 98 = .ok (.getfield 50, 3) := by decide +kernel
theorem dX3_readJoin_101 : decode cX3_readJoin 101 = .ok (.iload_n 3, 1) := by decide +kernel
theorem dX3_readJoin_102 : decode cX3_readJoin 102 = .ok (.iastore, 1) := by decide +kernel
theorem dX3_readJoin_103 : decode cX3_readJoin 103 = .ok (.aload_n 0, 1) := by decide +kernel
theorem dX3_readJoin_104 : decode cX3_readJoin 104 = .ok (.getfield 41, 3) := by decide +kernel
theorem dX3_readJoin_107 : decode cX3_readJoin 107 = .ok (.aload_n 0, 1) := by decide +kernel
theorem dX3_readJoin_108 : decode cX3_readJoin 108 = .ok (.getfield 50, 3) := by decide +kernel
theorem dX3_readJoin_111 : decode cX3_readJoin 111 = .ok (.aload_n 1, 1) := by decide +kernel
theorem dX3_readJoin_112 : decode cX3_readJoin 112 = .ok (.iconst 1, 1) := by decide +kernel
theorem dX3_readJoin_113 : decode cX3_readJoin 113 = .ok (.bipush 30, 2) := by decide +kernel
theorem dX3_readJoin_115 : decode cX3_readJoin 115 = .ok (.invokevirtual 130, 3) := by decide +kernel
theorem dX3_readJoin_118 : decode cX3_readJoin 118 = .ok (.iastore, 1) := by decide +kernel
theorem dX3_readJoin_119 : decode cX3_readJoin 119 = .ok (.aload_n 0, 1) := by decide +kernel
theorem dX3_readJoin_120 : decode cX3_readJoin 120 = .ok (.getfield 41, 3) := by decide +kernel
theorem dX3_readJoin_123 : decode cX3_readJoin 123 = .ok (.aload_n 0, 1) := by decide +kernel
theorem dX3_readJoin_124 : decode cX3_readJoin 124 = .ok (.getfield 50, 3) := by decide +kernel
theorem dX3_readJoin_127 : decode cX3_readJoin 127 = .ok (.iaload, 1) := by decide +kernel
theorem dX3_readJoin_128 : decode cX3_readJoin 128 = .ok (.iconst (-1), 1) := by decide +kernel
theorem dX3_readJoin_129 : decode cX3_readJoin 129 = .ok (.if_icmp .ne 5, 3) := by decide +kernel
theorem dX3_readJoin_132 : decode cX3_readJoin 132 = .ok (.iconst 0, 1) := by decide +kernel
theorem dX3_readJoin_133 : decode cX3_readJoin 133 = .ok (.ireturn, 1) := by decide +kernel
theorem dX3_readJoin_134 : decode cX3_readJoin 134 = .ok (.aload_n 0, 1) := by decide +kernel
theorem dX3_readJoin_135 : decode cX3_readJoin 135 = .ok (.dup, 1) := by decide +kernel
theorem dX3_readJoin_136 : decode cX3_readJoin 136 = .ok (.getfield 50, 3) := by decide +kernel
theorem dX3_readJoin_139 : decode cX3_readJoin 139 = .ok (.iconst 1, 1) := by decide +kernel
theorem dX3_readJoin_140 : decode cX3_readJoin 140 = .ok (.iadd, 1) := by decide +kernel
theorem dX3_readJoin_141 : decode cX3_readJoin 141 = .ok (.putfield 50, 3) := by decide +kernel
theorem dX3_readJoin_144 : decode cX3_readJoin 144 = .ok (.iconst 1, 1) := by decide +kernel
theorem dX3_readJoin_145 : decode cX3_readJoin 145 = .ok (.ireturn, 1) := by decide +kernel
theorem dX3_mayBeJoined_0 : decode cX3_mayBeJoined 0 = .ok (.iload_n 1, 1) := by decide +kernel
theorem dX3_mayBeJoined_1 : decode cX3_mayBeJoined 1 = .ok (.iload_n 2, 1) := by decide +kernel
theorem dX3_mayBeJoined_2 : decode cX3_mayBeJoined 2 = .ok (.if_icmp .eq 36, 3) := by decide +kernel
theorem dX3_mayBeJoined_5 : decode cX3_mayBeJoined 5 = .ok (.aload_n 0, 1) := by decide +kernel
theorem dX3_mayBeJoined_6 : decode cX3_mayBeJoined 6 = .ok (.getfield 29, 3) := by decide +kernel
theorem dX3_mayBeJoined_9 : decode cX3_mayBeJoined 9 = .ok (.iload_n 1, 1) := by decide +kernel
theorem dX3_mayBeJoined_10 : decode cX3_mayBeJoined 10 = .ok (.iaload, 1) := by decide +kernel
theorem dX3_mayBeJoined_11 : decode cX3_mayBeJoined 11 = .ok (.aload_n 0, 1) := by decide +kernel
theorem dX3_mayBeJoined_12 : decode cX3_mayBeJoined 12 = .ok (.getfield 29, 3) := by decide +kernel
theorem dX3_mayBeJoined_15 : decode cX3_mayBeJoined 15 = .ok (.iload_n 2, 1) := by decide +kernel
theorem dX3_mayBeJoined_16 : decode cX3_mayBeJoined 16 = .ok (.iaload, 1) := by decide +kernel
theorem dX3_mayBeJoined_17 : decode cX3_mayBeJoined 17 = .ok (.if_icmp .ne 21, 3) := by decide +kernel
theorem dX3_mayBeJoined_20 : decode cX3_mayBeJoined 20 = .ok (.aload_n 0, 1) := by decide +kernel
theorem dX3_mayBeJoined_21 : decode cX3_mayBeJoined 21 = .ok (.iload_n 1, 1) := by decide +kernel
theorem dX3_mayBeJoined_22 : decode cX3_mayBeJoined 22 = .ok (.invokevirtual 159, 3) := by decide +kernel
theorem dX3_mayBeJoined_25 : decode cX3_mayBeJoined 25 = .ok (.aload_n 0, 1) := by decide +kernel
theorem dX3_mayBeJoined_26 : decode cX3_mayBeJoined 26 = .ok (.iload_n 2, 1) := by decide +kernel
theorem dX3_mayBeJoined_27 : decode cX3_mayBeJoined 27 = .ok (.invokevirtual 159, 3) := by decide +kernel
theorem dX3_mayBeJoined_30 : decode cX3_mayBeJoined 30 = .ok (.iand, 1) := by decide +kernel
theorem dX3_mayBeJoined_31 : decode cX3_mayBeJoined 31 = .ok (.ifCond .ne 7, 3) := by decide +kernel
theorem dX3_mayBeJoined_34 : decode cX3_mayBeJoined 34 = .ok (.iconst 1, 1) := by decide +kernel
theorem dX3_mayBeJoined_35 : decode cX3_mayBeJoined 35 = .ok (.goto 4, 3) := by decide +kernel
theorem dX3_mayBeJoined_38 : decode cX3_mayBeJoined 38 = .ok (.iconst 0, 1) := by decide +kernel
theorem dX3_mayBeJoined_39 : decode cX3_mayBeJoined 39 = .ok (.ireturn, 1) := by decide +kernel
theorem dX3_isNewName_0 : decode cX3_isNewName 0 = .ok (.aload_n 1, 1) := by decide +kernel
theorem dX3_isNewName_1 : decode cX3_isNewName 1 = .ok (.invokevirtual 148, 3) := by decide +kernel
theorem dX3_isNewName_4 : decode cX3_isNewName 4 = .ok (.ifCond .ne 9, 3) := by decide +kernel
theorem dX3_isNewName_7 : decode cX3_isNewName 7 = .ok (.aload_n 1, 1) := by decide +kernel
theorem dX3_isNewName_8 : decode cX3_isNewName 8 = .ok (.iconst 1, 1) := by decide +kernel
theorem dX3_isNewName_9 : decode cX3_isNewName 9 = .ok (.invokevirtual 124, 3) := by decide +kernel
theorem dX3_isNewName_12 : decode cX3_isNewName 12 = .ok (.ireturn, 1) := by decide +kernel
theorem dX3_isNewName_13 : decode cX3_isNewName 13 = .ok (.aload_n 0, 1) := by decide +kernel
theorem dX3_isNewName_14 : decode cX3_isNewName 14 = .ok (.aload_n 1, 1) := by decide +kernel
theorem dX3_isNewName_15 : decode cX3_isNewName 15 = .ok (.invokevirtual 137, 3) := by decide +kernel
theorem dX3_isNewName_18 : decode cX3_isNewName 18 = .ok (.invokevirtual 162, 3) := by decide +kernel
theorem dX3_isNewName_21 : decode cX3_isNewName 21 = .ok (.iconst (-1), 1) := by decide +kernel
theorem dX3_isNewName_22 : decode cX3_isNewName 22 = .ok (.if_icmp .ne 15, 3) := by decide +kernel
theorem dX3_isNewName_25 : decode cX3_isNewName 25 = .ok (.aload_n 0, 1) := by decide +kernel
theorem dX3_isNewName_26 : decode cX3_isNewName 26 = .ok (.aload_n 1, 1) := by decide +kernel
theorem dX3_isNewName_27 : decode cX3_isNewName 27 = .ok (.invokevirtual 137, 3) := by decide +kernel
theorem dX3_isNewName_30 : decode cX3_isNewName 30 = .ok (.invokevirtual 151, 3) := by decide +kernel
theorem dX3_isNewName_33 : decode cX3_isNewName 33 = .ok (.iconst (-1), 1) := by decide +kernel
theorem dX3_isNewName_34 : decode cX3_isNewName 34 = .ok (.if_icmp .eq 9, 3) := by decide +kernel
theorem dX3_isNewName_37 : decode cX3_isNewName 37 = .ok (.aload_n 1, 1) := by decide +kernel
theorem dX3_isNewName_38 : decode cX3_isNewName 38 = .ok (.iconst 3, 1) := by decide +kernel
theorem dX3_isNewName_39 : decode cX3_isNewName 39 = .ok (.invokevirtual 124, 3) := by decide +kernel
theorem dX3_isNewName_42 : decode cX3_isNewName 42 = .ok (.ireturn, 1) := by decide +kernel
theorem dX3_isNewName_43 : decode cX3_isNewName 43 = .ok (.iconst 1, 1) := by decide +kernel
theorem dX3_isNewName_44 : decode cX3_isNewName 44 = .ok (.ireturn, 1) := by decide +kernel
theorem dX3_takePerson_0 : decode cX3_takePerson 0 = .ok (.aload_n 1, 1) := by decide +kernel
theorem dX3_takePerson_1 : decode cX3_takePerson 1 = .ok (.aload_n 1, 1) := by decide +kernel
theorem dX3_takePerson_2 : decode cX3_takePerson 2 = .ok (.invokevirtual 148, 3) := by decide +kernel
theorem dX3_takePerson_5 : decode cX3_takePerson 5 = .ok (.ifCond .eq 14, 3) := by decide +kernel
theorem dX3_takePerson_8 : decode cX3_takePerson 8 = .ok (.aload_n 0, 1) := by decide +kernel
theorem dX3_takePerson_9 : decode cX3_takePerson 9 = .ok (.aload_n 1, 1) := by decide +kernel
theorem dX3_takePerson_10 : decode cX3_takePerson 10 = .ok (.invokevirtual 137, 3) := by decide +kernel
theorem dX3_takePerson_13 : decode cX3_takePerson 13 = .ok (.invokevirtual 162, 3) := by decide +kernel
theorem dX3_takePerson_16 : decode cX3_takePerson 16 = .ok (.goto 4, 3) := by decide +kernel
theorem dX3_takePerson_19 : decode cX3_takePerson 19 = .ok (.iconst (-1), 1) := by decide +kernel
theorem dX3_takePerson_20 : decode cX3_takePerson 20 = .ok (.invokestatic 165, 3) := by decide +kernel
theorem dX3_takePerson_23 : decode cX3_takePerson 23 = .ok (.ireturn, 1) := by decide +kernel
theorem dX3_takeItem_0 : decode cX3_takeItem 0 = .ok (.aload_n 1, 1) := by decide +kernel
theorem dX3_takeItem_1 : decode cX3_takeItem 1 = .ok (.aload_n 1, 1) := by decide +kernel
theorem dX3_takeItem_2 : decode cX3_takeItem 2 = .ok (.invokevirtual 148, 3) := by decide +kernel
theorem dX3_takeItem_5 : decode cX3_takeItem 5 = .ok (.ifCond .eq 14, 3) := by decide +kernel
theorem dX3_takeItem_8 : decode cX3_takeItem 8 = .ok (.aload_n 0, 1) := by decide +kernel
theorem dX3_takeItem_9 : decode cX3_takeItem 9 = .ok (.aload_n 1, 1) := by decide +kernel
theorem dX3_takeItem_10 : decode cX3_takeItem 10 = .ok (.invokevirtual 137, 3) := by decide +kernel
theorem dX3_takeItem_13 : decode cX3_takeItem 13 = .ok (.invokevirtual 151, 3) := by decide +kernel
theorem dX3_takeItem_16 : decode cX3_takeItem 16 = .ok (.goto 4, 3) := by decide +kernel
theorem dX3_takeItem_19 : decode cX3_takeItem 19 = .ok (.iconst (-1), 1) := by decide +kernel
theorem dX3_takeItem_20 : decode cX3_takeItem 20 = .ok (.invokestatic 165, 3) := by decide +kernel
theorem dX3_takeItem_23 : decode cX3_takeItem 23 = .ok (.ireturn, 1) := by decide +kernel
theorem dX3_taken_0 : decode cX3_taken 0 = .ok (.iload_n 1, 1) := by decide +kernel
theorem dX3_taken_1 : decode cX3_taken 1 = .ok (.iconst (-1), 1) := by decide +kernel
theorem dX3_taken_2 : decode cX3_taken 2 = .ok (.if_icmp .eq 9, 3) := by decide +kernel
theorem dX3_taken_5 : decode cX3_taken 5 = .ok (.aload_n 0, 1) := by decide +kernel
theorem dX3_taken_6 : decode cX3_taken 6 = .ok (.invokevirtual 127, 3) := by decide +kernel
theorem dX3_taken_9 : decode cX3_taken 9 = .ok (.iload_n 1, 1) := by decide +kernel
theorem dX3_taken_10 : decode cX3_taken 10 = .ok (.ireturn, 1) := by decide +kernel
theorem dX3_taken_11 : decode cX3_taken 11 = .ok (.aload_n 0, 1) := by decide +kernel
theorem dX3_taken_12 : decode cX3_taken 12 = .ok (.aload_n 0, 1) := by decide +kernel
theorem dX3_taken_13 : decode cX3_taken 13 = .ok (.invokevirtual 148, 3) := by decide +kernel
theorem dX3_taken_16 : decode cX3_taken 16 = .ok (.ifCond .eq 7, 3) := by decide +kernel
theorem dX3_taken_19 : decode cX3_taken 19 = .ok (.iconst 3, 1) := by decide +kernel
theorem dX3_taken_20 : decode cX3_taken 20 = .ok (.goto 4, 3) := by decide +kernel
theorem dX3_taken_23 : decode cX3_taken 23 = .ok (.iconst 1, 1) := by decide +kernel
theorem dX3_taken_24 : decode cX3_taken 24 = .ok (.invokevirtual 124, 3) := by decide +kernel
theorem dX3_taken_27 : decode cX3_taken 27 = .ok (.pop, 1) := by decide +kernel
theorem dX3_taken_28 : decode cX3_taken 28 = .ok (.iconst (-1), 1) := by decide +kernel
theorem dX3_taken_29 : decode cX3_taken 29 = .ok (.ireturn, 1) := by decide +kernel
theorem dX3_personNamed_0 : decode cX3_personNamed 0 = .ok (.iconst 0, 1) := by decide +kernel
theorem dX3_personNamed_1 : decode cX3_personNamed 1 = .ok (.istore_n 3, 1) := by decide +kernel
theorem dX3_personNamed_2 : decode cX3_personNamed 2 = .ok (.iload_n 3, 1) := by decide +kernel
theorem dX3_personNamed_3 : decode cX3_personNamed 3 = .ok (.aload_n 0, 1) := by decide +kernel
theorem dX3_personNamed_4 : decode cX3_personNamed 4 = .ok (.getfield 44, 3) := by decide +kernel
theorem dX3_personNamed_7 : decode cX3_personNamed 7 = .ok (.if_icmp .ge 22, 3) := by decide +kernel
theorem dX3_personNamed_10 : decode cX3_personNamed 10 = .ok (.aload_n 0, 1) := by decide +kernel
theorem dX3_personNamed_11 : decode cX3_personNamed 11 = .ok (.getfield 22, 3) := by decide +kernel
theorem dX3_personNamed_14 : decode cX3_personNamed 14 = .ok (.iload_n 3, 1) := by decide +kernel
theorem dX3_personNamed_15 : decode cX3_personNamed 15 = .ok (.laload, 1) := by decide +kernel
theorem dX3_personNamed_16 : decode cX3_personNamed 16 = .ok (.lload_n 1, 1) := by decide +kernel
theorem dX3_personNamed_17 : decode cX3_personNamed 17 = .ok (.lcmp, 1) := by decide +kernel
theorem dX3_personNamed_18 : decode cX3_personNamed 18 = .ok (.ifCond .ne 5, 3) := by decide +kernel
theorem dX3_personNamed_21 : decode cX3_personNamed 21 = .ok (.iload_n 3, 1) := by decide +kernel
theorem dX3_personNamed_22 : decode cX3_personNamed 22 = .ok (.ireturn, 1) := by decide +kernel
theorem dX3_personNamed_23 : decode cX3_personNamed 23 = .ok (.iinc 3 1, 3) := by decide +kernel
theorem dX3_personNamed_26 : decode cX3_personNamed 26 = .ok (.goto (-24), 3) := by decide +kernel
theorem dX3_personNamed_29 : decode cX3_personNamed 29 = .ok (.iconst (-1), 1) := by decide +kernel
theorem dX3_personNamed_30 : decode cX3_personNamed 30 = .ok (.ireturn, 1) := by decide +kernel
theorem dX3_itemNamed_0 : decode cX3_itemNamed 0 = .ok (.iconst 0, 1) := by decide +kernel
theorem dX3_itemNamed_1 : decode cX3_itemNamed 1 = .ok (.istore_n 3, 1) := by decide +kernel
theorem dX3_itemNamed_2 : decode cX3_itemNamed 2 = .ok (.iload_n 3, 1) := by decide +kernel
theorem dX3_itemNamed_3 : decode cX3_itemNamed 3 = .ok (.aload_n 0, 1) := by decide +kernel
theorem dX3_itemNamed_4 : decode cX3_itemNamed 4 = .ok (.getfield 47, 3) := by decide +kernel
theorem dX3_itemNamed_7 : decode cX3_itemNamed 7 = .ok (.if_icmp .ge 22, 3) := by decide +kernel
theorem dX3_itemNamed_10 : decode cX3_itemNamed 10 = .ok (.aload_n 0, 1) := by decide +kernel
theorem dX3_itemNamed_11 : decode cX3_itemNamed 11 = .ok (.getfield 26, 3) := by decide +kernel
theorem dX3_itemNamed_14 : decode cX3_itemNamed 14 = .ok (.iload_n 3, 1) := by decide +kernel
theorem dX3_itemNamed_15 : decode cX3_itemNamed 15 = .ok (.laload, 1) := by decide +kernel
theorem dX3_itemNamed_16 : decode cX3_itemNamed 16 = .ok (.lload_n 1, 1) := by decide +kernel
theorem dX3_itemNamed_17 : decode cX3_itemNamed 17 = .ok (.lcmp, 1) := by decide +kernel
theorem dX3_itemNamed_18 : decode cX3_itemNamed 18 = .ok (.ifCond .ne 5, 3) := by decide +kernel
theorem dX3_itemNamed_21 : decode cX3_itemNamed 21 = .ok (.iload_n 3, 1) := by decide +kernel
theorem dX3_itemNamed_22 : decode cX3_itemNamed 22 = .ok (.ireturn, 1) := by decide +kernel
theorem dX3_itemNamed_23 : decode cX3_itemNamed 23 = .ok (.iinc 3 1, 3) := by decide +kernel
theorem dX3_itemNamed_26 : decode cX3_itemNamed 26 = .ok (.goto (-24), 3) := by decide +kernel
theorem dX3_itemNamed_29 : decode cX3_itemNamed 29 = .ok (.iconst (-1), 1) := by decide +kernel
theorem dX3_itemNamed_30 : decode cX3_itemNamed 30 = .ok (.ireturn, 1) := by decide +kernel
theorem dX4_init_0 : decode cX4_init 0 = .ok (.aload_n 0, 1) := by decide +kernel
theorem dX4_init_1 : decode cX4_init 1 = .ok (.invokespecial 3, 3) := by decide +kernel
theorem dX4_init_4 : decode cX4_init 4 = .ok (.aload_n 0, 1) := by decide +kernel
theorem dX4_init_5 : decode cX4_init 5 = .ok (.iconst 5, 1) := by decide +kernel
theorem dX4_init_6 : decode cX4_init 6 = .ok (.bipush 31, 2) := by decide +kernel
theorem dX4_init_8 : decode cX4_init 8 = .ok (.multianewarray 9 2, 4) := by decide +kernel
theorem dX4_init_12 : decode cX4_init 12 = .ok (.putfield 11, 3) := by decide +kernel
theorem dX4_init_15 : decode cX4_init 15 = .ok (.return_, 1) := by decide +kernel
theorem dX4_fill_0 : decode cX4_fill 0 = .ok (.iconst 0, 1) := by decide +kernel
theorem dX4_fill_1 : decode cX4_fill 1 = .ok (.istore 4, 2) := by decide +kernel
theorem dX4_fill_3 : decode cX4_fill 3 = .ok (.iload 4, 2) := by decide +kernel
theorem dX4_fill_5 : decode cX4_fill 5 = .ok (.aload_n 1, 1) := by decide +kernel
theorem dX4_fill_6 : decode cX4_fill 6 = .ok (.getfield 16, 3) := by decide +kernel
theorem dX4_fill_9 : decode cX4_fill 9 = .ok (.if_icmp .ge 111, 3) := by decide +kernel
theorem dX4_fill_12 : decode cX4_fill 12 = .ok (.aload_n 2, 1) := by decide +kernel
theorem dX4_fill_13 : decode cX4_fill 13 = .ok (.getfield 22, 3) := by decide +kernel
theorem dX4_fill_16 : decode cX4_fill 16 = .ok (.aload_n 1, 1) := by decide +kernel
theorem dX4_fill_17 : decode cX4_fill 17 = .ok (.iload 4, 2) := by decide +kernel
theorem dX4_fill_19 : decode cX4_fill 19 = .ok (.invokevirtual 27, 3) := by decide +kernel
theorem dX4_fill_22 : decode cX4_fill 22 = .ok (.iand, 1) := by decide +kernel
theorem dX4_fill_23 : decode cX4_fill 23 = .ok (.istore 5, 2) := by decide +kernel
theorem dX4_fill_25 : decode cX4_fill 25 = .ok (.iconst (-1), 1) := by decide +kernel
theorem dX4_fill_26 : decode cX4_fill 26 = .ok (.istore 6, 2) := by decide +kernel
theorem dX4_fill_28 : decode cX4_fill 28 = .ok (.iconst 1, 1) := by decide +kernel
theorem dX4_fill_29 : decode cX4_fill 29 = .ok (.istore 7, 2) := by decide +kernel
theorem dX4_fill_31 : decode cX4_fill 31 = .ok (.iload 7, 2) := by decide +kernel
theorem dX4_fill_33 : decode cX4_fill 33 = .ok (.bipush 30, 2) := by decide +kernel
theorem dX4_fill_35 : decode cX4_fill 35 = .ok (.if_icmp .gt 79, 3) := by decide +kernel
theorem dX4_fill_38 : decode cX4_fill 38 = .ok (.aload_n 2, 1) := by decide +kernel
theorem dX4_fill_39 : decode cX4_fill 39 = .ok (.aload_n 1, 1) := by decide +kernel
theorem dX4_fill_40 : decode cX4_fill 40 = .ok (.iload 4, 2) := by decide +kernel
theorem dX4_fill_42 : decode cX4_fill 42 = .ok (.iload 7, 2) := by decide +kernel
theorem dX4_fill_44 : decode cX4_fill 44 = .ok (.invokevirtual 31, 3) := by decide +kernel
theorem dX4_fill_47 : decode cX4_fill 47 = .ok (.istore 8, 2) := by decide +kernel
theorem dX4_fill_49 : decode cX4_fill 49 = .ok (.iload 8, 2) := by decide +kernel
theorem dX4_fill_51 : decode cX4_fill 51 = .ok (.iload 6, 2) := by decide +kernel
theorem dX4_fill_53 : decode cX4_fill 53 = .ok (.if_icmp .ne 28, 3) := by decide +kernel
theorem dX4_fill_56 : decode cX4_fill 56 = .ok (.aload_n 0, 1) := by decide +kernel
theorem dX4_fill_57 : decode cX4_fill 57 = .ok (.getfield 11, 3) := by decide +kernel
theorem dX4_fill_60 : decode cX4_fill 60 = .ok (.iload 4, 2) := by decide +kernel
theorem dX4_fill_62 : decode cX4_fill 62 = .ok (.aaload, 1) := by decide +kernel
theorem dX4_fill_63 : decode cX4_fill 63 = .ok (.iload 7, 2) := by decide +kernel
theorem dX4_fill_65 : decode cX4_fill 65 = .ok (.aload_n 0, 1) := by decide +kernel
theorem dX4_fill_66 : decode cX4_fill 66 = .ok (.getfield 11, 3) := by decide +kernel
theorem dX4_fill_69 : decode cX4_fill 69 = .ok (.iload 4, 2) := by decide +kernel
theorem dX4_fill_71 : decode cX4_fill 71 = .ok (.aaload, 1) := by decide +kernel
theorem dX4_fill_72 : decode cX4_fill 72 = .ok (.iload 7, 2) := by decide +kernel
theorem dX4_fill_74 : decode cX4_fill 74 = .ok (.iconst 1, 1) := by decide +kernel
theorem dX4_fill_75 : decode cX4_fill 75 = .ok (.isub, 1) := by decide +kernel
theorem dX4_fill_76 : decode cX4_fill 76 = .ok (.iaload, 1) := by decide +kernel
theorem dX4_fill_77 : decode cX4_fill 77 = .ok (.iastore, 1) := by decide +kernel
theorem dX4_fill_78 : decode cX4_fill 78 = .ok (.goto 30, 3) := by decide +kernel
theorem dX4_fill_81 : decode cX4_fill 81 = .ok (.aload_n 3, 1) := by decide +kernel
theorem dX4_fill_82 : decode cX4_fill 82 = .ok (.aload_n 1, 1) := by decide +kernel
theorem dX4_fill_83 : decode cX4_fill 83 = .ok (.iload 8, 2) := by decide +kernel
theorem dX4_fill_85 : decode cX4_fill 85 = .ok (.invokevirtual 35, 3) := by decide +kernel
theorem dX4_fill_88 : decode cX4_fill 88 = .ok (.aload_n 0, 1) := by decide +kernel
theorem dX4_fill_89 : decode cX4_fill 89 = .ok (.getfield 11, 3) := by decide +kernel
theorem dX4_fill_92 : decode cX4_fill 92 = .ok (.iload 4, 2) := by decide +kernel
theorem dX4_fill_94 : decode cX4_fill 94 = .ok (.aaload, 1) := by decide +kernel
theorem dX4_fill_95 : decode cX4_fill 95 = .ok (.iload 7, 2) := by decide +kernel
theorem dX4_fill_97 : decode cX4_fill 97 = .ok (.aload_n 3, 1) := by decide +kernel
theorem dX4_fill_98 : decode cX4_fill 98 = .ok (.iload 5, 2) := by decide +kernel
theorem dX4_fill_100 : decode cX4_fill 100 = .ok (.invokevirtual 41, 3) := by decide +kernel
theorem dX4_fill_103 : decode cX4_fill 103 = .ok (.iastore, 1) := by decide +kernel
theorem dX4_fill_104 : decode cX4_fill 104 = .ok (.iload 8, 2) := by decide +kernel
theorem dX4_fill_106 : decode cX4_fill 106 = .ok (.istore 6, 2) := by decide +kernel
theorem dX4_fill_108 : decode cX4_fill 108 = .ok (.iinc 7 1, 3) := by decide +kernel
theorem dX4_fill_111 : decode cX4_fill 111 = .ok (.goto (-80), 3) := by decide +kernel
theorem dX4_fill_114 : decode cX4_fill 114 = .ok (.iinc 4 1, 3) := by decide +kernel
theorem dX4_fill_117 : decode cX4_fill 117 = .ok (.goto (-114), 3) := by decide +kernel
theorem dX4_fill_120 : decode cX4_fill 120 = .ok (.return_, 1) := by decide +kernel
theorem dX4_agreeing_0 : decode cX4_agreeing 0 = .ok (.iconst 0, 1) := by decide +kernel
theorem dX4_agreeing_1 : decode cX4_agreeing 1 = .ok (.istore_n 3, 1) := by decide +kernel
theorem dX4_agreeing_2 : decode cX4_agreeing 2 = .ok (.iconst 1, 1) := by decide +kernel
theorem dX4_agreeing_3 : decode cX4_agreeing 3 = .ok (.istore 4, 2) := by decide +kernel
theorem dX4_agreeing_5 : decode cX4_agreeing 5 = .ok (.iload 4, 2) := by decide +kernel
theorem dX4_agreeing_7 : decode cX4_agreeing 7 = .ok (.bipush 30, 2) := by decide +kernel
theorem dX4_agreeing_9 : decode cX4_agreeing 9 = .ok (.if_icmp .gt 74, 3) := by decide +kernel
theorem dX4_agreeing_12 : decode cX4_agreeing 12 = .ok (.iconst 1, 1) := by decide +kernel
theorem dX4_agreeing_13 : decode cX4_agreeing 13 = .ok (.istore 5, 2) := by decide +kernel
theorem dX4_agreeing_15 : decode cX4_agreeing 15 = .ok (.iconst 0, 1) := by decide +kernel
theorem dX4_agreeing_16 : decode cX4_agreeing 16 = .ok (.istore 6, 2) := by decide +kernel
theorem dX4_agreeing_18 : decode cX4_agreeing 18 = .ok (.iload 6, 2) := by decide +kernel
theorem dX4_agreeing_20 : decode cX4_agreeing 20 = .ok (.iconst 1, 1) := by decide +kernel
theorem dX4_agreeing_21 : decode cX4_agreeing 21 = .ok (.iadd, 1) := by decide +kernel
theorem dX4_agreeing_22 : decode cX4_agreeing 22 = .ok (.iload_n 2, 1) := by decide +kernel
theorem dX4_agreeing_23 : decode cX4_agreeing 23 = .ok (.if_icmp .ge 42, 3) := by decide +kernel
theorem dX4_agreeing_26 : decode cX4_agreeing 26 = .ok (.iload 5, 2) := by decide +kernel
theorem dX4_agreeing_28 : decode cX4_agreeing 28 = .ok (.ifCond .eq 28, 3) := by decide +kernel
theorem dX4_agreeing_31 : decode cX4_agreeing 31 = .ok (.aload_n 0, 1) := by decide +kernel
theorem dX4_agreeing_32 : decode cX4_agreeing 32 = .ok (.getfield 11, 3) := by decide +kernel
theorem dX4_agreeing_35 : decode cX4_agreeing 35 = .ok (.aload_n 1, 1) := by decide +kernel
theorem dX4_agreeing_36 : decode cX4_agreeing 36 = .ok (.iload 6, 2) := by decide +kernel
theorem dX4_agreeing_38 : decode cX4_agreeing 38 = .ok (.iaload, 1) := by decide +kernel
theorem dX4_agreeing_39 : decode cX4_agreeing 39 = .ok (.aaload, 1) := by decide +kernel
theorem dX4_agreeing_40 : decode cX4_agreeing 40 = .ok (.iload 4, 2) := by decide +kernel
theorem dX4_agreeing_42 : decode cX4_agreeing 42 = .ok (.iaload, 1) := by decide +kernel
theorem dX4_agreeing_43 : decode cX4_agreeing 43 = .ok (.aload_n 1, 1) := by decide +kernel
theorem dX4_agreeing_44 : decode cX4_agreeing 44 = .ok (.iload 6, 2) := by decide +kernel
theorem dX4_agreeing_46 : decode cX4_agreeing 46 = .ok (.iconst 1, 1) := by decide +kernel
theorem dX4_agreeing_47 : decode cX4_agreeing 47 = .ok (.iadd, 1) := by decide +kernel
theorem dX4_agreeing_48 : decode cX4_agreeing 48 = .ok (.iaload, 1) := by decide +kernel
theorem dX4_agreeing_49 : decode cX4_agreeing 49 = .ok (.if_icmp .ne 7, 3) := by decide +kernel
theorem dX4_agreeing_52 : decode cX4_agreeing 52 = .ok (.iconst 1, 1) := by decide +kernel
theorem dX4_agreeing_53 : decode cX4_agreeing 53 = .ok (.goto 4, 3) := by decide +kernel
theorem dX4_agreeing_56 : decode cX4_agreeing 56 = .ok (.iconst 0, 1) := by decide +kernel
theorem dX4_agreeing_57 : decode cX4_agreeing 57 = .ok (.istore 5, 2) := by decide +kernel
theorem dX4_agreeing_59 : decode cX4_agreeing 59 = .ok (.iinc 6 2, 3) := by decide +kernel
theorem dX4_agreeing_62 : decode cX4_agreeing 62 = .ok (.goto (-44), 3) := by decide +kernel
theorem dX4_agreeing_65 : decode cX4_agreeing 65 = .ok (.iload 5, 2) := by decide +kernel
theorem dX4_agreeing_67 : decode cX4_agreeing 67 = .ok (.ifCond .eq 10, 3) := by decide +kernel
theorem dX4_agreeing_70 : decode cX4_agreeing 70 = .ok (.iload_n 3, 1) := by decide +kernel
theorem dX4_agreeing_71 : decode cX4_agreeing 71 = .ok (.iconst 1, 1) := by decide +kernel
theorem dX4_agreeing_72 : decode cX4_agreeing 72 = .ok (.iload 4, 2) := by decide +kernel
theorem dX4_agreeing_74 : decode cX4_agreeing 74 = .ok (.ishl, 1) := by decide +kernel
theorem dX4_agreeing_75 : decode cX4_agreeing 75 = .ok (.ior, 1) := by decide +kernel
theorem dX4_agreeing_76 : decode cX4_agreeing 76 = .ok (.istore_n 3, 1) := by decide +kernel
theorem dX4_agreeing_77 : decode cX4_agreeing 77 = .ok (.iinc 4 1, 3) := by decide +kernel
theorem dX4_agreeing_80 : decode cX4_agreeing 80 = .ok (.goto (-75), 3) := by decide +kernel
theorem dX4_agreeing_83 : decode cX4_agreeing 83 = .ok (.iload_n 3, 1) := by decide +kernel
theorem dX4_agreeing_84 : decode cX4_agreeing 84 = .ok (.ireturn, 1) := by decide +kernel
theorem dX4_leastOf_0 : decode cX4_leastOf 0 = .ok (.iconst 1, 1) := by decide +kernel
theorem dX4_leastOf_1 : decode cX4_leastOf 1 = .ok (.istore_n 1, 1) := by decide +kernel
theorem dX4_leastOf_2 : decode cX4_leastOf 2 = .ok (.iload_n 1, 1) := by decide +kernel
theorem dX4_leastOf_3 : decode cX4_leastOf 3 = .ok (.bipush 30, 2) := by decide +kernel
theorem dX4_leastOf_5 : decode cX4_leastOf 5 = .ok (.if_icmp .gt 19, 3) := by decide +kernel
theorem dX4_leastOf_8 : decode cX4_leastOf 8 = .ok (.iload_n 0, 1) := by decide +kernel
theorem dX4_leastOf_9 : decode cX4_leastOf 9 = .ok (.iload_n 1, 1) := by decide +kernel
theorem dX4_leastOf_10 : decode cX4_leastOf 10 = .ok (.ishr, 1) := by decide +kernel
theorem dX4_leastOf_11 : decode cX4_leastOf 11 = .ok (.iconst 1, 1) := by decide +kernel
theorem dX4_leastOf_12 : decode cX4_leastOf 12 = .ok (.iand, 1) := by decide +kernel
theorem dX4_leastOf_13 : decode cX4_leastOf 13 = .ok (.ifCond .eq 5, 3) := by decide +kernel
theorem dX4_leastOf_16 : decode cX4_leastOf 16 = .ok (.iload_n 1, 1) := by decide +kernel
theorem dX4_leastOf_17 : decode cX4_leastOf 17 = .ok (.ireturn, 1) := by decide +kernel
theorem dX4_leastOf_18 : decode cX4_leastOf 18 = .ok (.iinc 1 1, 3) := by decide +kernel
theorem dX4_leastOf_21 : decode cX4_leastOf 21 = .ok (.goto (-19), 3) := by decide +kernel
theorem dX4_leastOf_24 : decode cX4_leastOf 24 = .ok (.iconst (-1), 1) := by decide +kernel
theorem dX4_leastOf_25 : decode cX4_leastOf 25 = .ok (.ireturn, 1) := by decide +kernel
theorem dX4_bestWatched_0 : decode cX4_bestWatched 0 = .ok (.iconst (-1), 1) := by decide +kernel
theorem dX4_bestWatched_1 : decode cX4_bestWatched 1 = .ok (.istore_n 3, 1) := by decide +kernel
theorem dX4_bestWatched_2 : decode cX4_bestWatched 2 = .ok (.bipush 31, 2) := by decide +kernel
theorem dX4_bestWatched_4 : decode cX4_bestWatched 4 = .ok (.istore 4, 2) := by decide +kernel
theorem dX4_bestWatched_6 : decode cX4_bestWatched 6 = .ok (.iconst 0, 1) := by decide +kernel
theorem dX4_bestWatched_7 : decode cX4_bestWatched 7 = .ok (.istore 5, 2) := by decide +kernel
theorem dX4_bestWatched_9 : decode cX4_bestWatched 9 = .ok (.iload 5, 2) := by decide +kernel
theorem dX4_bestWatched_11 : decode cX4_bestWatched 11 = .ok (.iload_n 2, 1) := by decide +kernel
theorem dX4_bestWatched_12 : decode cX4_bestWatched 12 = .ok (.if_icmp .ge 32, 3) := by decide +kernel
theorem dX4_bestWatched_15 : decode cX4_bestWatched 15 = .ok (.aload_n 0, 1) := by decide +kernel
theorem dX4_bestWatched_16 : decode cX4_bestWatched 16 = .ok (.iload_n 1, 1) := by decide +kernel
theorem dX4_bestWatched_17 : decode cX4_bestWatched 17 = .ok (.iload 5, 2) := by decide +kernel
theorem dX4_bestWatched_19 : decode cX4_bestWatched 19 = .ok (.invokevirtual 44, 3) := by decide +kernel
theorem dX4_bestWatched_22 : decode cX4_bestWatched 22 = .ok (.istore 6, 2) := by decide +kernel
theorem dX4_bestWatched_24 : decode cX4_bestWatched 24 = .ok (.iload 6, 2) := by decide +kernel
theorem dX4_bestWatched_26 : decode cX4_bestWatched 26 = .ok (.iload 4, 2) := by decide +kernel
theorem dX4_bestWatched_28 : decode cX4_bestWatched 28 = .ok (.if_icmp .ge 10, 3) := by decide +kernel
theorem dX4_bestWatched_31 : decode cX4_bestWatched 31 = .ok (.iload 6, 2) := by decide +kernel
theorem dX4_bestWatched_33 : decode cX4_bestWatched 33 = .ok (.istore 4, 2) := by decide +kernel
theorem dX4_bestWatched_35 : decode cX4_bestWatched 35 = .ok (.iload 5, 2) := by decide +kernel
theorem dX4_bestWatched_37 : decode cX4_bestWatched 37 = .ok (.istore_n 3, 1) := by decide +kernel
theorem dX4_bestWatched_38 : decode cX4_bestWatched 38 = .ok (.iinc 5 1, 3) := by decide +kernel
theorem dX4_bestWatched_41 : decode cX4_bestWatched 41 = .ok (.goto (-32), 3) := by decide +kernel
theorem dX4_bestWatched_44 : decode cX4_bestWatched 44 = .ok (.iload_n 3, 1) := by decide +kernel
theorem dX4_bestWatched_45 : decode cX4_bestWatched 45 = .ok (.ireturn, 1) := by decide +kernel
theorem dX4_mostLeft_0 : decode cX4_mostLeft 0 = .ok (.iconst 0, 1) := by decide +kernel
theorem dX4_mostLeft_1 : decode cX4_mostLeft 1 = .ok (.istore_n 3, 1) := by decide +kernel
theorem dX4_mostLeft_2 : decode cX4_mostLeft 2 = .ok (.iconst 0, 1) := by decide +kernel
theorem dX4_mostLeft_3 : decode cX4_mostLeft 3 = .ok (.istore 4, 2) := by decide +kernel
theorem dX4_mostLeft_5 : decode cX4_mostLeft 5 = .ok (.iload 4, 2) := by decide +kernel
theorem dX4_mostLeft_7 : decode cX4_mostLeft 7 = .ok (.bipush 10, 2) := by decide +kernel
theorem dX4_mostLeft_9 : decode cX4_mostLeft 9 = .ok (.if_icmp .gt 67, 3) := by decide +kernel
theorem dX4_mostLeft_12 : decode cX4_mostLeft 12 = .ok (.iconst 0, 1) := by decide +kernel
theorem dX4_mostLeft_13 : decode cX4_mostLeft 13 = .ok (.istore 5, 2) := by decide +kernel
theorem dX4_mostLeft_15 : decode cX4_mostLeft 15 = .ok (.iconst 1, 1) := by decide +kernel
theorem dX4_mostLeft_16 : decode cX4_mostLeft 16 = .ok (.istore 6, 2) := by decide +kernel
theorem dX4_mostLeft_18 : decode cX4_mostLeft 18 = .ok (.iload 6, 2) := by decide +kernel
theorem dX4_mostLeft_20 : decode cX4_mostLeft 20 = .ok (.bipush 30, 2) := by decide +kernel
theorem dX4_mostLeft_22 : decode cX4_mostLeft 22 = .ok (.if_icmp .gt 35, 3) := by decide +kernel
theorem dX4_mostLeft_25 : decode cX4_mostLeft 25 = .ok (.iload_n 1, 1) := by decide +kernel
theorem dX4_mostLeft_26 : decode cX4_mostLeft 26 = .ok (.iload 6, 2) := by decide +kernel
theorem dX4_mostLeft_28 : decode cX4_mostLeft 28 = .ok (.ishr, 1) := by decide +kernel
theorem dX4_mostLeft_29 : decode cX4_mostLeft 29 = .ok (.iconst 1, 1) := by decide +kernel
theorem dX4_mostLeft_30 : decode cX4_mostLeft 30 = .ok (.iand, 1) := by decide +kernel
theorem dX4_mostLeft_31 : decode cX4_mostLeft 31 = .ok (.ifCond .eq 20, 3) := by decide +kernel
theorem dX4_mostLeft_34 : decode cX4_mostLeft 34 = .ok (.aload_n 0, 1) := by decide +kernel
theorem dX4_mostLeft_35 : decode cX4_mostLeft 35 = .ok (.getfield 11, 3) := by decide +kernel
theorem dX4_mostLeft_38 : decode cX4_mostLeft 38 = .ok (.iload_n 2, 1) := by decide +kernel
theorem dX4_mostLeft_39 : decode cX4_mostLeft 39 = .ok (.aaload, 1) := by decide +kernel
theorem dX4_mostLeft_40 : decode cX4_mostLeft 40 = .ok (.iload 6, 2) := by decide +kernel
theorem dX4_mostLeft_42 : decode cX4_mostLeft 42 = .ok (.iaload, 1) := by decide +kernel
theorem dX4_mostLeft_43 : decode cX4_mostLeft 43 = .ok (.iload 4, 2) := by decide +kernel
theorem dX4_mostLeft_45 : decode cX4_mostLeft 45 = .ok (.if_icmp .ne 6, 3) := by decide +kernel
theorem dX4_mostLeft_48 : decode cX4_mostLeft 48 = .ok (.iinc 5 1, 3) := by decide +kernel
theorem dX4_mostLeft_51 : decode cX4_mostLeft 51 = .ok (.iinc 6 1, 3) := by decide +kernel
theorem dX4_mostLeft_54 : decode cX4_mostLeft 54 = .ok (.goto (-36), 3) := by decide +kernel
theorem dX4_mostLeft_57 : decode cX4_mostLeft 57 = .ok (.iload 5, 2) := by decide +kernel
theorem dX4_mostLeft_59 : decode cX4_mostLeft 59 = .ok (.iload_n 3, 1) := by decide +kernel
theorem dX4_mostLeft_60 : decode cX4_mostLeft 60 = .ok (.if_icmp .le 8, 3) := by decide +kernel
theorem dX4_mostLeft_63 : decode cX4_mostLeft 63 = .ok (.iload 5, 2) := by decide +kernel
theorem dX4_mostLeft_65 : decode cX4_mostLeft 65 = .ok (.goto 4, 3) := by decide +kernel
theorem dX4_mostLeft_68 : decode cX4_mostLeft 68 = .ok (.iload_n 3, 1) := by decide +kernel
theorem dX4_mostLeft_69 : decode cX4_mostLeft 69 = .ok (.istore_n 3, 1) := by decide +kernel
theorem dX4_mostLeft_70 : decode cX4_mostLeft 70 = .ok (.iinc 4 1, 3) := by decide +kernel
theorem dX4_mostLeft_73 : decode cX4_mostLeft 73 = .ok (.goto (-68), 3) := by decide +kernel
theorem dX4_mostLeft_76 : decode cX4_mostLeft 76 = .ok (.iload_n 3, 1) := by decide +kernel
theorem dX4_mostLeft_77 : decode cX4_mostLeft 77 = .ok (.ireturn, 1) := by decide +kernel
theorem dX5_init_0 : decode cX5_init 0 = .ok (.aload_n 0, 1) := by decide +kernel
theorem dX5_init_1 : decode cX5_init 1 = .ok (.invokespecial 1, 3) := by decide +kernel
theorem dX5_init_4 : decode cX5_init 4 = .ok (.aload_n 0, 1) := by decide +kernel
theorem dX5_init_5 : decode cX5_init 5 = .ok (.new 7, 3) := by decide +kernel
theorem dX5_init_8 : decode cX5_init 8 = .ok (.dup, 1) := by decide +kernel
theorem dX5_init_9 : decode cX5_init 9 = .ok (.invokespecial 9, 3) := by decide +kernel
theorem dX5_init_12 : decode cX5_init 12 = .ok (.putfield 10, 3) := by decide +kernel
theorem dX5_init_15 : decode cX5_init 15 = .ok (.aload_n 0, 1) := by decide +kernel
theorem dX5_init_16 : decode cX5_init 16 = .ok (.new 16, 3) := by decide +kernel
theorem dX5_init_19 : decode cX5_init 19 = .ok (.dup, 1) := by decide +kernel
theorem dX5_init_20 : decode cX5_init 20 = .ok (.invokespecial 18, 3) := by decide +kernel
theorem dX5_init_23 : decode cX5_init 23 = .ok (.putfield 19, 3) := by decide +kernel
theorem dX5_init_26 : decode cX5_init 26 = .ok (.aload_n 0, 1) := by decide +kernel
theorem dX5_init_27 : decode cX5_init 27 = .ok (.new 23, 3) := by decide +kernel
theorem dX5_init_30 : decode cX5_init 30 = .ok (.dup, 1) := by decide +kernel
theorem dX5_init_31 : decode cX5_init 31 = .ok (.invokespecial 25, 3) := by decide +kernel
theorem dX5_init_34 : decode cX5_init 34 = .ok (.putfield 26, 3) := by decide +kernel
theorem dX5_init_37 : decode cX5_init 37 = .ok (.return_, 1) := by decide +kernel
theorem dX6_init_0 : decode cX6_init 0 = .ok (.aload_n 0, 1) := by decide +kernel
theorem dX6_init_1 : decode cX6_init 1 = .ok (.invokespecial 3, 3) := by decide +kernel
theorem dX6_init_4 : decode cX6_init 4 = .ok (.aload_n 0, 1) := by decide +kernel
theorem dX6_init_5 : decode cX6_init 5 = .ok (.bipush 10, 2) := by decide +kernel
theorem dX6_init_7 : decode cX6_init 7 = .ok (.newarray .int, 2) := by decide +kernel
theorem dX6_init_9 : decode cX6_init 9 = .ok (.putfield 9, 3) := by decide +kernel
theorem dX6_init_12 : decode cX6_init 12 = .ok (.return_, 1) := by decide +kernel
theorem dX6_hold_0 : decode cX6_hold 0 = .ok (.iconst 0, 1) := by decide +kernel
theorem dX6_hold_1 : decode cX6_hold 1 = .ok (.istore_n 3, 1) := by decide +kernel
theorem dX6_hold_2 : decode cX6_hold 2 = .ok (.iload_n 3, 1) := by decide +kernel
theorem dX6_hold_3 : decode cX6_hold 3 = .ok (.bipush 10, 2) := by decide +kernel
theorem dX6_hold_5 : decode cX6_hold 5 = .ok (.if_icmp .ge 16, 3) := by decide +kernel
theorem dX6_hold_8 : decode cX6_hold 8 = .ok (.aload_n 0, 1) := by decide +kernel
theorem dX6_hold_9 : decode cX6_hold 9 = .ok (.getfield 9, 3) := by decide +kernel
theorem dX6_hold_12 : decode cX6_hold 12 = .ok (.iload_n 3, 1) := by decide +kernel
theorem dX6_hold_13 : decode cX6_hold 13 = .ok (.iconst 0, 1) := by decide +kernel
theorem dX6_hold_14 : decode cX6_hold 14 = .ok (.iastore, 1) := by decide +kernel
theorem dX6_hold_15 : decode cX6_hold 15 = .ok (.iinc 3 1, 3) := by decide +kernel
theorem dX6_hold_18 : decode cX6_hold 18 = .ok (.goto (-16), 3) := by decide +kernel
theorem dX6_hold_21 : decode cX6_hold 21 = .ok (.iconst 0, 1) := by decide +kernel
theorem dX6_hold_22 : decode cX6_hold 22 = .ok (.istore_n 3, 1) := by decide +kernel
theorem dX6_hold_23 : decode cX6_hold 23 = .ok (.iload_n 3, 1) := by decide +kernel
theorem dX6_hold_24 : decode cX6_hold 24 = .ok (.aload_n 1, 1) := by decide +kernel
theorem dX6_hold_25 : decode cX6_hold 25 = .ok (.getfield 15, 3) := by decide +kernel
theorem dX6_hold_28 : decode cX6_hold 28 = .ok (.if_icmp .ge 61, 3) := by decide +kernel
theorem dX6_hold_31 : decode cX6_hold 31 = .ok (.iload_n 2, 1) := by decide +kernel
theorem dX6_hold_32 : decode cX6_hold 32 = .ok (.iload_n 3, 1) := by decide +kernel
theorem dX6_hold_33 : decode cX6_hold 33 = .ok (.ishr, 1) := by decide +kernel
theorem dX6_hold_34 : decode cX6_hold 34 = .ok (.iconst 1, 1) := by decide +kernel
theorem dX6_hold_35 : decode cX6_hold 35 = .ok (.iand, 1) := by decide +kernel
theorem dX6_hold_36 : decode cX6_hold 36 = .ok (.ifCond .eq 47, 3) := by decide +kernel
theorem dX6_hold_39 : decode cX6_hold 39 = .ok (.aload_n 0, 1) := by decide +kernel
theorem dX6_hold_40 : decode cX6_hold 40 = .ok (.getfield 9, 3) := by decide +kernel
theorem dX6_hold_43 : decode cX6_hold 43 = .ok (.aload_n 1, 1) := by decide +kernel
theorem dX6_hold_44 : decode cX6_hold 44 = .ok (.getfield 21, 3) := by decide +kernel
theorem dX6_hold_47 : decode cX6_hold 47 = .ok (.iload_n 3, 1) := by decide +kernel
theorem dX6_hold_48 : decode cX6_hold 48 = .ok (.iaload, 1) := by decide +kernel
theorem dX6_hold_49 : decode cX6_hold 49 = .ok (.dup2, 1) := by decide +kernel
theorem dX6_hold_50 : decode cX6_hold 50 = .ok (.iaload, 1) := by decide +kernel
theorem dX6_hold_51 : decode cX6_hold 51 = .ok (.iconst 1, 1) := by decide +kernel
theorem dX6_hold_52 : decode cX6_hold 52 = .ok (.aload_n 1, 1) := by decide +kernel
theorem dX6_hold_53 : decode cX6_hold 53 = .ok (.getfield 24, 3) := by decide +kernel
theorem dX6_hold_56 : decode cX6_hold 56 = .ok (.iload_n 3, 1) := by decide +kernel
theorem dX6_hold_57 : decode cX6_hold 57 = .ok (.iaload, 1) := by decide +kernel
theorem dX6_hold_58 : decode cX6_hold 58 = .ok (.ishl, 1) := by decide +kernel
theorem dX6_hold_59 : decode cX6_hold 59 = .ok (.ior, 1) := by decide +kernel
theorem dX6_hold_60 : decode cX6_hold 60 = .ok (.iastore, 1) := by decide +kernel
theorem dX6_hold_61 : decode cX6_hold 61 = .ok (.aload_n 0, 1) := by decide +kernel
theorem dX6_hold_62 : decode cX6_hold 62 = .ok (.getfield 9, 3) := by decide +kernel
theorem dX6_hold_65 : decode cX6_hold 65 = .ok (.aload_n 1, 1) := by decide +kernel
theorem dX6_hold_66 : decode cX6_hold 66 = .ok (.getfield 24, 3) := by decide +kernel
theorem dX6_hold_69 : decode cX6_hold 69 = .ok (.iload_n 3, 1) := by decide +kernel
theorem dX6_hold_70 : decode cX6_hold 70 = .ok (.iaload, 1) := by decide +kernel
theorem dX6_hold_71 : decode cX6_hold 71 = .ok (.dup2, 1) := by decide +kernel
theorem dX6_hold_72 : decode cX6_hold 72 = .ok (.iaload, 1) := by decide +kernel
theorem dX6_hold_73 : decode cX6_hold 73 = .ok (.iconst 1, 1) := by decide +kernel
theorem dX6_hold_74 : decode cX6_hold 74 = .ok (.aload_n 1, 1) := by decide +kernel
theorem dX6_hold_75 : decode cX6_hold 75 = .ok (.getfield 21, 3) := by decide +kernel
theorem dX6_hold_78 : decode cX6_hold 78 = .ok (.iload_n 3, 1) := by decide +kernel
theorem dX6_hold_79 : decode cX6_hold 79 = .ok (.iaload, 1) := by decide +kernel
theorem dX6_hold_80 : decode cX6_hold 80 = .ok (.ishl, 1) := by decide +kernel
theorem dX6_hold_81 : decode cX6_hold 81 = .ok (.ior, 1) := by decide +kernel
theorem dX6_hold_82 : decode cX6_hold 82 = .ok (.iastore, 1) := by decide +kernel
theorem dX6_hold_83 : decode cX6_hold 83 = .ok (.iinc 3 1, 3) := by decide +kernel
theorem dX6_hold_86 : decode cX6_hold 86 = .ok (.goto (-63), 3) := by decide +kernel
theorem dX6_hold_89 : decode cX6_hold 89 = .ok (.return_, 1) := by decide +kernel
theorem dX6_holdByFate_0 : decode cX6_holdByFate 0 = .ok (.aload_n 0, 1) := by decide +kernel
theorem dX6_holdByFate_1 : decode cX6_holdByFate 1 = .ok (.aload_n 1, 1) := by decide +kernel
theorem dX6_holdByFate_2 : decode cX6_holdByFate 2 = .ok (.aload_n 2, 1) := by decide +kernel
theorem dX6_holdByFate_3 : decode cX6_holdByFate 3 = .ok (.aload_n 1, 1) := by decide +kernel
theorem dX6_holdByFate_4 : decode cX6_holdByFate 4 = .ok (.iload_n 3, 1) := by decide +kernel
theorem dX6_holdByFate_5 : decode cX6_holdByFate 5 = .ok (.aload_n 1, 1) := by decide +kernel
theorem dX6_holdByFate_6 : decode cX6_holdByFate 6 = .ok (.getfield 27, 3) := by decide +kernel
theorem dX6_holdByFate_9 : decode cX6_holdByFate 9 = .ok (.invokevirtual 30, 3) := by decide +kernel
theorem dX6_holdByFate_12 : decode cX6_holdByFate 12 = .ok (.invokevirtual 36, 3) := by decide +kernel
theorem dX6_holdByFate_15 : decode cX6_holdByFate 15 = .ok (.return_, 1) := by decide +kernel
theorem dX6_byFate_0 : decode cX6_byFate 0 = .ok (.aload_n 0, 1) := by decide +kernel
theorem dX6_byFate_1 : decode cX6_byFate 1 = .ok (.aload_n 1, 1) := by decide +kernel
theorem dX6_byFate_2 : decode cX6_byFate 2 = .ok (.aload_n 2, 1) := by decide +kernel
theorem dX6_byFate_3 : decode cX6_byFate 3 = .ok (.iload_n 3, 1) := by decide +kernel
theorem dX6_byFate_4 : decode cX6_byFate 4 = .ok (.invokevirtual 40, 3) := by decide +kernel
theorem dX6_byFate_7 : decode cX6_byFate 7 = .ok (.aload_n 0, 1) := by decide +kernel
theorem dX6_byFate_8 : decode cX6_byFate 8 = .ok (.aload_n 2, 1) := by decide +kernel
theorem dX6_byFate_9 : decode cX6_byFate 9 = .ok (.getfield 44, 3) := by decide +kernel
theorem dX6_byFate_12 : decode cX6_byFate 12 = .ok (.aload_n 1, 1) := by decide +kernel
theorem dX6_byFate_13 : decode cX6_byFate 13 = .ok (.iload_n 3, 1) := by decide +kernel
theorem dX6_byFate_14 : decode cX6_byFate 14 = .ok (.invokevirtual 47, 3) := by decide +kernel
theorem dX6_byFate_17 : decode cX6_byFate 17 = .ok (.iand, 1) := by decide +kernel
theorem dX6_byFate_18 : decode cX6_byFate 18 = .ok (.invokevirtual 51, 3) := by decide +kernel
theorem dX6_byFate_21 : decode cX6_byFate 21 = .ok (.ireturn, 1) := by decide +kernel
theorem dX6_asTheyAre_0 : decode cX6_asTheyAre 0 = .ok (.aload_n 0, 1) := by decide +kernel
theorem dX6_asTheyAre_1 : decode cX6_asTheyAre 1 = .ok (.aload_n 1, 1) := by decide +kernel
theorem dX6_asTheyAre_2 : decode cX6_asTheyAre 2 = .ok (.aload_n 1, 1) := by decide +kernel
theorem dX6_asTheyAre_3 : decode cX6_asTheyAre 3 = .ok (.iload_n 3, 1) := by decide +kernel
theorem dX6_asTheyAre_4 : decode cX6_asTheyAre 4 = .ok (.aload_n 2, 1) := by decide +kernel
theorem dX6_asTheyAre_5 : decode cX6_asTheyAre 5 = .ok (.getfield 54, 3) := by decide +kernel
theorem dX6_asTheyAre_8 : decode cX6_asTheyAre 8 = .ok (.iconst 0, 1) := by decide +kernel
theorem dX6_asTheyAre_9 : decode cX6_asTheyAre 9 = .ok (.invokevirtual 57, 3) := by decide +kernel
theorem dX6_asTheyAre_12 : decode cX6_asTheyAre 12 = .ok (.invokevirtual 36, 3) := by decide +kernel
theorem dX6_asTheyAre_15 : decode cX6_asTheyAre 15 = .ok (.aload_n 0, 1) := by decide +kernel
theorem dX6_asTheyAre_16 : decode cX6_asTheyAre 16 = .ok (.aload_n 2, 1) := by decide +kernel
theorem dX6_asTheyAre_17 : decode cX6_asTheyAre 17 = .ok (.getfield 44, 3) := by decide +kernel
theorem dX6_asTheyAre_20 : decode cX6_asTheyAre 20 = .ok (.aload_n 1, 1) := by decide +kernel
theorem dX6_asTheyAre_21 : decode cX6_asTheyAre 21 = .ok (.iload_n 3, 1) := by decide +kernel
theorem dX6_asTheyAre_22 : decode cX6_asTheyAre 22 = .ok (.invokevirtual 47, 3) := by decide +kernel
theorem dX6_asTheyAre_25 : decode cX6_asTheyAre 25 = .ok (.iand, 1) := by decide +kernel
theorem dX6_asTheyAre_26 : decode cX6_asTheyAre 26 = .ok (.invokevirtual 51, 3) := by decide +kernel
theorem dX6_asTheyAre_29 : decode cX6_asTheyAre 29 = .ok (.ireturn, 1) := by decide +kernel
theorem dX6_around_0 : decode cX6_around 0 = .ok (.iconst 1, 1) := by decide +kernel
theorem dX6_around_1 : decode cX6_around 1 = .ok (.iload_n 1, 1) := by decide +kernel
theorem dX6_around_2 : decode cX6_around 2 = .ok (.ishl, 1) := by decide +kernel
theorem dX6_around_3 : decode cX6_around 3 = .ok (.istore_n 3, 1) := by decide +kernel
theorem dX6_around_4 : decode cX6_around 4 = .ok (.iconst 0, 1) := by decide +kernel
theorem dX6_around_5 : decode cX6_around 5 = .ok (.istore 4, 2) := by decide +kernel
theorem dX6_around_7 : decode cX6_around 7 = .ok (.iload 4, 2) := by decide +kernel
theorem dX6_around_9 : decode cX6_around 9 = .ok (.bipush 10, 2) := by decide +kernel
theorem dX6_around_11 : decode cX6_around 11 = .ok (.if_icmp .ge 62, 3) := by decide +kernel
theorem dX6_around_14 : decode cX6_around 14 = .ok (.iload_n 3, 1) := by decide +kernel
theorem dX6_around_15 : decode cX6_around 15 = .ok (.istore 5, 2) := by decide +kernel
theorem dX6_around_17 : decode cX6_around 17 = .ok (.iconst 0, 1) := by decide +kernel
theorem dX6_around_18 : decode cX6_around 18 = .ok (.istore 6, 2) := by decide +kernel
theorem dX6_around_20 : decode cX6_around 20 = .ok (.iload 6, 2) := by decide +kernel
theorem dX6_around_22 : decode cX6_around 22 = .ok (.bipush 10, 2) := by decide +kernel
theorem dX6_around_24 : decode cX6_around 24 = .ok (.if_icmp .ge 32, 3) := by decide +kernel
theorem dX6_around_27 : decode cX6_around 27 = .ok (.iload_n 3, 1) := by decide +kernel
theorem dX6_around_28 : decode cX6_around 28 = .ok (.iload 6, 2) := by decide +kernel
theorem dX6_around_30 : decode cX6_around 30 = .ok (.ishr, 1) := by decide +kernel
theorem dX6_around_31 : decode cX6_around 31 = .ok (.iconst 1, 1) := by decide +kernel
theorem dX6_around_32 : decode cX6_around 32 = .ok (.iand, 1) := by decide +kernel
theorem dX6_around_33 : decode cX6_around 33 = .ok (.ifCond .eq 17, 3) := by decide +kernel
theorem dX6_around_36 : decode cX6_around 36 = .ok (.iload 5, 2) := by decide +kernel
theorem dX6_around_38 : decode cX6_around 38 = .ok (.aload_n 0, 1) := by decide +kernel
theorem dX6_around_39 : decode cX6_around 39 = .ok (.getfield 9, 3) := by decide +kernel
theorem dX6_around_42 : decode cX6_around 42 = .ok (.iload 6, 2) := by decide +kernel
theorem dX6_around_44 : decode cX6_around 44 = .ok (.iaload, 1) := by decide +kernel
theorem dX6_around_45 : decode cX6_around 45 = .ok (.iload_n 2, 1) := by decide +kernel
theorem dX6_around_46 : decode cX6_around 46 = .ok (.iand, 1) := by decide +kernel
theorem dX6_around_47 : decode cX6_around 47 = .ok (.ior, 1) := by decide +kernel
theorem dX6_around_48 : decode cX6_around 48 = .ok (.istore 5, 2) := by decide +kernel
theorem dX6_around_50 : decode cX6_around 50 = .ok (.iinc 6 1, 3) := by decide +kernel
theorem dX6_around_53 : decode cX6_around 53 = .ok (.goto (-33), 3) := by decide +kernel
theorem dX6_around_56 : decode cX6_around 56 = .ok (.iload 5, 2) := by decide +kernel
theorem dX6_around_58 : decode cX6_around 58 = .ok (.iload_n 3, 1) := by decide +kernel
theorem dX6_around_59 : decode cX6_around 59 = .ok (.if_icmp .ne 5, 3) := by decide +kernel
theorem dX6_around_62 : decode cX6_around 62 = .ok (.iload_n 3, 1) := by decide +kernel
theorem dX6_around_63 : decode cX6_around 63 = .ok (.ireturn, 1) := by decide +kernel
theorem dX6_around_64 : decode cX6_around 64 = .ok (.iload 5, 2) := by decide +kernel
theorem dX6_around_66 : decode cX6_around 66 = .ok (.istore_n 3, 1) := by decide +kernel
theorem dX6_around_67 : decode cX6_around 67 = .ok (.iinc 4 1, 3) := by decide +kernel
theorem dX6_around_70 : decode cX6_around 70 = .ok (.goto (-63), 3) := by decide +kernel
theorem dX6_around_73 : decode cX6_around 73 = .ok (.iload_n 3, 1) := by decide +kernel
theorem dX6_around_74 : decode cX6_around 74 = .ok (.ireturn, 1) := by decide +kernel
theorem dX6_leastOf_0 : decode cX6_leastOf 0 = .ok (.iconst 0, 1) := by decide +kernel
theorem dX6_leastOf_1 : decode cX6_leastOf 1 = .ok (.istore_n 1, 1) := by decide +kernel
theorem dX6_leastOf_2 : decode cX6_leastOf 2 = .ok (.iload_n 1, 1) := by decide +kernel
theorem dX6_leastOf_3 : decode cX6_leastOf 3 = .ok (.bipush 10, 2) := by decide +kernel
theorem dX6_leastOf_5 : decode cX6_leastOf 5 = .ok (.if_icmp .ge 19, 3) := by decide +kernel
theorem dX6_leastOf_8 : decode cX6_leastOf 8 = .ok (.iload_n 0, 1) := by decide +kernel
theorem dX6_leastOf_9 : decode cX6_leastOf 9 = .ok (.iload_n 1, 1) := by decide +kernel
theorem dX6_leastOf_10 : decode cX6_leastOf 10 = .ok (.ishr, 1) := by decide +kernel
theorem dX6_leastOf_11 : decode cX6_leastOf 11 = .ok (.iconst 1, 1) := by decide +kernel
theorem dX6_leastOf_12 : decode cX6_leastOf 12 = .ok (.iand, 1) := by decide +kernel
theorem dX6_leastOf_13 : decode cX6_leastOf 13 = .ok (.ifCond .eq 5, 3) := by decide +kernel
theorem dX6_leastOf_16 : decode cX6_leastOf 16 = .ok (.iload_n 1, 1) := by decide +kernel
theorem dX6_leastOf_17 : decode cX6_leastOf 17 = .ok (.ireturn, 1) := by decide +kernel
theorem dX6_leastOf_18 : decode cX6_leastOf 18 = .ok (.iinc 1 1, 3) := by decide +kernel
theorem dX6_leastOf_21 : decode cX6_leastOf 21 = .ok (.goto (-19), 3) := by decide +kernel
theorem dX6_leastOf_24 : decode cX6_leastOf 24 = .ok (.iconst (-1), 1) := by decide +kernel
theorem dX6_leastOf_25 : decode cX6_leastOf 25 = .ok (.ireturn, 1) := by decide +kernel
theorem dX6_number_0 : decode cX6_number 0 = .ok (.iload_n 1, 1) := by decide +kernel
theorem dX6_number_1 : decode cX6_number 1 = .ok (.istore_n 2, 1) := by decide +kernel
theorem dX6_number_2 : decode cX6_number 2 = .ok (.iconst 0, 1) := by decide +kernel
theorem dX6_number_3 : decode cX6_number 3 = .ok (.istore_n 3, 1) := by decide +kernel
theorem dX6_number_4 : decode cX6_number 4 = .ok (.iconst 0, 1) := by decide +kernel
theorem dX6_number_5 : decode cX6_number 5 = .ok (.istore 4, 2) := by decide +kernel
theorem dX6_number_7 : decode cX6_number 7 = .ok (.iload 4, 2) := by decide +kernel
theorem dX6_number_9 : decode cX6_number 9 = .ok (.bipush 10, 2) := by decide +kernel
theorem dX6_number_11 : decode cX6_number 11 = .ok (.if_icmp .ge 33, 3) := by decide +kernel
theorem dX6_number_14 : decode cX6_number 14 = .ok (.iload_n 2, 1) := by decide +kernel
theorem dX6_number_15 : decode cX6_number 15 = .ok (.iload 4, 2) := by decide +kernel
theorem dX6_number_17 : decode cX6_number 17 = .ok (.ishr, 1) := by decide +kernel
theorem dX6_number_18 : decode cX6_number 18 = .ok (.iconst 1, 1) := by decide +kernel
theorem dX6_number_19 : decode cX6_number 19 = .ok (.iand, 1) := by decide +kernel
theorem dX6_number_20 : decode cX6_number 20 = .ok (.ifCond .eq 18, 3) := by decide +kernel
theorem dX6_number_23 : decode cX6_number 23 = .ok (.iload_n 2, 1) := by decide +kernel
theorem dX6_number_24 : decode cX6_number 24 = .ok (.aload_n 0, 1) := by decide +kernel
theorem dX6_number_25 : decode cX6_number 25 = .ok (.iload 4, 2) := by decide +kernel
theorem dX6_number_27 : decode cX6_number 27 = .ok (.iload_n 1, 1) := by decide +kernel
theorem dX6_number_28 : decode cX6_number 28 = .ok (.invokevirtual 61, 3) := by decide +kernel
theorem dX6_number_31 : decode cX6_number 31 = .ok (.iconst (-1), 1) := by decide +kernel
theorem dX6_number_32 : decode cX6_number 32 = .ok (.ixor, 1) := by decide +kernel
theorem dX6_number_33 : decode cX6_number 33 = .ok (.iand, 1) := by decide +kernel
theorem dX6_number_34 : decode cX6_number 34 = .ok (.istore_n 2, 1) := by decide +kernel
theorem dX6_number_35 : decode cX6_number 35 = .ok (.iinc 3 1, 3) := by decide +kernel
theorem dX6_number_38 : decode cX6_number 38 = .ok (.iinc 4 1, 3) := by decide +kernel
theorem dX6_number_41 : decode cX6_number 41 = .ok (.goto (-34), 3) := by decide +kernel
theorem dX6_number_44 : decode cX6_number 44 = .ok (.iload_n 3, 1) := by decide +kernel
theorem dX6_number_45 : decode cX6_number 45 = .ok (.ireturn, 1) := by decide +kernel
theorem dX6_heaviestWhole_0 : decode cX6_heaviestWhole 0 = .ok (.iconst 0, 1) := by decide +kernel
theorem dX6_heaviestWhole_1 : decode cX6_heaviestWhole 1 = .ok (.istore 4, 2) := by decide +kernel
theorem dX6_heaviestWhole_3 : decode cX6_heaviestWhole 3 = .ok (.iconst 0, 1) := by decide +kernel
theorem dX6_heaviestWhole_4 : decode cX6_heaviestWhole 4 = .ok (.istore 5, 2) := by decide +kernel
theorem dX6_heaviestWhole_6 : decode cX6_heaviestWhole 6 = .ok (.iconst 1, 1) := by decide +kernel
theorem dX6_heaviestWhole_7 : decode cX6_heaviestWhole 7 = .ok (.istore 6, 2) := by decide +kernel
theorem dX6_heaviestWhole_9 : decode cX6_heaviestWhole 9 = .ok (.iload 6, 2) := by decide +kernel
theorem dX6_heaviestWhole_11 : decode cX6_heaviestWhole 11 = .ok (.iconst 1, 1) := by decide +kernel
theorem dX6_heaviestWhole_12 : decode cX6_heaviestWhole 12 = .ok (.aload_n 1, 1) := by decide +kernel
theorem dX6_heaviestWhole_13 : decode cX6_heaviestWhole 13 = .ok (.getfield 65, 3) := by decide +kernel
theorem dX6_heaviestWhole_16 : decode cX6_heaviestWhole 16 = .ok (.ishl, 1) := by decide +kernel
theorem dX6_heaviestWhole_17 : decode cX6_heaviestWhole 17 = .ok (.if_icmp .ge 66, 3) := by decide +kernel
theorem dX6_heaviestWhole_20 : decode cX6_heaviestWhole 20 = .ok (.iload 6, 2) := by decide +kernel
theorem dX6_heaviestWhole_22 : decode cX6_heaviestWhole 22 = .ok (.iload_n 2, 1) := by decide +kernel
theorem dX6_heaviestWhole_23 : decode cX6_heaviestWhole 23 = .ok (.iconst (-1), 1) := by decide +kernel
theorem dX6_heaviestWhole_24 : decode cX6_heaviestWhole 24 = .ok (.ixor, 1) := by decide +kernel
theorem dX6_heaviestWhole_25 : decode cX6_heaviestWhole 25 = .ok (.iand, 1) := by decide +kernel
theorem dX6_heaviestWhole_26 : decode cX6_heaviestWhole 26 = .ok (.ifCond .eq 6, 3) := by decide +kernel
theorem dX6_heaviestWhole_29 : decode cX6_heaviestWhole 29 = .ok (.goto 48, 3) := by decide +kernel
theorem dX6_heaviestWhole_32 : decode cX6_heaviestWhole 32 = .ok (.aload_n 1, 1) := by decide +kernel
theorem dX6_heaviestWhole_33 : decode cX6_heaviestWhole 33 = .ok (.iload 6, 2) := by decide +kernel
theorem dX6_heaviestWhole_35 : decode cX6_heaviestWhole 35 = .ok (.invokevirtual 68, 3) := by decide +kernel
theorem dX6_heaviestWhole_38 : decode cX6_heaviestWhole 38 = .ok (.istore 7, 2) := by decide +kernel
theorem dX6_heaviestWhole_40 : decode cX6_heaviestWhole 40 = .ok (.iload 7, 2) := by decide +kernel
theorem dX6_heaviestWhole_42 : decode cX6_heaviestWhole 42 = .ok (.iload 5, 2) := by decide +kernel
theorem dX6_heaviestWhole_44 : decode cX6_heaviestWhole 44 = .ok (.if_icmp .le 33, 3) := by decide +kernel
theorem dX6_heaviestWhole_47 : decode cX6_heaviestWhole 47 = .ok (.iload 7, 2) := by decide +kernel
theorem dX6_heaviestWhole_49 : decode cX6_heaviestWhole 49 = .ok (.iload_n 3, 1) := by decide +kernel
theorem dX6_heaviestWhole_50 : decode cX6_heaviestWhole 50 = .ok (.if_icmp .gt 27, 3) := by decide +kernel
theorem dX6_heaviestWhole_53 : decode cX6_heaviestWhole 53 = .ok (.aload_n 0, 1) := by decide +kernel
theorem dX6_heaviestWhole_54 : decode cX6_heaviestWhole 54 = .ok (.iload 6, 2) := by decide +kernel
theorem dX6_heaviestWhole_56 : decode cX6_heaviestWhole 56 = .ok (.invokestatic 71, 3) := by decide +kernel
theorem dX6_heaviestWhole_59 : decode cX6_heaviestWhole 59 = .ok (.iload 6, 2) := by decide +kernel
theorem dX6_heaviestWhole_61 : decode cX6_heaviestWhole 61 = .ok (.invokevirtual 61, 3) := by decide +kernel
theorem dX6_heaviestWhole_64 : decode cX6_heaviestWhole 64 = .ok (.iload 6, 2) := by decide +kernel
theorem dX6_heaviestWhole_66 : decode cX6_heaviestWhole 66 = .ok (.if_icmp .ne 11, 3) := by decide +kernel
theorem dX6_heaviestWhole_69 : decode cX6_heaviestWhole 69 = .ok (.iload 6, 2) := by decide +kernel
theorem dX6_heaviestWhole_71 : decode cX6_heaviestWhole 71 = .ok (.istore 4, 2) := by decide +kernel
theorem dX6_heaviestWhole_73 : decode cX6_heaviestWhole 73 = .ok (.iload 7, 2) := by decide +kernel
theorem dX6_heaviestWhole_75 : decode cX6_heaviestWhole 75 = .ok (.istore 5, 2) := by decide +kernel
theorem dX6_heaviestWhole_77 : decode cX6_heaviestWhole 77 = .ok (.iinc 6 1, 3) := by decide +kernel
theorem dX6_heaviestWhole_80 : decode cX6_heaviestWhole 80 = .ok (.goto (-71), 3) := by decide +kernel
theorem dX6_heaviestWhole_83 : decode cX6_heaviestWhole 83 = .ok (.iload 4, 2) := by decide +kernel
theorem dX6_heaviestWhole_85 : decode cX6_heaviestWhole 85 = .ok (.ireturn, 1) := by decide +kernel
theorem dX6_weighJustSo_0 : decode cX6_weighJustSo 0 = .ok (.iload_n 2, 1) := by decide +kernel
theorem dX6_weighJustSo_1 : decode cX6_weighJustSo 1 = .ok (.istore 5, 2) := by decide +kernel
theorem dX6_weighJustSo_3 : decode cX6_weighJustSo 3 = .ok (.iconst 0, 1) := by decide +kernel
theorem dX6_weighJustSo_4 : decode cX6_weighJustSo 4 = .ok (.istore 6, 2) := by decide +kernel
theorem dX6_weighJustSo_6 : decode cX6_weighJustSo 6 = .ok (.iconst 0, 1) := by decide +kernel
theorem dX6_weighJustSo_7 : decode cX6_weighJustSo 7 = .ok (.istore 7, 2) := by decide +kernel
theorem dX6_weighJustSo_9 : decode cX6_weighJustSo 9 = .ok (.iload 7, 2) := by decide +kernel
theorem dX6_weighJustSo_11 : decode cX6_weighJustSo 11 = .ok (.bipush 10, 2) := by decide +kernel
theorem dX6_weighJustSo_13 : decode cX6_weighJustSo 13 = .ok (.if_icmp .ge 70, 3) := by decide +kernel
theorem dX6_weighJustSo_16 : decode cX6_weighJustSo 16 = .ok (.iload 5, 2) := by decide +kernel
theorem dX6_weighJustSo_18 : decode cX6_weighJustSo 18 = .ok (.iload 7, 2) := by decide +kernel
theorem dX6_weighJustSo_20 : decode cX6_weighJustSo 20 = .ok (.ishr, 1) := by decide +kernel
theorem dX6_weighJustSo_21 : decode cX6_weighJustSo 21 = .ok (.iconst 1, 1) := by decide +kernel
theorem dX6_weighJustSo_22 : decode cX6_weighJustSo 22 = .ok (.iand, 1) := by decide +kernel
theorem dX6_weighJustSo_23 : decode cX6_weighJustSo 23 = .ok (.ifCond .eq 54, 3) := by decide +kernel
theorem dX6_weighJustSo_26 : decode cX6_weighJustSo 26 = .ok (.aload_n 0, 1) := by decide +kernel
theorem dX6_weighJustSo_27 : decode cX6_weighJustSo 27 = .ok (.iload 7, 2) := by decide +kernel
theorem dX6_weighJustSo_29 : decode cX6_weighJustSo 29 = .ok (.iload_n 2, 1) := by decide +kernel
theorem dX6_weighJustSo_30 : decode cX6_weighJustSo 30 = .ok (.invokevirtual 61, 3) := by decide +kernel
theorem dX6_weighJustSo_33 : decode cX6_weighJustSo 33 = .ok (.istore 8, 2) := by decide +kernel
theorem dX6_weighJustSo_35 : decode cX6_weighJustSo 35 = .ok (.iload 5, 2) := by decide +kernel
theorem dX6_weighJustSo_37 : decode cX6_weighJustSo 37 = .ok (.iload 8, 2) := by decide +kernel
theorem dX6_weighJustSo_39 : decode cX6_weighJustSo 39 = .ok (.iconst (-1), 1) := by decide +kernel
theorem dX6_weighJustSo_40 : decode cX6_weighJustSo 40 = .ok (.ixor, 1) := by decide +kernel
theorem dX6_weighJustSo_41 : decode cX6_weighJustSo 41 = .ok (.iand, 1) := by decide +kernel
theorem dX6_weighJustSo_42 : decode cX6_weighJustSo 42 = .ok (.istore 5, 2) := by decide +kernel
theorem dX6_weighJustSo_44 : decode cX6_weighJustSo 44 = .ok (.aload_n 3, 1) := by decide +kernel
theorem dX6_weighJustSo_45 : decode cX6_weighJustSo 45 = .ok (.iload 4, 2) := by decide +kernel
theorem dX6_weighJustSo_47 : decode cX6_weighJustSo 47 = .ok (.iload 6, 2) := by decide +kernel
theorem dX6_weighJustSo_49 : decode cX6_weighJustSo 49 = .ok (.aload_n 1, 1) := by decide +kernel
theorem dX6_weighJustSo_50 : decode cX6_weighJustSo 50 = .ok (.iload 8, 2) := by decide +kernel
theorem dX6_weighJustSo_52 : decode cX6_weighJustSo 52 = .ok (.invokevirtual 68, 3) := by decide +kernel
theorem dX6_weighJustSo_55 : decode cX6_weighJustSo 55 = .ok (.invokestatic 74, 3) := by decide +kernel
theorem dX6_weighJustSo_58 : decode cX6_weighJustSo 58 = .ok (.istore 9, 2) := by decide +kernel
theorem dX6_weighJustSo_60 : decode cX6_weighJustSo 60 = .ok (.iload 9, 2) := by decide +kernel
theorem dX6_weighJustSo_62 : decode cX6_weighJustSo 62 = .ok (.iconst (-1), 1) := by decide +kernel
theorem dX6_weighJustSo_63 : decode cX6_weighJustSo 63 = .ok (.if_icmp .ne 5, 3) := by decide +kernel
theorem dX6_weighJustSo_66 : decode cX6_weighJustSo 66 = .ok (.iconst 0, 1) := by decide +kernel
theorem dX6_weighJustSo_67 : decode cX6_weighJustSo 67 = .ok (.ireturn, 1) := by decide +kernel
theorem dX6_weighJustSo_68 : decode cX6_weighJustSo 68 = .ok (.iload 6, 2) := by decide +kernel
theorem dX6_weighJustSo_70 : decode cX6_weighJustSo 70 = .ok (.iconst 1, 1) := by decide +kernel
theorem dX6_weighJustSo_71 : decode cX6_weighJustSo 71 = .ok (.iload 9, 2) := by decide +kernel
theorem dX6_weighJustSo_73 : decode cX6_weighJustSo 73 = .ok (.ishl, 1) := by decide +kernel
theorem dX6_weighJustSo_74 : decode cX6_weighJustSo 74 = .ok (.ior, 1) := by decide +kernel
theorem dX6_weighJustSo_75 : decode cX6_weighJustSo 75 = .ok (.istore 6, 2) := by decide +kernel
theorem dX6_weighJustSo_77 : decode cX6_weighJustSo 77 = .ok (.iinc 7 1, 3) := by decide +kernel
theorem dX6_weighJustSo_80 : decode cX6_weighJustSo 80 = .ok (.goto (-71), 3) := by decide +kernel
theorem dX6_weighJustSo_83 : decode cX6_weighJustSo 83 = .ok (.iload 6, 2) := by decide +kernel
theorem dX6_weighJustSo_85 : decode cX6_weighJustSo 85 = .ok (.iconst 1, 1) := by decide +kernel
