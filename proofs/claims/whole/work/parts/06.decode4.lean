theorem dX12_fateOf_0 : decode cX12_fateOf 0 = .ok (.aload_n 0, 1) := by decide +kernel
theorem dX12_fateOf_1 : decode cX12_fateOf 1 = .ok (.aload_n 0, 1) := by decide +kernel
theorem dX12_fateOf_2 : decode cX12_fateOf 2 = .ok (.iload_n 1, 1) := by decide +kernel
theorem dX12_fateOf_3 : decode cX12_fateOf 3 = .ok (.invokevirtual 252, 3) := by decide +kernel
theorem dX12_fateOf_6 : decode cX12_fateOf 6 = .ok (.aload_n 0, 1) := by decide +kernel
theorem dX12_fateOf_7 : decode cX12_fateOf 7 = .ok (.iload_n 1, 1) := by decide +kernel
theorem dX12_fateOf_8 : decode cX12_fateOf 8 = .ok (.invokevirtual 277, 3) := by decide +kernel
theorem dX12_fateOf_11 : decode cX12_fateOf 11 = .ok (.invokevirtual 274, 3) := by decide +kernel
theorem dX12_fateOf_14 : decode cX12_fateOf 14 = .ok (.ireturn, 1) := by decide +kernel
theorem dX12_lowestBit_0 : decode cX12_lowestBit 0 = .ok (.iconst 0, 1) := by decide +kernel
theorem dX12_lowestBit_1 : decode cX12_lowestBit 1 = .ok (.istore_n 2, 1) := by decide +kernel
theorem dX12_lowestBit_2 : decode cX12_lowestBit 2 = .ok (.iload_n 1, 1) := by decide +kernel
theorem dX12_lowestBit_3 : decode cX12_lowestBit 3 = .ok (.iload_n 2, 1) := by decide +kernel
theorem dX12_lowestBit_4 : decode cX12_lowestBit 4 = .ok (.invokestatic 205, 3) := by decide +kernel
theorem dX12_lowestBit_7 : decode cX12_lowestBit 7 = .ok (.ifCond .ne 9, 3) := by decide +kernel
theorem dX12_lowestBit_10 : decode cX12_lowestBit 10 = .ok (.iinc 2 1, 3) := by decide +kernel
theorem dX12_lowestBit_13 : decode cX12_lowestBit 13 = .ok (.goto (-11), 3) := by decide +kernel
theorem dX12_lowestBit_16 : decode cX12_lowestBit 16 = .ok (.iload_n 2, 1) := by decide +kernel
theorem dX12_lowestBit_17 : decode cX12_lowestBit 17 = .ok (.ireturn, 1) := by decide +kernel
theorem dX12_who0_0 : decode cX12_who0 0 = .ok (.iconst 0, 1) := by decide +kernel
theorem dX12_who0_1 : decode cX12_who0 1 = .ok (.istore_n 2, 1) := by decide +kernel
theorem dX12_who0_2 : decode cX12_who0 2 = .ok (.iconst 0, 1) := by decide +kernel
theorem dX12_who0_3 : decode cX12_who0 3 = .ok (.istore_n 3, 1) := by decide +kernel
theorem dX12_who0_4 : decode cX12_who0 4 = .ok (.iload_n 3, 1) := by decide +kernel
theorem dX12_who0_5 : decode cX12_who0 5 = .ok (.aload_n 0, 1) := by decide +kernel
theorem dX12_who0_6 : decode cX12_who0 6 = .ok (.getfield 33, 3) := by decide +kernel
theorem dX12_who0_9 : decode cX12_who0 9 = .ok (.iconst 0, 1) := by decide +kernel
theorem dX12_who0_10 : decode cX12_who0 10 = .ok (.iaload, 1) := by decide +kernel
theorem dX12_who0_11 : decode cX12_who0 11 = .ok (.if_icmp .ge 32, 3) := by decide +kernel
theorem dX12_who0_14 : decode cX12_who0 14 = .ok (.iload_n 2, 1) := by decide +kernel
theorem dX12_who0_15 : decode cX12_who0 15 = .ok (.aload_n 0, 1) := by decide +kernel
theorem dX12_who0_16 : decode cX12_who0 16 = .ok (.getfield 33, 3) := by decide +kernel
theorem dX12_who0_19 : decode cX12_who0 19 = .ok (.bipush 84, 2) := by decide +kernel
theorem dX12_who0_21 : decode cX12_who0 21 = .ok (.iload_n 3, 1) := by decide +kernel
theorem dX12_who0_22 : decode cX12_who0 22 = .ok (.iadd, 1) := by decide +kernel
theorem dX12_who0_23 : decode cX12_who0 23 = .ok (.iaload, 1) := by decide +kernel
theorem dX12_who0_24 : decode cX12_who0 24 = .ok (.iload_n 1, 1) := by decide +kernel
theorem dX12_who0_25 : decode cX12_who0 25 = .ok (.if_icmp .ne 9, 3) := by decide +kernel
theorem dX12_who0_28 : decode cX12_who0 28 = .ok (.iconst 1, 1) := by decide +kernel
theorem dX12_who0_29 : decode cX12_who0 29 = .ok (.iload_n 3, 1) := by decide +kernel
theorem dX12_who0_30 : decode cX12_who0 30 = .ok (.ishl, 1) := by decide +kernel
theorem dX12_who0_31 : decode cX12_who0 31 = .ok (.goto 4, 3) := by decide +kernel
theorem dX12_who0_34 : decode cX12_who0 34 = .ok (.iconst 0, 1) := by decide +kernel
theorem dX12_who0_35 : decode cX12_who0 35 = .ok (.ior, 1) := by decide +kernel
theorem dX12_who0_36 : decode cX12_who0 36 = .ok (.istore_n 2, 1) := by decide +kernel
theorem dX12_who0_37 : decode cX12_who0 37 = .ok (.iinc 3 1, 3) := by decide +kernel
theorem dX12_who0_40 : decode cX12_who0 40 = .ok (.goto (-36), 3) := by decide +kernel
theorem dX12_who0_43 : decode cX12_who0 43 = .ok (.iload_n 2, 1) := by decide +kernel
theorem dX12_who0_44 : decode cX12_who0 44 = .ok (.ireturn, 1) := by decide +kernel
theorem dX12_person_0 : decode cX12_person 0 = .ok (.aload_n 0, 1) := by decide +kernel
theorem dX12_person_1 : decode cX12_person 1 = .ok (.aload_n 0, 1) := by decide +kernel
theorem dX12_person_2 : decode cX12_person 2 = .ok (.iload_n 1, 1) := by decide +kernel
theorem dX12_person_3 : decode cX12_person 3 = .ok (.invokevirtual 280, 3) := by decide +kernel
theorem dX12_person_6 : decode cX12_person 6 = .ok (.ifCond .eq 12, 3) := by decide +kernel
theorem dX12_person_9 : decode cX12_person 9 = .ok (.iload_n 2, 1) := by decide +kernel
theorem dX12_person_10 : decode cX12_person 10 = .ok (.iconst 0, 1) := by decide +kernel
theorem dX12_person_11 : decode cX12_person 11 = .ok (.iconst 5, 1) := by decide +kernel
theorem dX12_person_12 : decode cX12_person 12 = .ok (.invokestatic 180, 3) := by decide +kernel
theorem dX12_person_15 : decode cX12_person 15 = .ok (.ifCond .ne 7, 3) := by decide +kernel
theorem dX12_person_18 : decode cX12_person 18 = .ok (.iconst 1, 1) := by decide +kernel
theorem dX12_person_19 : decode cX12_person 19 = .ok (.goto 4, 3) := by decide +kernel
theorem dX12_person_22 : decode cX12_person 22 = .ok (.iconst 0, 1) := by decide +kernel
theorem dX12_person_23 : decode cX12_person 23 = .ok (.invokevirtual 283, 3) := by decide +kernel
theorem dX12_person_26 : decode cX12_person 26 = .ok (.ifCond .eq 5, 3) := by decide +kernel
theorem dX12_person_29 : decode cX12_person 29 = .ok (.iconst 0, 1) := by decide +kernel
theorem dX12_person_30 : decode cX12_person 30 = .ok (.ireturn, 1) := by decide +kernel
theorem dX12_person_31 : decode cX12_person 31 = .ok (.iload_n 2, 1) := by decide +kernel
theorem dX12_person_32 : decode cX12_person 32 = .ok (.tableswitch 74 0 4 #[36, 46, 56, 62, 68], 36) := by decide +kernel
theorem dX12_person_68 : decode cX12_person 68 = .ok (.aload_n 0, 1) := by decide +kernel
theorem dX12_person_69 : decode cX12_person 69 = .ok (.getfield 33, 3) := by decide +kernel
theorem dX12_person_72 : decode cX12_person 72 = .ok (.bipush 7, 2) := by decide +kernel
theorem dX12_person_74 : decode cX12_person 74 = .ok (.iload_n 1, 1) := by decide +kernel
theorem dX12_person_75 : decode cX12_person 75 = .ok (.iadd, 1) := by decide +kernel
theorem dX12_person_76 : decode cX12_person 76 = .ok (.iaload, 1) := by decide +kernel
theorem dX12_person_77 : decode cX12_person 77 = .ok (.ireturn, 1) := by decide +kernel
theorem dX12_person_78 : decode cX12_person 78 = .ok (.aload_n 0, 1) := by decide +kernel
theorem dX12_person_79 : decode cX12_person 79 = .ok (.getfield 33, 3) := by decide +kernel
theorem dX12_person_82 : decode cX12_person 82 = .ok (.bipush 84, 2) := by decide +kernel
theorem dX12_person_84 : decode cX12_person 84 = .ok (.iload_n 1, 1) := by decide +kernel
theorem dX12_person_85 : decode cX12_person 85 = .ok (.iadd, 1) := by decide +kernel
theorem dX12_person_86 : decode cX12_person 86 = .ok (.iaload, 1) := by decide +kernel
theorem dX12_person_87 : decode cX12_person 87 = .ok (.ireturn, 1) := by decide +kernel
theorem dX12_person_88 : decode cX12_person 88 = .ok (.aload_n 0, 1) := by decide +kernel
theorem dX12_person_89 : decode cX12_person 89 = .ok (.iload_n 1, 1) := by decide +kernel
theorem dX12_person_90 : decode cX12_person 90 = .ok (.invokevirtual 287, 3) := by decide +kernel
theorem dX12_person_93 : decode cX12_person 93 = .ok (.ireturn, 1) := by decide +kernel
theorem dX12_person_94 : decode cX12_person 94 = .ok (.aload_n 0, 1) := by decide +kernel
theorem dX12_person_95 : decode cX12_person 95 = .ok (.iload_n 1, 1) := by decide +kernel
theorem dX12_person_96 : decode cX12_person 96 = .ok (.invokevirtual 290, 3) := by decide +kernel
theorem dX12_person_99 : decode cX12_person 99 = .ok (.ireturn, 1) := by decide +kernel
theorem dX12_person_100 : decode cX12_person 100 = .ok (.aload_n 0, 1) := by decide +kernel
theorem dX12_person_101 : decode cX12_person 101 = .ok (.iload_n 1, 1) := by decide +kernel
theorem dX12_person_102 : decode cX12_person 102 = .ok (.invokevirtual 252, 3) := by decide +kernel
theorem dX12_person_105 : decode cX12_person 105 = .ok (.ireturn, 1) := by decide +kernel
theorem dX12_person_106 : decode cX12_person 106 = .ok (.aload_n 0, 1) := by decide +kernel
theorem dX12_person_107 : decode cX12_person 107 = .ok (.iload_n 1, 1) := by decide +kernel
theorem dX12_person_108 : decode cX12_person 108 = .ok (.invokevirtual 248, 3) := by decide +kernel
theorem dX12_person_111 : decode cX12_person 111 = .ok (.ireturn, 1) := by decide +kernel
theorem dX12_item_0 : decode cX12_item 0 = .ok (.aload_n 0, 1) := by decide +kernel
theorem dX12_item_1 : decode cX12_item 1 = .ok (.iconst 0, 1) := by decide +kernel
theorem dX12_item_2 : decode cX12_item 2 = .ok (.putfield 1, 3) := by decide +kernel
theorem dX12_item_5 : decode cX12_item 5 = .ok (.aload_n 0, 1) := by decide +kernel
theorem dX12_item_6 : decode cX12_item 6 = .ok (.iload_n 1, 1) := by decide +kernel
theorem dX12_item_7 : decode cX12_item 7 = .ok (.invokevirtual 293, 3) := by decide +kernel
theorem dX12_item_10 : decode cX12_item 10 = .ok (.ifCond .ne 5, 3) := by decide +kernel
theorem dX12_item_13 : decode cX12_item 13 = .ok (.iconst (-1), 1) := by decide +kernel
theorem dX12_item_14 : decode cX12_item 14 = .ok (.ireturn, 1) := by decide +kernel
theorem dX12_item_15 : decode cX12_item 15 = .ok (.iconst 0, 1) := by decide +kernel
theorem dX12_item_16 : decode cX12_item 16 = .ok (.istore_n 3, 1) := by decide +kernel
theorem dX12_item_17 : decode cX12_item 17 = .ok (.iconst 0, 1) := by decide +kernel
theorem dX12_item_18 : decode cX12_item 18 = .ok (.istore 4, 2) := by decide +kernel
theorem dX12_item_20 : decode cX12_item 20 = .ok (.iload 4, 2) := by decide +kernel
theorem dX12_item_22 : decode cX12_item 22 = .ok (.aload_n 0, 1) := by decide +kernel
theorem dX12_item_23 : decode cX12_item 23 = .ok (.getfield 33, 3) := by decide +kernel
theorem dX12_item_26 : decode cX12_item 26 = .ok (.iconst 2, 1) := by decide +kernel
theorem dX12_item_27 : decode cX12_item 27 = .ok (.iaload, 1) := by decide +kernel
theorem dX12_item_28 : decode cX12_item 28 = .ok (.if_icmp .ge 48, 3) := by decide +kernel
theorem dX12_item_31 : decode cX12_item 31 = .ok (.iload_n 3, 1) := by decide +kernel
theorem dX12_item_32 : decode cX12_item 32 = .ok (.aload_n 0, 1) := by decide +kernel
theorem dX12_item_33 : decode cX12_item 33 = .ok (.getfield 33, 3) := by decide +kernel
theorem dX12_item_36 : decode cX12_item 36 = .ok (.bipush 32, 2) := by decide +kernel
theorem dX12_item_38 : decode cX12_item 38 = .ok (.iload 4, 2) := by decide +kernel
theorem dX12_item_40 : decode cX12_item 40 = .ok (.iadd, 1) := by decide +kernel
theorem dX12_item_41 : decode cX12_item 41 = .ok (.iaload, 1) := by decide +kernel
theorem dX12_item_42 : decode cX12_item 42 = .ok (.iload_n 1, 1) := by decide +kernel
theorem dX12_item_43 : decode cX12_item 43 = .ok (.if_icmp .eq 17, 3) := by decide +kernel
theorem dX12_item_46 : decode cX12_item 46 = .ok (.aload_n 0, 1) := by decide +kernel
theorem dX12_item_47 : decode cX12_item 47 = .ok (.getfield 33, 3) := by decide +kernel
theorem dX12_item_50 : decode cX12_item 50 = .ok (.bipush 48, 2) := by decide +kernel
theorem dX12_item_52 : decode cX12_item 52 = .ok (.iload 4, 2) := by decide +kernel
theorem dX12_item_54 : decode cX12_item 54 = .ok (.iadd, 1) := by decide +kernel
theorem dX12_item_55 : decode cX12_item 55 = .ok (.iaload, 1) := by decide +kernel
theorem dX12_item_56 : decode cX12_item 56 = .ok (.iload_n 1, 1) := by decide +kernel
theorem dX12_item_57 : decode cX12_item 57 = .ok (.if_icmp .ne 10, 3) := by decide +kernel
theorem dX12_item_60 : decode cX12_item 60 = .ok (.iconst 1, 1) := by decide +kernel
theorem dX12_item_61 : decode cX12_item 61 = .ok (.iload 4, 2) := by decide +kernel
theorem dX12_item_63 : decode cX12_item 63 = .ok (.ishl, 1) := by decide +kernel
theorem dX12_item_64 : decode cX12_item 64 = .ok (.goto 4, 3) := by decide +kernel
theorem dX12_item_67 : decode cX12_item 67 = .ok (.iconst 0, 1) := by decide +kernel
theorem dX12_item_68 : decode cX12_item 68 = .ok (.ior, 1) := by decide +kernel
theorem dX12_item_69 : decode cX12_item 69 = .ok (.istore_n 3, 1) := by decide +kernel
theorem dX12_item_70 : decode cX12_item 70 = .ok (.iinc 4 1, 3) := by decide +kernel
theorem dX12_item_73 : decode cX12_item 73 = .ok (.goto (-53), 3) := by decide +kernel
theorem dX12_item_76 : decode cX12_item 76 = .ok (.iload_n 2, 1) := by decide +kernel
theorem dX12_item_77 : decode cX12_item 77 = .ok (.tableswitch 111 0 4 #[35, 45, 55, 67, 69], 35) := by decide +kernel
theorem dX12_item_112 : decode cX12_item 112 = .ok (.aload_n 0, 1) := by decide +kernel
theorem dX12_item_113 : decode cX12_item 113 = .ok (.getfield 33, 3) := by decide +kernel
theorem dX12_item_116 : decode cX12_item 116 = .ok (.bipush 12, 2) := by decide +kernel
theorem dX12_item_118 : decode cX12_item 118 = .ok (.iload_n 1, 1) := by decide +kernel
theorem dX12_item_119 : decode cX12_item 119 = .ok (.iadd, 1) := by decide +kernel
theorem dX12_item_120 : decode cX12_item 120 = .ok (.iaload, 1) := by decide +kernel
theorem dX12_item_121 : decode cX12_item 121 = .ok (.ireturn, 1) := by decide +kernel
theorem dX12_item_122 : decode cX12_item 122 = .ok (.aload_n 0, 1) := by decide +kernel
theorem dX12_item_123 : decode cX12_item 123 = .ok (.getfield 33, 3) := by decide +kernel
theorem dX12_item_126 : decode cX12_item 126 = .ok (.bipush 22, 2) := by decide +kernel
theorem dX12_item_128 : decode cX12_item 128 = .ok (.iload_n 1, 1) := by decide +kernel
theorem dX12_item_129 : decode cX12_item 129 = .ok (.iadd, 1) := by decide +kernel
theorem dX12_item_130 : decode cX12_item 130 = .ok (.iaload, 1) := by decide +kernel
theorem dX12_item_131 : decode cX12_item 131 = .ok (.ireturn, 1) := by decide +kernel
theorem dX12_item_132 : decode cX12_item 132 = .ok (.aload_n 0, 1) := by decide +kernel
theorem dX12_item_133 : decode cX12_item 133 = .ok (.getfield 33, 3) := by decide +kernel
theorem dX12_item_136 : decode cX12_item 136 = .ok (.bipush 81, 2) := by decide +kernel
theorem dX12_item_138 : decode cX12_item 138 = .ok (.iaload, 1) := by decide +kernel
theorem dX12_item_139 : decode cX12_item 139 = .ok (.iload_n 1, 1) := by decide +kernel
theorem dX12_item_140 : decode cX12_item 140 = .ok (.ishr, 1) := by decide +kernel
theorem dX12_item_141 : decode cX12_item 141 = .ok (.iconst 1, 1) := by decide +kernel
theorem dX12_item_142 : decode cX12_item 142 = .ok (.iand, 1) := by decide +kernel
theorem dX12_item_143 : decode cX12_item 143 = .ok (.ireturn, 1) := by decide +kernel
theorem dX12_item_144 : decode cX12_item 144 = .ok (.iload_n 3, 1) := by decide +kernel
theorem dX12_item_145 : decode cX12_item 145 = .ok (.ireturn, 1) := by decide +kernel
theorem dX12_item_146 : decode cX12_item 146 = .ok (.aload_n 0, 1) := by decide +kernel
theorem dX12_item_147 : decode cX12_item 147 = .ok (.getfield 33, 3) := by decide +kernel
theorem dX12_item_150 : decode cX12_item 150 = .ok (.bipush 81, 2) := by decide +kernel
theorem dX12_item_152 : decode cX12_item 152 = .ok (.iaload, 1) := by decide +kernel
theorem dX12_item_153 : decode cX12_item 153 = .ok (.iload_n 1, 1) := by decide +kernel
theorem dX12_item_154 : decode cX12_item 154 = .ok (.invokestatic 205, 3) := by decide +kernel
theorem dX12_item_157 : decode cX12_item 157 = .ok (.ifCond .eq 29, 3) := by decide +kernel
theorem dX12_item_160 : decode cX12_item 160 = .ok (.aload_n 0, 1) := by decide +kernel
theorem dX12_item_161 : decode cX12_item 161 = .ok (.aload_n 0, 1) := by decide +kernel
theorem dX12_item_162 : decode cX12_item 162 = .ok (.iload_n 1, 1) := by decide +kernel
theorem dX12_item_163 : decode cX12_item 163 = .ok (.aload_n 0, 1) := by decide +kernel
theorem dX12_item_164 : decode cX12_item 164 = .ok (.getfield 33, 3) := by decide +kernel
theorem dX12_item_167 : decode cX12_item 167 = .ok (.bipush 81, 2) := by decide +kernel
theorem dX12_item_169 : decode cX12_item 169 = .ok (.iaload, 1) := by decide +kernel
theorem dX12_item_170 : decode cX12_item 170 = .ok (.aload_n 0, 1) := by decide +kernel
theorem dX12_item_171 : decode cX12_item 171 = .ok (.getfield 33, 3) := by decide +kernel
theorem dX12_item_174 : decode cX12_item 174 = .ok (.bipush 82, 2) := by decide +kernel
theorem dX12_item_176 : decode cX12_item 176 = .ok (.iaload, 1) := by decide +kernel
theorem dX12_item_177 : decode cX12_item 177 = .ok (.invokevirtual 264, 3) := by decide +kernel
theorem dX12_item_180 : decode cX12_item 180 = .ok (.invokevirtual 296, 3) := by decide +kernel
theorem dX12_item_183 : decode cX12_item 183 = .ok (.goto 4, 3) := by decide +kernel
theorem dX12_item_186 : decode cX12_item 186 = .ok (.iload_n 1, 1) := by decide +kernel
theorem dX12_item_187 : decode cX12_item 187 = .ok (.ireturn, 1) := by decide +kernel
theorem dX12_item_188 : decode cX12_item 188 = .ok (.iconst (-1), 1) := by decide +kernel
theorem dX12_item_189 : decode cX12_item 189 = .ok (.ireturn, 1) := by decide +kernel
theorem dX12_join_0 : decode cX12_join 0 = .ok (.aload_n 0, 1) := by decide +kernel
theorem dX12_join_1 : decode cX12_join 1 = .ok (.iconst 0, 1) := by decide +kernel
theorem dX12_join_2 : decode cX12_join 2 = .ok (.putfield 1, 3) := by decide +kernel
theorem dX12_join_5 : decode cX12_join 5 = .ok (.aload_n 0, 1) := by decide +kernel
theorem dX12_join_6 : decode cX12_join 6 = .ok (.iload_n 1, 1) := by decide +kernel
theorem dX12_join_7 : decode cX12_join 7 = .ok (.invokevirtual 299, 3) := by decide +kernel
theorem dX12_join_10 : decode cX12_join 10 = .ok (.ifCond .ne 5, 3) := by decide +kernel
theorem dX12_join_13 : decode cX12_join 13 = .ok (.iconst (-1), 1) := by decide +kernel
theorem dX12_join_14 : decode cX12_join 14 = .ok (.ireturn, 1) := by decide +kernel
theorem dX12_join_15 : decode cX12_join 15 = .ok (.iload_n 2, 1) := by decide +kernel
theorem dX12_join_16 : decode cX12_join 16 = .ok (.ifCond .ne 15, 3) := by decide +kernel
theorem dX12_join_19 : decode cX12_join 19 = .ok (.aload_n 0, 1) := by decide +kernel
theorem dX12_join_20 : decode cX12_join 20 = .ok (.getfield 33, 3) := by decide +kernel
theorem dX12_join_23 : decode cX12_join 23 = .ok (.bipush 32, 2) := by decide +kernel
theorem dX12_join_25 : decode cX12_join 25 = .ok (.iload_n 1, 1) := by decide +kernel
theorem dX12_join_26 : decode cX12_join 26 = .ok (.iadd, 1) := by decide +kernel
theorem dX12_join_27 : decode cX12_join 27 = .ok (.iaload, 1) := by decide +kernel
theorem dX12_join_28 : decode cX12_join 28 = .ok (.goto 57, 3) := by decide +kernel
theorem dX12_join_31 : decode cX12_join 31 = .ok (.iload_n 2, 1) := by decide +kernel
theorem dX12_join_32 : decode cX12_join 32 = .ok (.iconst 1, 1) := by decide +kernel
theorem dX12_join_33 : decode cX12_join 33 = .ok (.if_icmp .ne 15, 3) := by decide +kernel
theorem dX12_join_36 : decode cX12_join 36 = .ok (.aload_n 0, 1) := by decide +kernel
theorem dX12_join_37 : decode cX12_join 37 = .ok (.getfield 33, 3) := by decide +kernel
theorem dX12_join_40 : decode cX12_join 40 = .ok (.bipush 48, 2) := by decide +kernel
theorem dX12_join_42 : decode cX12_join 42 = .ok (.iload_n 1, 1) := by decide +kernel
theorem dX12_join_43 : decode cX12_join 43 = .ok (.iadd, 1) := by decide +kernel
theorem dX12_join_44 : decode cX12_join 44 = .ok (.iaload, 1) := by decide +kernel
theorem dX12_join_45 : decode cX12_join 45 = .ok (.goto 40, 3) := by decide +kernel
theorem dX12_join_48 : decode cX12_join 48 = .ok (.iload_n 2, 1) := by decide +kernel
theorem dX12_join_49 : decode cX12_join 49 = .ok (.iconst 2, 1) := by decide +kernel
theorem dX12_join_50 : decode cX12_join 50 = .ok (.if_icmp .ne 15, 3) := by decide +kernel
theorem dX12_join_53 : decode cX12_join 53 = .ok (.aload_n 0, 1) := by decide +kernel
theorem dX12_join_54 : decode cX12_join 54 = .ok (.getfield 33, 3) := by decide +kernel
theorem dX12_join_57 : decode cX12_join 57 = .ok (.bipush 64, 2) := by decide +kernel
theorem dX12_join_59 : decode cX12_join 59 = .ok (.iload_n 1, 1) := by decide +kernel
theorem dX12_join_60 : decode cX12_join 60 = .ok (.iadd, 1) := by decide +kernel
theorem dX12_join_61 : decode cX12_join 61 = .ok (.iaload, 1) := by decide +kernel
theorem dX12_join_62 : decode cX12_join 62 = .ok (.goto 23, 3) := by decide +kernel
theorem dX12_join_65 : decode cX12_join 65 = .ok (.iload_n 2, 1) := by decide +kernel
theorem dX12_join_66 : decode cX12_join 66 = .ok (.iconst 3, 1) := by decide +kernel
theorem dX12_join_67 : decode cX12_join 67 = .ok (.if_icmp .ne 17, 3) := by decide +kernel
theorem dX12_join_70 : decode cX12_join 70 = .ok (.aload_n 0, 1) := by decide +kernel
theorem dX12_join_71 : decode cX12_join 71 = .ok (.getfield 33, 3) := by decide +kernel
theorem dX12_join_74 : decode cX12_join 74 = .ok (.bipush 82, 2) := by decide +kernel
theorem dX12_join_76 : decode cX12_join 76 = .ok (.iaload, 1) := by decide +kernel
theorem dX12_join_77 : decode cX12_join 77 = .ok (.iload_n 1, 1) := by decide +kernel
theorem dX12_join_78 : decode cX12_join 78 = .ok (.ishr, 1) := by decide +kernel
theorem dX12_join_79 : decode cX12_join 79 = .ok (.iconst 1, 1) := by decide +kernel
theorem dX12_join_80 : decode cX12_join 80 = .ok (.iand, 1) := by decide +kernel
theorem dX12_join_81 : decode cX12_join 81 = .ok (.goto 4, 3) := by decide +kernel
theorem dX12_join_84 : decode cX12_join 84 = .ok (.iconst (-1), 1) := by decide +kernel
theorem dX12_join_85 : decode cX12_join 85 = .ok (.ireturn, 1) := by decide +kernel
theorem dX12_now_0 : decode cX12_now 0 = .ok (.aload_n 0, 1) := by decide +kernel
theorem dX12_now_1 : decode cX12_now 1 = .ok (.iconst 0, 1) := by decide +kernel
theorem dX12_now_2 : decode cX12_now 2 = .ok (.putfield 1, 3) := by decide +kernel
theorem dX12_now_5 : decode cX12_now 5 = .ok (.iload_n 1, 1) := by decide +kernel
theorem dX12_now_6 : decode cX12_now 6 = .ok (.tableswitch 112 0 7 #[46, 54, 59, 65, 71, 77, 83, 104], 46) := by decide +kernel
theorem dX12_now_52 : decode cX12_now 52 = .ok (.aload_n 0, 1) := by decide +kernel
theorem dX12_now_53 : decode cX12_now 53 = .ok (.getfield 33, 3) := by decide +kernel
theorem dX12_now_56 : decode cX12_now 56 = .ok (.bipush 80, 2) := by decide +kernel
theorem dX12_now_58 : decode cX12_now 58 = .ok (.iaload, 1) := by decide +kernel
theorem dX12_now_59 : decode cX12_now 59 = .ok (.ireturn, 1) := by decide +kernel
theorem dX12_now_60 : decode cX12_now 60 = .ok (.aload_n 0, 1) := by decide +kernel
theorem dX12_now_61 : decode cX12_now 61 = .ok (.invokevirtual 302, 3) := by decide +kernel
theorem dX12_now_64 : decode cX12_now 64 = .ok (.ireturn, 1) := by decide +kernel
theorem dX12_now_65 : decode cX12_now 65 = .ok (.aload_n 0, 1) := by decide +kernel
theorem dX12_now_66 : decode cX12_now 66 = .ok (.iconst 0, 1) := by decide +kernel
theorem dX12_now_67 : decode cX12_now 67 = .ok (.invokevirtual 305, 3) := by decide +kernel
theorem dX12_now_70 : decode cX12_now 70 = .ok (.ireturn, 1) := by decide +kernel
theorem dX12_now_71 : decode cX12_now 71 = .ok (.aload_n 0, 1) := by decide +kernel
theorem dX12_now_72 : decode cX12_now 72 = .ok (.iconst 1, 1) := by decide +kernel
theorem dX12_now_73 : decode cX12_now 73 = .ok (.invokevirtual 305, 3) := by decide +kernel
theorem dX12_now_76 : decode cX12_now 76 = .ok (.ireturn, 1) := by decide +kernel
theorem dX12_now_77 : decode cX12_now 77 = .ok (.aload_n 0, 1) := by decide +kernel
theorem dX12_now_78 : decode cX12_now 78 = .ok (.iconst 2, 1) := by decide +kernel
theorem dX12_now_79 : decode cX12_now 79 = .ok (.invokevirtual 305, 3) := by decide +kernel
theorem dX12_now_82 : decode cX12_now 82 = .ok (.ireturn, 1) := by decide +kernel
theorem dX12_now_83 : decode cX12_now 83 = .ok (.aload_n 0, 1) := by decide +kernel
theorem dX12_now_84 : decode cX12_now 84 = .ok (.iconst 3, 1) := by decide +kernel
theorem dX12_now_85 : decode cX12_now 85 = .ok (.invokevirtual 305, 3) := by decide +kernel
theorem dX12_now_88 : decode cX12_now 88 = .ok (.ireturn, 1) := by decide +kernel
theorem dX12_now_89 : decode cX12_now 89 = .ok (.iconst 1, 1) := by decide +kernel
theorem dX12_now_90 : decode cX12_now 90 = .ok (.aload_n 0, 1) := by decide +kernel
theorem dX12_now_91 : decode cX12_now 91 = .ok (.getfield 33, 3) := by decide +kernel
theorem dX12_now_94 : decode cX12_now 94 = .ok (.iconst 2, 1) := by decide +kernel
theorem dX12_now_95 : decode cX12_now 95 = .ok (.iaload, 1) := by decide +kernel
theorem dX12_now_96 : decode cX12_now 96 = .ok (.ishl, 1) := by decide +kernel
theorem dX12_now_97 : decode cX12_now 97 = .ok (.iconst 1, 1) := by decide +kernel
theorem dX12_now_98 : decode cX12_now 98 = .ok (.isub, 1) := by decide +kernel
theorem dX12_now_99 : decode cX12_now 99 = .ok (.aload_n 0, 1) := by decide +kernel
theorem dX12_now_100 : decode cX12_now 100 = .ok (.getfield 33, 3) := by decide +kernel
theorem dX12_now_103 : decode cX12_now 103 = .ok (.bipush 82, 2) := by decide +kernel
theorem dX12_now_105 : decode cX12_now 105 = .ok (.iaload, 1) := by decide +kernel
theorem dX12_now_106 : decode cX12_now 106 = .ok (.iconst (-1), 1) := by decide +kernel
theorem dX12_now_107 : decode cX12_now 107 = .ok (.ixor, 1) := by decide +kernel
theorem dX12_now_108 : decode cX12_now 108 = .ok (.iand, 1) := by decide +kernel
theorem dX12_now_109 : decode cX12_now 109 = .ok (.ireturn, 1) := by decide +kernel
theorem dX12_now_110 : decode cX12_now 110 = .ok (.aload_n 0, 1) := by decide +kernel
theorem dX12_now_111 : decode cX12_now 111 = .ok (.getfield 33, 3) := by decide +kernel
theorem dX12_now_114 : decode cX12_now 114 = .ok (.bipush 83, 2) := by decide +kernel
theorem dX12_now_116 : decode cX12_now 116 = .ok (.iaload, 1) := by decide +kernel
theorem dX12_now_117 : decode cX12_now 117 = .ok (.ireturn, 1) := by decide +kernel
theorem dX12_now_118 : decode cX12_now 118 = .ok (.iconst (-1), 1) := by decide +kernel
theorem dX12_now_119 : decode cX12_now 119 = .ok (.ireturn, 1) := by decide +kernel
theorem dX12_plunges_0 : decode cX12_plunges 0 = .ok (.aload_n 0, 1) := by decide +kernel
theorem dX12_plunges_1 : decode cX12_plunges 1 = .ok (.aload_n 0, 1) := by decide +kernel
theorem dX12_plunges_2 : decode cX12_plunges 2 = .ok (.getfield 33, 3) := by decide +kernel
theorem dX12_plunges_5 : decode cX12_plunges 5 = .ok (.iconst 3, 1) := by decide +kernel
theorem dX12_plunges_6 : decode cX12_plunges 6 = .ok (.iaload, 1) := by decide +kernel
theorem dX12_plunges_7 : decode cX12_plunges 7 = .ok (.aload_n 0, 1) := by decide +kernel
theorem dX12_plunges_8 : decode cX12_plunges 8 = .ok (.getfield 33, 3) := by decide +kernel
theorem dX12_plunges_11 : decode cX12_plunges 11 = .ok (.bipush 7, 2) := by decide +kernel
theorem dX12_plunges_13 : decode cX12_plunges 13 = .ok (.iload_n 1, 1) := by decide +kernel
theorem dX12_plunges_14 : decode cX12_plunges 14 = .ok (.iadd, 1) := by decide +kernel
theorem dX12_plunges_15 : decode cX12_plunges 15 = .ok (.iaload, 1) := by decide +kernel
theorem dX12_plunges_16 : decode cX12_plunges 16 = .ok (.isub, 1) := by decide +kernel
theorem dX12_plunges_17 : decode cX12_plunges 17 = .ok (.invokevirtual 271, 3) := by decide +kernel
theorem dX12_plunges_20 : decode cX12_plunges 20 = .ok (.istore_n 2, 1) := by decide +kernel
theorem dX12_plunges_21 : decode cX12_plunges 21 = .ok (.iconst 0, 1) := by decide +kernel
theorem dX12_plunges_22 : decode cX12_plunges 22 = .ok (.istore_n 3, 1) := by decide +kernel
theorem dX12_plunges_23 : decode cX12_plunges 23 = .ok (.iload_n 3, 1) := by decide +kernel
theorem dX12_plunges_24 : decode cX12_plunges 24 = .ok (.aload_n 0, 1) := by decide +kernel
theorem dX12_plunges_25 : decode cX12_plunges 25 = .ok (.getfield 33, 3) := by decide +kernel
theorem dX12_plunges_28 : decode cX12_plunges 28 = .ok (.iconst 2, 1) := by decide +kernel
theorem dX12_plunges_29 : decode cX12_plunges 29 = .ok (.iaload, 1) := by decide +kernel
theorem dX12_plunges_30 : decode cX12_plunges 30 = .ok (.if_icmp .ge 53, 3) := by decide +kernel
theorem dX12_plunges_33 : decode cX12_plunges 33 = .ok (.aload_n 0, 1) := by decide +kernel
theorem dX12_plunges_34 : decode cX12_plunges 34 = .ok (.getfield 33, 3) := by decide +kernel
theorem dX12_plunges_37 : decode cX12_plunges 37 = .ok (.bipush 12, 2) := by decide +kernel
theorem dX12_plunges_39 : decode cX12_plunges 39 = .ok (.aload_n 0, 1) := by decide +kernel
theorem dX12_plunges_40 : decode cX12_plunges 40 = .ok (.getfield 33, 3) := by decide +kernel
theorem dX12_plunges_43 : decode cX12_plunges 43 = .ok (.bipush 32, 2) := by decide +kernel
theorem dX12_plunges_45 : decode cX12_plunges 45 = .ok (.iload_n 3, 1) := by decide +kernel
theorem dX12_plunges_46 : decode cX12_plunges 46 = .ok (.iadd, 1) := by decide +kernel
theorem dX12_plunges_47 : decode cX12_plunges 47 = .ok (.iaload, 1) := by decide +kernel
theorem dX12_plunges_48 : decode cX12_plunges 48 = .ok (.iadd, 1) := by decide +kernel
theorem dX12_plunges_49 : decode cX12_plunges 49 = .ok (.iaload, 1) := by decide +kernel
theorem dX12_plunges_50 : decode cX12_plunges 50 = .ok (.iload_n 1, 1) := by decide +kernel
theorem dX12_plunges_51 : decode cX12_plunges 51 = .ok (.if_icmp .ne 26, 3) := by decide +kernel
theorem dX12_plunges_54 : decode cX12_plunges 54 = .ok (.iload_n 2, 1) := by decide +kernel
theorem dX12_plunges_55 : decode cX12_plunges 55 = .ok (.iload_n 3, 1) := by decide +kernel
theorem dX12_plunges_56 : decode cX12_plunges 56 = .ok (.invokestatic 205, 3) := by decide +kernel
theorem dX12_plunges_59 : decode cX12_plunges 59 = .ok (.ifCond .ne 18, 3) := by decide +kernel
theorem dX12_plunges_62 : decode cX12_plunges 62 = .ok (.aload_n 0, 1) := by decide +kernel
theorem dX12_plunges_63 : decode cX12_plunges 63 = .ok (.getfield 33, 3) := by decide +kernel
theorem dX12_plunges_66 : decode cX12_plunges 66 = .ok (.bipush 82, 2) := by decide +kernel
theorem dX12_plunges_68 : decode cX12_plunges 68 = .ok (.dup2, 1) := by decide +kernel
theorem dX12_plunges_69 : decode cX12_plunges 69 = .ok (.iaload, 1) := by decide +kernel
theorem dX12_plunges_70 : decode cX12_plunges 70 = .ok (.iconst 1, 1) := by decide +kernel
theorem dX12_plunges_71 : decode cX12_plunges 71 = .ok (.iload_n 3, 1) := by decide +kernel
theorem dX12_plunges_72 : decode cX12_plunges 72 = .ok (.ishl, 1) := by decide +kernel
theorem dX12_plunges_73 : decode cX12_plunges 73 = .ok (.iconst (-1), 1) := by decide +kernel
theorem dX12_plunges_74 : decode cX12_plunges 74 = .ok (.ixor, 1) := by decide +kernel
theorem dX12_plunges_75 : decode cX12_plunges 75 = .ok (.iand, 1) := by decide +kernel
theorem dX12_plunges_76 : decode cX12_plunges 76 = .ok (.iastore, 1) := by decide +kernel
theorem dX12_plunges_77 : decode cX12_plunges 77 = .ok (.iinc 3 1, 3) := by decide +kernel
theorem dX12_plunges_80 : decode cX12_plunges 80 = .ok (.goto (-57), 3) := by decide +kernel
theorem dX12_plunges_83 : decode cX12_plunges 83 = .ok (.aload_n 0, 1) := by decide +kernel
theorem dX12_plunges_84 : decode cX12_plunges 84 = .ok (.getfield 33, 3) := by decide +kernel
theorem dX12_plunges_87 : decode cX12_plunges 87 = .ok (.bipush 84, 2) := by decide +kernel
theorem dX12_plunges_89 : decode cX12_plunges 89 = .ok (.iload_n 1, 1) := by decide +kernel
theorem dX12_plunges_90 : decode cX12_plunges 90 = .ok (.iadd, 1) := by decide +kernel
theorem dX12_plunges_91 : decode cX12_plunges 91 = .ok (.iconst 2, 1) := by decide +kernel
theorem dX12_plunges_92 : decode cX12_plunges 92 = .ok (.iastore, 1) := by decide +kernel
theorem dX12_plunges_93 : decode cX12_plunges 93 = .ok (.aload_n 0, 1) := by decide +kernel
theorem dX12_plunges_94 : decode cX12_plunges 94 = .ok (.getfield 33, 3) := by decide +kernel
theorem dX12_plunges_97 : decode cX12_plunges 97 = .ok (.bipush 83, 2) := by decide +kernel
theorem dX12_plunges_99 : decode cX12_plunges 99 = .ok (.dup2, 1) := by decide +kernel
theorem dX12_plunges_100 : decode cX12_plunges 100 = .ok (.iaload, 1) := by decide +kernel
theorem dX12_plunges_101 : decode cX12_plunges 101 = .ok (.iconst 1, 1) := by decide +kernel
theorem dX12_plunges_102 : decode cX12_plunges 102 = .ok (.iadd, 1) := by decide +kernel
theorem dX12_plunges_103 : decode cX12_plunges 103 = .ok (.iastore, 1) := by decide +kernel
theorem dX12_plunges_104 : decode cX12_plunges 104 = .ok (.return_, 1) := by decide +kernel
theorem dX12_hangs_0 : decode cX12_hangs 0 = .ok (.aload_n 0, 1) := by decide +kernel
theorem dX12_hangs_1 : decode cX12_hangs 1 = .ok (.getfield 33, 3) := by decide +kernel
theorem dX12_hangs_4 : decode cX12_hangs 4 = .ok (.bipush 84, 2) := by decide +kernel
theorem dX12_hangs_6 : decode cX12_hangs 6 = .ok (.iload_n 1, 1) := by decide +kernel
theorem dX12_hangs_7 : decode cX12_hangs 7 = .ok (.iadd, 1) := by decide +kernel
theorem dX12_hangs_8 : decode cX12_hangs 8 = .ok (.iconst 1, 1) := by decide +kernel
theorem dX12_hangs_9 : decode cX12_hangs 9 = .ok (.iastore, 1) := by decide +kernel
theorem dX12_hangs_10 : decode cX12_hangs 10 = .ok (.aload_n 0, 1) := by decide +kernel
theorem dX12_hangs_11 : decode cX12_hangs 11 = .ok (.iload_n 1, 1) := by decide +kernel
theorem dX12_hangs_12 : decode cX12_hangs 12 = .ok (.invokevirtual 287, 3) := by decide +kernel
theorem dX12_hangs_15 : decode cX12_hangs 15 = .ok (.aload_n 0, 1) := by decide +kernel
theorem dX12_hangs_16 : decode cX12_hangs 16 = .ok (.invokevirtual 302, 3) := by decide +kernel
theorem dX12_hangs_19 : decode cX12_hangs 19 = .ok (.if_icmp .gt 8, 3) := by decide +kernel
theorem dX12_hangs_22 : decode cX12_hangs 22 = .ok (.aload_n 0, 1) := by decide +kernel
theorem dX12_hangs_23 : decode cX12_hangs 23 = .ok (.iload_n 1, 1) := by decide +kernel
theorem dX12_hangs_24 : decode cX12_hangs 24 = .ok (.invokevirtual 308, 3) := by decide +kernel
theorem dX12_hangs_27 : decode cX12_hangs 27 = .ok (.return_, 1) := by decide +kernel
theorem dX12_whyUnload_0 : decode cX12_whyUnload 0 = .ok (.aload_n 0, 1) := by decide +kernel
theorem dX12_whyUnload_1 : decode cX12_whyUnload 1 = .ok (.getfield 33, 3) := by decide +kernel
theorem dX12_whyUnload_4 : decode cX12_whyUnload 4 = .ok (.bipush 81, 2) := by decide +kernel
theorem dX12_whyUnload_6 : decode cX12_whyUnload 6 = .ok (.iaload, 1) := by decide +kernel
theorem dX12_whyUnload_7 : decode cX12_whyUnload 7 = .ok (.iload_n 1, 1) := by decide +kernel
theorem dX12_whyUnload_8 : decode cX12_whyUnload 8 = .ok (.invokestatic 205, 3) := by decide +kernel
theorem dX12_whyUnload_11 : decode cX12_whyUnload 11 = .ok (.ifCond .ne 7, 3) := by decide +kernel
theorem dX12_whyUnload_14 : decode cX12_whyUnload 14 = .ok (.iconst 1, 1) := by decide +kernel
theorem dX12_whyUnload_15 : decode cX12_whyUnload 15 = .ok (.goto 24, 3) := by decide +kernel
theorem dX12_whyUnload_18 : decode cX12_whyUnload 18 = .ok (.aload_n 0, 1) := by decide +kernel
theorem dX12_whyUnload_19 : decode cX12_whyUnload 19 = .ok (.aload_n 0, 1) := by decide +kernel
theorem dX12_whyUnload_20 : decode cX12_whyUnload 20 = .ok (.getfield 33, 3) := by decide +kernel
theorem dX12_whyUnload_23 : decode cX12_whyUnload 23 = .ok (.bipush 12, 2) := by decide +kernel
theorem dX12_whyUnload_25 : decode cX12_whyUnload 25 = .ok (.iload_n 1, 1) := by decide +kernel
theorem dX12_whyUnload_26 : decode cX12_whyUnload 26 = .ok (.iadd, 1) := by decide +kernel
theorem dX12_whyUnload_27 : decode cX12_whyUnload 27 = .ok (.iaload, 1) := by decide +kernel
theorem dX12_whyUnload_28 : decode cX12_whyUnload 28 = .ok (.invokevirtual 268, 3) := by decide +kernel
theorem dX12_whyUnload_31 : decode cX12_whyUnload 31 = .ok (.ifCond .eq 7, 3) := by decide +kernel
theorem dX12_whyUnload_34 : decode cX12_whyUnload 34 = .ok (.iconst 2, 1) := by decide +kernel
theorem dX12_whyUnload_35 : decode cX12_whyUnload 35 = .ok (.goto 4, 3) := by decide +kernel
theorem dX12_whyUnload_38 : decode cX12_whyUnload 38 = .ok (.iconst 0, 1) := by decide +kernel
theorem dX12_whyUnload_39 : decode cX12_whyUnload 39 = .ok (.ireturn, 1) := by decide +kernel
theorem dX12_takesOut_0 : decode cX12_takesOut 0 = .ok (.aload_n 0, 1) := by decide +kernel
theorem dX12_takesOut_1 : decode cX12_takesOut 1 = .ok (.getfield 33, 3) := by decide +kernel
theorem dX12_takesOut_4 : decode cX12_takesOut 4 = .ok (.bipush 81, 2) := by decide +kernel
theorem dX12_takesOut_6 : decode cX12_takesOut 6 = .ok (.dup2, 1) := by decide +kernel
theorem dX12_takesOut_7 : decode cX12_takesOut 7 = .ok (.iaload, 1) := by decide +kernel
theorem dX12_takesOut_8 : decode cX12_takesOut 8 = .ok (.iconst 1, 1) := by decide +kernel
theorem dX12_takesOut_9 : decode cX12_takesOut 9 = .ok (.iload_n 1, 1) := by decide +kernel
theorem dX12_takesOut_10 : decode cX12_takesOut 10 = .ok (.ishl, 1) := by decide +kernel
theorem dX12_takesOut_11 : decode cX12_takesOut 11 = .ok (.iconst (-1), 1) := by decide +kernel
theorem dX12_takesOut_12 : decode cX12_takesOut 12 = .ok (.ixor, 1) := by decide +kernel
theorem dX12_takesOut_13 : decode cX12_takesOut 13 = .ok (.iand, 1) := by decide +kernel
theorem dX12_takesOut_14 : decode cX12_takesOut 14 = .ok (.iastore, 1) := by decide +kernel
theorem dX12_takesOut_15 : decode cX12_takesOut 15 = .ok (.iconst 0, 1) := by decide +kernel
theorem dX12_takesOut_16 : decode cX12_takesOut 16 = .ok (.istore_n 2, 1) := by decide +kernel
theorem dX12_takesOut_17 : decode cX12_takesOut 17 = .ok (.iload_n 2, 1) := by decide +kernel
theorem dX12_takesOut_18 : decode cX12_takesOut 18 = .ok (.aload_n 0, 1) := by decide +kernel
theorem dX12_takesOut_19 : decode cX12_takesOut 19 = .ok (.getfield 33, 3) := by decide +kernel
theorem dX12_takesOut_22 : decode cX12_takesOut 22 = .ok (.iconst 2, 1) := by decide +kernel
theorem dX12_takesOut_23 : decode cX12_takesOut 23 = .ok (.iaload, 1) := by decide +kernel
theorem dX12_takesOut_24 : decode cX12_takesOut 24 = .ok (.if_icmp .ge 50, 3) := by decide +kernel
theorem dX12_takesOut_27 : decode cX12_takesOut 27 = .ok (.aload_n 0, 1) := by decide +kernel
theorem dX12_takesOut_28 : decode cX12_takesOut 28 = .ok (.getfield 33, 3) := by decide +kernel
theorem dX12_takesOut_31 : decode cX12_takesOut 31 = .ok (.bipush 32, 2) := by decide +kernel
theorem dX12_takesOut_33 : decode cX12_takesOut 33 = .ok (.iload_n 2, 1) := by decide +kernel
theorem dX12_takesOut_34 : decode cX12_takesOut 34 = .ok (.iadd, 1) := by decide +kernel
theorem dX12_takesOut_35 : decode cX12_takesOut 35 = .ok (.iaload, 1) := by decide +kernel
theorem dX12_takesOut_36 : decode cX12_takesOut 36 = .ok (.iload_n 1, 1) := by decide +kernel
theorem dX12_takesOut_37 : decode cX12_takesOut 37 = .ok (.if_icmp .eq 16, 3) := by decide +kernel
theorem dX12_takesOut_40 : decode cX12_takesOut 40 = .ok (.aload_n 0, 1) := by decide +kernel
theorem dX12_takesOut_41 : decode cX12_takesOut 41 = .ok (.getfield 33, 3) := by decide +kernel
theorem dX12_takesOut_44 : decode cX12_takesOut 44 = .ok (.bipush 48, 2) := by decide +kernel
theorem dX12_takesOut_46 : decode cX12_takesOut 46 = .ok (.iload_n 2, 1) := by decide +kernel
theorem dX12_takesOut_47 : decode cX12_takesOut 47 = .ok (.iadd, 1) := by decide +kernel
theorem dX12_takesOut_48 : decode cX12_takesOut 48 = .ok (.iaload, 1) := by decide +kernel
theorem dX12_takesOut_49 : decode cX12_takesOut 49 = .ok (.iload_n 1, 1) := by decide +kernel
theorem dX12_takesOut_50 : decode cX12_takesOut 50 = .ok (.if_icmp .ne 18, 3) := by decide +kernel
theorem dX12_takesOut_53 : decode cX12_takesOut 53 = .ok (.aload_n 0, 1) := by decide +kernel
theorem dX12_takesOut_54 : decode cX12_takesOut 54 = .ok (.getfield 33, 3) := by decide +kernel
theorem dX12_takesOut_57 : decode cX12_takesOut 57 = .ok (.bipush 82, 2) := by decide +kernel
theorem dX12_takesOut_59 : decode cX12_takesOut 59 = .ok (.dup2, 1) := by decide +kernel
theorem dX12_takesOut_60 : decode cX12_takesOut 60 = .ok (.iaload, 1) := by decide +kernel
theorem dX12_takesOut_61 : decode cX12_takesOut 61 = .ok (.iconst 1, 1) := by decide +kernel
theorem dX12_takesOut_62 : decode cX12_takesOut 62 = .ok (.iload_n 2, 1) := by decide +kernel
theorem dX12_takesOut_63 : decode cX12_takesOut 63 = .ok (.ishl, 1) := by decide +kernel
theorem dX12_takesOut_64 : decode cX12_takesOut 64 = .ok (.iconst (-1), 1) := by decide +kernel
theorem dX12_takesOut_65 : decode cX12_takesOut 65 = .ok (.ixor, 1) := by decide +kernel
theorem dX12_takesOut_66 : decode cX12_takesOut 66 = .ok (.iand, 1) := by decide +kernel
theorem dX12_takesOut_67 : decode cX12_takesOut 67 = .ok (.iastore, 1) := by decide +kernel
theorem dX12_takesOut_68 : decode cX12_takesOut 68 = .ok (.iinc 2 1, 3) := by decide +kernel
theorem dX12_takesOut_71 : decode cX12_takesOut 71 = .ok (.goto (-54), 3) := by decide +kernel
theorem dX12_takesOut_74 : decode cX12_takesOut 74 = .ok (.aload_n 0, 1) := by decide +kernel
theorem dX12_takesOut_75 : decode cX12_takesOut 75 = .ok (.getfield 33, 3) := by decide +kernel
theorem dX12_takesOut_78 : decode cX12_takesOut 78 = .ok (.bipush 84, 2) := by decide +kernel
theorem dX12_takesOut_80 : decode cX12_takesOut 80 = .ok (.aload_n 0, 1) := by decide +kernel
theorem dX12_takesOut_81 : decode cX12_takesOut 81 = .ok (.getfield 33, 3) := by decide +kernel
theorem dX12_takesOut_84 : decode cX12_takesOut 84 = .ok (.bipush 12, 2) := by decide +kernel
theorem dX12_takesOut_86 : decode cX12_takesOut 86 = .ok (.iload_n 1, 1) := by decide +kernel
theorem dX12_takesOut_87 : decode cX12_takesOut 87 = .ok (.iadd, 1) := by decide +kernel
theorem dX12_takesOut_88 : decode cX12_takesOut 88 = .ok (.iaload, 1) := by decide +kernel
theorem dX12_takesOut_89 : decode cX12_takesOut 89 = .ok (.iadd, 1) := by decide +kernel
theorem dX12_takesOut_90 : decode cX12_takesOut 90 = .ok (.iaload, 1) := by decide +kernel
theorem dX12_takesOut_91 : decode cX12_takesOut 91 = .ok (.iconst 1, 1) := by decide +kernel
theorem dX12_takesOut_92 : decode cX12_takesOut 92 = .ok (.if_icmp .ne 16, 3) := by decide +kernel
theorem dX12_takesOut_95 : decode cX12_takesOut 95 = .ok (.aload_n 0, 1) := by decide +kernel
theorem dX12_takesOut_96 : decode cX12_takesOut 96 = .ok (.aload_n 0, 1) := by decide +kernel
theorem dX12_takesOut_97 : decode cX12_takesOut 97 = .ok (.getfield 33, 3) := by decide +kernel
theorem dX12_takesOut_100 : decode cX12_takesOut 100 = .ok (.bipush 12, 2) := by decide +kernel
theorem dX12_takesOut_102 : decode cX12_takesOut 102 = .ok (.iload_n 1, 1) := by decide +kernel
theorem dX12_takesOut_103 : decode cX12_takesOut 103 = .ok (.iadd, 1) := by decide +kernel
theorem dX12_takesOut_104 : decode cX12_takesOut 104 = .ok (.iaload, 1) := by decide +kernel
theorem dX12_takesOut_105 : decode cX12_takesOut 105 = .ok (.invokevirtual 311, 3) := by decide +kernel
theorem dX12_takesOut_108 : decode cX12_takesOut 108 = .ok (.return_, 1) := by decide +kernel
theorem dX12_whyLoad_0 : decode cX12_whyLoad 0 = .ok (.aload_n 0, 1) := by decide +kernel
theorem dX12_whyLoad_1 : decode cX12_whyLoad 1 = .ok (.getfield 33, 3) := by decide +kernel
theorem dX12_whyLoad_4 : decode cX12_whyLoad 4 = .ok (.bipush 81, 2) := by decide +kernel
theorem dX12_whyLoad_6 : decode cX12_whyLoad 6 = .ok (.iaload, 1) := by decide +kernel
theorem dX12_whyLoad_7 : decode cX12_whyLoad 7 = .ok (.iload_n 1, 1) := by decide +kernel
theorem dX12_whyLoad_8 : decode cX12_whyLoad 8 = .ok (.invokestatic 205, 3) := by decide +kernel
theorem dX12_whyLoad_11 : decode cX12_whyLoad 11 = .ok (.ifCond .eq 7, 3) := by decide +kernel
theorem dX12_whyLoad_14 : decode cX12_whyLoad 14 = .ok (.iconst 1, 1) := by decide +kernel
theorem dX12_whyLoad_15 : decode cX12_whyLoad 15 = .ok (.goto 28, 3) := by decide +kernel
theorem dX12_whyLoad_18 : decode cX12_whyLoad 18 = .ok (.aload_n 0, 1) := by decide +kernel
theorem dX12_whyLoad_19 : decode cX12_whyLoad 19 = .ok (.getfield 33, 3) := by decide +kernel
theorem dX12_whyLoad_22 : decode cX12_whyLoad 22 = .ok (.bipush 84, 2) := by decide +kernel
theorem dX12_whyLoad_24 : decode cX12_whyLoad 24 = .ok (.aload_n 0, 1) := by decide +kernel
theorem dX12_whyLoad_25 : decode cX12_whyLoad 25 = .ok (.getfield 33, 3) := by decide +kernel
theorem dX12_whyLoad_28 : decode cX12_whyLoad 28 = .ok (.bipush 12, 2) := by decide +kernel
theorem dX12_whyLoad_30 : decode cX12_whyLoad 30 = .ok (.iload_n 1, 1) := by decide +kernel
theorem dX12_whyLoad_31 : decode cX12_whyLoad 31 = .ok (.iadd, 1) := by decide +kernel
theorem dX12_whyLoad_32 : decode cX12_whyLoad 32 = .ok (.iaload, 1) := by decide +kernel
theorem dX12_whyLoad_33 : decode cX12_whyLoad 33 = .ok (.iadd, 1) := by decide +kernel
theorem dX12_whyLoad_34 : decode cX12_whyLoad 34 = .ok (.iaload, 1) := by decide +kernel
theorem dX12_whyLoad_35 : decode cX12_whyLoad 35 = .ok (.ifCond .eq 7, 3) := by decide +kernel
theorem dX12_whyLoad_38 : decode cX12_whyLoad 38 = .ok (.iconst 2, 1) := by decide +kernel
theorem dX12_whyLoad_39 : decode cX12_whyLoad 39 = .ok (.goto 4, 3) := by decide +kernel
theorem dX12_whyLoad_42 : decode cX12_whyLoad 42 = .ok (.iconst 0, 1) := by decide +kernel
theorem dX12_whyLoad_43 : decode cX12_whyLoad 43 = .ok (.ireturn, 1) := by decide +kernel
theorem dX12_whyBind_0 : decode cX12_whyBind 0 = .ok (.aload_n 0, 1) := by decide +kernel
theorem dX12_whyBind_1 : decode cX12_whyBind 1 = .ok (.getfield 33, 3) := by decide +kernel
theorem dX12_whyBind_4 : decode cX12_whyBind 4 = .ok (.bipush 82, 2) := by decide +kernel
theorem dX12_whyBind_6 : decode cX12_whyBind 6 = .ok (.iaload, 1) := by decide +kernel
theorem dX12_whyBind_7 : decode cX12_whyBind 7 = .ok (.iload_n 1, 1) := by decide +kernel
theorem dX12_whyBind_8 : decode cX12_whyBind 8 = .ok (.invokestatic 205, 3) := by decide +kernel
theorem dX12_whyBind_11 : decode cX12_whyBind 11 = .ok (.ifCond .eq 5, 3) := by decide +kernel
theorem dX12_whyBind_14 : decode cX12_whyBind 14 = .ok (.iconst 1, 1) := by decide +kernel
theorem dX12_whyBind_15 : decode cX12_whyBind 15 = .ok (.ireturn, 1) := by decide +kernel
theorem dX12_whyBind_16 : decode cX12_whyBind 16 = .ok (.aload_n 0, 1) := by decide +kernel
theorem dX12_whyBind_17 : decode cX12_whyBind 17 = .ok (.getfield 33, 3) := by decide +kernel
theorem dX12_whyBind_20 : decode cX12_whyBind 20 = .ok (.bipush 81, 2) := by decide +kernel
theorem dX12_whyBind_22 : decode cX12_whyBind 22 = .ok (.iaload, 1) := by decide +kernel
theorem dX12_whyBind_23 : decode cX12_whyBind 23 = .ok (.aload_n 0, 1) := by decide +kernel
theorem dX12_whyBind_24 : decode cX12_whyBind 24 = .ok (.getfield 33, 3) := by decide +kernel
theorem dX12_whyBind_27 : decode cX12_whyBind 27 = .ok (.bipush 32, 2) := by decide +kernel
theorem dX12_whyBind_29 : decode cX12_whyBind 29 = .ok (.iload_n 1, 1) := by decide +kernel
theorem dX12_whyBind_30 : decode cX12_whyBind 30 = .ok (.iadd, 1) := by decide +kernel
theorem dX12_whyBind_31 : decode cX12_whyBind 31 = .ok (.iaload, 1) := by decide +kernel
theorem dX12_whyBind_32 : decode cX12_whyBind 32 = .ok (.invokestatic 205, 3) := by decide +kernel
theorem dX12_whyBind_35 : decode cX12_whyBind 35 = .ok (.ifCond .eq 25, 3) := by decide +kernel
theorem dX12_whyBind_38 : decode cX12_whyBind 38 = .ok (.aload_n 0, 1) := by decide +kernel
theorem dX12_whyBind_39 : decode cX12_whyBind 39 = .ok (.getfield 33, 3) := by decide +kernel
theorem dX12_whyBind_42 : decode cX12_whyBind 42 = .ok (.bipush 81, 2) := by decide +kernel
theorem dX12_whyBind_44 : decode cX12_whyBind 44 = .ok (.iaload, 1) := by decide +kernel
theorem dX12_whyBind_45 : decode cX12_whyBind 45 = .ok (.aload_n 0, 1) := by decide +kernel
theorem dX12_whyBind_46 : decode cX12_whyBind 46 = .ok (.getfield 33, 3) := by decide +kernel
theorem dX12_whyBind_49 : decode cX12_whyBind 49 = .ok (.bipush 48, 2) := by decide +kernel
theorem dX12_whyBind_51 : decode cX12_whyBind 51 = .ok (.iload_n 1, 1) := by decide +kernel
theorem dX12_whyBind_52 : decode cX12_whyBind 52 = .ok (.iadd, 1) := by decide +kernel
theorem dX12_whyBind_53 : decode cX12_whyBind 53 = .ok (.iaload, 1) := by decide +kernel
theorem dX12_whyBind_54 : decode cX12_whyBind 54 = .ok (.invokestatic 205, 3) := by decide +kernel
theorem dX12_whyBind_57 : decode cX12_whyBind 57 = .ok (.ifCond .ne 5, 3) := by decide +kernel
theorem dX12_whyBind_60 : decode cX12_whyBind 60 = .ok (.iconst 2, 1) := by decide +kernel
theorem dX12_whyBind_61 : decode cX12_whyBind 61 = .ok (.ireturn, 1) := by decide +kernel
theorem dX12_whyBind_62 : decode cX12_whyBind 62 = .ok (.aload_n 0, 1) := by decide +kernel
theorem dX12_whyBind_63 : decode cX12_whyBind 63 = .ok (.getfield 33, 3) := by decide +kernel
theorem dX12_whyBind_66 : decode cX12_whyBind 66 = .ok (.bipush 84, 2) := by decide +kernel
theorem dX12_whyBind_68 : decode cX12_whyBind 68 = .ok (.aload_n 0, 1) := by decide +kernel
theorem dX12_whyBind_69 : decode cX12_whyBind 69 = .ok (.getfield 33, 3) := by decide +kernel
theorem dX12_whyBind_72 : decode cX12_whyBind 72 = .ok (.bipush 12, 2) := by decide +kernel
theorem dX12_whyBind_74 : decode cX12_whyBind 74 = .ok (.aload_n 0, 1) := by decide +kernel
theorem dX12_whyBind_75 : decode cX12_whyBind 75 = .ok (.getfield 33, 3) := by decide +kernel
theorem dX12_whyBind_78 : decode cX12_whyBind 78 = .ok (.bipush 32, 2) := by decide +kernel
theorem dX12_whyBind_80 : decode cX12_whyBind 80 = .ok (.iload_n 1, 1) := by decide +kernel
theorem dX12_whyBind_81 : decode cX12_whyBind 81 = .ok (.iadd, 1) := by decide +kernel
theorem dX12_whyBind_82 : decode cX12_whyBind 82 = .ok (.iaload, 1) := by decide +kernel
theorem dX12_whyBind_83 : decode cX12_whyBind 83 = .ok (.iadd, 1) := by decide +kernel
theorem dX12_whyBind_84 : decode cX12_whyBind 84 = .ok (.iaload, 1) := by decide +kernel
theorem dX12_whyBind_85 : decode cX12_whyBind 85 = .ok (.iadd, 1) := by decide +kernel
theorem dX12_whyBind_86 : decode cX12_whyBind 86 = .ok (.iaload, 1) := by decide +kernel
theorem dX12_whyBind_87 : decode cX12_whyBind 87 = .ok (.ifCond .eq 7, 3) := by decide +kernel
theorem dX12_whyBind_90 : decode cX12_whyBind 90 = .ok (.iconst 3, 1) := by decide +kernel
theorem dX12_whyBind_91 : decode cX12_whyBind 91 = .ok (.goto 4, 3) := by decide +kernel
theorem dX12_whyBind_94 : decode cX12_whyBind 94 = .ok (.iconst 0, 1) := by decide +kernel
theorem dX12_whyBind_95 : decode cX12_whyBind 95 = .ok (.ireturn, 1) := by decide +kernel
theorem dX12_day_0 : decode cX12_day 0 = .ok (.aload_n 0, 1) := by decide +kernel
theorem dX12_day_1 : decode cX12_day 1 = .ok (.getfield 33, 3) := by decide +kernel
theorem dX12_day_4 : decode cX12_day 4 = .ok (.bipush 80, 2) := by decide +kernel
theorem dX12_day_6 : decode cX12_day 6 = .ok (.dup2, 1) := by decide +kernel
theorem dX12_day_7 : decode cX12_day 7 = .ok (.iaload, 1) := by decide +kernel
theorem dX12_day_8 : decode cX12_day 8 = .ok (.iconst 1, 1) := by decide +kernel
theorem dX12_day_9 : decode cX12_day 9 = .ok (.iadd, 1) := by decide +kernel
theorem dX12_day_10 : decode cX12_day 10 = .ok (.iastore, 1) := by decide +kernel
theorem dX12_day_11 : decode cX12_day 11 = .ok (.iconst 0, 1) := by decide +kernel
theorem dX12_day_12 : decode cX12_day 12 = .ok (.istore_n 1, 1) := by decide +kernel
theorem dX12_day_13 : decode cX12_day 13 = .ok (.iload_n 1, 1) := by decide +kernel
theorem dX12_day_14 : decode cX12_day 14 = .ok (.aload_n 0, 1) := by decide +kernel
theorem dX12_day_15 : decode cX12_day 15 = .ok (.getfield 33, 3) := by decide +kernel
theorem dX12_day_18 : decode cX12_day 18 = .ok (.iconst 0, 1) := by decide +kernel
theorem dX12_day_19 : decode cX12_day 19 = .ok (.iaload, 1) := by decide +kernel
theorem dX12_day_20 : decode cX12_day 20 = .ok (.if_icmp .ge 27, 3) := by decide +kernel
theorem dX12_day_23 : decode cX12_day 23 = .ok (.aload_n 0, 1) := by decide +kernel
theorem dX12_day_24 : decode cX12_day 24 = .ok (.getfield 33, 3) := by decide +kernel
theorem dX12_day_27 : decode cX12_day 27 = .ok (.bipush 84, 2) := by decide +kernel
theorem dX12_day_29 : decode cX12_day 29 = .ok (.iload_n 1, 1) := by decide +kernel
theorem dX12_day_30 : decode cX12_day 30 = .ok (.iadd, 1) := by decide +kernel
theorem dX12_day_31 : decode cX12_day 31 = .ok (.iaload, 1) := by decide +kernel
theorem dX12_day_32 : decode cX12_day 32 = .ok (.iconst 1, 1) := by decide +kernel
theorem dX12_day_33 : decode cX12_day 33 = .ok (.if_icmp .ne 8, 3) := by decide +kernel
theorem dX12_day_36 : decode cX12_day 36 = .ok (.aload_n 0, 1) := by decide +kernel
theorem dX12_day_37 : decode cX12_day 37 = .ok (.iload_n 1, 1) := by decide +kernel
theorem dX12_day_38 : decode cX12_day 38 = .ok (.invokevirtual 311, 3) := by decide +kernel
theorem dX12_day_41 : decode cX12_day 41 = .ok (.iinc 1 1, 3) := by decide +kernel
theorem dX12_day_44 : decode cX12_day 44 = .ok (.goto (-31), 3) := by decide +kernel
theorem dX12_day_47 : decode cX12_day 47 = .ok (.return_, 1) := by decide +kernel
theorem dX12_goesOn_0 : decode cX12_goesOn 0 = .ok (.iconst 0, 1) := by decide +kernel
theorem dX12_goesOn_1 : decode cX12_goesOn 1 = .ok (.istore_n 2, 1) := by decide +kernel
theorem dX12_goesOn_2 : decode cX12_goesOn 2 = .ok (.iload_n 2, 1) := by decide +kernel
theorem dX12_goesOn_3 : decode cX12_goesOn 3 = .ok (.iload_n 1, 1) := by decide +kernel
theorem dX12_goesOn_4 : decode cX12_goesOn 4 = .ok (.if_icmp .ge 26, 3) := by decide +kernel
theorem dX12_goesOn_7 : decode cX12_goesOn 7 = .ok (.aload_n 0, 1) := by decide +kernel
theorem dX12_goesOn_8 : decode cX12_goesOn 8 = .ok (.getfield 33, 3) := by decide +kernel
theorem dX12_goesOn_11 : decode cX12_goesOn 11 = .ok (.bipush 80, 2) := by decide +kernel
theorem dX12_goesOn_13 : decode cX12_goesOn 13 = .ok (.iaload, 1) := by decide +kernel
theorem dX12_goesOn_14 : decode cX12_goesOn 14 = .ok (.sipush 400, 3) := by decide +kernel
theorem dX12_goesOn_17 : decode cX12_goesOn 17 = .ok (.if_icmp .ge 13, 3) := by decide +kernel
theorem dX12_goesOn_20 : decode cX12_goesOn 20 = .ok (.aload_n 0, 1) := by decide +kernel
theorem dX12_goesOn_21 : decode cX12_goesOn 21 = .ok (.invokevirtual 314, 3) := by decide +kernel
theorem dX12_goesOn_24 : decode cX12_goesOn 24 = .ok (.iinc 2 1, 3) := by decide +kernel
theorem dX12_goesOn_27 : decode cX12_goesOn 27 = .ok (.goto (-25), 3) := by decide +kernel
theorem dX12_goesOn_30 : decode cX12_goesOn 30 = .ok (.iload_n 2, 1) := by decide +kernel
theorem dX12_goesOn_31 : decode cX12_goesOn 31 = .ok (.ireturn, 1) := by decide +kernel
theorem dX12_go_0 : decode cX12_go 0 = .ok (.aload_n 0, 1) := by decide +kernel
theorem dX12_go_1 : decode cX12_go 1 = .ok (.iconst 0, 1) := by decide +kernel
theorem dX12_go_2 : decode cX12_go 2 = .ok (.putfield 1, 3) := by decide +kernel
theorem dX12_go_5 : decode cX12_go 5 = .ok (.aload_n 0, 1) := by decide +kernel
theorem dX12_go_6 : decode cX12_go 6 = .ok (.iload_n 1, 1) := by decide +kernel
theorem dX12_go_7 : decode cX12_go 7 = .ok (.invokevirtual 280, 3) := by decide +kernel
theorem dX12_go_10 : decode cX12_go 10 = .ok (.ifCond .ne 5, 3) := by decide +kernel
theorem dX12_go_13 : decode cX12_go 13 = .ok (.iconst (-1), 1) := by decide +kernel
theorem dX12_go_14 : decode cX12_go 14 = .ok (.ireturn, 1) := by decide +kernel
theorem dX12_go_15 : decode cX12_go 15 = .ok (.aload_n 0, 1) := by decide +kernel
theorem dX12_go_16 : decode cX12_go 16 = .ok (.getfield 33, 3) := by decide +kernel
theorem dX12_go_19 : decode cX12_go 19 = .ok (.bipush 84, 2) := by decide +kernel
theorem dX12_go_21 : decode cX12_go 21 = .ok (.iload_n 1, 1) := by decide +kernel
theorem dX12_go_22 : decode cX12_go 22 = .ok (.iadd, 1) := by decide +kernel
theorem dX12_go_23 : decode cX12_go 23 = .ok (.iaload, 1) := by decide +kernel
theorem dX12_go_24 : decode cX12_go 24 = .ok (.ifCond .eq 5, 3) := by decide +kernel
theorem dX12_go_27 : decode cX12_go 27 = .ok (.iconst 1, 1) := by decide +kernel
theorem dX12_go_28 : decode cX12_go 28 = .ok (.ireturn, 1) := by decide +kernel
theorem dX12_go_29 : decode cX12_go 29 = .ok (.aload_n 0, 1) := by decide +kernel
theorem dX12_go_30 : decode cX12_go 30 = .ok (.invokevirtual 317, 3) := by decide +kernel
theorem dX12_go_33 : decode cX12_go 33 = .ok (.aload_n 0, 1) := by decide +kernel
theorem dX12_go_34 : decode cX12_go 34 = .ok (.iload_n 1, 1) := by decide +kernel
theorem dX12_go_35 : decode cX12_go 35 = .ok (.invokevirtual 311, 3) := by decide +kernel
theorem dX12_go_38 : decode cX12_go 38 = .ok (.iconst 0, 1) := by decide +kernel
theorem dX12_go_39 : decode cX12_go 39 = .ok (.ireturn, 1) := by decide +kernel
theorem dX12_free_0 : decode cX12_free 0 = .ok (.aload_n 0, 1) := by decide +kernel
theorem dX12_free_1 : decode cX12_free 1 = .ok (.iconst 0, 1) := by decide +kernel
theorem dX12_free_2 : decode cX12_free 2 = .ok (.putfield 1, 3) := by decide +kernel
theorem dX12_free_5 : decode cX12_free 5 = .ok (.aload_n 0, 1) := by decide +kernel
theorem dX12_free_6 : decode cX12_free 6 = .ok (.iload_n 1, 1) := by decide +kernel
theorem dX12_free_7 : decode cX12_free 7 = .ok (.invokevirtual 280, 3) := by decide +kernel
theorem dX12_free_10 : decode cX12_free 10 = .ok (.ifCond .ne 5, 3) := by decide +kernel
theorem dX12_free_13 : decode cX12_free 13 = .ok (.iconst (-1), 1) := by decide +kernel
theorem dX12_free_14 : decode cX12_free 14 = .ok (.ireturn, 1) := by decide +kernel
theorem dX12_free_15 : decode cX12_free 15 = .ok (.aload_n 0, 1) := by decide +kernel
theorem dX12_free_16 : decode cX12_free 16 = .ok (.getfield 33, 3) := by decide +kernel
theorem dX12_free_19 : decode cX12_free 19 = .ok (.bipush 84, 2) := by decide +kernel
theorem dX12_free_21 : decode cX12_free 21 = .ok (.iload_n 1, 1) := by decide +kernel
theorem dX12_free_22 : decode cX12_free 22 = .ok (.iadd, 1) := by decide +kernel
theorem dX12_free_23 : decode cX12_free 23 = .ok (.iaload, 1) := by decide +kernel
theorem dX12_free_24 : decode cX12_free 24 = .ok (.iconst 2, 1) := by decide +kernel
theorem dX12_free_25 : decode cX12_free 25 = .ok (.if_icmp .eq 5, 3) := by decide +kernel
theorem dX12_free_28 : decode cX12_free 28 = .ok (.iconst 1, 1) := by decide +kernel
theorem dX12_free_29 : decode cX12_free 29 = .ok (.ireturn, 1) := by decide +kernel
theorem dX12_free_30 : decode cX12_free 30 = .ok (.aload_n 0, 1) := by decide +kernel
theorem dX12_free_31 : decode cX12_free 31 = .ok (.invokevirtual 317, 3) := by decide +kernel
theorem dX12_free_34 : decode cX12_free 34 = .ok (.aload_n 0, 1) := by decide +kernel
theorem dX12_free_35 : decode cX12_free 35 = .ok (.getfield 33, 3) := by decide +kernel
theorem dX12_free_38 : decode cX12_free 38 = .ok (.bipush 84, 2) := by decide +kernel
theorem dX12_free_40 : decode cX12_free 40 = .ok (.iload_n 1, 1) := by decide +kernel
theorem dX12_free_41 : decode cX12_free 41 = .ok (.iadd, 1) := by decide +kernel
theorem dX12_free_42 : decode cX12_free 42 = .ok (.iconst 3, 1) := by decide +kernel
theorem dX12_free_43 : decode cX12_free 43 = .ok (.iastore, 1) := by decide +kernel
theorem dX12_free_44 : decode cX12_free 44 = .ok (.iconst 0, 1) := by decide +kernel
theorem dX12_free_45 : decode cX12_free 45 = .ok (.ireturn, 1) := by decide +kernel
theorem dX12_unload_0 : decode cX12_unload 0 = .ok (.aload_n 0, 1) := by decide +kernel
theorem dX12_unload_1 : decode cX12_unload 1 = .ok (.iconst 0, 1) := by decide +kernel
theorem dX12_unload_2 : decode cX12_unload 2 = .ok (.putfield 1, 3) := by decide +kernel
theorem dX12_unload_5 : decode cX12_unload 5 = .ok (.aload_n 0, 1) := by decide +kernel
theorem dX12_unload_6 : decode cX12_unload 6 = .ok (.iload_n 1, 1) := by decide +kernel
theorem dX12_unload_7 : decode cX12_unload 7 = .ok (.invokevirtual 293, 3) := by decide +kernel
theorem dX12_unload_10 : decode cX12_unload 10 = .ok (.ifCond .ne 5, 3) := by decide +kernel
theorem dX12_unload_13 : decode cX12_unload 13 = .ok (.iconst (-1), 1) := by decide +kernel
theorem dX12_unload_14 : decode cX12_unload 14 = .ok (.ireturn, 1) := by decide +kernel
theorem dX12_unload_15 : decode cX12_unload 15 = .ok (.aload_n 0, 1) := by decide +kernel
theorem dX12_unload_16 : decode cX12_unload 16 = .ok (.iload_n 1, 1) := by decide +kernel
theorem dX12_unload_17 : decode cX12_unload 17 = .ok (.invokevirtual 320, 3) := by decide +kernel
theorem dX12_unload_20 : decode cX12_unload 20 = .ok (.istore_n 2, 1) := by decide +kernel
theorem dX12_unload_21 : decode cX12_unload 21 = .ok (.iload_n 2, 1) := by decide +kernel
theorem dX12_unload_22 : decode cX12_unload 22 = .ok (.ifCond .le 5, 3) := by decide +kernel
theorem dX12_unload_25 : decode cX12_unload 25 = .ok (.iload_n 2, 1) := by decide +kernel
theorem dX12_unload_26 : decode cX12_unload 26 = .ok (.ireturn, 1) := by decide +kernel
theorem dX12_unload_27 : decode cX12_unload 27 = .ok (.aload_n 0, 1) := by decide +kernel
theorem dX12_unload_28 : decode cX12_unload 28 = .ok (.invokevirtual 317, 3) := by decide +kernel
theorem dX12_unload_31 : decode cX12_unload 31 = .ok (.aload_n 0, 1) := by decide +kernel
theorem dX12_unload_32 : decode cX12_unload 32 = .ok (.iload_n 1, 1) := by decide +kernel
theorem dX12_unload_33 : decode cX12_unload 33 = .ok (.invokevirtual 323, 3) := by decide +kernel
theorem dX12_unload_36 : decode cX12_unload 36 = .ok (.iconst 0, 1) := by decide +kernel
theorem dX12_unload_37 : decode cX12_unload 37 = .ok (.ireturn, 1) := by decide +kernel
theorem dX12_load_0 : decode cX12_load 0 = .ok (.aload_n 0, 1) := by decide +kernel
theorem dX12_load_1 : decode cX12_load 1 = .ok (.iconst 0, 1) := by decide +kernel
theorem dX12_load_2 : decode cX12_load 2 = .ok (.putfield 1, 3) := by decide +kernel
theorem dX12_load_5 : decode cX12_load 5 = .ok (.aload_n 0, 1) := by decide +kernel
theorem dX12_load_6 : decode cX12_load 6 = .ok (.iload_n 1, 1) := by decide +kernel
theorem dX12_load_7 : decode cX12_load 7 = .ok (.invokevirtual 293, 3) := by decide +kernel
theorem dX12_load_10 : decode cX12_load 10 = .ok (.ifCond .ne 5, 3) := by decide +kernel
theorem dX12_load_13 : decode cX12_load 13 = .ok (.iconst (-1), 1) := by decide +kernel
theorem dX12_load_14 : decode cX12_load 14 = .ok (.ireturn, 1) := by decide +kernel
theorem dX12_load_15 : decode cX12_load 15 = .ok (.aload_n 0, 1) := by decide +kernel
theorem dX12_load_16 : decode cX12_load 16 = .ok (.iload_n 1, 1) := by decide +kernel
theorem dX12_load_17 : decode cX12_load 17 = .ok (.invokevirtual 326, 3) := by decide +kernel
theorem dX12_load_20 : decode cX12_load 20 = .ok (.istore_n 2, 1) := by decide +kernel
theorem dX12_load_21 : decode cX12_load 21 = .ok (.iload_n 2, 1) := by decide +kernel
theorem dX12_load_22 : decode cX12_load 22 = .ok (.ifCond .le 5, 3) := by decide +kernel
theorem dX12_load_25 : decode cX12_load 25 = .ok (.iload_n 2, 1) := by decide +kernel
theorem dX12_load_26 : decode cX12_load 26 = .ok (.ireturn, 1) := by decide +kernel
theorem dX12_load_27 : decode cX12_load 27 = .ok (.aload_n 0, 1) := by decide +kernel
theorem dX12_load_28 : decode cX12_load 28 = .ok (.invokevirtual 317, 3) := by decide +kernel
theorem dX12_load_31 : decode cX12_load 31 = .ok (.aload_n 0, 1) := by decide +kernel
theorem dX12_load_32 : decode cX12_load 32 = .ok (.getfield 33, 3) := by decide +kernel
theorem dX12_load_35 : decode cX12_load 35 = .ok (.bipush 81, 2) := by decide +kernel
theorem dX12_load_37 : decode cX12_load 37 = .ok (.dup2, 1) := by decide +kernel
theorem dX12_load_38 : decode cX12_load 38 = .ok (.iaload, 1) := by decide +kernel
theorem dX12_load_39 : decode cX12_load 39 = .ok (.iconst 1, 1) := by decide +kernel
theorem dX12_load_40 : decode cX12_load 40 = .ok (.iload_n 1, 1) := by decide +kernel
theorem dX12_load_41 : decode cX12_load 41 = .ok (.ishl, 1) := by decide +kernel
theorem dX12_load_42 : decode cX12_load 42 = .ok (.ior, 1) := by decide +kernel
theorem dX12_load_43 : decode cX12_load 43 = .ok (.iastore, 1) := by decide +kernel
theorem dX12_load_44 : decode cX12_load 44 = .ok (.iconst 0, 1) := by decide +kernel
theorem dX12_load_45 : decode cX12_load 45 = .ok (.ireturn, 1) := by decide +kernel
theorem dX12_bind_0 : decode cX12_bind 0 = .ok (.aload_n 0, 1) := by decide +kernel
theorem dX12_bind_1 : decode cX12_bind 1 = .ok (.iconst 0, 1) := by decide +kernel
theorem dX12_bind_2 : decode cX12_bind 2 = .ok (.putfield 1, 3) := by decide +kernel
theorem dX12_bind_5 : decode cX12_bind 5 = .ok (.aload_n 0, 1) := by decide +kernel
theorem dX12_bind_6 : decode cX12_bind 6 = .ok (.iload_n 1, 1) := by decide +kernel
theorem dX12_bind_7 : decode cX12_bind 7 = .ok (.invokevirtual 299, 3) := by decide +kernel
theorem dX12_bind_10 : decode cX12_bind 10 = .ok (.ifCond .ne 5, 3) := by decide +kernel
theorem dX12_bind_13 : decode cX12_bind 13 = .ok (.iconst (-1), 1) := by decide +kernel
theorem dX12_bind_14 : decode cX12_bind 14 = .ok (.ireturn, 1) := by decide +kernel
theorem dX12_bind_15 : decode cX12_bind 15 = .ok (.aload_n 0, 1) := by decide +kernel
theorem dX12_bind_16 : decode cX12_bind 16 = .ok (.iload_n 1, 1) := by decide +kernel
theorem dX12_bind_17 : decode cX12_bind 17 = .ok (.invokevirtual 329, 3) := by decide +kernel
theorem dX12_bind_20 : decode cX12_bind 20 = .ok (.istore_n 2, 1) := by decide +kernel
theorem dX12_bind_21 : decode cX12_bind 21 = .ok (.iload_n 2, 1) := by decide +kernel
theorem dX12_bind_22 : decode cX12_bind 22 = .ok (.ifCond .le 5, 3) := by decide +kernel
theorem dX12_bind_25 : decode cX12_bind 25 = .ok (.iload_n 2, 1) := by decide +kernel
theorem dX12_bind_26 : decode cX12_bind 26 = .ok (.ireturn, 1) := by decide +kernel
theorem dX12_bind_27 : decode cX12_bind 27 = .ok (.aload_n 0, 1) := by decide +kernel
theorem dX12_bind_28 : decode cX12_bind 28 = .ok (.invokevirtual 317, 3) := by decide +kernel
theorem dX12_bind_31 : decode cX12_bind 31 = .ok (.aload_n 0, 1) := by decide +kernel
theorem dX12_bind_32 : decode cX12_bind 32 = .ok (.getfield 33, 3) := by decide +kernel
theorem dX12_bind_35 : decode cX12_bind 35 = .ok (.bipush 82, 2) := by decide +kernel
theorem dX12_bind_37 : decode cX12_bind 37 = .ok (.dup2, 1) := by decide +kernel
theorem dX12_bind_38 : decode cX12_bind 38 = .ok (.iaload, 1) := by decide +kernel
theorem dX12_bind_39 : decode cX12_bind 39 = .ok (.iconst 1, 1) := by decide +kernel
theorem dX12_bind_40 : decode cX12_bind 40 = .ok (.iload_n 1, 1) := by decide +kernel
theorem dX12_bind_41 : decode cX12_bind 41 = .ok (.ishl, 1) := by decide +kernel
theorem dX12_bind_42 : decode cX12_bind 42 = .ok (.ior, 1) := by decide +kernel
theorem dX12_bind_43 : decode cX12_bind 43 = .ok (.iastore, 1) := by decide +kernel
theorem dX12_bind_44 : decode cX12_bind 44 = .ok (.iconst 0, 1) := by decide +kernel
theorem dX12_bind_45 : decode cX12_bind 45 = .ok (.ireturn, 1) := by decide +kernel
theorem dX12_days_0 : decode cX12_days 0 = .ok (.aload_n 0, 1) := by decide +kernel
theorem dX12_days_1 : decode cX12_days 1 = .ok (.iconst 0, 1) := by decide +kernel
theorem dX12_days_2 : decode cX12_days 2 = .ok (.putfield 1, 3) := by decide +kernel
theorem dX12_days_5 : decode cX12_days 5 = .ok (.iload_n 1, 1) := by decide +kernel
theorem dX12_days_6 : decode cX12_days 6 = .ok (.iconst 1, 1) := by decide +kernel
theorem dX12_days_7 : decode cX12_days 7 = .ok (.bipush 60, 2) := by decide +kernel
theorem dX12_days_9 : decode cX12_days 9 = .ok (.invokestatic 180, 3) := by decide +kernel
theorem dX12_days_12 : decode cX12_days 12 = .ok (.ifCond .ne 5, 3) := by decide +kernel
theorem dX12_days_15 : decode cX12_days 15 = .ok (.iconst (-1), 1) := by decide +kernel
theorem dX12_days_16 : decode cX12_days 16 = .ok (.ireturn, 1) := by decide +kernel
theorem dX12_days_17 : decode cX12_days 17 = .ok (.aload_n 0, 1) := by decide +kernel
theorem dX12_days_18 : decode cX12_days 18 = .ok (.getfield 33, 3) := by decide +kernel
theorem dX12_days_21 : decode cX12_days 21 = .ok (.bipush 80, 2) := by decide +kernel
theorem dX12_days_23 : decode cX12_days 23 = .ok (.iaload, 1) := by decide +kernel
theorem dX12_days_24 : decode cX12_days 24 = .ok (.sipush 400, 3) := by decide +kernel
theorem dX12_days_27 : decode cX12_days 27 = .ok (.if_icmp .ne 5, 3) := by decide +kernel
theorem dX12_days_30 : decode cX12_days 30 = .ok (.iconst 0, 1) := by decide +kernel
theorem dX12_days_31 : decode cX12_days 31 = .ok (.ireturn, 1) := by decide +kernel
theorem dX12_days_32 : decode cX12_days 32 = .ok (.aload_n 0, 1) := by decide +kernel
theorem dX12_days_33 : decode cX12_days 33 = .ok (.invokevirtual 317, 3) := by decide +kernel
theorem dX12_days_36 : decode cX12_days 36 = .ok (.aload_n 0, 1) := by decide +kernel
theorem dX12_days_37 : decode cX12_days 37 = .ok (.iload_n 1, 1) := by decide +kernel
theorem dX12_days_38 : decode cX12_days 38 = .ok (.invokevirtual 332, 3) := by decide +kernel
theorem dX12_days_41 : decode cX12_days 41 = .ok (.ireturn, 1) := by decide +kernel
theorem dX12_stores_0 : decode cX12_stores 0 = .ok (.aload_n 0, 1) := by decide +kernel
theorem dX12_stores_1 : decode cX12_stores 1 = .ok (.getfield 245, 3) := by decide +kernel
theorem dX12_stores_4 : decode cX12_stores 4 = .ok (.bipush 8, 2) := by decide +kernel
theorem dX12_stores_6 : decode cX12_stores 6 = .ok (.if_icmp .ne 38, 3) := by decide +kernel
theorem dX12_stores_9 : decode cX12_stores 9 = .ok (.iconst 0, 1) := by decide +kernel
theorem dX12_stores_10 : decode cX12_stores 10 = .ok (.istore_n 1, 1) := by decide +kernel
theorem dX12_stores_11 : decode cX12_stores 11 = .ok (.iload_n 1, 1) := by decide +kernel
theorem dX12_stores_12 : decode cX12_stores 12 = .ok (.bipush 63, 2) := by decide +kernel
theorem dX12_stores_14 : decode cX12_stores 14 = .ok (.if_icmp .ge 24, 3) := by decide +kernel
theorem dX12_stores_17 : decode cX12_stores 17 = .ok (.aload_n 0, 1) := by decide +kernel
theorem dX12_stores_18 : decode cX12_stores 18 = .ok (.getfield 50, 3) := by decide +kernel
theorem dX12_stores_21 : decode cX12_stores 21 = .ok (.iload_n 1, 1) := by decide +kernel
theorem dX12_stores_22 : decode cX12_stores 22 = .ok (.aload_n 0, 1) := by decide +kernel
theorem dX12_stores_23 : decode cX12_stores 23 = .ok (.getfield 50, 3) := by decide +kernel
theorem dX12_stores_26 : decode cX12_stores 26 = .ok (.iload_n 1, 1) := by decide +kernel
theorem dX12_stores_27 : decode cX12_stores 27 = .ok (.bipush 9, 2) := by decide +kernel
theorem dX12_stores_29 : decode cX12_stores 29 = .ok (.iadd, 1) := by decide +kernel
theorem dX12_stores_30 : decode cX12_stores 30 = .ok (.iaload, 1) := by decide +kernel
theorem dX12_stores_31 : decode cX12_stores 31 = .ok (.iastore, 1) := by decide +kernel
theorem dX12_stores_32 : decode cX12_stores 32 = .ok (.iinc 1 1, 3) := by decide +kernel
theorem dX12_stores_35 : decode cX12_stores 35 = .ok (.goto (-24), 3) := by decide +kernel
theorem dX12_stores_38 : decode cX12_stores 38 = .ok (.aload_n 0, 1) := by decide +kernel
theorem dX12_stores_39 : decode cX12_stores 39 = .ok (.bipush 7, 2) := by decide +kernel
theorem dX12_stores_41 : decode cX12_stores 41 = .ok (.putfield 245, 3) := by decide +kernel
theorem dX12_stores_44 : decode cX12_stores 44 = .ok (.iconst 0, 1) := by decide +kernel
theorem dX12_stores_45 : decode cX12_stores 45 = .ok (.istore_n 1, 1) := by decide +kernel
theorem dX12_stores_46 : decode cX12_stores 46 = .ok (.iload_n 1, 1) := by decide +kernel
theorem dX12_stores_47 : decode cX12_stores 47 = .ok (.bipush 9, 2) := by decide +kernel
theorem dX12_stores_49 : decode cX12_stores 49 = .ok (.if_icmp .ge 32, 3) := by decide +kernel
theorem dX12_stores_52 : decode cX12_stores 52 = .ok (.aload_n 0, 1) := by decide +kernel
theorem dX12_stores_53 : decode cX12_stores 53 = .ok (.getfield 50, 3) := by decide +kernel
theorem dX12_stores_56 : decode cX12_stores 56 = .ok (.bipush 9, 2) := by decide +kernel
theorem dX12_stores_58 : decode cX12_stores 58 = .ok (.aload_n 0, 1) := by decide +kernel
theorem dX12_stores_59 : decode cX12_stores 59 = .ok (.getfield 245, 3) := by decide +kernel
theorem dX12_stores_62 : decode cX12_stores 62 = .ok (.imul, 1) := by decide +kernel
theorem dX12_stores_63 : decode cX12_stores 63 = .ok (.iload_n 1, 1) := by decide +kernel
theorem dX12_stores_64 : decode cX12_stores 64 = .ok (.iadd, 1) := by decide +kernel
theorem dX12_stores_65 : decode cX12_stores 65 = .ok (.aload_n 0, 1) := by decide +kernel
theorem dX12_stores_66 : decode cX12_stores 66 = .ok (.getfield 33, 3) := by decide +kernel
theorem dX12_stores_69 : decode cX12_stores 69 = .ok (.bipush 80, 2) := by decide +kernel
theorem dX12_stores_71 : decode cX12_stores 71 = .ok (.iload_n 1, 1) := by decide +kernel
theorem dX12_stores_72 : decode cX12_stores 72 = .ok (.iadd, 1) := by decide +kernel
theorem dX12_stores_73 : decode cX12_stores 73 = .ok (.iaload, 1) := by decide +kernel
theorem dX12_stores_74 : decode cX12_stores 74 = .ok (.iastore, 1) := by decide +kernel
theorem dX12_stores_75 : decode cX12_stores 75 = .ok (.iinc 1 1, 3) := by decide +kernel
theorem dX12_stores_78 : decode cX12_stores 78 = .ok (.goto (-32), 3) := by decide +kernel
theorem dX12_stores_81 : decode cX12_stores 81 = .ok (.aload_n 0, 1) := by decide +kernel
theorem dX12_stores_82 : decode cX12_stores 82 = .ok (.dup, 1) := by decide +kernel
theorem dX12_stores_83 : decode cX12_stores 83 = .ok (.getfield 245, 3) := by decide +kernel
theorem dX12_stores_86 : decode cX12_stores 86 = .ok (.iconst 1, 1) := by decide +kernel
theorem dX12_stores_87 : decode cX12_stores 87 = .ok (.iadd, 1) := by decide +kernel
theorem dX12_stores_88 : decode cX12_stores 88 = .ok (.putfield 245, 3) := by decide +kernel
theorem dX12_stores_91 : decode cX12_stores 91 = .ok (.return_, 1) := by decide +kernel
theorem dX12_undo_0 : decode cX12_undo 0 = .ok (.aload_n 0, 1) := by decide +kernel
theorem dX12_undo_1 : decode cX12_undo 1 = .ok (.iconst 0, 1) := by decide +kernel
theorem dX12_undo_2 : decode cX12_undo 2 = .ok (.putfield 1, 3) := by decide +kernel
theorem dX12_undo_5 : decode cX12_undo 5 = .ok (.aload_n 0, 1) := by decide +kernel
theorem dX12_undo_6 : decode cX12_undo 6 = .ok (.getfield 245, 3) := by decide +kernel
theorem dX12_undo_9 : decode cX12_undo 9 = .ok (.ifCond .ne 5, 3) := by decide +kernel
theorem dX12_undo_12 : decode cX12_undo 12 = .ok (.iconst (-1), 1) := by decide +kernel
theorem dX12_undo_13 : decode cX12_undo 13 = .ok (.ireturn, 1) := by decide +kernel
theorem dX12_undo_14 : decode cX12_undo 14 = .ok (.aload_n 0, 1) := by decide +kernel
theorem dX12_undo_15 : decode cX12_undo 15 = .ok (.dup, 1) := by decide +kernel
theorem dX12_undo_16 : decode cX12_undo 16 = .ok (.getfield 245, 3) := by decide +kernel
theorem dX12_undo_19 : decode cX12_undo 19 = .ok (.iconst 1, 1) := by decide +kernel
theorem dX12_undo_20 : decode cX12_undo 20 = .ok (.isub, 1) := by decide +kernel
theorem dX12_undo_21 : decode cX12_undo 21 = .ok (.putfield 245, 3) := by decide +kernel
theorem dX12_undo_24 : decode cX12_undo 24 = .ok (.iconst 0, 1) := by decide +kernel
theorem dX12_undo_25 : decode cX12_undo 25 = .ok (.istore_n 1, 1) := by decide +kernel
theorem dX12_undo_26 : decode cX12_undo 26 = .ok (.iload_n 1, 1) := by decide +kernel
theorem dX12_undo_27 : decode cX12_undo 27 = .ok (.bipush 9, 2) := by decide +kernel
theorem dX12_undo_29 : decode cX12_undo 29 = .ok (.if_icmp .ge 32, 3) := by decide +kernel
theorem dX12_undo_32 : decode cX12_undo 32 = .ok (.aload_n 0, 1) := by decide +kernel
theorem dX12_undo_33 : decode cX12_undo 33 = .ok (.getfield 33, 3) := by decide +kernel
theorem dX12_undo_36 : decode cX12_undo 36 = .ok (.bipush 80, 2) := by decide +kernel
theorem dX12_undo_38 : decode cX12_undo 38 = .ok (.iload_n 1, 1) := by decide +kernel
theorem dX12_undo_39 : decode cX12_undo 39 = .ok (.iadd, 1) := by decide +kernel
theorem dX12_undo_40 : decode cX12_undo 40 = .ok (.aload_n 0, 1) := by decide +kernel
theorem dX12_undo_41 : decode cX12_undo 41 = .ok (.getfield 50, 3) := by decide +kernel
theorem dX12_undo_44 : decode cX12_undo 44 = .ok (.bipush 9, 2) := by decide +kernel
theorem dX12_undo_46 : decode cX12_undo 46 = .ok (.aload_n 0, 1) := by decide +kernel
theorem dX12_undo_47 : decode cX12_undo 47 = .ok (.getfield 245, 3) := by decide +kernel
theorem dX12_undo_50 : decode cX12_undo 50 = .ok (.imul, 1) := by decide +kernel
theorem dX12_undo_51 : decode cX12_undo 51 = .ok (.iload_n 1, 1) := by decide +kernel
theorem dX12_undo_52 : decode cX12_undo 52 = .ok (.iadd, 1) := by decide +kernel
theorem dX12_undo_53 : decode cX12_undo 53 = .ok (.iaload, 1) := by decide +kernel
theorem dX12_undo_54 : decode cX12_undo 54 = .ok (.iastore, 1) := by decide +kernel
theorem dX12_undo_55 : decode cX12_undo 55 = .ok (.iinc 1 1, 3) := by decide +kernel
theorem dX12_undo_58 : decode cX12_undo 58 = .ok (.goto (-32), 3) := by decide +kernel
theorem dX12_undo_61 : decode cX12_undo 61 = .ok (.aload_n 0, 1) := by decide +kernel
theorem dX12_undo_62 : decode cX12_undo 62 = .ok (.getfield 245, 3) := by decide +kernel
theorem dX12_undo_65 : decode cX12_undo 65 = .ok (.ireturn, 1) := by decide +kernel
theorem dX12_tries_0 : decode cX12_tries 0 = .ok (.iconst 0, 1) := by decide +kernel
theorem dX12_tries_1 : decode cX12_tries 1 = .ok (.istore_n 1, 1) := by decide +kernel
theorem dX12_tries_2 : decode cX12_tries 2 = .ok (.iload_n 1, 1) := by decide +kernel
theorem dX12_tries_3 : decode cX12_tries 3 = .ok (.bipush 9, 2) := by decide +kernel
theorem dX12_tries_5 : decode cX12_tries 5 = .ok (.if_icmp .ge 24, 3) := by decide +kernel
theorem dX12_tries_8 : decode cX12_tries 8 = .ok (.aload_n 0, 1) := by decide +kernel
theorem dX12_tries_9 : decode cX12_tries 9 = .ok (.getfield 53, 3) := by decide +kernel
theorem dX12_tries_12 : decode cX12_tries 12 = .ok (.iload_n 1, 1) := by decide +kernel
theorem dX12_tries_13 : decode cX12_tries 13 = .ok (.aload_n 0, 1) := by decide +kernel
theorem dX12_tries_14 : decode cX12_tries 14 = .ok (.getfield 33, 3) := by decide +kernel
theorem dX12_tries_17 : decode cX12_tries 17 = .ok (.bipush 80, 2) := by decide +kernel
theorem dX12_tries_19 : decode cX12_tries 19 = .ok (.iload_n 1, 1) := by decide +kernel
theorem dX12_tries_20 : decode cX12_tries 20 = .ok (.iadd, 1) := by decide +kernel
theorem dX12_tries_21 : decode cX12_tries 21 = .ok (.iaload, 1) := by decide +kernel
theorem dX12_tries_22 : decode cX12_tries 22 = .ok (.iastore, 1) := by decide +kernel
theorem dX12_tries_23 : decode cX12_tries 23 = .ok (.iinc 1 1, 3) := by decide +kernel
theorem dX12_tries_26 : decode cX12_tries 26 = .ok (.goto (-24), 3) := by decide +kernel
theorem dX12_tries_29 : decode cX12_tries 29 = .ok (.return_, 1) := by decide +kernel
theorem dX12_back_0 : decode cX12_back 0 = .ok (.iconst 0, 1) := by decide +kernel
theorem dX12_back_1 : decode cX12_back 1 = .ok (.istore_n 1, 1) := by decide +kernel
theorem dX12_back_2 : decode cX12_back 2 = .ok (.iload_n 1, 1) := by decide +kernel
theorem dX12_back_3 : decode cX12_back 3 = .ok (.bipush 9, 2) := by decide +kernel
theorem dX12_back_5 : decode cX12_back 5 = .ok (.if_icmp .ge 24, 3) := by decide +kernel
theorem dX12_back_8 : decode cX12_back 8 = .ok (.aload_n 0, 1) := by decide +kernel
theorem dX12_back_9 : decode cX12_back 9 = .ok (.getfield 33, 3) := by decide +kernel
theorem dX12_back_12 : decode cX12_back 12 = .ok (.bipush 80, 2) := by decide +kernel
theorem dX12_back_14 : decode cX12_back 14 = .ok (.iload_n 1, 1) := by decide +kernel
theorem dX12_back_15 : decode cX12_back 15 = .ok (.iadd, 1) := by decide +kernel
theorem dX12_back_16 : decode cX12_back 16 = .ok (.aload_n 0, 1) := by decide +kernel
theorem dX12_back_17 : decode cX12_back 17 = .ok (.getfield 53, 3) := by decide +kernel
theorem dX12_back_20 : decode cX12_back 20 = .ok (.iload_n 1, 1) := by decide +kernel
theorem dX12_back_21 : decode cX12_back 21 = .ok (.iaload, 1) := by decide +kernel
theorem dX12_back_22 : decode cX12_back 22 = .ok (.iastore, 1) := by decide +kernel
theorem dX12_back_23 : decode cX12_back 23 = .ok (.iinc 1 1, 3) := by decide +kernel
theorem dX12_back_26 : decode cX12_back 26 = .ok (.goto (-24), 3) := by decide +kernel
theorem dX12_back_29 : decode cX12_back 29 = .ok (.return_, 1) := by decide +kernel
theorem dX12_fate_0 : decode cX12_fate 0 = .ok (.aload_n 0, 1) := by decide +kernel
theorem dX12_fate_1 : decode cX12_fate 1 = .ok (.iconst 0, 1) := by decide +kernel
theorem dX12_fate_2 : decode cX12_fate 2 = .ok (.putfield 1, 3) := by decide +kernel
theorem dX12_fate_5 : decode cX12_fate 5 = .ok (.aload_n 0, 1) := by decide +kernel
theorem dX12_fate_6 : decode cX12_fate 6 = .ok (.iload_n 1, 1) := by decide +kernel
theorem dX12_fate_7 : decode cX12_fate 7 = .ok (.invokevirtual 280, 3) := by decide +kernel
theorem dX12_fate_10 : decode cX12_fate 10 = .ok (.ifCond .eq 11, 3) := by decide +kernel
theorem dX12_fate_13 : decode cX12_fate 13 = .ok (.aload_n 0, 1) := by decide +kernel
theorem dX12_fate_14 : decode cX12_fate 14 = .ok (.iload_n 1, 1) := by decide +kernel
theorem dX12_fate_15 : decode cX12_fate 15 = .ok (.invokevirtual 335, 3) := by decide +kernel
theorem dX12_fate_18 : decode cX12_fate 18 = .ok (.goto 4, 3) := by decide +kernel
theorem dX12_fate_21 : decode cX12_fate 21 = .ok (.iconst (-1), 1) := by decide +kernel
theorem dX12_fate_22 : decode cX12_fate 22 = .ok (.ireturn, 1) := by decide +kernel
theorem dX12_straw_0 : decode cX12_straw 0 = .ok (.aload_n 0, 1) := by decide +kernel
theorem dX12_straw_1 : decode cX12_straw 1 = .ok (.iconst 0, 1) := by decide +kernel
theorem dX12_straw_2 : decode cX12_straw 2 = .ok (.putfield 1, 3) := by decide +kernel
theorem dX12_straw_5 : decode cX12_straw 5 = .ok (.aload_n 0, 1) := by decide +kernel
theorem dX12_straw_6 : decode cX12_straw 6 = .ok (.iload_n 1, 1) := by decide +kernel
theorem dX12_straw_7 : decode cX12_straw 7 = .ok (.invokevirtual 280, 3) := by decide +kernel
theorem dX12_straw_10 : decode cX12_straw 10 = .ok (.ifCond .eq 19, 3) := by decide +kernel
theorem dX12_straw_13 : decode cX12_straw 13 = .ok (.aload_n 0, 1) := by decide +kernel
theorem dX12_straw_14 : decode cX12_straw 14 = .ok (.iload_n 1, 1) := by decide +kernel
theorem dX12_straw_15 : decode cX12_straw 15 = .ok (.invokevirtual 268, 3) := by decide +kernel
theorem dX12_straw_18 : decode cX12_straw 18 = .ok (.ifCond .ne 11, 3) := by decide +kernel
theorem dX12_straw_21 : decode cX12_straw 21 = .ok (.aload_n 0, 1) := by decide +kernel
theorem dX12_straw_22 : decode cX12_straw 22 = .ok (.iload_n 1, 1) := by decide +kernel
theorem dX12_straw_23 : decode cX12_straw 23 = .ok (.invokevirtual 252, 3) := by decide +kernel
theorem dX12_straw_26 : decode cX12_straw 26 = .ok (.ifCond .ne 5, 3) := by decide +kernel
theorem dX12_straw_29 : decode cX12_straw 29 = .ok (.iconst (-1), 1) := by decide +kernel
theorem dX12_straw_30 : decode cX12_straw 30 = .ok (.ireturn, 1) := by decide +kernel
theorem dX12_straw_31 : decode cX12_straw 31 = .ok (.iconst 0, 1) := by decide +kernel
theorem dX12_straw_32 : decode cX12_straw 32 = .ok (.istore_n 2, 1) := by decide +kernel
theorem dX12_straw_33 : decode cX12_straw 33 = .ok (.iload_n 2, 1) := by decide +kernel
theorem dX12_straw_34 : decode cX12_straw 34 = .ok (.aload_n 0, 1) := by decide +kernel
theorem dX12_straw_35 : decode cX12_straw 35 = .ok (.getfield 33, 3) := by decide +kernel
theorem dX12_straw_38 : decode cX12_straw 38 = .ok (.iconst 3, 1) := by decide +kernel
theorem dX12_straw_39 : decode cX12_straw 39 = .ok (.iaload, 1) := by decide +kernel
theorem dX12_straw_40 : decode cX12_straw 40 = .ok (.if_icmp .gt 36, 3) := by decide +kernel
theorem dX12_straw_43 : decode cX12_straw 43 = .ok (.aload_n 0, 1) := by decide +kernel
theorem dX12_straw_44 : decode cX12_straw 44 = .ok (.aload_n 0, 1) := by decide +kernel
theorem dX12_straw_45 : decode cX12_straw 45 = .ok (.iload_n 1, 1) := by decide +kernel
theorem dX12_straw_46 : decode cX12_straw 46 = .ok (.invokevirtual 252, 3) := by decide +kernel
theorem dX12_straw_49 : decode cX12_straw 49 = .ok (.aload_n 0, 1) := by decide +kernel
theorem dX12_straw_50 : decode cX12_straw 50 = .ok (.aload_n 0, 1) := by decide +kernel
theorem dX12_straw_51 : decode cX12_straw 51 = .ok (.getfield 33, 3) := by decide +kernel
theorem dX12_straw_54 : decode cX12_straw 54 = .ok (.iconst 3, 1) := by decide +kernel
theorem dX12_straw_55 : decode cX12_straw 55 = .ok (.iaload, 1) := by decide +kernel
theorem dX12_straw_56 : decode cX12_straw 56 = .ok (.iload_n 2, 1) := by decide +kernel
theorem dX12_straw_57 : decode cX12_straw 57 = .ok (.isub, 1) := by decide +kernel
theorem dX12_straw_58 : decode cX12_straw 58 = .ok (.invokevirtual 271, 3) := by decide +kernel
theorem dX12_straw_61 : decode cX12_straw 61 = .ok (.invokevirtual 274, 3) := by decide +kernel
theorem dX12_straw_64 : decode cX12_straw 64 = .ok (.iconst 1, 1) := by decide +kernel
theorem dX12_straw_65 : decode cX12_straw 65 = .ok (.if_icmp .ne 5, 3) := by decide +kernel
theorem dX12_straw_68 : decode cX12_straw 68 = .ok (.iload_n 2, 1) := by decide +kernel
theorem dX12_straw_69 : decode cX12_straw 69 = .ok (.ireturn, 1) := by decide +kernel
theorem dX12_straw_70 : decode cX12_straw 70 = .ok (.iinc 2 1, 3) := by decide +kernel
theorem dX12_straw_73 : decode cX12_straw 73 = .ok (.goto (-40), 3) := by decide +kernel
theorem dX12_straw_76 : decode cX12_straw 76 = .ok (.iconst (-1), 1) := by decide +kernel
theorem dX12_straw_77 : decode cX12_straw 77 = .ok (.ireturn, 1) := by decide +kernel
theorem dX12_lighten_0 : decode cX12_lighten 0 = .ok (.aload_n 0, 1) := by decide +kernel
theorem dX12_lighten_1 : decode cX12_lighten 1 = .ok (.iconst 0, 1) := by decide +kernel
theorem dX12_lighten_2 : decode cX12_lighten 2 = .ok (.putfield 1, 3) := by decide +kernel
theorem dX12_lighten_5 : decode cX12_lighten 5 = .ok (.aload_n 0, 1) := by decide +kernel
theorem dX12_lighten_6 : decode cX12_lighten 6 = .ok (.iload_n 1, 1) := by decide +kernel
theorem dX12_lighten_7 : decode cX12_lighten 7 = .ok (.invokevirtual 280, 3) := by decide +kernel
theorem dX12_lighten_10 : decode cX12_lighten 10 = .ok (.ifCond .eq 11, 3) := by decide +kernel
theorem dX12_lighten_13 : decode cX12_lighten 13 = .ok (.aload_n 0, 1) := by decide +kernel
theorem dX12_lighten_14 : decode cX12_lighten 14 = .ok (.iload_n 1, 1) := by decide +kernel
theorem dX12_lighten_15 : decode cX12_lighten 15 = .ok (.invokevirtual 268, 3) := by decide +kernel
theorem dX12_lighten_18 : decode cX12_lighten 18 = .ok (.ifCond .eq 5, 3) := by decide +kernel
theorem dX12_lighten_21 : decode cX12_lighten 21 = .ok (.iconst (-1), 1) := by decide +kernel
theorem dX12_lighten_22 : decode cX12_lighten 22 = .ok (.ireturn, 1) := by decide +kernel
theorem dX12_lighten_23 : decode cX12_lighten 23 = .ok (.aload_n 0, 1) := by decide +kernel
theorem dX12_lighten_24 : decode cX12_lighten 24 = .ok (.iload_n 1, 1) := by decide +kernel
theorem dX12_lighten_25 : decode cX12_lighten 25 = .ok (.invokevirtual 252, 3) := by decide +kernel
theorem dX12_lighten_28 : decode cX12_lighten 28 = .ok (.istore_n 2, 1) := by decide +kernel
theorem dX12_lighten_29 : decode cX12_lighten 29 = .ok (.iload_n 2, 1) := by decide +kernel
theorem dX12_lighten_30 : decode cX12_lighten 30 = .ok (.istore_n 3, 1) := by decide +kernel
theorem dX12_lighten_31 : decode cX12_lighten 31 = .ok (.iconst 0, 1) := by decide +kernel
theorem dX12_lighten_32 : decode cX12_lighten 32 = .ok (.istore 4, 2) := by decide +kernel
theorem dX12_lighten_34 : decode cX12_lighten 34 = .ok (.iload 4, 2) := by decide +kernel
theorem dX12_lighten_36 : decode cX12_lighten 36 = .ok (.iload_n 2, 1) := by decide +kernel
theorem dX12_lighten_37 : decode cX12_lighten 37 = .ok (.if_icmp .ge 79, 3) := by decide +kernel
theorem dX12_lighten_40 : decode cX12_lighten 40 = .ok (.iload 4, 2) := by decide +kernel
theorem dX12_lighten_42 : decode cX12_lighten 42 = .ok (.iload_n 2, 1) := by decide +kernel
theorem dX12_lighten_43 : decode cX12_lighten 43 = .ok (.iconst (-1), 1) := by decide +kernel
theorem dX12_lighten_44 : decode cX12_lighten 44 = .ok (.ixor, 1) := by decide +kernel
theorem dX12_lighten_45 : decode cX12_lighten 45 = .ok (.iand, 1) := by decide +kernel
theorem dX12_lighten_46 : decode cX12_lighten 46 = .ok (.ifCond .ne 64, 3) := by decide +kernel
theorem dX12_lighten_49 : decode cX12_lighten 49 = .ok (.aload_n 0, 1) := by decide +kernel
theorem dX12_lighten_50 : decode cX12_lighten 50 = .ok (.iload_n 1, 1) := by decide +kernel
theorem dX12_lighten_51 : decode cX12_lighten 51 = .ok (.invokevirtual 287, 3) := by decide +kernel
theorem dX12_lighten_54 : decode cX12_lighten 54 = .ok (.aload_n 0, 1) := by decide +kernel
theorem dX12_lighten_55 : decode cX12_lighten 55 = .ok (.iload 4, 2) := by decide +kernel
theorem dX12_lighten_57 : decode cX12_lighten 57 = .ok (.invokevirtual 255, 3) := by decide +kernel
theorem dX12_lighten_60 : decode cX12_lighten 60 = .ok (.isub, 1) := by decide +kernel
theorem dX12_lighten_61 : decode cX12_lighten 61 = .ok (.aload_n 0, 1) := by decide +kernel
theorem dX12_lighten_62 : decode cX12_lighten 62 = .ok (.invokevirtual 302, 3) := by decide +kernel
theorem dX12_lighten_65 : decode cX12_lighten 65 = .ok (.if_icmp .le 6, 3) := by decide +kernel
theorem dX12_lighten_68 : decode cX12_lighten 68 = .ok (.goto 42, 3) := by decide +kernel
theorem dX12_lighten_71 : decode cX12_lighten 71 = .ok (.iload 4, 2) := by decide +kernel
theorem dX12_lighten_73 : decode cX12_lighten 73 = .ok (.invokestatic 261, 3) := by decide +kernel
theorem dX12_lighten_76 : decode cX12_lighten 76 = .ok (.iload_n 3, 1) := by decide +kernel
theorem dX12_lighten_77 : decode cX12_lighten 77 = .ok (.invokestatic 261, 3) := by decide +kernel
theorem dX12_lighten_80 : decode cX12_lighten 80 = .ok (.isub, 1) := by decide +kernel
theorem dX12_lighten_81 : decode cX12_lighten 81 = .ok (.istore 5, 2) := by decide +kernel
theorem dX12_lighten_83 : decode cX12_lighten 83 = .ok (.iload 5, 2) := by decide +kernel
theorem dX12_lighten_85 : decode cX12_lighten 85 = .ok (.ifCond .lt 22, 3) := by decide +kernel
theorem dX12_lighten_88 : decode cX12_lighten 88 = .ok (.iload 5, 2) := by decide +kernel
theorem dX12_lighten_90 : decode cX12_lighten 90 = .ok (.ifCond .ne 20, 3) := by decide +kernel
theorem dX12_lighten_93 : decode cX12_lighten 93 = .ok (.aload_n 0, 1) := by decide +kernel
theorem dX12_lighten_94 : decode cX12_lighten 94 = .ok (.iload 4, 2) := by decide +kernel
theorem dX12_lighten_96 : decode cX12_lighten 96 = .ok (.invokevirtual 255, 3) := by decide +kernel
theorem dX12_lighten_99 : decode cX12_lighten 99 = .ok (.aload_n 0, 1) := by decide +kernel
theorem dX12_lighten_100 : decode cX12_lighten 100 = .ok (.iload_n 3, 1) := by decide +kernel
theorem dX12_lighten_101 : decode cX12_lighten 101 = .ok (.invokevirtual 255, 3) := by decide +kernel
theorem dX12_lighten_104 : decode cX12_lighten 104 = .ok (.if_icmp .ge 6, 3) := by decide +kernel
theorem dX12_lighten_107 : decode cX12_lighten 107 = .ok (.iload 4, 2) := by decide +kernel
theorem dX12_lighten_109 : decode cX12_lighten 109 = .ok (.istore_n 3, 1) := by decide +kernel
theorem dX12_lighten_110 : decode cX12_lighten 110 = .ok (.iinc 4 1, 3) := by decide +kernel
theorem dX12_lighten_113 : decode cX12_lighten 113 = .ok (.goto (-79), 3) := by decide +kernel
theorem dX12_lighten_116 : decode cX12_lighten 116 = .ok (.aload_n 0, 1) := by decide +kernel
theorem dX12_lighten_117 : decode cX12_lighten 117 = .ok (.iconst 1, 1) := by decide +kernel
theorem dX12_lighten_118 : decode cX12_lighten 118 = .ok (.putfield 338, 3) := by decide +kernel
theorem dX12_lighten_121 : decode cX12_lighten 121 = .ok (.aload_n 0, 1) := by decide +kernel
theorem dX12_lighten_122 : decode cX12_lighten 122 = .ok (.iload_n 3, 1) := by decide +kernel
theorem dX12_lighten_123 : decode cX12_lighten 123 = .ok (.putfield 342, 3) := by decide +kernel
theorem dX12_lighten_126 : decode cX12_lighten 126 = .ok (.iload_n 3, 1) := by decide +kernel
theorem dX12_lighten_127 : decode cX12_lighten 127 = .ok (.invokestatic 261, 3) := by decide +kernel
theorem dX12_lighten_130 : decode cX12_lighten 130 = .ok (.ireturn, 1) := by decide +kernel
theorem dX12_lightened_0 : decode cX12_lightened 0 = .ok (.aload_n 0, 1) := by decide +kernel
theorem dX12_lightened_1 : decode cX12_lightened 1 = .ok (.iconst 0, 1) := by decide +kernel
theorem dX12_lightened_2 : decode cX12_lightened 2 = .ok (.putfield 1, 3) := by decide +kernel
theorem dX12_lightened_5 : decode cX12_lightened 5 = .ok (.aload_n 0, 1) := by decide +kernel
theorem dX12_lightened_6 : decode cX12_lightened 6 = .ok (.getfield 338, 3) := by decide +kernel
theorem dX12_lightened_9 : decode cX12_lightened 9 = .ok (.ifCond .eq 10, 3) := by decide +kernel
theorem dX12_lightened_12 : decode cX12_lightened 12 = .ok (.aload_n 0, 1) := by decide +kernel
theorem dX12_lightened_13 : decode cX12_lightened 13 = .ok (.getfield 342, 3) := by decide +kernel
theorem dX12_lightened_16 : decode cX12_lightened 16 = .ok (.goto 4, 3) := by decide +kernel
theorem dX12_lightened_19 : decode cX12_lightened 19 = .ok (.iconst (-1), 1) := by decide +kernel
theorem dX12_lightened_20 : decode cX12_lightened 20 = .ok (.ireturn, 1) := by decide +kernel
theorem dX12_keep_0 : decode cX12_keep 0 = .ok (.aload_n 0, 1) := by decide +kernel
theorem dX12_keep_1 : decode cX12_keep 1 = .ok (.iconst 0, 1) := by decide +kernel
theorem dX12_keep_2 : decode cX12_keep 2 = .ok (.putfield 1, 3) := by decide +kernel
theorem dX12_keep_5 : decode cX12_keep 5 = .ok (.aload_n 0, 1) := by decide +kernel
theorem dX12_keep_6 : decode cX12_keep 6 = .ok (.iload_n 1, 1) := by decide +kernel
theorem dX12_keep_7 : decode cX12_keep 7 = .ok (.invokevirtual 280, 3) := by decide +kernel
theorem dX12_keep_10 : decode cX12_keep 10 = .ok (.ifCond .eq 11, 3) := by decide +kernel
theorem dX12_keep_13 : decode cX12_keep 13 = .ok (.aload_n 0, 1) := by decide +kernel
theorem dX12_keep_14 : decode cX12_keep 14 = .ok (.iload_n 1, 1) := by decide +kernel
theorem dX12_keep_15 : decode cX12_keep 15 = .ok (.invokevirtual 268, 3) := by decide +kernel
theorem dX12_keep_18 : decode cX12_keep 18 = .ok (.ifCond .eq 5, 3) := by decide +kernel
theorem dX12_keep_21 : decode cX12_keep 21 = .ok (.iconst (-1), 1) := by decide +kernel
theorem dX12_keep_22 : decode cX12_keep 22 = .ok (.ireturn, 1) := by decide +kernel
theorem dX12_keep_23 : decode cX12_keep 23 = .ok (.aload_n 0, 1) := by decide +kernel
theorem dX12_keep_24 : decode cX12_keep 24 = .ok (.iload_n 1, 1) := by decide +kernel
theorem dX12_keep_25 : decode cX12_keep 25 = .ok (.invokevirtual 252, 3) := by decide +kernel
theorem dX12_keep_28 : decode cX12_keep 28 = .ok (.istore_n 2, 1) := by decide +kernel
theorem dX12_keep_29 : decode cX12_keep 29 = .ok (.aload_n 0, 1) := by decide +kernel
theorem dX12_keep_30 : decode cX12_keep 30 = .ok (.iload_n 1, 1) := by decide +kernel
theorem dX12_keep_31 : decode cX12_keep 31 = .ok (.invokevirtual 277, 3) := by decide +kernel
theorem dX12_keep_34 : decode cX12_keep 34 = .ok (.istore_n 3, 1) := by decide +kernel
theorem dX12_keep_35 : decode cX12_keep 35 = .ok (.iconst 0, 1) := by decide +kernel
theorem dX12_keep_36 : decode cX12_keep 36 = .ok (.istore 4, 2) := by decide +kernel
theorem dX12_keep_38 : decode cX12_keep 38 = .ok (.iconst 1, 1) := by decide +kernel
theorem dX12_keep_39 : decode cX12_keep 39 = .ok (.istore 5, 2) := by decide +kernel
theorem dX12_keep_41 : decode cX12_keep 41 = .ok (.iload 5, 2) := by decide +kernel
theorem dX12_keep_43 : decode cX12_keep 43 = .ok (.iload_n 2, 1) := by decide +kernel
theorem dX12_keep_44 : decode cX12_keep 44 = .ok (.if_icmp .gt 64, 3) := by decide +kernel
theorem dX12_keep_47 : decode cX12_keep 47 = .ok (.iload 5, 2) := by decide +kernel
theorem dX12_keep_49 : decode cX12_keep 49 = .ok (.iload_n 2, 1) := by decide +kernel
theorem dX12_keep_50 : decode cX12_keep 50 = .ok (.iconst (-1), 1) := by decide +kernel
theorem dX12_keep_51 : decode cX12_keep 51 = .ok (.ixor, 1) := by decide +kernel
theorem dX12_keep_52 : decode cX12_keep 52 = .ok (.iand, 1) := by decide +kernel
theorem dX12_keep_53 : decode cX12_keep 53 = .ok (.ifCond .ne 49, 3) := by decide +kernel
theorem dX12_keep_56 : decode cX12_keep 56 = .ok (.aload_n 0, 1) := by decide +kernel
theorem dX12_keep_57 : decode cX12_keep 57 = .ok (.iload 5, 2) := by decide +kernel
theorem dX12_keep_59 : decode cX12_keep 59 = .ok (.invokevirtual 255, 3) := by decide +kernel
theorem dX12_keep_62 : decode cX12_keep 62 = .ok (.aload_n 0, 1) := by decide +kernel
theorem dX12_keep_63 : decode cX12_keep 63 = .ok (.invokevirtual 302, 3) := by decide +kernel
theorem dX12_keep_66 : decode cX12_keep 66 = .ok (.if_icmp .gt 36, 3) := by decide +kernel
theorem dX12_keep_69 : decode cX12_keep 69 = .ok (.aload_n 0, 1) := by decide +kernel
theorem dX12_keep_70 : decode cX12_keep 70 = .ok (.iload 5, 2) := by decide +kernel
theorem dX12_keep_72 : decode cX12_keep 72 = .ok (.invokevirtual 255, 3) := by decide +kernel
theorem dX12_keep_75 : decode cX12_keep 75 = .ok (.aload_n 0, 1) := by decide +kernel
theorem dX12_keep_76 : decode cX12_keep 76 = .ok (.iload 4, 2) := by decide +kernel
theorem dX12_keep_78 : decode cX12_keep 78 = .ok (.invokevirtual 255, 3) := by decide +kernel
theorem dX12_keep_81 : decode cX12_keep 81 = .ok (.if_icmp .le 21, 3) := by decide +kernel
theorem dX12_keep_84 : decode cX12_keep 84 = .ok (.aload_n 0, 1) := by decide +kernel
theorem dX12_keep_85 : decode cX12_keep 85 = .ok (.iload 5, 2) := by decide +kernel
theorem dX12_keep_87 : decode cX12_keep 87 = .ok (.iload_n 3, 1) := by decide +kernel
theorem dX12_keep_88 : decode cX12_keep 88 = .ok (.invokevirtual 274, 3) := by decide +kernel
theorem dX12_keep_91 : decode cX12_keep 91 = .ok (.iconst 1, 1) := by decide +kernel
theorem dX12_keep_92 : decode cX12_keep 92 = .ok (.if_icmp .eq 6, 3) := by decide +kernel
theorem dX12_keep_95 : decode cX12_keep 95 = .ok (.goto 7, 3) := by decide +kernel
theorem dX12_keep_98 : decode cX12_keep 98 = .ok (.iload 5, 2) := by decide +kernel
theorem dX12_keep_100 : decode cX12_keep 100 = .ok (.istore 4, 2) := by decide +kernel
theorem dX12_keep_102 : decode cX12_keep 102 = .ok (.iinc 5 1, 3) := by decide +kernel
theorem dX12_keep_105 : decode cX12_keep 105 = .ok (.goto (-64), 3) := by decide +kernel
theorem dX12_keep_108 : decode cX12_keep 108 = .ok (.aload_n 0, 1) := by decide +kernel
theorem dX12_keep_109 : decode cX12_keep 109 = .ok (.iconst 1, 1) := by decide +kernel
theorem dX12_keep_110 : decode cX12_keep 110 = .ok (.putfield 345, 3) := by decide +kernel
theorem dX12_keep_113 : decode cX12_keep 113 = .ok (.aload_n 0, 1) := by decide +kernel
theorem dX12_keep_114 : decode cX12_keep 114 = .ok (.iload 4, 2) := by decide +kernel
theorem dX12_keep_116 : decode cX12_keep 116 = .ok (.putfield 348, 3) := by decide +kernel
theorem dX12_keep_119 : decode cX12_keep 119 = .ok (.aload_n 0, 1) := by decide +kernel
theorem dX12_keep_120 : decode cX12_keep 120 = .ok (.iload 4, 2) := by decide +kernel
theorem dX12_keep_122 : decode cX12_keep 122 = .ok (.invokevirtual 255, 3) := by decide +kernel
theorem dX12_keep_125 : decode cX12_keep 125 = .ok (.ireturn, 1) := by decide +kernel
theorem dX12_keeps_0 : decode cX12_keeps 0 = .ok (.aload_n 0, 1) := by decide +kernel
theorem dX12_keeps_1 : decode cX12_keeps 1 = .ok (.iconst 0, 1) := by decide +kernel
theorem dX12_keeps_2 : decode cX12_keeps 2 = .ok (.putfield 1, 3) := by decide +kernel
theorem dX12_keeps_5 : decode cX12_keeps 5 = .ok (.aload_n 0, 1) := by decide +kernel
theorem dX12_keeps_6 : decode cX12_keeps 6 = .ok (.getfield 345, 3) := by decide +kernel
theorem dX12_keeps_9 : decode cX12_keeps 9 = .ok (.ifCond .eq 10, 3) := by decide +kernel
theorem dX12_keeps_12 : decode cX12_keeps 12 = .ok (.aload_n 0, 1) := by decide +kernel
theorem dX12_keeps_13 : decode cX12_keeps 13 = .ok (.getfield 348, 3) := by decide +kernel
theorem dX12_keeps_16 : decode cX12_keeps 16 = .ok (.goto 4, 3) := by decide +kernel
theorem dX12_keeps_19 : decode cX12_keeps 19 = .ok (.iconst (-1), 1) := by decide +kernel
theorem dX12_keeps_20 : decode cX12_keeps 20 = .ok (.ireturn, 1) := by decide +kernel
theorem dX12_apart_0 : decode cX12_apart 0 = .ok (.aload_n 0, 1) := by decide +kernel
theorem dX12_apart_1 : decode cX12_apart 1 = .ok (.iconst 0, 1) := by decide +kernel
theorem dX12_apart_2 : decode cX12_apart 2 = .ok (.putfield 1, 3) := by decide +kernel
theorem dX12_apart_5 : decode cX12_apart 5 = .ok (.aload_n 0, 1) := by decide +kernel
theorem dX12_apart_6 : decode cX12_apart 6 = .ok (.iload_n 1, 1) := by decide +kernel
theorem dX12_apart_7 : decode cX12_apart 7 = .ok (.invokevirtual 293, 3) := by decide +kernel
theorem dX12_apart_10 : decode cX12_apart 10 = .ok (.ifCond .eq 65, 3) := by decide +kernel
theorem dX12_apart_13 : decode cX12_apart 13 = .ok (.aload_n 0, 1) := by decide +kernel
theorem dX12_apart_14 : decode cX12_apart 14 = .ok (.iload_n 2, 1) := by decide +kernel
theorem dX12_apart_15 : decode cX12_apart 15 = .ok (.invokevirtual 293, 3) := by decide +kernel
theorem dX12_apart_18 : decode cX12_apart 18 = .ok (.ifCond .eq 57, 3) := by decide +kernel
theorem dX12_apart_21 : decode cX12_apart 21 = .ok (.iload_n 1, 1) := by decide +kernel
theorem dX12_apart_22 : decode cX12_apart 22 = .ok (.iload_n 2, 1) := by decide +kernel
theorem dX12_apart_23 : decode cX12_apart 23 = .ok (.if_icmp .eq 52, 3) := by decide +kernel
theorem dX12_apart_26 : decode cX12_apart 26 = .ok (.aload_n 0, 1) := by decide +kernel
theorem dX12_apart_27 : decode cX12_apart 27 = .ok (.getfield 33, 3) := by decide +kernel
theorem dX12_apart_30 : decode cX12_apart 30 = .ok (.bipush 12, 2) := by decide +kernel
theorem dX12_apart_32 : decode cX12_apart 32 = .ok (.iload_n 1, 1) := by decide +kernel
theorem dX12_apart_33 : decode cX12_apart 33 = .ok (.iadd, 1) := by decide +kernel
theorem dX12_apart_34 : decode cX12_apart 34 = .ok (.iaload, 1) := by decide +kernel
theorem dX12_apart_35 : decode cX12_apart 35 = .ok (.aload_n 0, 1) := by decide +kernel
theorem dX12_apart_36 : decode cX12_apart 36 = .ok (.getfield 33, 3) := by decide +kernel
theorem dX12_apart_39 : decode cX12_apart 39 = .ok (.bipush 12, 2) := by decide +kernel
theorem dX12_apart_41 : decode cX12_apart 41 = .ok (.iload_n 2, 1) := by decide +kernel
theorem dX12_apart_42 : decode cX12_apart 42 = .ok (.iadd, 1) := by decide +kernel
theorem dX12_apart_43 : decode cX12_apart 43 = .ok (.iaload, 1) := by decide +kernel
theorem dX12_apart_44 : decode cX12_apart 44 = .ok (.if_icmp .ne 31, 3) := by decide +kernel
theorem dX12_apart_47 : decode cX12_apart 47 = .ok (.aload_n 0, 1) := by decide +kernel
theorem dX12_apart_48 : decode cX12_apart 48 = .ok (.getfield 33, 3) := by decide +kernel
theorem dX12_apart_51 : decode cX12_apart 51 = .ok (.bipush 81, 2) := by decide +kernel
theorem dX12_apart_53 : decode cX12_apart 53 = .ok (.iaload, 1) := by decide +kernel
theorem dX12_apart_54 : decode cX12_apart 54 = .ok (.iload_n 1, 1) := by decide +kernel
theorem dX12_apart_55 : decode cX12_apart 55 = .ok (.invokestatic 205, 3) := by decide +kernel
theorem dX12_apart_58 : decode cX12_apart 58 = .ok (.ifCond .eq 17, 3) := by decide +kernel
theorem dX12_apart_61 : decode cX12_apart 61 = .ok (.aload_n 0, 1) := by decide +kernel
theorem dX12_apart_62 : decode cX12_apart 62 = .ok (.getfield 33, 3) := by decide +kernel
theorem dX12_apart_65 : decode cX12_apart 65 = .ok (.bipush 81, 2) := by decide +kernel
theorem dX12_apart_67 : decode cX12_apart 67 = .ok (.iaload, 1) := by decide +kernel
theorem dX12_apart_68 : decode cX12_apart 68 = .ok (.iload_n 2, 1) := by decide +kernel
theorem dX12_apart_69 : decode cX12_apart 69 = .ok (.invokestatic 205, 3) := by decide +kernel
theorem dX12_apart_72 : decode cX12_apart 72 = .ok (.ifCond .ne 5, 3) := by decide +kernel
theorem dX12_apart_75 : decode cX12_apart 75 = .ok (.iconst (-1), 1) := by decide +kernel
theorem dX12_apart_76 : decode cX12_apart 76 = .ok (.ireturn, 1) := by decide +kernel
theorem dX12_apart_77 : decode cX12_apart 77 = .ok (.aload_n 0, 1) := by decide +kernel
theorem dX12_apart_78 : decode cX12_apart 78 = .ok (.iload_n 1, 1) := by decide +kernel
theorem dX12_apart_79 : decode cX12_apart 79 = .ok (.aload_n 0, 1) := by decide +kernel
theorem dX12_apart_80 : decode cX12_apart 80 = .ok (.getfield 33, 3) := by decide +kernel
theorem dX12_apart_83 : decode cX12_apart 83 = .ok (.bipush 81, 2) := by decide +kernel
theorem dX12_apart_85 : decode cX12_apart 85 = .ok (.iaload, 1) := by decide +kernel
theorem dX12_apart_86 : decode cX12_apart 86 = .ok (.aload_n 0, 1) := by decide +kernel
theorem dX12_apart_87 : decode cX12_apart 87 = .ok (.aload_n 0, 1) := by decide +kernel
theorem dX12_apart_88 : decode cX12_apart 88 = .ok (.getfield 33, 3) := by decide +kernel
theorem dX12_apart_91 : decode cX12_apart 91 = .ok (.bipush 12, 2) := by decide +kernel
theorem dX12_apart_93 : decode cX12_apart 93 = .ok (.iload_n 1, 1) := by decide +kernel
theorem dX12_apart_94 : decode cX12_apart 94 = .ok (.iadd, 1) := by decide +kernel
theorem dX12_apart_95 : decode cX12_apart 95 = .ok (.iaload, 1) := by decide +kernel
theorem dX12_apart_96 : decode cX12_apart 96 = .ok (.invokevirtual 277, 3) := by decide +kernel
theorem dX12_apart_99 : decode cX12_apart 99 = .ok (.invokevirtual 264, 3) := by decide +kernel
theorem dX12_apart_102 : decode cX12_apart 102 = .ok (.iload_n 2, 1) := by decide +kernel
theorem dX12_apart_103 : decode cX12_apart 103 = .ok (.invokestatic 205, 3) := by decide +kernel
theorem dX12_apart_106 : decode cX12_apart 106 = .ok (.ifCond .eq 7, 3) := by decide +kernel
theorem dX12_apart_109 : decode cX12_apart 109 = .ok (.iconst 0, 1) := by decide +kernel
theorem dX12_apart_110 : decode cX12_apart 110 = .ok (.goto 4, 3) := by decide +kernel
theorem dX12_apart_113 : decode cX12_apart 113 = .ok (.iconst 1, 1) := by decide +kernel
theorem dX12_apart_114 : decode cX12_apart 114 = .ok (.ireturn, 1) := by decide +kernel
theorem dX12_crack_0 : decode cX12_crack 0 = .ok (.aload_n 0, 1) := by decide +kernel
theorem dX12_crack_1 : decode cX12_crack 1 = .ok (.iconst 0, 1) := by decide +kernel
theorem dX12_crack_2 : decode cX12_crack 2 = .ok (.putfield 1, 3) := by decide +kernel
theorem dX12_crack_5 : decode cX12_crack 5 = .ok (.aload_n 0, 1) := by decide +kernel
theorem dX12_crack_6 : decode cX12_crack 6 = .ok (.iload_n 1, 1) := by decide +kernel
theorem dX12_crack_7 : decode cX12_crack 7 = .ok (.invokevirtual 280, 3) := by decide +kernel
theorem dX12_crack_10 : decode cX12_crack 10 = .ok (.ifCond .ne 5, 3) := by decide +kernel
theorem dX12_crack_13 : decode cX12_crack 13 = .ok (.iconst (-1), 1) := by decide +kernel
theorem dX12_crack_14 : decode cX12_crack 14 = .ok (.ireturn, 1) := by decide +kernel
theorem dX12_crack_15 : decode cX12_crack 15 = .ok (.iconst (-1), 1) := by decide +kernel
theorem dX12_crack_16 : decode cX12_crack 16 = .ok (.istore_n 2, 1) := by decide +kernel
theorem dX12_crack_17 : decode cX12_crack 17 = .ok (.iconst 0, 1) := by decide +kernel
theorem dX12_crack_18 : decode cX12_crack 18 = .ok (.istore_n 3, 1) := by decide +kernel
theorem dX12_crack_19 : decode cX12_crack 19 = .ok (.iload_n 3, 1) := by decide +kernel
theorem dX12_crack_20 : decode cX12_crack 20 = .ok (.aload_n 0, 1) := by decide +kernel
theorem dX12_crack_21 : decode cX12_crack 21 = .ok (.getfield 33, 3) := by decide +kernel
theorem dX12_crack_24 : decode cX12_crack 24 = .ok (.iconst 2, 1) := by decide +kernel
theorem dX12_crack_25 : decode cX12_crack 25 = .ok (.iaload, 1) := by decide +kernel
theorem dX12_crack_26 : decode cX12_crack 26 = .ok (.if_icmp .ge 71, 3) := by decide +kernel
theorem dX12_crack_29 : decode cX12_crack 29 = .ok (.aload_n 0, 1) := by decide +kernel
theorem dX12_crack_30 : decode cX12_crack 30 = .ok (.getfield 33, 3) := by decide +kernel
theorem dX12_crack_33 : decode cX12_crack 33 = .ok (.bipush 82, 2) := by decide +kernel
theorem dX12_crack_35 : decode cX12_crack 35 = .ok (.iaload, 1) := by decide +kernel
theorem dX12_crack_36 : decode cX12_crack 36 = .ok (.iload_n 3, 1) := by decide +kernel
theorem dX12_crack_37 : decode cX12_crack 37 = .ok (.invokestatic 205, 3) := by decide +kernel
theorem dX12_crack_40 : decode cX12_crack 40 = .ok (.ifCond .eq 51, 3) := by decide +kernel
theorem dX12_crack_43 : decode cX12_crack 43 = .ok (.aload_n 0, 1) := by decide +kernel
theorem dX12_crack_44 : decode cX12_crack 44 = .ok (.getfield 33, 3) := by decide +kernel
theorem dX12_crack_47 : decode cX12_crack 47 = .ok (.bipush 12, 2) := by decide +kernel
theorem dX12_crack_49 : decode cX12_crack 49 = .ok (.aload_n 0, 1) := by decide +kernel
theorem dX12_crack_50 : decode cX12_crack 50 = .ok (.getfield 33, 3) := by decide +kernel
theorem dX12_crack_53 : decode cX12_crack 53 = .ok (.bipush 32, 2) := by decide +kernel
theorem dX12_crack_55 : decode cX12_crack 55 = .ok (.iload_n 3, 1) := by decide +kernel
theorem dX12_crack_56 : decode cX12_crack 56 = .ok (.iadd, 1) := by decide +kernel
theorem dX12_crack_57 : decode cX12_crack 57 = .ok (.iaload, 1) := by decide +kernel
theorem dX12_crack_58 : decode cX12_crack 58 = .ok (.iadd, 1) := by decide +kernel
theorem dX12_crack_59 : decode cX12_crack 59 = .ok (.iaload, 1) := by decide +kernel
theorem dX12_crack_60 : decode cX12_crack 60 = .ok (.iload_n 1, 1) := by decide +kernel
theorem dX12_crack_61 : decode cX12_crack 61 = .ok (.if_icmp .ne 30, 3) := by decide +kernel
theorem dX12_crack_64 : decode cX12_crack 64 = .ok (.iload_n 2, 1) := by decide +kernel
theorem dX12_crack_65 : decode cX12_crack 65 = .ok (.ifCond .lt 24, 3) := by decide +kernel
theorem dX12_crack_68 : decode cX12_crack 68 = .ok (.aload_n 0, 1) := by decide +kernel
theorem dX12_crack_69 : decode cX12_crack 69 = .ok (.getfield 33, 3) := by decide +kernel
theorem dX12_crack_72 : decode cX12_crack 72 = .ok (.bipush 64, 2) := by decide +kernel
theorem dX12_crack_74 : decode cX12_crack 74 = .ok (.iload_n 3, 1) := by decide +kernel
theorem dX12_crack_75 : decode cX12_crack 75 = .ok (.iadd, 1) := by decide +kernel
theorem dX12_crack_76 : decode cX12_crack 76 = .ok (.iaload, 1) := by decide +kernel
theorem dX12_crack_77 : decode cX12_crack 77 = .ok (.aload_n 0, 1) := by decide +kernel
theorem dX12_crack_78 : decode cX12_crack 78 = .ok (.getfield 33, 3) := by decide +kernel
theorem dX12_crack_81 : decode cX12_crack 81 = .ok (.bipush 64, 2) := by decide +kernel
theorem dX12_crack_83 : decode cX12_crack 83 = .ok (.iload_n 2, 1) := by decide +kernel
theorem dX12_crack_84 : decode cX12_crack 84 = .ok (.iadd, 1) := by decide +kernel
theorem dX12_crack_85 : decode cX12_crack 85 = .ok (.iaload, 1) := by decide +kernel
theorem dX12_crack_86 : decode cX12_crack 86 = .ok (.if_icmp .ge 5, 3) := by decide +kernel
theorem dX12_crack_89 : decode cX12_crack 89 = .ok (.iload_n 3, 1) := by decide +kernel
theorem dX12_crack_90 : decode cX12_crack 90 = .ok (.istore_n 2, 1) := by decide +kernel
theorem dX12_crack_91 : decode cX12_crack 91 = .ok (.iinc 3 1, 3) := by decide +kernel
theorem dX12_crack_94 : decode cX12_crack 94 = .ok (.goto (-75), 3) := by decide +kernel
theorem dX12_crack_97 : decode cX12_crack 97 = .ok (.iload_n 2, 1) := by decide +kernel
theorem dX12_crack_98 : decode cX12_crack 98 = .ok (.ireturn, 1) := by decide +kernel
theorem dX12_drops_0 : decode cX12_drops 0 = .ok (.aload_n 0, 1) := by decide +kernel
theorem dX12_drops_1 : decode cX12_drops 1 = .ok (.iconst 0, 1) := by decide +kernel
theorem dX12_drops_2 : decode cX12_drops 2 = .ok (.putfield 1, 3) := by decide +kernel
theorem dX12_drops_5 : decode cX12_drops 5 = .ok (.aload_n 0, 1) := by decide +kernel
theorem dX12_drops_6 : decode cX12_drops 6 = .ok (.iload_n 1, 1) := by decide +kernel
theorem dX12_drops_7 : decode cX12_drops 7 = .ok (.invokevirtual 280, 3) := by decide +kernel
theorem dX12_drops_10 : decode cX12_drops 10 = .ok (.ifCond .eq 16, 3) := by decide +kernel
theorem dX12_drops_13 : decode cX12_drops 13 = .ok (.aload_n 0, 1) := by decide +kernel
theorem dX12_drops_14 : decode cX12_drops 14 = .ok (.getfield 33, 3) := by decide +kernel
theorem dX12_drops_17 : decode cX12_drops 17 = .ok (.bipush 84, 2) := by decide +kernel
theorem dX12_drops_19 : decode cX12_drops 19 = .ok (.iload_n 1, 1) := by decide +kernel
theorem dX12_drops_20 : decode cX12_drops 20 = .ok (.iadd, 1) := by decide +kernel
theorem dX12_drops_21 : decode cX12_drops 21 = .ok (.iaload, 1) := by decide +kernel
theorem dX12_drops_22 : decode cX12_drops 22 = .ok (.iconst 1, 1) := by decide +kernel
theorem dX12_drops_23 : decode cX12_drops 23 = .ok (.if_icmp .eq 5, 3) := by decide +kernel
theorem dX12_drops_26 : decode cX12_drops 26 = .ok (.iconst (-1), 1) := by decide +kernel
theorem dX12_drops_27 : decode cX12_drops 27 = .ok (.ireturn, 1) := by decide +kernel
theorem dX12_drops_28 : decode cX12_drops 28 = .ok (.iconst 1, 1) := by decide +kernel
theorem dX12_drops_29 : decode cX12_drops 29 = .ok (.istore_n 2, 1) := by decide +kernel
theorem dX12_drops_30 : decode cX12_drops 30 = .ok (.iload_n 2, 1) := by decide +kernel
theorem dX12_drops_31 : decode cX12_drops 31 = .ok (.bipush 99, 2) := by decide +kernel
theorem dX12_drops_33 : decode cX12_drops 33 = .ok (.if_icmp .gt 32, 3) := by decide +kernel
theorem dX12_drops_36 : decode cX12_drops 36 = .ok (.aload_n 0, 1) := by decide +kernel
theorem dX12_drops_37 : decode cX12_drops 37 = .ok (.iload_n 1, 1) := by decide +kernel
theorem dX12_drops_38 : decode cX12_drops 38 = .ok (.invokevirtual 287, 3) := by decide +kernel
theorem dX12_drops_41 : decode cX12_drops 41 = .ok (.aload_n 0, 1) := by decide +kernel
theorem dX12_drops_42 : decode cX12_drops 42 = .ok (.aload_n 0, 1) := by decide +kernel
theorem dX12_drops_43 : decode cX12_drops 43 = .ok (.getfield 33, 3) := by decide +kernel
theorem dX12_drops_46 : decode cX12_drops 46 = .ok (.bipush 80, 2) := by decide +kernel
theorem dX12_drops_48 : decode cX12_drops 48 = .ok (.iaload, 1) := by decide +kernel
theorem dX12_drops_49 : decode cX12_drops 49 = .ok (.iload_n 2, 1) := by decide +kernel
theorem dX12_drops_50 : decode cX12_drops 50 = .ok (.iadd, 1) := by decide +kernel
theorem dX12_drops_51 : decode cX12_drops 51 = .ok (.invokevirtual 258, 3) := by decide +kernel
theorem dX12_drops_54 : decode cX12_drops 54 = .ok (.if_icmp .gt 5, 3) := by decide +kernel
theorem dX12_drops_57 : decode cX12_drops 57 = .ok (.iload_n 2, 1) := by decide +kernel
theorem dX12_drops_58 : decode cX12_drops 58 = .ok (.ireturn, 1) := by decide +kernel
theorem dX12_drops_59 : decode cX12_drops 59 = .ok (.iinc 2 1, 3) := by decide +kernel
theorem dX12_drops_62 : decode cX12_drops 62 = .ok (.goto (-32), 3) := by decide +kernel
theorem dX12_drops_65 : decode cX12_drops 65 = .ok (.iconst (-1), 1) := by decide +kernel
theorem dX12_drops_66 : decode cX12_drops 66 = .ok (.ireturn, 1) := by decide +kernel
theorem dX12_isMeant_0 : decode cX12_isMeant 0 = .ok (.iconst 0, 1) := by decide +kernel
theorem dX12_isMeant_1 : decode cX12_isMeant 1 = .ok (.istore_n 2, 1) := by decide +kernel
theorem dX12_isMeant_2 : decode cX12_isMeant 2 = .ok (.iload_n 2, 1) := by decide +kernel
theorem dX12_isMeant_3 : decode cX12_isMeant 3 = .ok (.aload_n 0, 1) := by decide +kernel
theorem dX12_isMeant_4 : decode cX12_isMeant 4 = .ok (.getfield 18, 3) := by decide +kernel
theorem dX12_isMeant_7 : decode cX12_isMeant 7 = .ok (.if_icmp .ge 20, 3) := by decide +kernel
theorem dX12_isMeant_10 : decode cX12_isMeant 10 = .ok (.aload_n 0, 1) := by decide +kernel
theorem dX12_isMeant_11 : decode cX12_isMeant 11 = .ok (.getfield 56, 3) := by decide +kernel
theorem dX12_isMeant_14 : decode cX12_isMeant 14 = .ok (.iload_n 2, 1) := by decide +kernel
theorem dX12_isMeant_15 : decode cX12_isMeant 15 = .ok (.aload_n 0, 1) := by decide +kernel
theorem dX12_isMeant_16 : decode cX12_isMeant 16 = .ok (.iload_n 2, 1) := by decide +kernel
theorem dX12_isMeant_17 : decode cX12_isMeant 17 = .ok (.invokevirtual 351, 3) := by decide +kernel
theorem dX12_isMeant_20 : decode cX12_isMeant 20 = .ok (.iastore, 1) := by decide +kernel
theorem dX12_isMeant_21 : decode cX12_isMeant 21 = .ok (.iinc 2 1, 3) := by decide +kernel
theorem dX12_isMeant_24 : decode cX12_isMeant 24 = .ok (.goto (-22), 3) := by decide +kernel
theorem dX12_isMeant_27 : decode cX12_isMeant 27 = .ok (.aload_n 0, 1) := by decide +kernel
theorem dX12_isMeant_28 : decode cX12_isMeant 28 = .ok (.iload_n 1, 1) := by decide +kernel
theorem dX12_isMeant_29 : decode cX12_isMeant 29 = .ok (.invokevirtual 252, 3) := by decide +kernel
theorem dX12_isMeant_32 : decode cX12_isMeant 32 = .ok (.istore_n 2, 1) := by decide +kernel
theorem dX12_isMeant_33 : decode cX12_isMeant 33 = .ok (.iconst 0, 1) := by decide +kernel
theorem dX12_isMeant_34 : decode cX12_isMeant 34 = .ok (.istore_n 3, 1) := by decide +kernel
theorem dX12_isMeant_35 : decode cX12_isMeant 35 = .ok (.iconst 1, 1) := by decide +kernel
theorem dX12_isMeant_36 : decode cX12_isMeant 36 = .ok (.istore 4, 2) := by decide +kernel
theorem dX12_isMeant_38 : decode cX12_isMeant 38 = .ok (.iconst 0, 1) := by decide +kernel
theorem dX12_isMeant_39 : decode cX12_isMeant 39 = .ok (.istore 5, 2) := by decide +kernel
theorem dX12_isMeant_41 : decode cX12_isMeant 41 = .ok (.iload 5, 2) := by decide +kernel
theorem dX12_isMeant_43 : decode cX12_isMeant 43 = .ok (.aload_n 0, 1) := by decide +kernel
theorem dX12_isMeant_44 : decode cX12_isMeant 44 = .ok (.getfield 33, 3) := by decide +kernel
theorem dX12_isMeant_47 : decode cX12_isMeant 47 = .ok (.iconst 1, 1) := by decide +kernel
theorem dX12_isMeant_48 : decode cX12_isMeant 48 = .ok (.iaload, 1) := by decide +kernel
theorem dX12_isMeant_49 : decode cX12_isMeant 49 = .ok (.if_icmp .ge 122, 3) := by decide +kernel
theorem dX12_isMeant_52 : decode cX12_isMeant 52 = .ok (.iload 4, 2) := by decide +kernel
theorem dX12_isMeant_54 : decode cX12_isMeant 54 = .ok (.ifCond .eq 117, 3) := by decide +kernel
theorem dX12_isMeant_57 : decode cX12_isMeant 57 = .ok (.iload_n 2, 1) := by decide +kernel
theorem dX12_isMeant_58 : decode cX12_isMeant 58 = .ok (.iload 5, 2) := by decide +kernel
theorem dX12_isMeant_60 : decode cX12_isMeant 60 = .ok (.invokestatic 205, 3) := by decide +kernel
theorem dX12_isMeant_63 : decode cX12_isMeant 63 = .ok (.ifCond .ne 6, 3) := by decide +kernel
theorem dX12_isMeant_66 : decode cX12_isMeant 66 = .ok (.goto 99, 3) := by decide +kernel
theorem dX12_isMeant_69 : decode cX12_isMeant 69 = .ok (.aload_n 0, 1) := by decide +kernel
theorem dX12_isMeant_70 : decode cX12_isMeant 70 = .ok (.iload 5, 2) := by decide +kernel
theorem dX12_isMeant_72 : decode cX12_isMeant 72 = .ok (.aload_n 0, 1) := by decide +kernel
theorem dX12_isMeant_73 : decode cX12_isMeant 73 = .ok (.iload_n 1, 1) := by decide +kernel
theorem dX12_isMeant_74 : decode cX12_isMeant 74 = .ok (.invokevirtual 252, 3) := by decide +kernel
theorem dX12_isMeant_77 : decode cX12_isMeant 77 = .ok (.aload_n 0, 1) := by decide +kernel
theorem dX12_isMeant_78 : decode cX12_isMeant 78 = .ok (.iload_n 1, 1) := by decide +kernel
theorem dX12_isMeant_79 : decode cX12_isMeant 79 = .ok (.invokevirtual 277, 3) := by decide +kernel
theorem dX12_isMeant_82 : decode cX12_isMeant 82 = .ok (.invokevirtual 264, 3) := by decide +kernel
theorem dX12_isMeant_85 : decode cX12_isMeant 85 = .ok (.istore 6, 2) := by decide +kernel
theorem dX12_isMeant_87 : decode cX12_isMeant 87 = .ok (.iload_n 2, 1) := by decide +kernel
theorem dX12_isMeant_88 : decode cX12_isMeant 88 = .ok (.iload 6, 2) := by decide +kernel
theorem dX12_isMeant_90 : decode cX12_isMeant 90 = .ok (.iconst (-1), 1) := by decide +kernel
theorem dX12_isMeant_91 : decode cX12_isMeant 91 = .ok (.ixor, 1) := by decide +kernel
theorem dX12_isMeant_92 : decode cX12_isMeant 92 = .ok (.iand, 1) := by decide +kernel
theorem dX12_isMeant_93 : decode cX12_isMeant 93 = .ok (.istore_n 2, 1) := by decide +kernel
theorem dX12_isMeant_94 : decode cX12_isMeant 94 = .ok (.iconst 0, 1) := by decide +kernel
theorem dX12_isMeant_95 : decode cX12_isMeant 95 = .ok (.istore 7, 2) := by decide +kernel
theorem dX12_isMeant_97 : decode cX12_isMeant 97 = .ok (.iload 7, 2) := by decide +kernel
theorem dX12_isMeant_99 : decode cX12_isMeant 99 = .ok (.aload_n 0, 1) := by decide +kernel
theorem dX12_isMeant_100 : decode cX12_isMeant 100 = .ok (.getfield 18, 3) := by decide +kernel
theorem dX12_isMeant_103 : decode cX12_isMeant 103 = .ok (.if_icmp .ge 25, 3) := by decide +kernel
theorem dX12_isMeant_106 : decode cX12_isMeant 106 = .ok (.aload_n 0, 1) := by decide +kernel
theorem dX12_isMeant_107 : decode cX12_isMeant 107 = .ok (.getfield 56, 3) := by decide +kernel
theorem dX12_isMeant_110 : decode cX12_isMeant 110 = .ok (.iload 7, 2) := by decide +kernel
theorem dX12_isMeant_112 : decode cX12_isMeant 112 = .ok (.iaload, 1) := by decide +kernel
theorem dX12_isMeant_113 : decode cX12_isMeant 113 = .ok (.aload_n 0, 1) := by decide +kernel
theorem dX12_isMeant_114 : decode cX12_isMeant 114 = .ok (.iload 6, 2) := by decide +kernel
theorem dX12_isMeant_116 : decode cX12_isMeant 116 = .ok (.invokevirtual 255, 3) := by decide +kernel
theorem dX12_isMeant_119 : decode cX12_isMeant 119 = .ok (.if_icmp .eq 9, 3) := by decide +kernel
theorem dX12_isMeant_122 : decode cX12_isMeant 122 = .ok (.iinc 7 1, 3) := by decide +kernel
theorem dX12_isMeant_125 : decode cX12_isMeant 125 = .ok (.goto (-28), 3) := by decide +kernel
theorem dX12_isMeant_128 : decode cX12_isMeant 128 = .ok (.iload 7, 2) := by decide +kernel
theorem dX12_isMeant_130 : decode cX12_isMeant 130 = .ok (.aload_n 0, 1) := by decide +kernel
theorem dX12_isMeant_131 : decode cX12_isMeant 131 = .ok (.getfield 18, 3) := by decide +kernel
theorem dX12_isMeant_134 : decode cX12_isMeant 134 = .ok (.if_icmp .ge 7, 3) := by decide +kernel
theorem dX12_isMeant_137 : decode cX12_isMeant 137 = .ok (.iconst 1, 1) := by decide +kernel
theorem dX12_isMeant_138 : decode cX12_isMeant 138 = .ok (.goto 4, 3) := by decide +kernel
theorem dX12_isMeant_141 : decode cX12_isMeant 141 = .ok (.iconst 0, 1) := by decide +kernel
theorem dX12_isMeant_142 : decode cX12_isMeant 142 = .ok (.istore 4, 2) := by decide +kernel
theorem dX12_isMeant_144 : decode cX12_isMeant 144 = .ok (.iload 4, 2) := by decide +kernel
theorem dX12_isMeant_146 : decode cX12_isMeant 146 = .ok (.ifCond .ne 6, 3) := by decide +kernel
theorem dX12_isMeant_149 : decode cX12_isMeant 149 = .ok (.goto 16, 3) := by decide +kernel
theorem dX12_isMeant_152 : decode cX12_isMeant 152 = .ok (.aload_n 0, 1) := by decide +kernel
theorem dX12_isMeant_153 : decode cX12_isMeant 153 = .ok (.getfield 56, 3) := by decide +kernel
theorem dX12_isMeant_156 : decode cX12_isMeant 156 = .ok (.iload 7, 2) := by decide +kernel
theorem dX12_isMeant_158 : decode cX12_isMeant 158 = .ok (.ldc_w 354, 3) := by decide +kernel
theorem dX12_isMeant_161 : decode cX12_isMeant 161 = .ok (.iastore, 1) := by decide +kernel
theorem dX12_isMeant_162 : decode cX12_isMeant 162 = .ok (.iinc 3 1, 3) := by decide +kernel
theorem dX12_isMeant_165 : decode cX12_isMeant 165 = .ok (.iinc 5 1, 3) := by decide +kernel
theorem dX12_isMeant_168 : decode cX12_isMeant 168 = .ok (.goto (-127), 3) := by decide +kernel
theorem dX12_isMeant_171 : decode cX12_isMeant 171 = .ok (.iload 4, 2) := by decide +kernel
theorem dX12_isMeant_173 : decode cX12_isMeant 173 = .ok (.ifCond .eq 15, 3) := by decide +kernel
theorem dX12_isMeant_176 : decode cX12_isMeant 176 = .ok (.iload_n 3, 1) := by decide +kernel
theorem dX12_isMeant_177 : decode cX12_isMeant 177 = .ok (.aload_n 0, 1) := by decide +kernel
theorem dX12_isMeant_178 : decode cX12_isMeant 178 = .ok (.getfield 18, 3) := by decide +kernel
theorem dX12_isMeant_181 : decode cX12_isMeant 181 = .ok (.if_icmp .ne 7, 3) := by decide +kernel
theorem dX12_isMeant_184 : decode cX12_isMeant 184 = .ok (.iconst 1, 1) := by decide +kernel
theorem dX12_isMeant_185 : decode cX12_isMeant 185 = .ok (.goto 4, 3) := by decide +kernel
theorem dX12_isMeant_188 : decode cX12_isMeant 188 = .ok (.iconst 0, 1) := by decide +kernel
theorem dX12_isMeant_189 : decode cX12_isMeant 189 = .ok (.ireturn, 1) := by decide +kernel
theorem dX12_who_0 : decode cX12_who 0 = .ok (.aload_n 0, 1) := by decide +kernel
theorem dX12_who_1 : decode cX12_who 1 = .ok (.iconst 0, 1) := by decide +kernel
theorem dX12_who_2 : decode cX12_who 2 = .ok (.putfield 1, 3) := by decide +kernel
theorem dX12_who_5 : decode cX12_who 5 = .ok (.aload_n 0, 1) := by decide +kernel
theorem dX12_who_6 : decode cX12_who 6 = .ok (.sipush 940, 3) := by decide +kernel
theorem dX12_who_9 : decode cX12_who 9 = .ok (.invokevirtual 233, 3) := by decide +kernel
theorem dX12_who_12 : decode cX12_who 12 = .ok (.aload_n 0, 1) := by decide +kernel
theorem dX12_who_13 : decode cX12_who 13 = .ok (.getfield 18, 3) := by decide +kernel
theorem dX12_who_16 : decode cX12_who 16 = .ok (.iconst 1, 1) := by decide +kernel
theorem dX12_who_17 : decode cX12_who 17 = .ok (.bipush 6, 2) := by decide +kernel
theorem dX12_who_19 : decode cX12_who 19 = .ok (.invokestatic 180, 3) := by decide +kernel
theorem dX12_who_22 : decode cX12_who 22 = .ok (.ifCond .ne 5, 3) := by decide +kernel
theorem dX12_who_25 : decode cX12_who 25 = .ok (.iconst (-1), 1) := by decide +kernel
theorem dX12_who_26 : decode cX12_who 26 = .ok (.ireturn, 1) := by decide +kernel
theorem dX12_who_27 : decode cX12_who 27 = .ok (.iconst 0, 1) := by decide +kernel
theorem dX12_who_28 : decode cX12_who 28 = .ok (.istore_n 1, 1) := by decide +kernel
theorem dX12_who_29 : decode cX12_who 29 = .ok (.iconst 0, 1) := by decide +kernel
theorem dX12_who_30 : decode cX12_who 30 = .ok (.istore_n 2, 1) := by decide +kernel
theorem dX12_who_31 : decode cX12_who 31 = .ok (.iload_n 2, 1) := by decide +kernel
theorem dX12_who_32 : decode cX12_who 32 = .ok (.aload_n 0, 1) := by decide +kernel
theorem dX12_who_33 : decode cX12_who 33 = .ok (.getfield 33, 3) := by decide +kernel
theorem dX12_who_36 : decode cX12_who 36 = .ok (.iconst 0, 1) := by decide +kernel
theorem dX12_who_37 : decode cX12_who 37 = .ok (.iaload, 1) := by decide +kernel
theorem dX12_who_38 : decode cX12_who 38 = .ok (.if_icmp .ge 27, 3) := by decide +kernel
theorem dX12_who_41 : decode cX12_who 41 = .ok (.iload_n 1, 1) := by decide +kernel
theorem dX12_who_42 : decode cX12_who 42 = .ok (.aload_n 0, 1) := by decide +kernel
theorem dX12_who_43 : decode cX12_who 43 = .ok (.iload_n 2, 1) := by decide +kernel
theorem dX12_who_44 : decode cX12_who 44 = .ok (.invokevirtual 355, 3) := by decide +kernel
theorem dX12_who_47 : decode cX12_who 47 = .ok (.ifCond .eq 9, 3) := by decide +kernel
theorem dX12_who_50 : decode cX12_who 50 = .ok (.iconst 1, 1) := by decide +kernel
theorem dX12_who_51 : decode cX12_who 51 = .ok (.iload_n 2, 1) := by decide +kernel
theorem dX12_who_52 : decode cX12_who 52 = .ok (.ishl, 1) := by decide +kernel
theorem dX12_who_53 : decode cX12_who 53 = .ok (.goto 4, 3) := by decide +kernel
theorem dX12_who_56 : decode cX12_who 56 = .ok (.iconst 0, 1) := by decide +kernel
theorem dX12_who_57 : decode cX12_who 57 = .ok (.ior, 1) := by decide +kernel
theorem dX12_who_58 : decode cX12_who 58 = .ok (.istore_n 1, 1) := by decide +kernel
theorem dX12_who_59 : decode cX12_who 59 = .ok (.iinc 2 1, 3) := by decide +kernel
theorem dX12_who_62 : decode cX12_who 62 = .ok (.goto (-31), 3) := by decide +kernel
theorem dX12_who_65 : decode cX12_who 65 = .ok (.iload_n 1, 1) := by decide +kernel
theorem dX12_who_66 : decode cX12_who 66 = .ok (.ireturn, 1) := by decide +kernel
theorem dX12_partsBy_0 : decode cX12_partsBy 0 = .ok (.aload_n 0, 1) := by decide +kernel
theorem dX12_partsBy_1 : decode cX12_partsBy 1 = .ok (.aload_n 0, 1) := by decide +kernel
theorem dX12_partsBy_2 : decode cX12_partsBy 2 = .ok (.iload_n 1, 1) := by decide +kernel
theorem dX12_partsBy_3 : decode cX12_partsBy 3 = .ok (.invokevirtual 252, 3) := by decide +kernel
theorem dX12_partsBy_6 : decode cX12_partsBy 6 = .ok (.aload_n 0, 1) := by decide +kernel
theorem dX12_partsBy_7 : decode cX12_partsBy 7 = .ok (.iload_n 1, 1) := by decide +kernel
theorem dX12_partsBy_8 : decode cX12_partsBy 8 = .ok (.invokevirtual 268, 3) := by decide +kernel
theorem dX12_partsBy_11 : decode cX12_partsBy 11 = .ok (.ifCond .eq 13, 3) := by decide +kernel
theorem dX12_partsBy_14 : decode cX12_partsBy 14 = .ok (.aload_n 0, 1) := by decide +kernel
theorem dX12_partsBy_15 : decode cX12_partsBy 15 = .ok (.getfield 33, 3) := by decide +kernel
theorem dX12_partsBy_18 : decode cX12_partsBy 18 = .ok (.bipush 82, 2) := by decide +kernel
theorem dX12_partsBy_20 : decode cX12_partsBy 20 = .ok (.iaload, 1) := by decide +kernel
theorem dX12_partsBy_21 : decode cX12_partsBy 21 = .ok (.goto 18, 3) := by decide +kernel
theorem dX12_partsBy_24 : decode cX12_partsBy 24 = .ok (.aload_n 0, 1) := by decide +kernel
theorem dX12_partsBy_25 : decode cX12_partsBy 25 = .ok (.iload_n 2, 1) := by decide +kernel
theorem dX12_partsBy_26 : decode cX12_partsBy 26 = .ok (.aload_n 0, 1) := by decide +kernel
theorem dX12_partsBy_27 : decode cX12_partsBy 27 = .ok (.getfield 33, 3) := by decide +kernel
theorem dX12_partsBy_30 : decode cX12_partsBy 30 = .ok (.bipush 7, 2) := by decide +kernel
theorem dX12_partsBy_32 : decode cX12_partsBy 32 = .ok (.iload_n 1, 1) := by decide +kernel
theorem dX12_partsBy_33 : decode cX12_partsBy 33 = .ok (.iadd, 1) := by decide +kernel
theorem dX12_partsBy_34 : decode cX12_partsBy 34 = .ok (.iaload, 1) := by decide +kernel
theorem dX12_partsBy_35 : decode cX12_partsBy 35 = .ok (.isub, 1) := by decide +kernel
theorem dX12_partsBy_36 : decode cX12_partsBy 36 = .ok (.invokevirtual 271, 3) := by decide +kernel
theorem dX12_partsBy_39 : decode cX12_partsBy 39 = .ok (.invokevirtual 274, 3) := by decide +kernel
theorem dX12_partsBy_42 : decode cX12_partsBy 42 = .ok (.ireturn, 1) := by decide +kernel
theorem dX12_isHeight_0 : decode cX12_isHeight 0 = .ok (.iconst 1, 1) := by decide +kernel
theorem dX12_isHeight_1 : decode cX12_isHeight 1 = .ok (.istore_n 2, 1) := by decide +kernel
theorem dX12_isHeight_2 : decode cX12_isHeight 2 = .ok (.iconst 0, 1) := by decide +kernel
theorem dX12_isHeight_3 : decode cX12_isHeight 3 = .ok (.istore_n 3, 1) := by decide +kernel
theorem dX12_isHeight_4 : decode cX12_isHeight 4 = .ok (.iload_n 3, 1) := by decide +kernel
theorem dX12_isHeight_5 : decode cX12_isHeight 5 = .ok (.aload_n 0, 1) := by decide +kernel
theorem dX12_isHeight_6 : decode cX12_isHeight 6 = .ok (.getfield 18, 3) := by decide +kernel
theorem dX12_isHeight_9 : decode cX12_isHeight 9 = .ok (.if_icmp .ge 39, 3) := by decide +kernel
theorem dX12_isHeight_12 : decode cX12_isHeight 12 = .ok (.iload_n 2, 1) := by decide +kernel
theorem dX12_isHeight_13 : decode cX12_isHeight 13 = .ok (.ifCond .eq 27, 3) := by decide +kernel
theorem dX12_isHeight_16 : decode cX12_isHeight 16 = .ok (.aload_n 0, 1) := by decide +kernel
theorem dX12_isHeight_17 : decode cX12_isHeight 17 = .ok (.aload_n 0, 1) := by decide +kernel
theorem dX12_isHeight_18 : decode cX12_isHeight 18 = .ok (.iload_n 3, 1) := by decide +kernel
theorem dX12_isHeight_19 : decode cX12_isHeight 19 = .ok (.invokevirtual 351, 3) := by decide +kernel
theorem dX12_isHeight_22 : decode cX12_isHeight 22 = .ok (.iload_n 1, 1) := by decide +kernel
theorem dX12_isHeight_23 : decode cX12_isHeight 23 = .ok (.invokevirtual 358, 3) := by decide +kernel
theorem dX12_isHeight_26 : decode cX12_isHeight 26 = .ok (.aload_n 0, 1) := by decide +kernel
theorem dX12_isHeight_27 : decode cX12_isHeight 27 = .ok (.iload_n 3, 1) := by decide +kernel
theorem dX12_isHeight_28 : decode cX12_isHeight 28 = .ok (.iconst 1, 1) := by decide +kernel
theorem dX12_isHeight_29 : decode cX12_isHeight 29 = .ok (.iadd, 1) := by decide +kernel
theorem dX12_isHeight_30 : decode cX12_isHeight 30 = .ok (.invokevirtual 351, 3) := by decide +kernel
theorem dX12_isHeight_33 : decode cX12_isHeight 33 = .ok (.if_icmp .ne 7, 3) := by decide +kernel
theorem dX12_isHeight_36 : decode cX12_isHeight 36 = .ok (.iconst 1, 1) := by decide +kernel
theorem dX12_isHeight_37 : decode cX12_isHeight 37 = .ok (.goto 4, 3) := by decide +kernel
theorem dX12_isHeight_40 : decode cX12_isHeight 40 = .ok (.iconst 0, 1) := by decide +kernel
theorem dX12_isHeight_41 : decode cX12_isHeight 41 = .ok (.istore_n 2, 1) := by decide +kernel
theorem dX12_isHeight_42 : decode cX12_isHeight 42 = .ok (.iinc 3 2, 3) := by decide +kernel
theorem dX12_isHeight_45 : decode cX12_isHeight 45 = .ok (.goto (-41), 3) := by decide +kernel
theorem dX12_isHeight_48 : decode cX12_isHeight 48 = .ok (.iload_n 2, 1) := by decide +kernel
theorem dX12_isHeight_49 : decode cX12_isHeight 49 = .ok (.ireturn, 1) := by decide +kernel
theorem dX12_leftBy_0 : decode cX12_leftBy 0 = .ok (.iconst 0, 1) := by decide +kernel
theorem dX12_leftBy_1 : decode cX12_leftBy 1 = .ok (.istore_n 2, 1) := by decide +kernel
theorem dX12_leftBy_2 : decode cX12_leftBy 2 = .ok (.iload_n 2, 1) := by decide +kernel
theorem dX12_leftBy_3 : decode cX12_leftBy 3 = .ok (.bipush 11, 2) := by decide +kernel
theorem dX12_leftBy_5 : decode cX12_leftBy 5 = .ok (.if_icmp .ge 16, 3) := by decide +kernel
theorem dX12_leftBy_8 : decode cX12_leftBy 8 = .ok (.aload_n 0, 1) := by decide +kernel
theorem dX12_leftBy_9 : decode cX12_leftBy 9 = .ok (.getfield 63, 3) := by decide +kernel
theorem dX12_leftBy_12 : decode cX12_leftBy 12 = .ok (.iload_n 2, 1) := by decide +kernel
theorem dX12_leftBy_13 : decode cX12_leftBy 13 = .ok (.iconst 0, 1) := by decide +kernel
theorem dX12_leftBy_14 : decode cX12_leftBy 14 = .ok (.iastore, 1) := by decide +kernel
theorem dX12_leftBy_15 : decode cX12_leftBy 15 = .ok (.iinc 2 1, 3) := by decide +kernel
theorem dX12_leftBy_18 : decode cX12_leftBy 18 = .ok (.goto (-16), 3) := by decide +kernel
theorem dX12_leftBy_21 : decode cX12_leftBy 21 = .ok (.iconst 0, 1) := by decide +kernel
theorem dX12_leftBy_22 : decode cX12_leftBy 22 = .ok (.istore_n 2, 1) := by decide +kernel
theorem dX12_leftBy_23 : decode cX12_leftBy 23 = .ok (.iconst 1, 1) := by decide +kernel
theorem dX12_leftBy_24 : decode cX12_leftBy 24 = .ok (.istore_n 3, 1) := by decide +kernel
theorem dX12_leftBy_25 : decode cX12_leftBy 25 = .ok (.iload_n 3, 1) := by decide +kernel
theorem dX12_leftBy_26 : decode cX12_leftBy 26 = .ok (.bipush 30, 2) := by decide +kernel
theorem dX12_leftBy_28 : decode cX12_leftBy 28 = .ok (.if_icmp .gt 52, 3) := by decide +kernel
theorem dX12_leftBy_31 : decode cX12_leftBy 31 = .ok (.aload_n 0, 1) := by decide +kernel
theorem dX12_leftBy_32 : decode cX12_leftBy 32 = .ok (.getfield 59, 3) := by decide +kernel
theorem dX12_leftBy_35 : decode cX12_leftBy 35 = .ok (.iload_n 3, 1) := by decide +kernel
theorem dX12_leftBy_36 : decode cX12_leftBy 36 = .ok (.baload, 1) := by decide +kernel
theorem dX12_leftBy_37 : decode cX12_leftBy 37 = .ok (.ifCond .ne 6, 3) := by decide +kernel
theorem dX12_leftBy_40 : decode cX12_leftBy 40 = .ok (.goto 34, 3) := by decide +kernel
theorem dX12_leftBy_43 : decode cX12_leftBy 43 = .ok (.aload_n 0, 1) := by decide +kernel
theorem dX12_leftBy_44 : decode cX12_leftBy 44 = .ok (.iload_n 1, 1) := by decide +kernel
theorem dX12_leftBy_45 : decode cX12_leftBy 45 = .ok (.iload_n 3, 1) := by decide +kernel
theorem dX12_leftBy_46 : decode cX12_leftBy 46 = .ok (.invokevirtual 358, 3) := by decide +kernel
theorem dX12_leftBy_49 : decode cX12_leftBy 49 = .ok (.istore 4, 2) := by decide +kernel
theorem dX12_leftBy_51 : decode cX12_leftBy 51 = .ok (.aload_n 0, 1) := by decide +kernel
theorem dX12_leftBy_52 : decode cX12_leftBy 52 = .ok (.getfield 63, 3) := by decide +kernel
theorem dX12_leftBy_55 : decode cX12_leftBy 55 = .ok (.iload 4, 2) := by decide +kernel
theorem dX12_leftBy_57 : decode cX12_leftBy 57 = .ok (.dup2, 1) := by decide +kernel
theorem dX12_leftBy_58 : decode cX12_leftBy 58 = .ok (.iaload, 1) := by decide +kernel
theorem dX12_leftBy_59 : decode cX12_leftBy 59 = .ok (.iconst 1, 1) := by decide +kernel
theorem dX12_leftBy_60 : decode cX12_leftBy 60 = .ok (.iadd, 1) := by decide +kernel
theorem dX12_leftBy_61 : decode cX12_leftBy 61 = .ok (.iastore, 1) := by decide +kernel
theorem dX12_leftBy_62 : decode cX12_leftBy 62 = .ok (.iload_n 2, 1) := by decide +kernel
theorem dX12_leftBy_63 : decode cX12_leftBy 63 = .ok (.aload_n 0, 1) := by decide +kernel
theorem dX12_leftBy_64 : decode cX12_leftBy 64 = .ok (.getfield 63, 3) := by decide +kernel
theorem dX12_leftBy_67 : decode cX12_leftBy 67 = .ok (.iload 4, 2) := by decide +kernel
theorem dX12_leftBy_69 : decode cX12_leftBy 69 = .ok (.iaload, 1) := by decide +kernel
theorem dX12_leftBy_70 : decode cX12_leftBy 70 = .ok (.invokestatic 361, 3) := by decide +kernel
theorem dX12_leftBy_73 : decode cX12_leftBy 73 = .ok (.istore_n 2, 1) := by decide +kernel
theorem dX12_leftBy_74 : decode cX12_leftBy 74 = .ok (.iinc 3 1, 3) := by decide +kernel
theorem dX12_leftBy_77 : decode cX12_leftBy 77 = .ok (.goto (-52), 3) := by decide +kernel
theorem dX12_leftBy_80 : decode cX12_leftBy 80 = .ok (.iload_n 2, 1) := by decide +kernel
theorem dX12_leftBy_81 : decode cX12_leftBy 81 = .ok (.ireturn, 1) := by decide +kernel
theorem dX12_heights_0 : decode cX12_heights 0 = .ok (.aload_n 0, 1) := by decide +kernel
theorem dX12_heights_1 : decode cX12_heights 1 = .ok (.iconst 0, 1) := by decide +kernel
theorem dX12_heights_2 : decode cX12_heights 2 = .ok (.putfield 1, 3) := by decide +kernel
theorem dX12_heights_5 : decode cX12_heights 5 = .ok (.aload_n 0, 1) := by decide +kernel
theorem dX12_heights_6 : decode cX12_heights 6 = .ok (.sipush 940, 3) := by decide +kernel
theorem dX12_heights_9 : decode cX12_heights 9 = .ok (.invokevirtual 233, 3) := by decide +kernel
theorem dX12_heights_12 : decode cX12_heights 12 = .ok (.aload_n 0, 1) := by decide +kernel
theorem dX12_heights_13 : decode cX12_heights 13 = .ok (.getfield 18, 3) := by decide +kernel
theorem dX12_heights_16 : decode cX12_heights 16 = .ok (.iconst 2, 1) := by decide +kernel
theorem dX12_heights_17 : decode cX12_heights 17 = .ok (.bipush 10, 2) := by decide +kernel
theorem dX12_heights_19 : decode cX12_heights 19 = .ok (.invokestatic 180, 3) := by decide +kernel
theorem dX12_heights_22 : decode cX12_heights 22 = .ok (.ifCond .eq 13, 3) := by decide +kernel
theorem dX12_heights_25 : decode cX12_heights 25 = .ok (.aload_n 0, 1) := by decide +kernel
theorem dX12_heights_26 : decode cX12_heights 26 = .ok (.getfield 18, 3) := by decide +kernel
theorem dX12_heights_29 : decode cX12_heights 29 = .ok (.iconst 2, 1) := by decide +kernel
theorem dX12_heights_30 : decode cX12_heights 30 = .ok (.irem, 1) := by decide +kernel
theorem dX12_heights_31 : decode cX12_heights 31 = .ok (.iconst 1, 1) := by decide +kernel
theorem dX12_heights_32 : decode cX12_heights 32 = .ok (.if_icmp .ne 5, 3) := by decide +kernel
theorem dX12_heights_35 : decode cX12_heights 35 = .ok (.iconst (-1), 1) := by decide +kernel
theorem dX12_heights_36 : decode cX12_heights 36 = .ok (.ireturn, 1) := by decide +kernel
theorem dX12_heights_37 : decode cX12_heights 37 = .ok (.iconst 0, 1) := by decide +kernel
theorem dX12_heights_38 : decode cX12_heights 38 = .ok (.istore_n 1, 1) := by decide +kernel
theorem dX12_heights_39 : decode cX12_heights 39 = .ok (.iload_n 1, 1) := by decide +kernel
theorem dX12_heights_40 : decode cX12_heights 40 = .ok (.aload_n 0, 1) := by decide +kernel
theorem dX12_heights_41 : decode cX12_heights 41 = .ok (.getfield 18, 3) := by decide +kernel
theorem dX12_heights_44 : decode cX12_heights 44 = .ok (.if_icmp .ge 23, 3) := by decide +kernel
theorem dX12_heights_47 : decode cX12_heights 47 = .ok (.aload_n 0, 1) := by decide +kernel
theorem dX12_heights_48 : decode cX12_heights 48 = .ok (.aload_n 0, 1) := by decide +kernel
theorem dX12_heights_49 : decode cX12_heights 49 = .ok (.iload_n 1, 1) := by decide +kernel
theorem dX12_heights_50 : decode cX12_heights 50 = .ok (.invokevirtual 351, 3) := by decide +kernel
theorem dX12_heights_53 : decode cX12_heights 53 = .ok (.invokevirtual 280, 3) := by decide +kernel
theorem dX12_heights_56 : decode cX12_heights 56 = .ok (.ifCond .ne 5, 3) := by decide +kernel
theorem dX12_heights_59 : decode cX12_heights 59 = .ok (.iconst (-1), 1) := by decide +kernel
theorem dX12_heights_60 : decode cX12_heights 60 = .ok (.ireturn, 1) := by decide +kernel
theorem dX12_heights_61 : decode cX12_heights 61 = .ok (.iinc 1 2, 3) := by decide +kernel
theorem dX12_heights_64 : decode cX12_heights 64 = .ok (.goto (-25), 3) := by decide +kernel
theorem dX12_heights_67 : decode cX12_heights 67 = .ok (.iconst 0, 1) := by decide +kernel
theorem dX12_heights_68 : decode cX12_heights 68 = .ok (.istore_n 1, 1) := by decide +kernel
theorem dX12_heights_69 : decode cX12_heights 69 = .ok (.iconst 0, 1) := by decide +kernel
theorem dX12_heights_70 : decode cX12_heights 70 = .ok (.istore_n 2, 1) := by decide +kernel
theorem dX12_heights_71 : decode cX12_heights 71 = .ok (.bipush 30, 2) := by decide +kernel
theorem dX12_heights_73 : decode cX12_heights 73 = .ok (.istore_n 3, 1) := by decide +kernel
theorem dX12_heights_74 : decode cX12_heights 74 = .ok (.iload_n 3, 1) := by decide +kernel
theorem dX12_heights_75 : decode cX12_heights 75 = .ok (.ifCond .le 37, 3) := by decide +kernel
theorem dX12_heights_78 : decode cX12_heights 78 = .ok (.aload_n 0, 1) := by decide +kernel
theorem dX12_heights_79 : decode cX12_heights 79 = .ok (.getfield 59, 3) := by decide +kernel
theorem dX12_heights_82 : decode cX12_heights 82 = .ok (.iload_n 3, 1) := by decide +kernel
theorem dX12_heights_83 : decode cX12_heights 83 = .ok (.aload_n 0, 1) := by decide +kernel
theorem dX12_heights_84 : decode cX12_heights 84 = .ok (.iload_n 3, 1) := by decide +kernel
theorem dX12_heights_85 : decode cX12_heights 85 = .ok (.invokevirtual 364, 3) := by decide +kernel
theorem dX12_heights_88 : decode cX12_heights 88 = .ok (.bastore, 1) := by decide +kernel
theorem dX12_heights_89 : decode cX12_heights 89 = .ok (.aload_n 0, 1) := by decide +kernel
theorem dX12_heights_90 : decode cX12_heights 90 = .ok (.getfield 59, 3) := by decide +kernel
theorem dX12_heights_93 : decode cX12_heights 93 = .ok (.iload_n 3, 1) := by decide +kernel
theorem dX12_heights_94 : decode cX12_heights 94 = .ok (.baload, 1) := by decide +kernel
theorem dX12_heights_95 : decode cX12_heights 95 = .ok (.ifCond .ne 6, 3) := by decide +kernel
theorem dX12_heights_98 : decode cX12_heights 98 = .ok (.goto 8, 3) := by decide +kernel
theorem dX12_heights_101 : decode cX12_heights 101 = .ok (.iinc 1 1, 3) := by decide +kernel
theorem dX12_heights_104 : decode cX12_heights 104 = .ok (.iload_n 3, 1) := by decide +kernel
theorem dX12_heights_105 : decode cX12_heights 105 = .ok (.istore_n 2, 1) := by decide +kernel
theorem dX12_heights_106 : decode cX12_heights 106 = .ok (.iinc 3 (-1), 3) := by decide +kernel
theorem dX12_heights_109 : decode cX12_heights 109 = .ok (.goto (-35), 3) := by decide +kernel
theorem dX12_heights_112 : decode cX12_heights 112 = .ok (.iload_n 1, 1) := by decide +kernel
theorem dX12_heights_113 : decode cX12_heights 113 = .ok (.ifCond .ne 5, 3) := by decide +kernel
theorem dX12_heights_116 : decode cX12_heights 116 = .ok (.iconst 0, 1) := by decide +kernel
theorem dX12_heights_117 : decode cX12_heights 117 = .ok (.ireturn, 1) := by decide +kernel
theorem dX12_heights_118 : decode cX12_heights 118 = .ok (.aload_n 0, 1) := by decide +kernel
theorem dX12_heights_119 : decode cX12_heights 119 = .ok (.iconst 1, 1) := by decide +kernel
theorem dX12_heights_120 : decode cX12_heights 120 = .ok (.putfield 367, 3) := by decide +kernel
theorem dX12_heights_123 : decode cX12_heights 123 = .ok (.aload_n 0, 1) := by decide +kernel
theorem dX12_heights_124 : decode cX12_heights 124 = .ok (.iload_n 2, 1) := by decide +kernel
theorem dX12_heights_125 : decode cX12_heights 125 = .ok (.putfield 370, 3) := by decide +kernel
theorem dX12_heights_128 : decode cX12_heights 128 = .ok (.ldc_w 354, 3) := by decide +kernel
theorem dX12_heights_131 : decode cX12_heights 131 = .ok (.istore_n 3, 1) := by decide +kernel
theorem dX12_heights_132 : decode cX12_heights 132 = .ok (.iconst 0, 1) := by decide +kernel
theorem dX12_heights_133 : decode cX12_heights 133 = .ok (.istore 4, 2) := by decide +kernel
theorem dX12_heights_135 : decode cX12_heights 135 = .ok (.iload 4, 2) := by decide +kernel
theorem dX12_heights_137 : decode cX12_heights 137 = .ok (.aload_n 0, 1) := by decide +kernel
theorem dX12_heights_138 : decode cX12_heights 138 = .ok (.getfield 33, 3) := by decide +kernel
theorem dX12_heights_141 : decode cX12_heights 141 = .ok (.iconst 0, 1) := by decide +kernel
theorem dX12_heights_142 : decode cX12_heights 142 = .ok (.iaload, 1) := by decide +kernel
theorem dX12_heights_143 : decode cX12_heights 143 = .ok (.if_icmp .ge 35, 3) := by decide +kernel
theorem dX12_heights_146 : decode cX12_heights 146 = .ok (.aload_n 0, 1) := by decide +kernel
theorem dX12_heights_147 : decode cX12_heights 147 = .ok (.iload 4, 2) := by decide +kernel
theorem dX12_heights_149 : decode cX12_heights 149 = .ok (.invokevirtual 373, 3) := by decide +kernel
theorem dX12_heights_152 : decode cX12_heights 152 = .ok (.istore 5, 2) := by decide +kernel
theorem dX12_heights_154 : decode cX12_heights 154 = .ok (.iload 5, 2) := by decide +kernel
theorem dX12_heights_156 : decode cX12_heights 156 = .ok (.iload_n 3, 1) := by decide +kernel
theorem dX12_heights_157 : decode cX12_heights 157 = .ok (.if_icmp .lt 6, 3) := by decide +kernel
theorem dX12_heights_160 : decode cX12_heights 160 = .ok (.goto 12, 3) := by decide +kernel
theorem dX12_heights_163 : decode cX12_heights 163 = .ok (.iload 5, 2) := by decide +kernel
theorem dX12_heights_165 : decode cX12_heights 165 = .ok (.istore_n 3, 1) := by decide +kernel
theorem dX12_heights_166 : decode cX12_heights 166 = .ok (.aload_n 0, 1) := by decide +kernel
theorem dX12_heights_167 : decode cX12_heights 167 = .ok (.iload 4, 2) := by decide +kernel
theorem dX12_heights_169 : decode cX12_heights 169 = .ok (.putfield 376, 3) := by decide +kernel
theorem dX12_heights_172 : decode cX12_heights 172 = .ok (.iinc 4 1, 3) := by decide +kernel
theorem dX12_heights_175 : decode cX12_heights 175 = .ok (.goto (-40), 3) := by decide +kernel
theorem dX12_heights_178 : decode cX12_heights 178 = .ok (.iload_n 1, 1) := by decide +kernel
theorem dX12_heights_179 : decode cX12_heights 179 = .ok (.ireturn, 1) := by decide +kernel
theorem dX12_lowest_0 : decode cX12_lowest 0 = .ok (.aload_n 0, 1) := by decide +kernel
theorem dX12_lowest_1 : decode cX12_lowest 1 = .ok (.iconst 0, 1) := by decide +kernel
theorem dX12_lowest_2 : decode cX12_lowest 2 = .ok (.putfield 1, 3) := by decide +kernel
theorem dX12_lowest_5 : decode cX12_lowest 5 = .ok (.aload_n 0, 1) := by decide +kernel
theorem dX12_lowest_6 : decode cX12_lowest 6 = .ok (.getfield 367, 3) := by decide +kernel
theorem dX12_lowest_9 : decode cX12_lowest 9 = .ok (.ifCond .eq 10, 3) := by decide +kernel
theorem dX12_lowest_12 : decode cX12_lowest 12 = .ok (.aload_n 0, 1) := by decide +kernel
theorem dX12_lowest_13 : decode cX12_lowest 13 = .ok (.getfield 370, 3) := by decide +kernel
theorem dX12_lowest_16 : decode cX12_lowest 16 = .ok (.goto 4, 3) := by decide +kernel
theorem dX12_lowest_19 : decode cX12_lowest 19 = .ok (.iconst (-1), 1) := by decide +kernel
theorem dX12_lowest_20 : decode cX12_lowest 20 = .ok (.ireturn, 1) := by decide +kernel
theorem dX12_watch_0 : decode cX12_watch 0 = .ok (.aload_n 0, 1) := by decide +kernel
theorem dX12_watch_1 : decode cX12_watch 1 = .ok (.iconst 0, 1) := by decide +kernel
theorem dX12_watch_2 : decode cX12_watch 2 = .ok (.putfield 1, 3) := by decide +kernel
theorem dX12_watch_5 : decode cX12_watch 5 = .ok (.aload_n 0, 1) := by decide +kernel
theorem dX12_watch_6 : decode cX12_watch 6 = .ok (.getfield 367, 3) := by decide +kernel
theorem dX12_watch_9 : decode cX12_watch 9 = .ok (.ifCond .eq 10, 3) := by decide +kernel
theorem dX12_watch_12 : decode cX12_watch 12 = .ok (.aload_n 0, 1) := by decide +kernel
theorem dX12_watch_13 : decode cX12_watch 13 = .ok (.getfield 376, 3) := by decide +kernel
theorem dX12_watch_16 : decode cX12_watch 16 = .ok (.goto 4, 3) := by decide +kernel
theorem dX12_watch_19 : decode cX12_watch 19 = .ok (.iconst (-1), 1) := by decide +kernel
theorem dX12_watch_20 : decode cX12_watch 20 = .ok (.ireturn, 1) := by decide +kernel
theorem dX12_heaviest_0 : decode cX12_heaviest 0 = .ok (.aload_n 0, 1) := by decide +kernel
theorem dX12_heaviest_1 : decode cX12_heaviest 1 = .ok (.iconst 0, 1) := by decide +kernel
theorem dX12_heaviest_2 : decode cX12_heaviest 2 = .ok (.putfield 1, 3) := by decide +kernel
theorem dX12_heaviest_5 : decode cX12_heaviest 5 = .ok (.iconst (-1), 1) := by decide +kernel
theorem dX12_heaviest_6 : decode cX12_heaviest 6 = .ok (.istore_n 1, 1) := by decide +kernel
theorem dX12_heaviest_7 : decode cX12_heaviest 7 = .ok (.iconst 0, 1) := by decide +kernel
theorem dX12_heaviest_8 : decode cX12_heaviest 8 = .ok (.istore_n 2, 1) := by decide +kernel
theorem dX12_heaviest_9 : decode cX12_heaviest 9 = .ok (.iload_n 2, 1) := by decide +kernel
theorem dX12_heaviest_10 : decode cX12_heaviest 10 = .ok (.aload_n 0, 1) := by decide +kernel
theorem dX12_heaviest_11 : decode cX12_heaviest 11 = .ok (.getfield 33, 3) := by decide +kernel
theorem dX12_heaviest_14 : decode cX12_heaviest 14 = .ok (.iconst 0, 1) := by decide +kernel
theorem dX12_heaviest_15 : decode cX12_heaviest 15 = .ok (.iaload, 1) := by decide +kernel
theorem dX12_heaviest_16 : decode cX12_heaviest 16 = .ok (.if_icmp .ge 28, 3) := by decide +kernel
theorem dX12_heaviest_19 : decode cX12_heaviest 19 = .ok (.iload_n 1, 1) := by decide +kernel
theorem dX12_heaviest_20 : decode cX12_heaviest 20 = .ok (.ifCond .lt 16, 3) := by decide +kernel
theorem dX12_heaviest_23 : decode cX12_heaviest 23 = .ok (.aload_n 0, 1) := by decide +kernel
theorem dX12_heaviest_24 : decode cX12_heaviest 24 = .ok (.iload_n 2, 1) := by decide +kernel
theorem dX12_heaviest_25 : decode cX12_heaviest 25 = .ok (.invokevirtual 287, 3) := by decide +kernel
theorem dX12_heaviest_28 : decode cX12_heaviest 28 = .ok (.aload_n 0, 1) := by decide +kernel
theorem dX12_heaviest_29 : decode cX12_heaviest 29 = .ok (.iload_n 1, 1) := by decide +kernel
theorem dX12_heaviest_30 : decode cX12_heaviest 30 = .ok (.invokevirtual 287, 3) := by decide +kernel
theorem dX12_heaviest_33 : decode cX12_heaviest 33 = .ok (.if_icmp .le 5, 3) := by decide +kernel
theorem dX12_heaviest_36 : decode cX12_heaviest 36 = .ok (.iload_n 2, 1) := by decide +kernel
theorem dX12_heaviest_37 : decode cX12_heaviest 37 = .ok (.istore_n 1, 1) := by decide +kernel
theorem dX12_heaviest_38 : decode cX12_heaviest 38 = .ok (.iinc 2 1, 3) := by decide +kernel
theorem dX12_heaviest_41 : decode cX12_heaviest 41 = .ok (.goto (-32), 3) := by decide +kernel
theorem dX12_heaviest_44 : decode cX12_heaviest 44 = .ok (.iload_n 1, 1) := by decide +kernel
theorem dX12_heaviest_45 : decode cX12_heaviest 45 = .ok (.ireturn, 1) := by decide +kernel
theorem dX12_mean_0 : decode cX12_mean 0 = .ok (.aload_n 0, 1) := by decide +kernel
theorem dX12_mean_1 : decode cX12_mean 1 = .ok (.aload_n 0, 1) := by decide +kernel
theorem dX12_mean_2 : decode cX12_mean 2 = .ok (.iload_n 1, 1) := by decide +kernel
theorem dX12_mean_3 : decode cX12_mean 3 = .ok (.invokevirtual 280, 3) := by decide +kernel
theorem dX12_mean_6 : decode cX12_mean 6 = .ok (.ifCond .eq 20, 3) := by decide +kernel
theorem dX12_mean_9 : decode cX12_mean 9 = .ok (.iload_n 2, 1) := by decide +kernel
theorem dX12_mean_10 : decode cX12_mean 10 = .ok (.iconst 0, 1) := by decide +kernel
theorem dX12_mean_11 : decode cX12_mean 11 = .ok (.iconst 1, 1) := by decide +kernel
theorem dX12_mean_12 : decode cX12_mean 12 = .ok (.invokestatic 180, 3) := by decide +kernel
theorem dX12_mean_15 : decode cX12_mean 15 = .ok (.ifCond .eq 11, 3) := by decide +kernel
theorem dX12_mean_18 : decode cX12_mean 18 = .ok (.aload_n 0, 1) := by decide +kernel
theorem dX12_mean_19 : decode cX12_mean 19 = .ok (.iload_n 1, 1) := by decide +kernel
theorem dX12_mean_20 : decode cX12_mean 20 = .ok (.invokevirtual 252, 3) := by decide +kernel
theorem dX12_mean_23 : decode cX12_mean 23 = .ok (.ifCond .ne 7, 3) := by decide +kernel
theorem dX12_mean_26 : decode cX12_mean 26 = .ok (.iconst 1, 1) := by decide +kernel
theorem dX12_mean_27 : decode cX12_mean 27 = .ok (.goto 4, 3) := by decide +kernel
theorem dX12_mean_30 : decode cX12_mean 30 = .ok (.iconst 0, 1) := by decide +kernel
theorem dX12_mean_31 : decode cX12_mean 31 = .ok (.invokevirtual 283, 3) := by decide +kernel
theorem dX12_mean_34 : decode cX12_mean 34 = .ok (.ifCond .eq 5, 3) := by decide +kernel
theorem dX12_mean_37 : decode cX12_mean 37 = .ok (.iconst 0, 1) := by decide +kernel
theorem dX12_mean_38 : decode cX12_mean 38 = .ok (.ireturn, 1) := by decide +kernel
theorem dX12_mean_39 : decode cX12_mean 39 = .ok (.aload_n 0, 1) := by decide +kernel
theorem dX12_mean_40 : decode cX12_mean 40 = .ok (.iload_n 1, 1) := by decide +kernel
theorem dX12_mean_41 : decode cX12_mean 41 = .ok (.invokevirtual 252, 3) := by decide +kernel
theorem dX12_mean_44 : decode cX12_mean 44 = .ok (.invokestatic 261, 3) := by decide +kernel
theorem dX12_mean_47 : decode cX12_mean 47 = .ok (.istore_n 3, 1) := by decide +kernel
theorem dX12_mean_48 : decode cX12_mean 48 = .ok (.aload_n 0, 1) := by decide +kernel
theorem dX12_mean_49 : decode cX12_mean 49 = .ok (.iload_n 1, 1) := by decide +kernel
theorem dX12_mean_50 : decode cX12_mean 50 = .ok (.invokevirtual 287, 3) := by decide +kernel
theorem dX12_mean_53 : decode cX12_mean 53 = .ok (.istore 4, 2) := by decide +kernel
theorem dX12_mean_55 : decode cX12_mean 55 = .ok (.iload 4, 2) := by decide +kernel
theorem dX12_mean_57 : decode cX12_mean 57 = .ok (.ifCond .eq 19, 3) := by decide +kernel
theorem dX12_mean_60 : decode cX12_mean 60 = .ok (.iload_n 3, 1) := by decide +kernel
theorem dX12_mean_61 : decode cX12_mean 61 = .ok (.iload 4, 2) := by decide +kernel
theorem dX12_mean_63 : decode cX12_mean 63 = .ok (.irem, 1) := by decide +kernel
theorem dX12_mean_64 : decode cX12_mean 64 = .ok (.istore 5, 2) := by decide +kernel
theorem dX12_mean_66 : decode cX12_mean 66 = .ok (.iload 4, 2) := by decide +kernel
theorem dX12_mean_68 : decode cX12_mean 68 = .ok (.istore_n 3, 1) := by decide +kernel
theorem dX12_mean_69 : decode cX12_mean 69 = .ok (.iload 5, 2) := by decide +kernel
theorem dX12_mean_71 : decode cX12_mean 71 = .ok (.istore 4, 2) := by decide +kernel
theorem dX12_mean_73 : decode cX12_mean 73 = .ok (.goto (-18), 3) := by decide +kernel
theorem dX12_mean_76 : decode cX12_mean 76 = .ok (.iload_n 2, 1) := by decide +kernel
theorem dX12_mean_77 : decode cX12_mean 77 = .ok (.ifCond .ne 11, 3) := by decide +kernel
theorem dX12_mean_80 : decode cX12_mean 80 = .ok (.aload_n 0, 1) := by decide +kernel
theorem dX12_mean_81 : decode cX12_mean 81 = .ok (.iload_n 1, 1) := by decide +kernel
theorem dX12_mean_82 : decode cX12_mean 82 = .ok (.invokevirtual 287, 3) := by decide +kernel
theorem dX12_mean_85 : decode cX12_mean 85 = .ok (.goto 11, 3) := by decide +kernel
theorem dX12_mean_88 : decode cX12_mean 88 = .ok (.aload_n 0, 1) := by decide +kernel
theorem dX12_mean_89 : decode cX12_mean 89 = .ok (.iload_n 1, 1) := by decide +kernel
theorem dX12_mean_90 : decode cX12_mean 90 = .ok (.invokevirtual 252, 3) := by decide +kernel
theorem dX12_mean_93 : decode cX12_mean 93 = .ok (.invokestatic 261, 3) := by decide +kernel
theorem dX12_mean_96 : decode cX12_mean 96 = .ok (.iload_n 3, 1) := by decide +kernel
theorem dX12_mean_97 : decode cX12_mean 97 = .ok (.idiv, 1) := by decide +kernel
theorem dX12_mean_98 : decode cX12_mean 98 = .ok (.ireturn, 1) := by decide +kernel
theorem dX12_lays_0 : decode cX12_lays 0 = .ok (.aload_n 0, 1) := by decide +kernel
theorem dX12_lays_1 : decode cX12_lays 1 = .ok (.getfield 66, 3) := by decide +kernel
theorem dX12_lays_4 : decode cX12_lays 4 = .ok (.aload_n 0, 1) := by decide +kernel
theorem dX12_lays_5 : decode cX12_lays 5 = .ok (.getfield 379, 3) := by decide +kernel
theorem dX12_lays_8 : decode cX12_lays 8 = .ok (.iload_n 1, 1) := by decide +kernel
theorem dX12_lays_9 : decode cX12_lays 9 = .ok (.i2b, 1) := by decide +kernel
theorem dX12_lays_10 : decode cX12_lays 10 = .ok (.bastore, 1) := by decide +kernel
theorem dX12_lays_11 : decode cX12_lays 11 = .ok (.aload_n 0, 1) := by decide +kernel
theorem dX12_lays_12 : decode cX12_lays 12 = .ok (.dup, 1) := by decide +kernel
theorem dX12_lays_13 : decode cX12_lays 13 = .ok (.getfield 379, 3) := by decide +kernel
theorem dX12_lays_16 : decode cX12_lays 16 = .ok (.iconst 1, 1) := by decide +kernel
theorem dX12_lays_17 : decode cX12_lays 17 = .ok (.iadd, 1) := by decide +kernel
theorem dX12_lays_18 : decode cX12_lays 18 = .ok (.putfield 379, 3) := by decide +kernel
theorem dX12_lays_21 : decode cX12_lays 21 = .ok (.return_, 1) := by decide +kernel
theorem dX12_spells_0 : decode cX12_spells 0 = .ok (.bipush 56, 2) := by decide +kernel
theorem dX12_spells_2 : decode cX12_spells 2 = .ok (.istore_n 3, 1) := by decide +kernel
theorem dX12_spells_3 : decode cX12_spells 3 = .ok (.iload_n 3, 1) := by decide +kernel
theorem dX12_spells_4 : decode cX12_spells 4 = .ok (.ifCond .lt 33, 3) := by decide +kernel
theorem dX12_spells_7 : decode cX12_spells 7 = .ok (.lload_n 1, 1) := by decide +kernel
theorem dX12_spells_8 : decode cX12_spells 8 = .ok (.iload_n 3, 1) := by decide +kernel
theorem dX12_spells_9 : decode cX12_spells 9 = .ok (.lshr, 1) := by decide +kernel
theorem dX12_spells_10 : decode cX12_spells 10 = .ok (.ldc2_w 382, 3) := by decide +kernel
theorem dX12_spells_13 : decode cX12_spells 13 = .ok (.land, 1) := by decide +kernel
theorem dX12_spells_14 : decode cX12_spells 14 = .ok (.lconst 0, 1) := by decide +kernel
theorem dX12_spells_15 : decode cX12_spells 15 = .ok (.lcmp, 1) := by decide +kernel
theorem dX12_spells_16 : decode cX12_spells 16 = .ok (.ifCond .eq 15, 3) := by decide +kernel
theorem dX12_spells_19 : decode cX12_spells 19 = .ok (.aload_n 0, 1) := by decide +kernel
theorem dX12_spells_20 : decode cX12_spells 20 = .ok (.lload_n 1, 1) := by decide +kernel
theorem dX12_spells_21 : decode cX12_spells 21 = .ok (.iload_n 3, 1) := by decide +kernel
theorem dX12_spells_22 : decode cX12_spells 22 = .ok (.lshr, 1) := by decide +kernel
theorem dX12_spells_23 : decode cX12_spells 23 = .ok (.ldc2_w 382, 3) := by decide +kernel
theorem dX12_spells_26 : decode cX12_spells 26 = .ok (.land, 1) := by decide +kernel
theorem dX12_spells_27 : decode cX12_spells 27 = .ok (.l2i, 1) := by decide +kernel
theorem dX12_spells_28 : decode cX12_spells 28 = .ok (.invokevirtual 384, 3) := by decide +kernel
theorem dX12_spells_31 : decode cX12_spells 31 = .ok (.iinc 3 (-8), 3) := by decide +kernel
theorem dX12_spells_34 : decode cX12_spells 34 = .ok (.goto (-31), 3) := by decide +kernel
theorem dX12_spells_37 : decode cX12_spells 37 = .ok (.return_, 1) := by decide +kernel
theorem dX12_says_0 : decode cX12_says 0 = .ok (.aload_n 0, 1) := by decide +kernel
theorem dX12_says_1 : decode cX12_says 1 = .ok (.bipush 32, 2) := by decide +kernel
theorem dX12_says_3 : decode cX12_says 3 = .ok (.invokevirtual 384, 3) := by decide +kernel
theorem dX12_says_6 : decode cX12_says 6 = .ok (.aload_n 0, 1) := by decide +kernel
theorem dX12_says_7 : decode cX12_says 7 = .ok (.lload_n 1, 1) := by decide +kernel
theorem dX12_says_8 : decode cX12_says 8 = .ok (.invokevirtual 387, 3) := by decide +kernel
theorem dX12_says_11 : decode cX12_says 11 = .ok (.return_, 1) := by decide +kernel
theorem dX12_tag_0 : decode cX12_tag 0 = .ok (.aload_n 0, 1) := by decide +kernel
theorem dX12_tag_1 : decode cX12_tag 1 = .ok (.iconst 0, 1) := by decide +kernel
theorem dX12_tag_2 : decode cX12_tag 2 = .ok (.putfield 1, 3) := by decide +kernel
theorem dX12_tag_5 : decode cX12_tag 5 = .ok (.aload_n 0, 1) := by decide +kernel
theorem dX12_tag_6 : decode cX12_tag 6 = .ok (.iload_n 1, 1) := by decide +kernel
theorem dX12_tag_7 : decode cX12_tag 7 = .ok (.invokevirtual 280, 3) := by decide +kernel
theorem dX12_tag_10 : decode cX12_tag 10 = .ok (.ifCond .ne 5, 3) := by decide +kernel
theorem dX12_tag_13 : decode cX12_tag 13 = .ok (.iconst (-1), 1) := by decide +kernel
theorem dX12_tag_14 : decode cX12_tag 14 = .ok (.ireturn, 1) := by decide +kernel
theorem dX12_tag_15 : decode cX12_tag 15 = .ok (.aload_n 0, 1) := by decide +kernel
theorem dX12_tag_16 : decode cX12_tag 16 = .ok (.iconst 0, 1) := by decide +kernel
theorem dX12_tag_17 : decode cX12_tag 17 = .ok (.putfield 379, 3) := by decide +kernel
theorem dX12_tag_20 : decode cX12_tag 20 = .ok (.aload_n 0, 1) := by decide +kernel
theorem dX12_tag_21 : decode cX12_tag 21 = .ok (.aload_n 0, 1) := by decide +kernel
theorem dX12_tag_22 : decode cX12_tag 22 = .ok (.getfield 43, 3) := by decide +kernel
theorem dX12_tag_25 : decode cX12_tag 25 = .ok (.iload_n 1, 1) := by decide +kernel
theorem dX12_tag_26 : decode cX12_tag 26 = .ok (.laload, 1) := by decide +kernel
theorem dX12_tag_27 : decode cX12_tag 27 = .ok (.invokevirtual 387, 3) := by decide +kernel
theorem dX12_tag_30 : decode cX12_tag 30 = .ok (.aload_n 0, 1) := by decide +kernel
theorem dX12_tag_31 : decode cX12_tag 31 = .ok (.getfield 33, 3) := by decide +kernel
theorem dX12_tag_34 : decode cX12_tag 34 = .ok (.bipush 84, 2) := by decide +kernel
theorem dX12_tag_36 : decode cX12_tag 36 = .ok (.iload_n 1, 1) := by decide +kernel
theorem dX12_tag_37 : decode cX12_tag 37 = .ok (.iadd, 1) := by decide +kernel
theorem dX12_tag_38 : decode cX12_tag 38 = .ok (.iaload, 1) := by decide +kernel
theorem dX12_tag_39 : decode cX12_tag 39 = .ok (.istore_n 2, 1) := by decide +kernel
theorem dX12_tag_40 : decode cX12_tag 40 = .ok (.aload_n 0, 1) := by decide +kernel
theorem dX12_tag_41 : decode cX12_tag 41 = .ok (.iload_n 2, 1) := by decide +kernel
theorem dX12_tag_42 : decode cX12_tag 42 = .ok (.ifCond .ne 9, 3) := by decide +kernel
theorem dX12_tag_45 : decode cX12_tag 45 = .ok (.ldc2_w 115, 3) := by decide +kernel
theorem dX12_tag_48 : decode cX12_tag 48 = .ok (.goto 28, 3) := by decide +kernel
theorem dX12_tag_51 : decode cX12_tag 51 = .ok (.iload_n 2, 1) := by decide +kernel
theorem dX12_tag_52 : decode cX12_tag 52 = .ok (.iconst 1, 1) := by decide +kernel
theorem dX12_tag_53 : decode cX12_tag 53 = .ok (.if_icmp .ne 9, 3) := by decide +kernel
theorem dX12_tag_56 : decode cX12_tag 56 = .ok (.ldc2_w 391, 3) := by decide +kernel
theorem dX12_tag_59 : decode cX12_tag 59 = .ok (.goto 17, 3) := by decide +kernel
theorem dX12_tag_62 : decode cX12_tag 62 = .ok (.iload_n 2, 1) := by decide +kernel
theorem dX12_tag_63 : decode cX12_tag 63 = .ok (.iconst 2, 1) := by decide +kernel
theorem dX12_tag_64 : decode cX12_tag 64 = .ok (.if_icmp .ne 9, 3) := by decide +kernel
theorem dX12_tag_67 : decode cX12_tag 67 = .ok (.ldc2_w 393, 3) := by decide +kernel
theorem dX12_tag_70 : decode cX12_tag 70 = .ok (.goto 6, 3) := by decide +kernel
theorem dX12_tag_73 : decode cX12_tag 73 = .ok (.ldc2_w 121, 3) := by decide +kernel
theorem dX12_tag_76 : decode cX12_tag 76 = .ok (.invokevirtual 395, 3) := by decide +kernel
theorem dX12_tag_79 : decode cX12_tag 79 = .ok (.iload_n 2, 1) := by decide +kernel
theorem dX12_tag_80 : decode cX12_tag 80 = .ok (.iconst 2, 1) := by decide +kernel
theorem dX12_tag_81 : decode cX12_tag 81 = .ok (.if_icmp .ge 8, 3) := by decide +kernel
theorem dX12_tag_84 : decode cX12_tag 84 = .ok (.aload_n 0, 1) := by decide +kernel
theorem dX12_tag_85 : decode cX12_tag 85 = .ok (.getfield 379, 3) := by decide +kernel
theorem dX12_tag_88 : decode cX12_tag 88 = .ok (.ireturn, 1) := by decide +kernel
theorem dX12_tag_89 : decode cX12_tag 89 = .ok (.aload_n 0, 1) := by decide +kernel
theorem dX12_tag_90 : decode cX12_tag 90 = .ok (.iload_n 1, 1) := by decide +kernel
theorem dX12_tag_91 : decode cX12_tag 91 = .ok (.invokevirtual 290, 3) := by decide +kernel
theorem dX12_tag_94 : decode cX12_tag 94 = .ok (.istore_n 3, 1) := by decide +kernel
theorem dX12_tag_95 : decode cX12_tag 95 = .ok (.aload_n 0, 1) := by decide +kernel
theorem dX12_tag_96 : decode cX12_tag 96 = .ok (.bipush 32, 2) := by decide +kernel
theorem dX12_tag_98 : decode cX12_tag 98 = .ok (.invokevirtual 384, 3) := by decide +kernel
theorem dX12_tag_101 : decode cX12_tag 101 = .ok (.iload_n 3, 1) := by decide +kernel
theorem dX12_tag_102 : decode cX12_tag 102 = .ok (.bipush 9, 2) := by decide +kernel
theorem dX12_tag_104 : decode cX12_tag 104 = .ok (.if_icmp .le 14, 3) := by decide +kernel
theorem dX12_tag_107 : decode cX12_tag 107 = .ok (.aload_n 0, 1) := by decide +kernel
theorem dX12_tag_108 : decode cX12_tag 108 = .ok (.bipush 48, 2) := by decide +kernel
theorem dX12_tag_110 : decode cX12_tag 110 = .ok (.iload_n 3, 1) := by decide +kernel
theorem dX12_tag_111 : decode cX12_tag 111 = .ok (.bipush 10, 2) := by decide +kernel
theorem dX12_tag_113 : decode cX12_tag 113 = .ok (.idiv, 1) := by decide +kernel
theorem dX12_tag_114 : decode cX12_tag 114 = .ok (.iadd, 1) := by decide +kernel
theorem dX12_tag_115 : decode cX12_tag 115 = .ok (.invokevirtual 384, 3) := by decide +kernel
theorem dX12_tag_118 : decode cX12_tag 118 = .ok (.aload_n 0, 1) := by decide +kernel
theorem dX12_tag_119 : decode cX12_tag 119 = .ok (.bipush 48, 2) := by decide +kernel
theorem dX12_tag_121 : decode cX12_tag 121 = .ok (.iload_n 3, 1) := by decide +kernel
theorem dX12_tag_122 : decode cX12_tag 122 = .ok (.bipush 10, 2) := by decide +kernel
theorem dX12_tag_124 : decode cX12_tag 124 = .ok (.irem, 1) := by decide +kernel
theorem dX12_tag_125 : decode cX12_tag 125 = .ok (.iadd, 1) := by decide +kernel
theorem dX12_tag_126 : decode cX12_tag 126 = .ok (.invokevirtual 384, 3) := by decide +kernel
theorem dX12_tag_129 : decode cX12_tag 129 = .ok (.aload_n 0, 1) := by decide +kernel
theorem dX12_tag_130 : decode cX12_tag 130 = .ok (.getfield 379, 3) := by decide +kernel
theorem dX12_tag_133 : decode cX12_tag 133 = .ok (.ireturn, 1) := by decide +kernel
theorem dX12_byteAt_0 : decode cX12_byteAt 0 = .ok (.aload_n 0, 1) := by decide +kernel
theorem dX12_byteAt_1 : decode cX12_byteAt 1 = .ok (.iconst 0, 1) := by decide +kernel
theorem dX12_byteAt_2 : decode cX12_byteAt 2 = .ok (.putfield 1, 3) := by decide +kernel
theorem dX12_byteAt_5 : decode cX12_byteAt 5 = .ok (.iload_n 1, 1) := by decide +kernel
theorem dX12_byteAt_6 : decode cX12_byteAt 6 = .ok (.iconst 0, 1) := by decide +kernel
theorem dX12_byteAt_7 : decode cX12_byteAt 7 = .ok (.aload_n 0, 1) := by decide +kernel
theorem dX12_byteAt_8 : decode cX12_byteAt 8 = .ok (.getfield 379, 3) := by decide +kernel
theorem dX12_byteAt_11 : decode cX12_byteAt 11 = .ok (.iconst 1, 1) := by decide +kernel
theorem dX12_byteAt_12 : decode cX12_byteAt 12 = .ok (.isub, 1) := by decide +kernel
theorem dX12_byteAt_13 : decode cX12_byteAt 13 = .ok (.invokestatic 180, 3) := by decide +kernel
theorem dX12_byteAt_16 : decode cX12_byteAt 16 = .ok (.ifCond .eq 12, 3) := by decide +kernel
theorem dX12_byteAt_19 : decode cX12_byteAt 19 = .ok (.aload_n 0, 1) := by decide +kernel
theorem dX12_byteAt_20 : decode cX12_byteAt 20 = .ok (.getfield 66, 3) := by decide +kernel
theorem dX12_byteAt_23 : decode cX12_byteAt 23 = .ok (.iload_n 1, 1) := by decide +kernel
theorem dX12_byteAt_24 : decode cX12_byteAt 24 = .ok (.baload, 1) := by decide +kernel
theorem dX12_byteAt_25 : decode cX12_byteAt 25 = .ok (.goto 4, 3) := by decide +kernel
theorem dX12_byteAt_28 : decode cX12_byteAt 28 = .ok (.iconst (-1), 1) := by decide +kernel
theorem dX12_byteAt_29 : decode cX12_byteAt 29 = .ok (.ireturn, 1) := by decide +kernel
theorem dX12_draw_0 : decode cX12_draw 0 = .ok (.aload_n 0, 1) := by decide +kernel
theorem dX12_draw_1 : decode cX12_draw 1 = .ok (.aload_n 0, 1) := by decide +kernel
theorem dX12_draw_2 : decode cX12_draw 2 = .ok (.getfield 398, 3) := by decide +kernel
theorem dX12_draw_5 : decode cX12_draw 5 = .ok (.ldc_w 401, 3) := by decide +kernel
theorem dX12_draw_8 : decode cX12_draw 8 = .ok (.imul, 1) := by decide +kernel
theorem dX12_draw_9 : decode cX12_draw 9 = .ok (.sipush 12345, 3) := by decide +kernel
theorem dX12_draw_12 : decode cX12_draw 12 = .ok (.iadd, 1) := by decide +kernel
theorem dX12_draw_13 : decode cX12_draw 13 = .ok (.putfield 398, 3) := by decide +kernel
theorem dX12_draw_16 : decode cX12_draw 16 = .ok (.aload_n 0, 1) := by decide +kernel
theorem dX12_draw_17 : decode cX12_draw 17 = .ok (.getfield 398, 3) := by decide +kernel
theorem dX12_draw_20 : decode cX12_draw 20 = .ok (.bipush 8, 2) := by decide +kernel
theorem dX12_draw_22 : decode cX12_draw 22 = .ok (.iushr, 1) := by decide +kernel
theorem dX12_draw_23 : decode cX12_draw 23 = .ok (.iload_n 1, 1) := by decide +kernel
theorem dX12_draw_24 : decode cX12_draw 24 = .ok (.irem, 1) := by decide +kernel
theorem dX12_draw_25 : decode cX12_draw 25 = .ok (.ireturn, 1) := by decide +kernel
theorem dX12_drawPerson_0 : decode cX12_drawPerson 0 = .ok (.aload_n 0, 1) := by decide +kernel
theorem dX12_drawPerson_1 : decode cX12_drawPerson 1 = .ok (.bipush 8, 2) := by decide +kernel
theorem dX12_drawPerson_3 : decode cX12_drawPerson 3 = .ok (.invokevirtual 402, 3) := by decide +kernel
theorem dX12_drawPerson_6 : decode cX12_drawPerson 6 = .ok (.istore_n 2, 1) := by decide +kernel
theorem dX12_drawPerson_7 : decode cX12_drawPerson 7 = .ok (.iload_n 2, 1) := by decide +kernel
theorem dX12_drawPerson_8 : decode cX12_drawPerson 8 = .ok (.ifCond .ne 23, 3) := by decide +kernel
theorem dX12_drawPerson_11 : decode cX12_drawPerson 11 = .ok (.aload_n 0, 1) := by decide +kernel
theorem dX12_drawPerson_12 : decode cX12_drawPerson 12 = .ok (.getfield 33, 3) := by decide +kernel
theorem dX12_drawPerson_15 : decode cX12_drawPerson 15 = .ok (.bipush 84, 2) := by decide +kernel
theorem dX12_drawPerson_17 : decode cX12_drawPerson 17 = .ok (.iload_n 1, 1) := by decide +kernel
theorem dX12_drawPerson_18 : decode cX12_drawPerson 18 = .ok (.iadd, 1) := by decide +kernel
theorem dX12_drawPerson_19 : decode cX12_drawPerson 19 = .ok (.iaload, 1) := by decide +kernel
theorem dX12_drawPerson_20 : decode cX12_drawPerson 20 = .ok (.ifCond .ne 11, 3) := by decide +kernel
theorem dX12_drawPerson_23 : decode cX12_drawPerson 23 = .ok (.aload_n 0, 1) := by decide +kernel
theorem dX12_drawPerson_24 : decode cX12_drawPerson 24 = .ok (.iload_n 1, 1) := by decide +kernel
theorem dX12_drawPerson_25 : decode cX12_drawPerson 25 = .ok (.invokevirtual 311, 3) := by decide +kernel
theorem dX12_drawPerson_28 : decode cX12_drawPerson 28 = .ok (.goto 31, 3) := by decide +kernel
theorem dX12_drawPerson_31 : decode cX12_drawPerson 31 = .ok (.iload_n 2, 1) := by decide +kernel
theorem dX12_drawPerson_32 : decode cX12_drawPerson 32 = .ok (.iconst 1, 1) := by decide +kernel
theorem dX12_drawPerson_33 : decode cX12_drawPerson 33 = .ok (.if_icmp .ne 26, 3) := by decide +kernel
theorem dX12_drawPerson_36 : decode cX12_drawPerson 36 = .ok (.aload_n 0, 1) := by decide +kernel
theorem dX12_drawPerson_37 : decode cX12_drawPerson 37 = .ok (.getfield 33, 3) := by decide +kernel
theorem dX12_drawPerson_40 : decode cX12_drawPerson 40 = .ok (.bipush 84, 2) := by decide +kernel
theorem dX12_drawPerson_42 : decode cX12_drawPerson 42 = .ok (.iload_n 1, 1) := by decide +kernel
theorem dX12_drawPerson_43 : decode cX12_drawPerson 43 = .ok (.iadd, 1) := by decide +kernel
theorem dX12_drawPerson_44 : decode cX12_drawPerson 44 = .ok (.iaload, 1) := by decide +kernel
theorem dX12_drawPerson_45 : decode cX12_drawPerson 45 = .ok (.iconst 2, 1) := by decide +kernel
theorem dX12_drawPerson_46 : decode cX12_drawPerson 46 = .ok (.if_icmp .ne 13, 3) := by decide +kernel
theorem dX12_drawPerson_49 : decode cX12_drawPerson 49 = .ok (.aload_n 0, 1) := by decide +kernel
theorem dX12_drawPerson_50 : decode cX12_drawPerson 50 = .ok (.getfield 33, 3) := by decide +kernel
theorem dX12_drawPerson_53 : decode cX12_drawPerson 53 = .ok (.bipush 84, 2) := by decide +kernel
theorem dX12_drawPerson_55 : decode cX12_drawPerson 55 = .ok (.iload_n 1, 1) := by decide +kernel
theorem dX12_drawPerson_56 : decode cX12_drawPerson 56 = .ok (.iadd, 1) := by decide +kernel
theorem dX12_drawPerson_57 : decode cX12_drawPerson 57 = .ok (.iconst 3, 1) := by decide +kernel
theorem dX12_drawPerson_58 : decode cX12_drawPerson 58 = .ok (.iastore, 1) := by decide +kernel
theorem dX12_drawPerson_59 : decode cX12_drawPerson 59 = .ok (.return_, 1) := by decide +kernel
theorem dX12_drawItem_0 : decode cX12_drawItem 0 = .ok (.aload_n 0, 1) := by decide +kernel
theorem dX12_drawItem_1 : decode cX12_drawItem 1 = .ok (.iconst 4, 1) := by decide +kernel
theorem dX12_drawItem_2 : decode cX12_drawItem 2 = .ok (.invokevirtual 402, 3) := by decide +kernel
theorem dX12_drawItem_5 : decode cX12_drawItem 5 = .ok (.istore_n 1, 1) := by decide +kernel
theorem dX12_drawItem_6 : decode cX12_drawItem 6 = .ok (.iload_n 1, 1) := by decide +kernel
theorem dX12_drawItem_7 : decode cX12_drawItem 7 = .ok (.ifCond .ne 74, 3) := by decide +kernel
theorem dX12_drawItem_10 : decode cX12_drawItem 10 = .ok (.aload_n 0, 1) := by decide +kernel
theorem dX12_drawItem_11 : decode cX12_drawItem 11 = .ok (.getfield 33, 3) := by decide +kernel
theorem dX12_drawItem_14 : decode cX12_drawItem 14 = .ok (.iconst 1, 1) := by decide +kernel
theorem dX12_drawItem_15 : decode cX12_drawItem 15 = .ok (.iaload, 1) := by decide +kernel
theorem dX12_drawItem_16 : decode cX12_drawItem 16 = .ok (.ifCond .le 65, 3) := by decide +kernel
theorem dX12_drawItem_19 : decode cX12_drawItem 19 = .ok (.aload_n 0, 1) := by decide +kernel
theorem dX12_drawItem_20 : decode cX12_drawItem 20 = .ok (.aload_n 0, 1) := by decide +kernel
theorem dX12_drawItem_21 : decode cX12_drawItem 21 = .ok (.getfield 33, 3) := by decide +kernel
theorem dX12_drawItem_24 : decode cX12_drawItem 24 = .ok (.iconst 1, 1) := by decide +kernel
theorem dX12_drawItem_25 : decode cX12_drawItem 25 = .ok (.iaload, 1) := by decide +kernel
theorem dX12_drawItem_26 : decode cX12_drawItem 26 = .ok (.invokevirtual 402, 3) := by decide +kernel
theorem dX12_drawItem_29 : decode cX12_drawItem 29 = .ok (.istore_n 2, 1) := by decide +kernel
theorem dX12_drawItem_30 : decode cX12_drawItem 30 = .ok (.aload_n 0, 1) := by decide +kernel
theorem dX12_drawItem_31 : decode cX12_drawItem 31 = .ok (.getfield 33, 3) := by decide +kernel
theorem dX12_drawItem_34 : decode cX12_drawItem 34 = .ok (.bipush 81, 2) := by decide +kernel
theorem dX12_drawItem_36 : decode cX12_drawItem 36 = .ok (.iaload, 1) := by decide +kernel
theorem dX12_drawItem_37 : decode cX12_drawItem 37 = .ok (.iload_n 2, 1) := by decide +kernel
theorem dX12_drawItem_38 : decode cX12_drawItem 38 = .ok (.invokestatic 205, 3) := by decide +kernel
theorem dX12_drawItem_41 : decode cX12_drawItem 41 = .ok (.ifCond .eq 19, 3) := by decide +kernel
theorem dX12_drawItem_44 : decode cX12_drawItem 44 = .ok (.aload_n 0, 1) := by decide +kernel
theorem dX12_drawItem_45 : decode cX12_drawItem 45 = .ok (.iload_n 2, 1) := by decide +kernel
theorem dX12_drawItem_46 : decode cX12_drawItem 46 = .ok (.invokevirtual 320, 3) := by decide +kernel
theorem dX12_drawItem_49 : decode cX12_drawItem 49 = .ok (.ifCond .ne 32, 3) := by decide +kernel
theorem dX12_drawItem_52 : decode cX12_drawItem 52 = .ok (.aload_n 0, 1) := by decide +kernel
theorem dX12_drawItem_53 : decode cX12_drawItem 53 = .ok (.iload_n 2, 1) := by decide +kernel
theorem dX12_drawItem_54 : decode cX12_drawItem 54 = .ok (.invokevirtual 323, 3) := by decide +kernel
theorem dX12_drawItem_57 : decode cX12_drawItem 57 = .ok (.goto 24, 3) := by decide +kernel
theorem dX12_drawItem_60 : decode cX12_drawItem 60 = .ok (.aload_n 0, 1) := by decide +kernel
theorem dX12_drawItem_61 : decode cX12_drawItem 61 = .ok (.iload_n 2, 1) := by decide +kernel
theorem dX12_drawItem_62 : decode cX12_drawItem 62 = .ok (.invokevirtual 326, 3) := by decide +kernel
theorem dX12_drawItem_65 : decode cX12_drawItem 65 = .ok (.ifCond .ne 16, 3) := by decide +kernel
theorem dX12_drawItem_68 : decode cX12_drawItem 68 = .ok (.aload_n 0, 1) := by decide +kernel
theorem dX12_drawItem_69 : decode cX12_drawItem 69 = .ok (.getfield 33, 3) := by decide +kernel
theorem dX12_drawItem_72 : decode cX12_drawItem 72 = .ok (.bipush 81, 2) := by decide +kernel
theorem dX12_drawItem_74 : decode cX12_drawItem 74 = .ok (.dup2, 1) := by decide +kernel
theorem dX12_drawItem_75 : decode cX12_drawItem 75 = .ok (.iaload, 1) := by decide +kernel
theorem dX12_drawItem_76 : decode cX12_drawItem 76 = .ok (.iconst 1, 1) := by decide +kernel
theorem dX12_drawItem_77 : decode cX12_drawItem 77 = .ok (.iload_n 2, 1) := by decide +kernel
theorem dX12_drawItem_78 : decode cX12_drawItem 78 = .ok (.ishl, 1) := by decide +kernel
theorem dX12_drawItem_79 : decode cX12_drawItem 79 = .ok (.ior, 1) := by decide +kernel
theorem dX12_drawItem_80 : decode cX12_drawItem 80 = .ok (.iastore, 1) := by decide +kernel
theorem dX12_drawItem_81 : decode cX12_drawItem 81 = .ok (.iload_n 1, 1) := by decide +kernel
theorem dX12_drawItem_82 : decode cX12_drawItem 82 = .ok (.iconst 1, 1) := by decide +kernel
theorem dX12_drawItem_83 : decode cX12_drawItem 83 = .ok (.if_icmp .ne 12, 3) := by decide +kernel
theorem dX12_drawItem_86 : decode cX12_drawItem 86 = .ok (.aload_n 0, 1) := by decide +kernel
theorem dX12_drawItem_87 : decode cX12_drawItem 87 = .ok (.getfield 33, 3) := by decide +kernel
theorem dX12_drawItem_90 : decode cX12_drawItem 90 = .ok (.iconst 2, 1) := by decide +kernel
theorem dX12_drawItem_91 : decode cX12_drawItem 91 = .ok (.iaload, 1) := by decide +kernel
theorem dX12_drawItem_92 : decode cX12_drawItem 92 = .ok (.ifCond .ne 4, 3) := by decide +kernel
theorem dX12_drawItem_95 : decode cX12_drawItem 95 = .ok (.return_, 1) := by decide +kernel
theorem dX12_drawItem_96 : decode cX12_drawItem 96 = .ok (.aload_n 0, 1) := by decide +kernel
theorem dX12_drawItem_97 : decode cX12_drawItem 97 = .ok (.aload_n 0, 1) := by decide +kernel
theorem dX12_drawItem_98 : decode cX12_drawItem 98 = .ok (.getfield 33, 3) := by decide +kernel
theorem dX12_drawItem_101 : decode cX12_drawItem 101 = .ok (.iconst 2, 1) := by decide +kernel
theorem dX12_drawItem_102 : decode cX12_drawItem 102 = .ok (.iaload, 1) := by decide +kernel
theorem dX12_drawItem_103 : decode cX12_drawItem 103 = .ok (.invokevirtual 402, 3) := by decide +kernel
theorem dX12_drawItem_106 : decode cX12_drawItem 106 = .ok (.istore_n 2, 1) := by decide +kernel
theorem dX12_drawItem_107 : decode cX12_drawItem 107 = .ok (.aload_n 0, 1) := by decide +kernel
theorem dX12_drawItem_108 : decode cX12_drawItem 108 = .ok (.iload_n 2, 1) := by decide +kernel
theorem dX12_drawItem_109 : decode cX12_drawItem 109 = .ok (.invokevirtual 329, 3) := by decide +kernel
theorem dX12_drawItem_112 : decode cX12_drawItem 112 = .ok (.ifCond .ne 16, 3) := by decide +kernel
theorem dX12_drawItem_115 : decode cX12_drawItem 115 = .ok (.aload_n 0, 1) := by decide +kernel
theorem dX12_drawItem_116 : decode cX12_drawItem 116 = .ok (.getfield 33, 3) := by decide +kernel
theorem dX12_drawItem_119 : decode cX12_drawItem 119 = .ok (.bipush 82, 2) := by decide +kernel
theorem dX12_drawItem_121 : decode cX12_drawItem 121 = .ok (.dup2, 1) := by decide +kernel
theorem dX12_drawItem_122 : decode cX12_drawItem 122 = .ok (.iaload, 1) := by decide +kernel
theorem dX12_drawItem_123 : decode cX12_drawItem 123 = .ok (.iconst 1, 1) := by decide +kernel
theorem dX12_drawItem_124 : decode cX12_drawItem 124 = .ok (.iload_n 2, 1) := by decide +kernel
theorem dX12_drawItem_125 : decode cX12_drawItem 125 = .ok (.ishl, 1) := by decide +kernel
theorem dX12_drawItem_126 : decode cX12_drawItem 126 = .ok (.ior, 1) := by decide +kernel
theorem dX12_drawItem_127 : decode cX12_drawItem 127 = .ok (.iastore, 1) := by decide +kernel
theorem dX12_drawItem_128 : decode cX12_drawItem 128 = .ok (.return_, 1) := by decide +kernel
theorem dX12_draws_0 : decode cX12_draws 0 = .ok (.aload_n 0, 1) := by decide +kernel
theorem dX12_draws_1 : decode cX12_draws 1 = .ok (.iload_n 2, 1) := by decide +kernel
theorem dX12_draws_2 : decode cX12_draws 2 = .ok (.putfield 398, 3) := by decide +kernel
theorem dX12_draws_5 : decode cX12_draws 5 = .ok (.iconst 0, 1) := by decide +kernel
theorem dX12_draws_6 : decode cX12_draws 6 = .ok (.istore_n 3, 1) := by decide +kernel
theorem dX12_draws_7 : decode cX12_draws 7 = .ok (.iload_n 3, 1) := by decide +kernel
theorem dX12_draws_8 : decode cX12_draws 8 = .ok (.iload_n 1, 1) := by decide +kernel
theorem dX12_draws_9 : decode cX12_draws 9 = .ok (.if_icmp .ge 56, 3) := by decide +kernel
theorem dX12_draws_12 : decode cX12_draws 12 = .ok (.aload_n 0, 1) := by decide +kernel
theorem dX12_draws_13 : decode cX12_draws 13 = .ok (.getfield 33, 3) := by decide +kernel
theorem dX12_draws_16 : decode cX12_draws 16 = .ok (.bipush 80, 2) := by decide +kernel
theorem dX12_draws_18 : decode cX12_draws 18 = .ok (.iaload, 1) := by decide +kernel
theorem dX12_draws_19 : decode cX12_draws 19 = .ok (.sipush 400, 3) := by decide +kernel
theorem dX12_draws_22 : decode cX12_draws 22 = .ok (.if_icmp .ge 43, 3) := by decide +kernel
theorem dX12_draws_25 : decode cX12_draws 25 = .ok (.iconst 0, 1) := by decide +kernel
theorem dX12_draws_26 : decode cX12_draws 26 = .ok (.istore 4, 2) := by decide +kernel
theorem dX12_draws_28 : decode cX12_draws 28 = .ok (.iload 4, 2) := by decide +kernel
theorem dX12_draws_30 : decode cX12_draws 30 = .ok (.aload_n 0, 1) := by decide +kernel
theorem dX12_draws_31 : decode cX12_draws 31 = .ok (.getfield 33, 3) := by decide +kernel
theorem dX12_draws_34 : decode cX12_draws 34 = .ok (.iconst 0, 1) := by decide +kernel
theorem dX12_draws_35 : decode cX12_draws 35 = .ok (.iaload, 1) := by decide +kernel
theorem dX12_draws_36 : decode cX12_draws 36 = .ok (.if_icmp .ge 15, 3) := by decide +kernel
theorem dX12_draws_39 : decode cX12_draws 39 = .ok (.aload_n 0, 1) := by decide +kernel
theorem dX12_draws_40 : decode cX12_draws 40 = .ok (.iload 4, 2) := by decide +kernel
theorem dX12_draws_42 : decode cX12_draws 42 = .ok (.invokevirtual 405, 3) := by decide +kernel
theorem dX12_draws_45 : decode cX12_draws 45 = .ok (.iinc 4 1, 3) := by decide +kernel
theorem dX12_draws_48 : decode cX12_draws 48 = .ok (.goto (-20), 3) := by decide +kernel
theorem dX12_draws_51 : decode cX12_draws 51 = .ok (.aload_n 0, 1) := by decide +kernel
theorem dX12_draws_52 : decode cX12_draws 52 = .ok (.invokevirtual 408, 3) := by decide +kernel
theorem dX12_draws_55 : decode cX12_draws 55 = .ok (.aload_n 0, 1) := by decide +kernel
theorem dX12_draws_56 : decode cX12_draws 56 = .ok (.invokevirtual 314, 3) := by decide +kernel
theorem dX12_draws_59 : decode cX12_draws 59 = .ok (.iinc 3 1, 3) := by decide +kernel
theorem dX12_draws_62 : decode cX12_draws 62 = .ok (.goto (-55), 3) := by decide +kernel
theorem dX12_draws_65 : decode cX12_draws 65 = .ok (.iload_n 3, 1) := by decide +kernel
theorem dX12_draws_66 : decode cX12_draws 66 = .ok (.ireturn, 1) := by decide +kernel
theorem dX12_drawn_0 : decode cX12_drawn 0 = .ok (.aload_n 0, 1) := by decide +kernel
theorem dX12_drawn_1 : decode cX12_drawn 1 = .ok (.iconst 0, 1) := by decide +kernel
theorem dX12_drawn_2 : decode cX12_drawn 2 = .ok (.putfield 1, 3) := by decide +kernel
theorem dX12_drawn_5 : decode cX12_drawn 5 = .ok (.iload_n 1, 1) := by decide +kernel
theorem dX12_drawn_6 : decode cX12_drawn 6 = .ok (.iconst 1, 1) := by decide +kernel
theorem dX12_drawn_7 : decode cX12_drawn 7 = .ok (.bipush 60, 2) := by decide +kernel
theorem dX12_drawn_9 : decode cX12_drawn 9 = .ok (.invokestatic 180, 3) := by decide +kernel
theorem dX12_drawn_12 : decode cX12_drawn 12 = .ok (.ifCond .ne 5, 3) := by decide +kernel
theorem dX12_drawn_15 : decode cX12_drawn 15 = .ok (.iconst (-1), 1) := by decide +kernel
theorem dX12_drawn_16 : decode cX12_drawn 16 = .ok (.ireturn, 1) := by decide +kernel
theorem dX12_drawn_17 : decode cX12_drawn 17 = .ok (.aload_n 0, 1) := by decide +kernel
theorem dX12_drawn_18 : decode cX12_drawn 18 = .ok (.getfield 33, 3) := by decide +kernel
theorem dX12_drawn_21 : decode cX12_drawn 21 = .ok (.bipush 80, 2) := by decide +kernel
theorem dX12_drawn_23 : decode cX12_drawn 23 = .ok (.iaload, 1) := by decide +kernel
theorem dX12_drawn_24 : decode cX12_drawn 24 = .ok (.sipush 400, 3) := by decide +kernel
theorem dX12_drawn_27 : decode cX12_drawn 27 = .ok (.if_icmp .ge 7, 3) := by decide +kernel
theorem dX12_drawn_30 : decode cX12_drawn 30 = .ok (.aload_n 0, 1) := by decide +kernel
theorem dX12_drawn_31 : decode cX12_drawn 31 = .ok (.invokevirtual 317, 3) := by decide +kernel
theorem dX12_drawn_34 : decode cX12_drawn 34 = .ok (.aload_n 0, 1) := by decide +kernel
theorem dX12_drawn_35 : decode cX12_drawn 35 = .ok (.iload_n 1, 1) := by decide +kernel
theorem dX12_drawn_36 : decode cX12_drawn 36 = .ok (.iload_n 2, 1) := by decide +kernel
theorem dX12_drawn_37 : decode cX12_drawn 37 = .ok (.invokevirtual 411, 3) := by decide +kernel
theorem dX12_drawn_40 : decode cX12_drawn 40 = .ok (.ireturn, 1) := by decide +kernel
theorem dX12_odds_0 : decode cX12_odds 0 = .ok (.aload_n 0, 1) := by decide +kernel
theorem dX12_odds_1 : decode cX12_odds 1 = .ok (.iconst 0, 1) := by decide +kernel
theorem dX12_odds_2 : decode cX12_odds 2 = .ok (.putfield 1, 3) := by decide +kernel
theorem dX12_odds_5 : decode cX12_odds 5 = .ok (.aload_n 0, 1) := by decide +kernel
theorem dX12_odds_6 : decode cX12_odds 6 = .ok (.iload_n 1, 1) := by decide +kernel
theorem dX12_odds_7 : decode cX12_odds 7 = .ok (.invokevirtual 280, 3) := by decide +kernel
theorem dX12_odds_10 : decode cX12_odds 10 = .ok (.ifCond .eq 13, 3) := by decide +kernel
theorem dX12_odds_13 : decode cX12_odds 13 = .ok (.iload_n 2, 1) := by decide +kernel
theorem dX12_odds_14 : decode cX12_odds 14 = .ok (.iconst 1, 1) := by decide +kernel
theorem dX12_odds_15 : decode cX12_odds 15 = .ok (.bipush 30, 2) := by decide +kernel
theorem dX12_odds_17 : decode cX12_odds 17 = .ok (.invokestatic 180, 3) := by decide +kernel
theorem dX12_odds_20 : decode cX12_odds 20 = .ok (.ifCond .ne 5, 3) := by decide +kernel
theorem dX12_odds_23 : decode cX12_odds 23 = .ok (.iconst (-1), 1) := by decide +kernel
theorem dX12_odds_24 : decode cX12_odds 24 = .ok (.ireturn, 1) := by decide +kernel
theorem dX12_odds_25 : decode cX12_odds 25 = .ok (.aload_n 0, 1) := by decide +kernel
theorem dX12_odds_26 : decode cX12_odds 26 = .ok (.invokevirtual 414, 3) := by decide +kernel
theorem dX12_odds_29 : decode cX12_odds 29 = .ok (.iconst 0, 1) := by decide +kernel
theorem dX12_odds_30 : decode cX12_odds 30 = .ok (.istore 4, 2) := by decide +kernel
theorem dX12_odds_32 : decode cX12_odds 32 = .ok (.iconst 0, 1) := by decide +kernel
theorem dX12_odds_33 : decode cX12_odds 33 = .ok (.istore 5, 2) := by decide +kernel
theorem dX12_odds_35 : decode cX12_odds 35 = .ok (.iload 5, 2) := by decide +kernel
theorem dX12_odds_37 : decode cX12_odds 37 = .ok (.iload_n 2, 1) := by decide +kernel
theorem dX12_odds_38 : decode cX12_odds 38 = .ok (.if_icmp .ge 51, 3) := by decide +kernel
theorem dX12_odds_41 : decode cX12_odds 41 = .ok (.aload_n 0, 1) := by decide +kernel
theorem dX12_odds_42 : decode cX12_odds 42 = .ok (.bipush 20, 2) := by decide +kernel
theorem dX12_odds_44 : decode cX12_odds 44 = .ok (.iload_n 3, 1) := by decide +kernel
theorem dX12_odds_45 : decode cX12_odds 45 = .ok (.iload 5, 2) := by decide +kernel
theorem dX12_odds_47 : decode cX12_odds 47 = .ok (.iadd, 1) := by decide +kernel
theorem dX12_odds_48 : decode cX12_odds 48 = .ok (.invokevirtual 411, 3) := by decide +kernel
theorem dX12_odds_51 : decode cX12_odds 51 = .ok (.pop, 1) := by decide +kernel
theorem dX12_odds_52 : decode cX12_odds 52 = .ok (.iload 4, 2) := by decide +kernel
theorem dX12_odds_54 : decode cX12_odds 54 = .ok (.aload_n 0, 1) := by decide +kernel
theorem dX12_odds_55 : decode cX12_odds 55 = .ok (.iload_n 1, 1) := by decide +kernel
theorem dX12_odds_56 : decode cX12_odds 56 = .ok (.invokevirtual 268, 3) := by decide +kernel
theorem dX12_odds_59 : decode cX12_odds 59 = .ok (.ifCond .eq 16, 3) := by decide +kernel
theorem dX12_odds_62 : decode cX12_odds 62 = .ok (.aload_n 0, 1) := by decide +kernel
theorem dX12_odds_63 : decode cX12_odds 63 = .ok (.iload_n 1, 1) := by decide +kernel
theorem dX12_odds_64 : decode cX12_odds 64 = .ok (.invokevirtual 290, 3) := by decide +kernel
theorem dX12_odds_67 : decode cX12_odds 67 = .ok (.iconst 1, 1) := by decide +kernel
theorem dX12_odds_68 : decode cX12_odds 68 = .ok (.if_icmp .ne 7, 3) := by decide +kernel
theorem dX12_odds_71 : decode cX12_odds 71 = .ok (.iconst 1, 1) := by decide +kernel
theorem dX12_odds_72 : decode cX12_odds 72 = .ok (.goto 4, 3) := by decide +kernel
theorem dX12_odds_75 : decode cX12_odds 75 = .ok (.iconst 0, 1) := by decide +kernel
theorem dX12_odds_76 : decode cX12_odds 76 = .ok (.iadd, 1) := by decide +kernel
theorem dX12_odds_77 : decode cX12_odds 77 = .ok (.istore 4, 2) := by decide +kernel
theorem dX12_odds_79 : decode cX12_odds 79 = .ok (.aload_n 0, 1) := by decide +kernel
theorem dX12_odds_80 : decode cX12_odds 80 = .ok (.invokevirtual 417, 3) := by decide +kernel
theorem dX12_odds_83 : decode cX12_odds 83 = .ok (.iinc 5 1, 3) := by decide +kernel
theorem dX12_odds_86 : decode cX12_odds 86 = .ok (.goto (-51), 3) := by decide +kernel
theorem dX12_odds_89 : decode cX12_odds 89 = .ok (.iload 4, 2) := by decide +kernel
theorem dX12_odds_91 : decode cX12_odds 91 = .ok (.ireturn, 1) := by decide +kernel
theorem dX12_bookLine_0 : decode cX12_bookLine 0 = .ok (.iconst 3, 1) := by decide +kernel
theorem dX12_bookLine_1 : decode cX12_bookLine 1 = .ok (.aload_n 0, 1) := by decide +kernel
theorem dX12_bookLine_2 : decode cX12_bookLine 2 = .ok (.getfield 420, 3) := by decide +kernel
theorem dX12_bookLine_5 : decode cX12_bookLine 5 = .ok (.imul, 1) := by decide +kernel
theorem dX12_bookLine_6 : decode cX12_bookLine 6 = .ok (.istore_n 1, 1) := by decide +kernel
theorem dX12_bookLine_7 : decode cX12_bookLine 7 = .ok (.aload_n 0, 1) := by decide +kernel
theorem dX12_bookLine_8 : decode cX12_bookLine 8 = .ok (.ldc2_w 101, 3) := by decide +kernel
theorem dX12_bookLine_11 : decode cX12_bookLine 11 = .ok (.invokevirtual 208, 3) := by decide +kernel
theorem dX12_bookLine_14 : decode cX12_bookLine 14 = .ok (.ifCond .eq 7, 3) := by decide +kernel
theorem dX12_bookLine_17 : decode cX12_bookLine 17 = .ok (.iconst 2, 1) := by decide +kernel
theorem dX12_bookLine_18 : decode cX12_bookLine 18 = .ok (.goto 46, 3) := by decide +kernel
theorem dX12_bookLine_21 : decode cX12_bookLine 21 = .ok (.aload_n 0, 1) := by decide +kernel
theorem dX12_bookLine_22 : decode cX12_bookLine 22 = .ok (.ldc2_w 103, 3) := by decide +kernel
theorem dX12_bookLine_25 : decode cX12_bookLine 25 = .ok (.invokevirtual 208, 3) := by decide +kernel
theorem dX12_bookLine_28 : decode cX12_bookLine 28 = .ok (.ifCond .eq 7, 3) := by decide +kernel
theorem dX12_bookLine_31 : decode cX12_bookLine 31 = .ok (.iconst 3, 1) := by decide +kernel
theorem dX12_bookLine_32 : decode cX12_bookLine 32 = .ok (.goto 32, 3) := by decide +kernel
theorem dX12_bookLine_35 : decode cX12_bookLine 35 = .ok (.aload_n 0, 1) := by decide +kernel
theorem dX12_bookLine_36 : decode cX12_bookLine 36 = .ok (.ldc2_w 105, 3) := by decide +kernel
theorem dX12_bookLine_39 : decode cX12_bookLine 39 = .ok (.invokevirtual 208, 3) := by decide +kernel
theorem dX12_bookLine_42 : decode cX12_bookLine 42 = .ok (.ifCond .eq 7, 3) := by decide +kernel
theorem dX12_bookLine_45 : decode cX12_bookLine 45 = .ok (.iconst 4, 1) := by decide +kernel
theorem dX12_bookLine_46 : decode cX12_bookLine 46 = .ok (.goto 18, 3) := by decide +kernel
theorem dX12_bookLine_49 : decode cX12_bookLine 49 = .ok (.aload_n 0, 1) := by decide +kernel
theorem dX12_bookLine_50 : decode cX12_bookLine 50 = .ok (.ldc2_w 107, 3) := by decide +kernel
theorem dX12_bookLine_53 : decode cX12_bookLine 53 = .ok (.invokevirtual 208, 3) := by decide +kernel
theorem dX12_bookLine_56 : decode cX12_bookLine 56 = .ok (.ifCond .eq 7, 3) := by decide +kernel
theorem dX12_bookLine_59 : decode cX12_bookLine 59 = .ok (.iconst 5, 1) := by decide +kernel
theorem dX12_bookLine_60 : decode cX12_bookLine 60 = .ok (.goto 4, 3) := by decide +kernel
theorem dX12_bookLine_63 : decode cX12_bookLine 63 = .ok (.iconst 0, 1) := by decide +kernel
theorem dX12_bookLine_64 : decode cX12_bookLine 64 = .ok (.istore_n 2, 1) := by decide +kernel
theorem dX12_bookLine_65 : decode cX12_bookLine 65 = .ok (.iload_n 2, 1) := by decide +kernel
theorem dX12_bookLine_66 : decode cX12_bookLine 66 = .ok (.ifCond .ne 19, 3) := by decide +kernel
theorem dX12_bookLine_69 : decode cX12_bookLine 69 = .ok (.aload_n 0, 1) := by decide +kernel
theorem dX12_bookLine_70 : decode cX12_bookLine 70 = .ok (.iconst 0, 1) := by decide +kernel
theorem dX12_bookLine_71 : decode cX12_bookLine 71 = .ok (.aload_n 0, 1) := by decide +kernel
theorem dX12_bookLine_72 : decode cX12_bookLine 72 = .ok (.getfield 33, 3) := by decide +kernel
theorem dX12_bookLine_75 : decode cX12_bookLine 75 = .ok (.iconst 0, 1) := by decide +kernel
theorem dX12_bookLine_76 : decode cX12_bookLine 76 = .ok (.iaload, 1) := by decide +kernel
theorem dX12_bookLine_77 : decode cX12_bookLine 77 = .ok (.invokevirtual 199, 3) := by decide +kernel
theorem dX12_bookLine_80 : decode cX12_bookLine 80 = .ok (.ifCond .ne 5, 3) := by decide +kernel
theorem dX12_bookLine_83 : decode cX12_bookLine 83 = .ok (.iconst 0, 1) := by decide +kernel
theorem dX12_bookLine_84 : decode cX12_bookLine 84 = .ok (.ireturn, 1) := by decide +kernel
theorem dX12_bookLine_85 : decode cX12_bookLine 85 = .ok (.aload_n 0, 1) := by decide +kernel
theorem dX12_bookLine_86 : decode cX12_bookLine 86 = .ok (.getfield 420, 3) := by decide +kernel
theorem dX12_bookLine_89 : decode cX12_bookLine 89 = .ok (.bipush 40, 2) := by decide +kernel
theorem dX12_bookLine_91 : decode cX12_bookLine 91 = .ok (.if_icmp .ne 9, 3) := by decide +kernel
theorem dX12_bookLine_94 : decode cX12_bookLine 94 = .ok (.aload_n 0, 1) := by decide +kernel
theorem dX12_bookLine_95 : decode cX12_bookLine 95 = .ok (.iconst 4, 1) := by decide +kernel
theorem dX12_bookLine_96 : decode cX12_bookLine 96 = .ok (.invokevirtual 174, 3) := by decide +kernel
theorem dX12_bookLine_99 : decode cX12_bookLine 99 = .ok (.ireturn, 1) := by decide +kernel
theorem dX12_bookLine_100 : decode cX12_bookLine 100 = .ok (.aload_n 0, 1) := by decide +kernel
theorem dX12_bookLine_101 : decode cX12_bookLine 101 = .ok (.getfield 184, 3) := by decide +kernel
theorem dX12_bookLine_104 : decode cX12_bookLine 104 = .ok (.istore_n 3, 1) := by decide +kernel
theorem dX12_bookLine_105 : decode cX12_bookLine 105 = .ok (.aload_n 0, 1) := by decide +kernel
theorem dX12_bookLine_106 : decode cX12_bookLine 106 = .ok (.invokevirtual 177, 3) := by decide +kernel
theorem dX12_bookLine_109 : decode cX12_bookLine 109 = .ok (.aload_n 0, 1) := by decide +kernel
theorem dX12_bookLine_110 : decode cX12_bookLine 110 = .ok (.getfield 40, 3) := by decide +kernel
theorem dX12_bookLine_113 : decode cX12_bookLine 113 = .ok (.iload_n 1, 1) := by decide +kernel
theorem dX12_bookLine_114 : decode cX12_bookLine 114 = .ok (.iload_n 2, 1) := by decide +kernel
theorem dX12_bookLine_115 : decode cX12_bookLine 115 = .ok (.iastore, 1) := by decide +kernel
theorem dX12_bookLine_116 : decode cX12_bookLine 116 = .ok (.aload_n 0, 1) := by decide +kernel
theorem dX12_bookLine_117 : decode cX12_bookLine 117 = .ok (.getfield 40, 3) := by decide +kernel
theorem dX12_bookLine_120 : decode cX12_bookLine 120 = .ok (.iload_n 1, 1) := by decide +kernel
theorem dX12_bookLine_121 : decode cX12_bookLine 121 = .ok (.iconst 1, 1) := by decide +kernel
theorem dX12_bookLine_122 : decode cX12_bookLine 122 = .ok (.iadd, 1) := by decide +kernel
theorem dX12_bookLine_123 : decode cX12_bookLine 123 = .ok (.iload_n 3, 1) := by decide +kernel
theorem dX12_bookLine_124 : decode cX12_bookLine 124 = .ok (.iastore, 1) := by decide +kernel
theorem dX12_bookLine_125 : decode cX12_bookLine 125 = .ok (.iload_n 2, 1) := by decide +kernel
theorem dX12_bookLine_126 : decode cX12_bookLine 126 = .ok (.ifCond .ne 55, 3) := by decide +kernel
theorem dX12_bookLine_129 : decode cX12_bookLine 129 = .ok (.aload_n 0, 1) := by decide +kernel
theorem dX12_bookLine_130 : decode cX12_bookLine 130 = .ok (.ldc2_w 99, 3) := by decide +kernel
theorem dX12_bookLine_133 : decode cX12_bookLine 133 = .ok (.invokevirtual 208, 3) := by decide +kernel
theorem dX12_bookLine_136 : decode cX12_bookLine 136 = .ok (.istore 4, 2) := by decide +kernel
theorem dX12_bookLine_138 : decode cX12_bookLine 138 = .ok (.iload 4, 2) := by decide +kernel
theorem dX12_bookLine_140 : decode cX12_bookLine 140 = .ok (.ifCond .ne 19, 3) := by decide +kernel
theorem dX12_bookLine_143 : decode cX12_bookLine 143 = .ok (.aload_n 0, 1) := by decide +kernel
theorem dX12_bookLine_144 : decode cX12_bookLine 144 = .ok (.ldc2_w 97, 3) := by decide +kernel
theorem dX12_bookLine_147 : decode cX12_bookLine 147 = .ok (.invokevirtual 208, 3) := by decide +kernel
theorem dX12_bookLine_150 : decode cX12_bookLine 150 = .ok (.ifCond .ne 9, 3) := by decide +kernel
theorem dX12_bookLine_153 : decode cX12_bookLine 153 = .ok (.aload_n 0, 1) := by decide +kernel
theorem dX12_bookLine_154 : decode cX12_bookLine 154 = .ok (.iconst 1, 1) := by decide +kernel
theorem dX12_bookLine_155 : decode cX12_bookLine 155 = .ok (.invokevirtual 174, 3) := by decide +kernel
theorem dX12_bookLine_158 : decode cX12_bookLine 158 = .ok (.ireturn, 1) := by decide +kernel
theorem dX12_bookLine_159 : decode cX12_bookLine 159 = .ok (.aload_n 0, 1) := by decide +kernel
theorem dX12_bookLine_160 : decode cX12_bookLine 160 = .ok (.getfield 40, 3) := by decide +kernel
theorem dX12_bookLine_163 : decode cX12_bookLine 163 = .ok (.iload_n 1, 1) := by decide +kernel
theorem dX12_bookLine_164 : decode cX12_bookLine 164 = .ok (.iload 4, 2) := by decide +kernel
theorem dX12_bookLine_166 : decode cX12_bookLine 166 = .ok (.ifCond .eq 7, 3) := by decide +kernel
theorem dX12_bookLine_169 : decode cX12_bookLine 169 = .ok (.iconst 1, 1) := by decide +kernel
theorem dX12_bookLine_170 : decode cX12_bookLine 170 = .ok (.goto 4, 3) := by decide +kernel
theorem dX12_bookLine_173 : decode cX12_bookLine 173 = .ok (.iconst 0, 1) := by decide +kernel
theorem dX12_bookLine_174 : decode cX12_bookLine 174 = .ok (.iastore, 1) := by decide +kernel
theorem dX12_bookLine_175 : decode cX12_bookLine 175 = .ok (.aload_n 0, 1) := by decide +kernel
theorem dX12_bookLine_176 : decode cX12_bookLine 176 = .ok (.invokevirtual 177, 3) := by decide +kernel
theorem dX12_bookLine_179 : decode cX12_bookLine 179 = .ok (.iconst 1, 1) := by decide +kernel
