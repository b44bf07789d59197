theorem dX11_who_69 : decode cX11_who 69 = .ok (.getfield 29, 3) := by decide +kernel
theorem dX11_who_72 : decode cX11_who 72 = .ok (.getfield 163, 3) := by decide +kernel
theorem dX11_who_75 : decode cX11_who 75 = .ok (.aload_n 0, 1) := by decide +kernel
theorem dX11_who_76 : decode cX11_who 76 = .ok (.getfield 19, 3) := by decide +kernel
theorem dX11_who_79 : decode cX11_who 79 = .ok (.iload_n 3, 1) := by decide +kernel
theorem dX11_who_80 : decode cX11_who 80 = .ok (.invokevirtual 166, 3) := by decide +kernel
theorem dX11_who_83 : decode cX11_who 83 = .ok (.iand, 1) := by decide +kernel
theorem dX11_who_84 : decode cX11_who 84 = .ok (.aload_n 0, 1) := by decide +kernel
theorem dX11_who_85 : decode cX11_who 85 = .ok (.getfield 10, 3) := by decide +kernel
theorem dX11_who_88 : decode cX11_who 88 = .ok (.getfield 291, 3) := by decide +kernel
theorem dX11_who_91 : decode cX11_who 91 = .ok (.iload_n 1, 1) := by decide +kernel
theorem dX11_who_92 : decode cX11_who 92 = .ok (.invokevirtual 294, 3) := by decide +kernel
theorem dX11_who_95 : decode cX11_who 95 = .ok (.ifCond .eq 9, 3) := by decide +kernel
theorem dX11_who_98 : decode cX11_who 98 = .ok (.iload_n 2, 1) := by decide +kernel
theorem dX11_who_99 : decode cX11_who 99 = .ok (.iconst 1, 1) := by decide +kernel
theorem dX11_who_100 : decode cX11_who 100 = .ok (.iload_n 3, 1) := by decide +kernel
theorem dX11_who_101 : decode cX11_who 101 = .ok (.ishl, 1) := by decide +kernel
theorem dX11_who_102 : decode cX11_who 102 = .ok (.ior, 1) := by decide +kernel
theorem dX11_who_103 : decode cX11_who 103 = .ok (.istore_n 2, 1) := by decide +kernel
theorem dX11_who_104 : decode cX11_who 104 = .ok (.iinc 3 1, 3) := by decide +kernel
theorem dX11_who_107 : decode cX11_who 107 = .ok (.goto (-74), 3) := by decide +kernel
theorem dX11_who_110 : decode cX11_who 110 = .ok (.iload_n 2, 1) := by decide +kernel
theorem dX11_who_111 : decode cX11_who 111 = .ok (.ireturn, 1) := by decide +kernel
theorem dX11_heights_0 : decode cX11_heights 0 = .ok (.aload_n 0, 1) := by decide +kernel
theorem dX11_heights_1 : decode cX11_heights 1 = .ok (.getfield 10, 3) := by decide +kernel
theorem dX11_heights_4 : decode cX11_heights 4 = .ok (.getfield 112, 3) := by decide +kernel
theorem dX11_heights_7 : decode cX11_heights 7 = .ok (.istore_n 1, 1) := by decide +kernel
theorem dX11_heights_8 : decode cX11_heights 8 = .ok (.aload_n 0, 1) := by decide +kernel
theorem dX11_heights_9 : decode cX11_heights 9 = .ok (.getfield 10, 3) := by decide +kernel
theorem dX11_heights_12 : decode cX11_heights 12 = .ok (.iconst 0, 1) := by decide +kernel
theorem dX11_heights_13 : decode cX11_heights 13 = .ok (.putfield 112, 3) := by decide +kernel
theorem dX11_heights_16 : decode cX11_heights 16 = .ok (.iload_n 1, 1) := by decide +kernel
theorem dX11_heights_17 : decode cX11_heights 17 = .ok (.iconst 2, 1) := by decide +kernel
theorem dX11_heights_18 : decode cX11_heights 18 = .ok (.if_icmp .lt 15, 3) := by decide +kernel
theorem dX11_heights_21 : decode cX11_heights 21 = .ok (.iload_n 1, 1) := by decide +kernel
theorem dX11_heights_22 : decode cX11_heights 22 = .ok (.bipush 10, 2) := by decide +kernel
theorem dX11_heights_24 : decode cX11_heights 24 = .ok (.if_icmp .gt 9, 3) := by decide +kernel
theorem dX11_heights_27 : decode cX11_heights 27 = .ok (.iload_n 1, 1) := by decide +kernel
theorem dX11_heights_28 : decode cX11_heights 28 = .ok (.iconst 2, 1) := by decide +kernel
theorem dX11_heights_29 : decode cX11_heights 29 = .ok (.irem, 1) := by decide +kernel
theorem dX11_heights_30 : decode cX11_heights 30 = .ok (.ifCond .eq 5, 3) := by decide +kernel
theorem dX11_heights_33 : decode cX11_heights 33 = .ok (.iconst (-1), 1) := by decide +kernel
theorem dX11_heights_34 : decode cX11_heights 34 = .ok (.ireturn, 1) := by decide +kernel
theorem dX11_heights_35 : decode cX11_heights 35 = .ok (.iconst 0, 1) := by decide +kernel
theorem dX11_heights_36 : decode cX11_heights 36 = .ok (.istore_n 2, 1) := by decide +kernel
theorem dX11_heights_37 : decode cX11_heights 37 = .ok (.iload_n 2, 1) := by decide +kernel
theorem dX11_heights_38 : decode cX11_heights 38 = .ok (.iload_n 1, 1) := by decide +kernel
theorem dX11_heights_39 : decode cX11_heights 39 = .ok (.if_icmp .ge 30, 3) := by decide +kernel
theorem dX11_heights_42 : decode cX11_heights 42 = .ok (.aload_n 0, 1) := by decide +kernel
theorem dX11_heights_43 : decode cX11_heights 43 = .ok (.getfield 19, 3) := by decide +kernel
theorem dX11_heights_46 : decode cX11_heights 46 = .ok (.aload_n 0, 1) := by decide +kernel
theorem dX11_heights_47 : decode cX11_heights 47 = .ok (.getfield 10, 3) := by decide +kernel
theorem dX11_heights_50 : decode cX11_heights 50 = .ok (.getfield 291, 3) := by decide +kernel
theorem dX11_heights_53 : decode cX11_heights 53 = .ok (.iload_n 2, 1) := by decide +kernel
theorem dX11_heights_54 : decode cX11_heights 54 = .ok (.iaload, 1) := by decide +kernel
theorem dX11_heights_55 : decode cX11_heights 55 = .ok (.invokevirtual 138, 3) := by decide +kernel
theorem dX11_heights_58 : decode cX11_heights 58 = .ok (.ifCond .ne 5, 3) := by decide +kernel
theorem dX11_heights_61 : decode cX11_heights 61 = .ok (.iconst (-1), 1) := by decide +kernel
theorem dX11_heights_62 : decode cX11_heights 62 = .ok (.ireturn, 1) := by decide +kernel
theorem dX11_heights_63 : decode cX11_heights 63 = .ok (.iinc 2 2, 3) := by decide +kernel
theorem dX11_heights_66 : decode cX11_heights 66 = .ok (.goto (-29), 3) := by decide +kernel
theorem dX11_heights_69 : decode cX11_heights 69 = .ok (.aload_n 0, 1) := by decide +kernel
theorem dX11_heights_70 : decode cX11_heights 70 = .ok (.getfield 60, 3) := by decide +kernel
theorem dX11_heights_73 : decode cX11_heights 73 = .ok (.aload_n 0, 1) := by decide +kernel
theorem dX11_heights_74 : decode cX11_heights 74 = .ok (.getfield 19, 3) := by decide +kernel
theorem dX11_heights_77 : decode cX11_heights 77 = .ok (.aload_n 0, 1) := by decide +kernel
theorem dX11_heights_78 : decode cX11_heights 78 = .ok (.getfield 29, 3) := by decide +kernel
theorem dX11_heights_81 : decode cX11_heights 81 = .ok (.aload_n 0, 1) := by decide +kernel
theorem dX11_heights_82 : decode cX11_heights 82 = .ok (.getfield 53, 3) := by decide +kernel
theorem dX11_heights_85 : decode cX11_heights 85 = .ok (.invokevirtual 298, 3) := by decide +kernel
theorem dX11_heights_88 : decode cX11_heights 88 = .ok (.aload_n 0, 1) := by decide +kernel
theorem dX11_heights_89 : decode cX11_heights 89 = .ok (.getfield 60, 3) := by decide +kernel
theorem dX11_heights_92 : decode cX11_heights 92 = .ok (.aload_n 0, 1) := by decide +kernel
theorem dX11_heights_93 : decode cX11_heights 93 = .ok (.getfield 10, 3) := by decide +kernel
theorem dX11_heights_96 : decode cX11_heights 96 = .ok (.getfield 291, 3) := by decide +kernel
theorem dX11_heights_99 : decode cX11_heights 99 = .ok (.iload_n 1, 1) := by decide +kernel
theorem dX11_heights_100 : decode cX11_heights 100 = .ok (.invokevirtual 302, 3) := by decide +kernel
theorem dX11_heights_103 : decode cX11_heights 103 = .ok (.istore_n 2, 1) := by decide +kernel
theorem dX11_heights_104 : decode cX11_heights 104 = .ok (.iload_n 2, 1) := by decide +kernel
theorem dX11_heights_105 : decode cX11_heights 105 = .ok (.ifCond .eq 30, 3) := by decide +kernel
theorem dX11_heights_108 : decode cX11_heights 108 = .ok (.aload_n 0, 1) := by decide +kernel
theorem dX11_heights_109 : decode cX11_heights 109 = .ok (.iload_n 2, 1) := by decide +kernel
theorem dX11_heights_110 : decode cX11_heights 110 = .ok (.invokestatic 306, 3) := by decide +kernel
theorem dX11_heights_113 : decode cX11_heights 113 = .ok (.putfield 106, 3) := by decide +kernel
theorem dX11_heights_116 : decode cX11_heights 116 = .ok (.aload_n 0, 1) := by decide +kernel
theorem dX11_heights_117 : decode cX11_heights 117 = .ok (.aload_n 0, 1) := by decide +kernel
theorem dX11_heights_118 : decode cX11_heights 118 = .ok (.getfield 60, 3) := by decide +kernel
theorem dX11_heights_121 : decode cX11_heights 121 = .ok (.iload_n 2, 1) := by decide +kernel
theorem dX11_heights_122 : decode cX11_heights 122 = .ok (.aload_n 0, 1) := by decide +kernel
theorem dX11_heights_123 : decode cX11_heights 123 = .ok (.getfield 19, 3) := by decide +kernel
theorem dX11_heights_126 : decode cX11_heights 126 = .ok (.getfield 288, 3) := by decide +kernel
theorem dX11_heights_129 : decode cX11_heights 129 = .ok (.invokevirtual 307, 3) := by decide +kernel
theorem dX11_heights_132 : decode cX11_heights 132 = .ok (.putfield 109, 3) := by decide +kernel
theorem dX11_heights_135 : decode cX11_heights 135 = .ok (.iload_n 2, 1) := by decide +kernel
theorem dX11_heights_136 : decode cX11_heights 136 = .ok (.invokestatic 267, 3) := by decide +kernel
theorem dX11_heights_139 : decode cX11_heights 139 = .ok (.ireturn, 1) := by decide +kernel
theorem dX11_lowest_0 : decode cX11_lowest 0 = .ok (.aload_n 0, 1) := by decide +kernel
theorem dX11_lowest_1 : decode cX11_lowest 1 = .ok (.getfield 106, 3) := by decide +kernel
theorem dX11_lowest_4 : decode cX11_lowest 4 = .ok (.ireturn, 1) := by decide +kernel
theorem dX11_watch_0 : decode cX11_watch 0 = .ok (.aload_n 0, 1) := by decide +kernel
theorem dX11_watch_1 : decode cX11_watch 1 = .ok (.getfield 109, 3) := by decide +kernel
theorem dX11_watch_4 : decode cX11_watch 4 = .ok (.ireturn, 1) := by decide +kernel
theorem dX11_heaviest_0 : decode cX11_heaviest 0 = .ok (.iconst (-1), 1) := by decide +kernel
theorem dX11_heaviest_1 : decode cX11_heaviest 1 = .ok (.istore_n 1, 1) := by decide +kernel
theorem dX11_heaviest_2 : decode cX11_heaviest 2 = .ok (.iconst (-1), 1) := by decide +kernel
theorem dX11_heaviest_3 : decode cX11_heaviest 3 = .ok (.istore_n 2, 1) := by decide +kernel
theorem dX11_heaviest_4 : decode cX11_heaviest 4 = .ok (.iconst 0, 1) := by decide +kernel
theorem dX11_heaviest_5 : decode cX11_heaviest 5 = .ok (.istore_n 3, 1) := by decide +kernel
theorem dX11_heaviest_6 : decode cX11_heaviest 6 = .ok (.iload_n 3, 1) := by decide +kernel
theorem dX11_heaviest_7 : decode cX11_heaviest 7 = .ok (.aload_n 0, 1) := by decide +kernel
theorem dX11_heaviest_8 : decode cX11_heaviest 8 = .ok (.getfield 19, 3) := by decide +kernel
theorem dX11_heaviest_11 : decode cX11_heaviest 11 = .ok (.getfield 288, 3) := by decide +kernel
theorem dX11_heaviest_14 : decode cX11_heaviest 14 = .ok (.if_icmp .ge 34, 3) := by decide +kernel
theorem dX11_heaviest_17 : decode cX11_heaviest 17 = .ok (.aload_n 0, 1) := by decide +kernel
theorem dX11_heaviest_18 : decode cX11_heaviest 18 = .ok (.getfield 29, 3) := by decide +kernel
theorem dX11_heaviest_21 : decode cX11_heaviest 21 = .ok (.aload_n 0, 1) := by decide +kernel
theorem dX11_heaviest_22 : decode cX11_heaviest 22 = .ok (.getfield 19, 3) := by decide +kernel
theorem dX11_heaviest_25 : decode cX11_heaviest 25 = .ok (.iload_n 3, 1) := by decide +kernel
theorem dX11_heaviest_26 : decode cX11_heaviest 26 = .ok (.invokevirtual 155, 3) := by decide +kernel
theorem dX11_heaviest_29 : decode cX11_heaviest 29 = .ok (.istore 4, 2) := by decide +kernel
theorem dX11_heaviest_31 : decode cX11_heaviest 31 = .ok (.iload 4, 2) := by decide +kernel
theorem dX11_heaviest_33 : decode cX11_heaviest 33 = .ok (.iload_n 2, 1) := by decide +kernel
theorem dX11_heaviest_34 : decode cX11_heaviest 34 = .ok (.if_icmp .le 8, 3) := by decide +kernel
theorem dX11_heaviest_37 : decode cX11_heaviest 37 = .ok (.iload 4, 2) := by decide +kernel
theorem dX11_heaviest_39 : decode cX11_heaviest 39 = .ok (.istore_n 2, 1) := by decide +kernel
theorem dX11_heaviest_40 : decode cX11_heaviest 40 = .ok (.iload_n 3, 1) := by decide +kernel
theorem dX11_heaviest_41 : decode cX11_heaviest 41 = .ok (.istore_n 1, 1) := by decide +kernel
theorem dX11_heaviest_42 : decode cX11_heaviest 42 = .ok (.iinc 3 1, 3) := by decide +kernel
theorem dX11_heaviest_45 : decode cX11_heaviest 45 = .ok (.goto (-39), 3) := by decide +kernel
theorem dX11_heaviest_48 : decode cX11_heaviest 48 = .ok (.iload_n 1, 1) := by decide +kernel
theorem dX11_heaviest_49 : decode cX11_heaviest 49 = .ok (.ireturn, 1) := by decide +kernel
theorem dX11_mean_0 : decode cX11_mean 0 = .ok (.aload_n 0, 1) := by decide +kernel
theorem dX11_mean_1 : decode cX11_mean 1 = .ok (.getfield 19, 3) := by decide +kernel
theorem dX11_mean_4 : decode cX11_mean 4 = .ok (.iload_n 1, 1) := by decide +kernel
theorem dX11_mean_5 : decode cX11_mean 5 = .ok (.invokevirtual 138, 3) := by decide +kernel
theorem dX11_mean_8 : decode cX11_mean 8 = .ok (.ifCond .ne 13, 3) := by decide +kernel
theorem dX11_mean_11 : decode cX11_mean 11 = .ok (.new 142, 3) := by decide +kernel
theorem dX11_mean_14 : decode cX11_mean 14 = .ok (.dup, 1) := by decide +kernel
theorem dX11_mean_15 : decode cX11_mean 15 = .ok (.ldc 144, 2) := by decide +kernel
theorem dX11_mean_17 : decode cX11_mean 17 = .ok (.invokespecial 146, 3) := by decide +kernel
theorem dX11_mean_20 : decode cX11_mean 20 = .ok (.athrow, 1) := by decide +kernel
theorem dX11_mean_21 : decode cX11_mean 21 = .ok (.aload_n 0, 1) := by decide +kernel
theorem dX11_mean_22 : decode cX11_mean 22 = .ok (.getfield 29, 3) := by decide +kernel
theorem dX11_mean_25 : decode cX11_mean 25 = .ok (.aload_n 0, 1) := by decide +kernel
theorem dX11_mean_26 : decode cX11_mean 26 = .ok (.getfield 19, 3) := by decide +kernel
theorem dX11_mean_29 : decode cX11_mean 29 = .ok (.iload_n 1, 1) := by decide +kernel
theorem dX11_mean_30 : decode cX11_mean 30 = .ok (.invokevirtual 155, 3) := by decide +kernel
theorem dX11_mean_33 : decode cX11_mean 33 = .ok (.istore_n 3, 1) := by decide +kernel
theorem dX11_mean_34 : decode cX11_mean 34 = .ok (.aload_n 0, 1) := by decide +kernel
theorem dX11_mean_35 : decode cX11_mean 35 = .ok (.getfield 29, 3) := by decide +kernel
theorem dX11_mean_38 : decode cX11_mean 38 = .ok (.getfield 163, 3) := by decide +kernel
theorem dX11_mean_41 : decode cX11_mean 41 = .ok (.aload_n 0, 1) := by decide +kernel
theorem dX11_mean_42 : decode cX11_mean 42 = .ok (.getfield 19, 3) := by decide +kernel
theorem dX11_mean_45 : decode cX11_mean 45 = .ok (.iload_n 1, 1) := by decide +kernel
theorem dX11_mean_46 : decode cX11_mean 46 = .ok (.invokevirtual 166, 3) := by decide +kernel
theorem dX11_mean_49 : decode cX11_mean 49 = .ok (.iand, 1) := by decide +kernel
theorem dX11_mean_50 : decode cX11_mean 50 = .ok (.invokestatic 267, 3) := by decide +kernel
theorem dX11_mean_53 : decode cX11_mean 53 = .ok (.istore 4, 2) := by decide +kernel
theorem dX11_mean_55 : decode cX11_mean 55 = .ok (.iload 4, 2) := by decide +kernel
theorem dX11_mean_57 : decode cX11_mean 57 = .ok (.ifCond .ne 14, 3) := by decide +kernel
theorem dX11_mean_60 : decode cX11_mean 60 = .ok (.new 142, 3) := by decide +kernel
theorem dX11_mean_63 : decode cX11_mean 63 = .ok (.dup, 1) := by decide +kernel
theorem dX11_mean_64 : decode cX11_mean 64 = .ok (.ldc_w 310, 3) := by decide +kernel
theorem dX11_mean_67 : decode cX11_mean 67 = .ok (.invokespecial 146, 3) := by decide +kernel
theorem dX11_mean_70 : decode cX11_mean 70 = .ok (.athrow, 1) := by decide +kernel
theorem dX11_mean_71 : decode cX11_mean 71 = .ok (.iload_n 3, 1) := by decide +kernel
theorem dX11_mean_72 : decode cX11_mean 72 = .ok (.iload 4, 2) := by decide +kernel
theorem dX11_mean_74 : decode cX11_mean 74 = .ok (.invokestatic 312, 3) := by decide +kernel
theorem dX11_mean_77 : decode cX11_mean 77 = .ok (.istore 5, 2) := by decide +kernel
theorem dX11_mean_79 : decode cX11_mean 79 = .ok (.iload_n 2, 1) := by decide +kernel
theorem dX11_mean_80 : decode cX11_mean 80 = .ok (.lookupswitch 39 #[(0, 28), (1, 33)], 28) := by decide +kernel
theorem dX11_mean_108 : decode cX11_mean 108 = .ok (.iload_n 3, 1) := by decide +kernel
theorem dX11_mean_109 : decode cX11_mean 109 = .ok (.iload 5, 2) := by decide +kernel
theorem dX11_mean_111 : decode cX11_mean 111 = .ok (.idiv, 1) := by decide +kernel
theorem dX11_mean_112 : decode cX11_mean 112 = .ok (.ireturn, 1) := by decide +kernel
theorem dX11_mean_113 : decode cX11_mean 113 = .ok (.iload 4, 2) := by decide +kernel
theorem dX11_mean_115 : decode cX11_mean 115 = .ok (.iload 5, 2) := by decide +kernel
theorem dX11_mean_117 : decode cX11_mean 117 = .ok (.idiv, 1) := by decide +kernel
theorem dX11_mean_118 : decode cX11_mean 118 = .ok (.ireturn, 1) := by decide +kernel
theorem dX11_mean_119 : decode cX11_mean 119 = .ok (.new 142, 3) := by decide +kernel
theorem dX11_mean_122 : decode cX11_mean 122 = .ok (.dup, 1) := by decide +kernel
theorem dX11_mean_123 : decode cX11_mean 123 = .ok (.ldc_w 315, 3) := by decide +kernel
theorem dX11_mean_126 : decode cX11_mean 126 = .ok (.invokespecial 146, 3) := by decide +kernel
theorem dX11_mean_129 : decode cX11_mean 129 = .ok (.athrow, 1) := by decide +kernel
theorem dX11_commonOf_0 : decode cX11_commonOf 0 = .ok (.iload_n 1, 1) := by decide +kernel
theorem dX11_commonOf_1 : decode cX11_commonOf 1 = .ok (.istore_n 2, 1) := by decide +kernel
theorem dX11_commonOf_2 : decode cX11_commonOf 2 = .ok (.iload_n 2, 1) := by decide +kernel
theorem dX11_commonOf_3 : decode cX11_commonOf 3 = .ok (.iconst 1, 1) := by decide +kernel
theorem dX11_commonOf_4 : decode cX11_commonOf 4 = .ok (.if_icmp .le 23, 3) := by decide +kernel
theorem dX11_commonOf_7 : decode cX11_commonOf 7 = .ok (.iload_n 0, 1) := by decide +kernel
theorem dX11_commonOf_8 : decode cX11_commonOf 8 = .ok (.iload_n 2, 1) := by decide +kernel
theorem dX11_commonOf_9 : decode cX11_commonOf 9 = .ok (.irem, 1) := by decide +kernel
theorem dX11_commonOf_10 : decode cX11_commonOf 10 = .ok (.ifCond .ne 11, 3) := by decide +kernel
theorem dX11_commonOf_13 : decode cX11_commonOf 13 = .ok (.iload_n 1, 1) := by decide +kernel
theorem dX11_commonOf_14 : decode cX11_commonOf 14 = .ok (.iload_n 2, 1) := by decide +kernel
theorem dX11_commonOf_15 : decode cX11_commonOf 15 = .ok (.irem, 1) := by decide +kernel
theorem dX11_commonOf_16 : decode cX11_commonOf 16 = .ok (.ifCond .ne 5, 3) := by decide +kernel
theorem dX11_commonOf_19 : decode cX11_commonOf 19 = .ok (.iload_n 2, 1) := by decide +kernel
theorem dX11_commonOf_20 : decode cX11_commonOf 20 = .ok (.ireturn, 1) := by decide +kernel
theorem dX11_commonOf_21 : decode cX11_commonOf 21 = .ok (.iinc 2 (-1), 3) := by decide +kernel
theorem dX11_commonOf_24 : decode cX11_commonOf 24 = .ok (.goto (-22), 3) := by decide +kernel
theorem dX11_commonOf_27 : decode cX11_commonOf 27 = .ok (.iconst 1, 1) := by decide +kernel
theorem dX11_commonOf_28 : decode cX11_commonOf 28 = .ok (.ireturn, 1) := by decide +kernel
theorem dX11_tag_0 : decode cX11_tag 0 = .ok (.aload_n 0, 1) := by decide +kernel
theorem dX11_tag_1 : decode cX11_tag 1 = .ok (.getfield 19, 3) := by decide +kernel
theorem dX11_tag_4 : decode cX11_tag 4 = .ok (.iload_n 1, 1) := by decide +kernel
theorem dX11_tag_5 : decode cX11_tag 5 = .ok (.invokevirtual 138, 3) := by decide +kernel
theorem dX11_tag_8 : decode cX11_tag 8 = .ok (.ifCond .ne 5, 3) := by decide +kernel
theorem dX11_tag_11 : decode cX11_tag 11 = .ok (.iconst (-1), 1) := by decide +kernel
theorem dX11_tag_12 : decode cX11_tag 12 = .ok (.ireturn, 1) := by decide +kernel
theorem dX11_tag_13 : decode cX11_tag 13 = .ok (.aload_n 0, 1) := by decide +kernel
theorem dX11_tag_14 : decode cX11_tag 14 = .ok (.getfield 74, 3) := by decide +kernel
theorem dX11_tag_17 : decode cX11_tag 17 = .ok (.aload_n 0, 1) := by decide +kernel
theorem dX11_tag_18 : decode cX11_tag 18 = .ok (.getfield 19, 3) := by decide +kernel
theorem dX11_tag_21 : decode cX11_tag 21 = .ok (.getfield 317, 3) := by decide +kernel
theorem dX11_tag_24 : decode cX11_tag 24 = .ok (.iload_n 1, 1) := by decide +kernel
theorem dX11_tag_25 : decode cX11_tag 25 = .ok (.laload, 1) := by decide +kernel
theorem dX11_tag_26 : decode cX11_tag 26 = .ok (.aload_n 0, 1) := by decide +kernel
theorem dX11_tag_27 : decode cX11_tag 27 = .ok (.getfield 29, 3) := by decide +kernel
theorem dX11_tag_30 : decode cX11_tag 30 = .ok (.getfield 152, 3) := by decide +kernel
theorem dX11_tag_33 : decode cX11_tag 33 = .ok (.iload_n 1, 1) := by decide +kernel
theorem dX11_tag_34 : decode cX11_tag 34 = .ok (.iaload, 1) := by decide +kernel
theorem dX11_tag_35 : decode cX11_tag 35 = .ok (.aload_n 0, 1) := by decide +kernel
theorem dX11_tag_36 : decode cX11_tag 36 = .ok (.getfield 53, 3) := by decide +kernel
theorem dX11_tag_39 : decode cX11_tag 39 = .ok (.aload_n 0, 1) := by decide +kernel
theorem dX11_tag_40 : decode cX11_tag 40 = .ok (.getfield 19, 3) := by decide +kernel
theorem dX11_tag_43 : decode cX11_tag 43 = .ok (.aload_n 0, 1) := by decide +kernel
theorem dX11_tag_44 : decode cX11_tag 44 = .ok (.getfield 29, 3) := by decide +kernel
theorem dX11_tag_47 : decode cX11_tag 47 = .ok (.iload_n 1, 1) := by decide +kernel
theorem dX11_tag_48 : decode cX11_tag 48 = .ok (.invokevirtual 159, 3) := by decide +kernel
theorem dX11_tag_51 : decode cX11_tag 51 = .ok (.invokevirtual 321, 3) := by decide +kernel
theorem dX11_tag_54 : decode cX11_tag 54 = .ok (.aload_n 0, 1) := by decide +kernel
theorem dX11_tag_55 : decode cX11_tag 55 = .ok (.getfield 74, 3) := by decide +kernel
theorem dX11_tag_58 : decode cX11_tag 58 = .ok (.getfield 325, 3) := by decide +kernel
theorem dX11_tag_61 : decode cX11_tag 61 = .ok (.ireturn, 1) := by decide +kernel
theorem dX11_byteAt_0 : decode cX11_byteAt 0 = .ok (.iload_n 1, 1) := by decide +kernel
theorem dX11_byteAt_1 : decode cX11_byteAt 1 = .ok (.ifCond .lt 26, 3) := by decide +kernel
theorem dX11_byteAt_4 : decode cX11_byteAt 4 = .ok (.iload_n 1, 1) := by decide +kernel
theorem dX11_byteAt_5 : decode cX11_byteAt 5 = .ok (.aload_n 0, 1) := by decide +kernel
theorem dX11_byteAt_6 : decode cX11_byteAt 6 = .ok (.getfield 74, 3) := by decide +kernel
theorem dX11_byteAt_9 : decode cX11_byteAt 9 = .ok (.getfield 325, 3) := by decide +kernel
theorem dX11_byteAt_12 : decode cX11_byteAt 12 = .ok (.if_icmp .ge 15, 3) := by decide +kernel
theorem dX11_byteAt_15 : decode cX11_byteAt 15 = .ok (.aload_n 0, 1) := by decide +kernel
theorem dX11_byteAt_16 : decode cX11_byteAt 16 = .ok (.getfield 74, 3) := by decide +kernel
theorem dX11_byteAt_19 : decode cX11_byteAt 19 = .ok (.getfield 326, 3) := by decide +kernel
theorem dX11_byteAt_22 : decode cX11_byteAt 22 = .ok (.iload_n 1, 1) := by decide +kernel
theorem dX11_byteAt_23 : decode cX11_byteAt 23 = .ok (.iaload, 1) := by decide +kernel
theorem dX11_byteAt_24 : decode cX11_byteAt 24 = .ok (.goto 4, 3) := by decide +kernel
theorem dX11_byteAt_27 : decode cX11_byteAt 27 = .ok (.iconst (-1), 1) := by decide +kernel
theorem dX11_byteAt_28 : decode cX11_byteAt 28 = .ok (.ireturn, 1) := by decide +kernel
theorem dX11_drawn_0 : decode cX11_drawn 0 = .ok (.iload_n 1, 1) := by decide +kernel
theorem dX11_drawn_1 : decode cX11_drawn 1 = .ok (.iconst 1, 1) := by decide +kernel
theorem dX11_drawn_2 : decode cX11_drawn 2 = .ok (.if_icmp .lt 9, 3) := by decide +kernel
theorem dX11_drawn_5 : decode cX11_drawn 5 = .ok (.iload_n 1, 1) := by decide +kernel
theorem dX11_drawn_6 : decode cX11_drawn 6 = .ok (.bipush 60, 2) := by decide +kernel
theorem dX11_drawn_8 : decode cX11_drawn 8 = .ok (.if_icmp .le 5, 3) := by decide +kernel
theorem dX11_drawn_11 : decode cX11_drawn 11 = .ok (.iconst (-1), 1) := by decide +kernel
theorem dX11_drawn_12 : decode cX11_drawn 12 = .ok (.ireturn, 1) := by decide +kernel
theorem dX11_drawn_13 : decode cX11_drawn 13 = .ok (.aload_n 0, 1) := by decide +kernel
theorem dX11_drawn_14 : decode cX11_drawn 14 = .ok (.getfield 29, 3) := by decide +kernel
theorem dX11_drawn_17 : decode cX11_drawn 17 = .ok (.getfield 219, 3) := by decide +kernel
theorem dX11_drawn_20 : decode cX11_drawn 20 = .ok (.sipush 400, 3) := by decide +kernel
theorem dX11_drawn_23 : decode cX11_drawn 23 = .ok (.if_icmp .lt 5, 3) := by decide +kernel
theorem dX11_drawn_26 : decode cX11_drawn 26 = .ok (.iconst 0, 1) := by decide +kernel
theorem dX11_drawn_27 : decode cX11_drawn 27 = .ok (.ireturn, 1) := by decide +kernel
theorem dX11_drawn_28 : decode cX11_drawn 28 = .ok (.aload_n 0, 1) := by decide +kernel
theorem dX11_drawn_29 : decode cX11_drawn 29 = .ok (.getfield 39, 3) := by decide +kernel
theorem dX11_drawn_32 : decode cX11_drawn 32 = .ok (.aload_n 0, 1) := by decide +kernel
theorem dX11_drawn_33 : decode cX11_drawn 33 = .ok (.getfield 29, 3) := by decide +kernel
theorem dX11_drawn_36 : decode cX11_drawn 36 = .ok (.invokevirtual 242, 3) := by decide +kernel
theorem dX11_drawn_39 : decode cX11_drawn 39 = .ok (.aload_n 0, 1) := by decide +kernel
theorem dX11_drawn_40 : decode cX11_drawn 40 = .ok (.getfield 67, 3) := by decide +kernel
theorem dX11_drawn_43 : decode cX11_drawn 43 = .ok (.aload_n 0, 1) := by decide +kernel
theorem dX11_drawn_44 : decode cX11_drawn 44 = .ok (.getfield 19, 3) := by decide +kernel
theorem dX11_drawn_47 : decode cX11_drawn 47 = .ok (.aload_n 0, 1) := by decide +kernel
theorem dX11_drawn_48 : decode cX11_drawn 48 = .ok (.getfield 29, 3) := by decide +kernel
theorem dX11_drawn_51 : decode cX11_drawn 51 = .ok (.iload_n 1, 1) := by decide +kernel
theorem dX11_drawn_52 : decode cX11_drawn 52 = .ok (.iload_n 2, 1) := by decide +kernel
theorem dX11_drawn_53 : decode cX11_drawn 53 = .ok (.invokevirtual 327, 3) := by decide +kernel
theorem dX11_drawn_56 : decode cX11_drawn 56 = .ok (.ireturn, 1) := by decide +kernel
theorem dX11_odds_0 : decode cX11_odds 0 = .ok (.aload_n 0, 1) := by decide +kernel
theorem dX11_odds_1 : decode cX11_odds 1 = .ok (.getfield 19, 3) := by decide +kernel
theorem dX11_odds_4 : decode cX11_odds 4 = .ok (.iload_n 1, 1) := by decide +kernel
theorem dX11_odds_5 : decode cX11_odds 5 = .ok (.invokevirtual 138, 3) := by decide +kernel
theorem dX11_odds_8 : decode cX11_odds 8 = .ok (.ifCond .eq 14, 3) := by decide +kernel
theorem dX11_odds_11 : decode cX11_odds 11 = .ok (.iload_n 2, 1) := by decide +kernel
theorem dX11_odds_12 : decode cX11_odds 12 = .ok (.iconst 1, 1) := by decide +kernel
theorem dX11_odds_13 : decode cX11_odds 13 = .ok (.if_icmp .lt 9, 3) := by decide +kernel
theorem dX11_odds_16 : decode cX11_odds 16 = .ok (.iload_n 2, 1) := by decide +kernel
theorem dX11_odds_17 : decode cX11_odds 17 = .ok (.bipush 30, 2) := by decide +kernel
theorem dX11_odds_19 : decode cX11_odds 19 = .ok (.if_icmp .le 5, 3) := by decide +kernel
theorem dX11_odds_22 : decode cX11_odds 22 = .ok (.iconst (-1), 1) := by decide +kernel
theorem dX11_odds_23 : decode cX11_odds 23 = .ok (.ireturn, 1) := by decide +kernel
theorem dX11_odds_24 : decode cX11_odds 24 = .ok (.iconst 0, 1) := by decide +kernel
theorem dX11_odds_25 : decode cX11_odds 25 = .ok (.istore 4, 2) := by decide +kernel
theorem dX11_odds_27 : decode cX11_odds 27 = .ok (.iconst 0, 1) := by decide +kernel
theorem dX11_odds_28 : decode cX11_odds 28 = .ok (.istore 5, 2) := by decide +kernel
theorem dX11_odds_30 : decode cX11_odds 30 = .ok (.iload 5, 2) := by decide +kernel
theorem dX11_odds_32 : decode cX11_odds 32 = .ok (.iload_n 2, 1) := by decide +kernel
theorem dX11_odds_33 : decode cX11_odds 33 = .ok (.if_icmp .ge 78, 3) := by decide +kernel
theorem dX11_odds_36 : decode cX11_odds 36 = .ok (.aload_n 0, 1) := by decide +kernel
theorem dX11_odds_37 : decode cX11_odds 37 = .ok (.getfield 33, 3) := by decide +kernel
theorem dX11_odds_40 : decode cX11_odds 40 = .ok (.aload_n 0, 1) := by decide +kernel
theorem dX11_odds_41 : decode cX11_odds 41 = .ok (.getfield 29, 3) := by decide +kernel
theorem dX11_odds_44 : decode cX11_odds 44 = .ok (.invokevirtual 234, 3) := by decide +kernel
theorem dX11_odds_47 : decode cX11_odds 47 = .ok (.aload_n 0, 1) := by decide +kernel
theorem dX11_odds_48 : decode cX11_odds 48 = .ok (.getfield 67, 3) := by decide +kernel
theorem dX11_odds_51 : decode cX11_odds 51 = .ok (.aload_n 0, 1) := by decide +kernel
theorem dX11_odds_52 : decode cX11_odds 52 = .ok (.getfield 19, 3) := by decide +kernel
theorem dX11_odds_55 : decode cX11_odds 55 = .ok (.aload_n 0, 1) := by decide +kernel
theorem dX11_odds_56 : decode cX11_odds 56 = .ok (.getfield 33, 3) := by decide +kernel
theorem dX11_odds_59 : decode cX11_odds 59 = .ok (.bipush 20, 2) := by decide +kernel
theorem dX11_odds_61 : decode cX11_odds 61 = .ok (.iload_n 3, 1) := by decide +kernel
theorem dX11_odds_62 : decode cX11_odds 62 = .ok (.iload 5, 2) := by decide +kernel
theorem dX11_odds_64 : decode cX11_odds 64 = .ok (.iadd, 1) := by decide +kernel
theorem dX11_odds_65 : decode cX11_odds 65 = .ok (.invokevirtual 327, 3) := by decide +kernel
theorem dX11_odds_68 : decode cX11_odds 68 = .ok (.pop, 1) := by decide +kernel
theorem dX11_odds_69 : decode cX11_odds 69 = .ok (.aload_n 0, 1) := by decide +kernel
theorem dX11_odds_70 : decode cX11_odds 70 = .ok (.getfield 33, 3) := by decide +kernel
theorem dX11_odds_73 : decode cX11_odds 73 = .ok (.getfield 152, 3) := by decide +kernel
theorem dX11_odds_76 : decode cX11_odds 76 = .ok (.iload_n 1, 1) := by decide +kernel
theorem dX11_odds_77 : decode cX11_odds 77 = .ok (.iaload, 1) := by decide +kernel
theorem dX11_odds_78 : decode cX11_odds 78 = .ok (.iconst 2, 1) := by decide +kernel
theorem dX11_odds_79 : decode cX11_odds 79 = .ok (.if_icmp .lt 26, 3) := by decide +kernel
theorem dX11_odds_82 : decode cX11_odds 82 = .ok (.aload_n 0, 1) := by decide +kernel
theorem dX11_odds_83 : decode cX11_odds 83 = .ok (.getfield 53, 3) := by decide +kernel
theorem dX11_odds_86 : decode cX11_odds 86 = .ok (.aload_n 0, 1) := by decide +kernel
theorem dX11_odds_87 : decode cX11_odds 87 = .ok (.getfield 19, 3) := by decide +kernel
theorem dX11_odds_90 : decode cX11_odds 90 = .ok (.aload_n 0, 1) := by decide +kernel
theorem dX11_odds_91 : decode cX11_odds 91 = .ok (.getfield 33, 3) := by decide +kernel
theorem dX11_odds_94 : decode cX11_odds 94 = .ok (.iload_n 1, 1) := by decide +kernel
theorem dX11_odds_95 : decode cX11_odds 95 = .ok (.invokevirtual 159, 3) := by decide +kernel
theorem dX11_odds_98 : decode cX11_odds 98 = .ok (.iconst 1, 1) := by decide +kernel
theorem dX11_odds_99 : decode cX11_odds 99 = .ok (.if_icmp .ne 6, 3) := by decide +kernel
theorem dX11_odds_102 : decode cX11_odds 102 = .ok (.iinc 4 1, 3) := by decide +kernel
theorem dX11_odds_105 : decode cX11_odds 105 = .ok (.iinc 5 1, 3) := by decide +kernel
theorem dX11_odds_108 : decode cX11_odds 108 = .ok (.goto (-78), 3) := by decide +kernel
theorem dX11_odds_111 : decode cX11_odds 111 = .ok (.iload 4, 2) := by decide +kernel
theorem dX11_odds_113 : decode cX11_odds 113 = .ok (.ireturn, 1) := by decide +kernel
theorem dX11_book_0 : decode cX11_book 0 = .ok (.iload_n 1, 1) := by decide +kernel
theorem dX11_book_1 : decode cX11_book 1 = .ok (.ifCond .eq 12, 3) := by decide +kernel
theorem dX11_book_4 : decode cX11_book 4 = .ok (.iload_n 1, 1) := by decide +kernel
theorem dX11_book_5 : decode cX11_book 5 = .ok (.iconst 1, 1) := by decide +kernel
theorem dX11_book_6 : decode cX11_book 6 = .ok (.if_icmp .eq 7, 3) := by decide +kernel
theorem dX11_book_9 : decode cX11_book 9 = .ok (.sipush (-1000), 3) := by decide +kernel
theorem dX11_book_12 : decode cX11_book 12 = .ok (.ireturn, 1) := by decide +kernel
theorem dX11_book_13 : decode cX11_book 13 = .ok (.aload_n 0, 1) := by decide +kernel
theorem dX11_book_14 : decode cX11_book 14 = .ok (.getfield 46, 3) := by decide +kernel
theorem dX11_book_17 : decode cX11_book 17 = .ok (.aload_n 0, 1) := by decide +kernel
theorem dX11_book_18 : decode cX11_book 18 = .ok (.getfield 10, 3) := by decide +kernel
theorem dX11_book_21 : decode cX11_book 21 = .ok (.aload_n 0, 1) := by decide +kernel
theorem dX11_book_22 : decode cX11_book 22 = .ok (.getfield 19, 3) := by decide +kernel
theorem dX11_book_25 : decode cX11_book 25 = .ok (.invokevirtual 331, 3) := by decide +kernel
theorem dX11_book_28 : decode cX11_book 28 = .ok (.aload_n 0, 1) := by decide +kernel
theorem dX11_book_29 : decode cX11_book 29 = .ok (.aload_n 0, 1) := by decide +kernel
theorem dX11_book_30 : decode cX11_book 30 = .ok (.getfield 10, 3) := by decide +kernel
theorem dX11_book_33 : decode cX11_book 33 = .ok (.getfield 123, 3) := by decide +kernel
theorem dX11_book_36 : decode cX11_book 36 = .ok (.putfield 126, 3) := by decide +kernel
theorem dX11_book_39 : decode cX11_book 39 = .ok (.aload_n 0, 1) := by decide +kernel
theorem dX11_book_40 : decode cX11_book 40 = .ok (.getfield 10, 3) := by decide +kernel
theorem dX11_book_43 : decode cX11_book 43 = .ok (.iconst 0, 1) := by decide +kernel
theorem dX11_book_44 : decode cX11_book 44 = .ok (.putfield 112, 3) := by decide +kernel
theorem dX11_book_47 : decode cX11_book 47 = .ok (.aload_n 0, 1) := by decide +kernel
theorem dX11_book_48 : decode cX11_book 48 = .ok (.getfield 126, 3) := by decide +kernel
theorem dX11_book_51 : decode cX11_book 51 = .ok (.ifCond .eq 14, 3) := by decide +kernel
theorem dX11_book_54 : decode cX11_book 54 = .ok (.bipush (-2), 2) := by decide +kernel
theorem dX11_book_56 : decode cX11_book 56 = .ok (.aload_n 0, 1) := by decide +kernel
theorem dX11_book_57 : decode cX11_book 57 = .ok (.getfield 10, 3) := by decide +kernel
theorem dX11_book_60 : decode cX11_book 60 = .ok (.getfield 127, 3) := by decide +kernel
theorem dX11_book_63 : decode cX11_book 63 = .ok (.isub, 1) := by decide +kernel
theorem dX11_book_64 : decode cX11_book 64 = .ok (.ireturn, 1) := by decide +kernel
theorem dX11_book_65 : decode cX11_book 65 = .ok (.aload_n 0, 1) := by decide +kernel
theorem dX11_book_66 : decode cX11_book 66 = .ok (.getfield 33, 3) := by decide +kernel
theorem dX11_book_69 : decode cX11_book 69 = .ok (.aload_n 0, 1) := by decide +kernel
theorem dX11_book_70 : decode cX11_book 70 = .ok (.getfield 29, 3) := by decide +kernel
theorem dX11_book_73 : decode cX11_book 73 = .ok (.invokevirtual 234, 3) := by decide +kernel
theorem dX11_book_76 : decode cX11_book 76 = .ok (.aload_n 0, 1) := by decide +kernel
theorem dX11_book_77 : decode cX11_book 77 = .ok (.getfield 46, 3) := by decide +kernel
theorem dX11_book_80 : decode cX11_book 80 = .ok (.aload_n 0, 1) := by decide +kernel
theorem dX11_book_81 : decode cX11_book 81 = .ok (.getfield 19, 3) := by decide +kernel
theorem dX11_book_84 : decode cX11_book 84 = .ok (.aload_n 0, 1) := by decide +kernel
theorem dX11_book_85 : decode cX11_book 85 = .ok (.getfield 33, 3) := by decide +kernel
theorem dX11_book_88 : decode cX11_book 88 = .ok (.invokevirtual 334, 3) := by decide +kernel
theorem dX11_book_91 : decode cX11_book 91 = .ok (.istore_n 2, 1) := by decide +kernel
theorem dX11_book_92 : decode cX11_book 92 = .ok (.aload_n 0, 1) := by decide +kernel
theorem dX11_book_93 : decode cX11_book 93 = .ok (.getfield 95, 3) := by decide +kernel
theorem dX11_book_96 : decode cX11_book 96 = .ok (.iconst 0, 1) := by decide +kernel
theorem dX11_book_97 : decode cX11_book 97 = .ok (.aload_n 0, 1) := by decide +kernel
theorem dX11_book_98 : decode cX11_book 98 = .ok (.getfield 46, 3) := by decide +kernel
theorem dX11_book_101 : decode cX11_book 101 = .ok (.getfield 337, 3) := by decide +kernel
theorem dX11_book_104 : decode cX11_book 104 = .ok (.iastore, 1) := by decide +kernel
theorem dX11_book_105 : decode cX11_book 105 = .ok (.aload_n 0, 1) := by decide +kernel
theorem dX11_book_106 : decode cX11_book 106 = .ok (.getfield 95, 3) := by decide +kernel
theorem dX11_book_109 : decode cX11_book 109 = .ok (.iconst 1, 1) := by decide +kernel
theorem dX11_book_110 : decode cX11_book 110 = .ok (.iload_n 2, 1) := by decide +kernel
theorem dX11_book_111 : decode cX11_book 111 = .ok (.iastore, 1) := by decide +kernel
theorem dX11_book_112 : decode cX11_book 112 = .ok (.aload_n 0, 1) := by decide +kernel
theorem dX11_book_113 : decode cX11_book 113 = .ok (.getfield 95, 3) := by decide +kernel
theorem dX11_book_116 : decode cX11_book 116 = .ok (.iconst 2, 1) := by decide +kernel
theorem dX11_book_117 : decode cX11_book 117 = .ok (.aload_n 0, 1) := by decide +kernel
theorem dX11_book_118 : decode cX11_book 118 = .ok (.getfield 33, 3) := by decide +kernel
theorem dX11_book_121 : decode cX11_book 121 = .ok (.getfield 219, 3) := by decide +kernel
theorem dX11_book_124 : decode cX11_book 124 = .ok (.iastore, 1) := by decide +kernel
theorem dX11_book_125 : decode cX11_book 125 = .ok (.aload_n 0, 1) := by decide +kernel
theorem dX11_book_126 : decode cX11_book 126 = .ok (.getfield 95, 3) := by decide +kernel
theorem dX11_book_129 : decode cX11_book 129 = .ok (.iconst 3, 1) := by decide +kernel
theorem dX11_book_130 : decode cX11_book 130 = .ok (.aload_n 0, 1) := by decide +kernel
theorem dX11_book_131 : decode cX11_book 131 = .ok (.getfield 33, 3) := by decide +kernel
theorem dX11_book_134 : decode cX11_book 134 = .ok (.getfield 186, 3) := by decide +kernel
theorem dX11_book_137 : decode cX11_book 137 = .ok (.iastore, 1) := by decide +kernel
theorem dX11_book_138 : decode cX11_book 138 = .ok (.iload_n 1, 1) := by decide +kernel
theorem dX11_book_139 : decode cX11_book 139 = .ok (.iconst 1, 1) := by decide +kernel
theorem dX11_book_140 : decode cX11_book 140 = .ok (.if_icmp .ne 29, 3) := by decide +kernel
theorem dX11_book_143 : decode cX11_book 143 = .ok (.iload_n 2, 1) := by decide +kernel
theorem dX11_book_144 : decode cX11_book 144 = .ok (.ifCond .le 25, 3) := by decide +kernel
theorem dX11_book_147 : decode cX11_book 147 = .ok (.aload_n 0, 1) := by decide +kernel
theorem dX11_book_148 : decode cX11_book 148 = .ok (.getfield 39, 3) := by decide +kernel
theorem dX11_book_151 : decode cX11_book 151 = .ok (.aload_n 0, 1) := by decide +kernel
theorem dX11_book_152 : decode cX11_book 152 = .ok (.getfield 29, 3) := by decide +kernel
theorem dX11_book_155 : decode cX11_book 155 = .ok (.invokevirtual 242, 3) := by decide +kernel
theorem dX11_book_158 : decode cX11_book 158 = .ok (.aload_n 0, 1) := by decide +kernel
theorem dX11_book_159 : decode cX11_book 159 = .ok (.getfield 29, 3) := by decide +kernel
theorem dX11_book_162 : decode cX11_book 162 = .ok (.aload_n 0, 1) := by decide +kernel
theorem dX11_book_163 : decode cX11_book 163 = .ok (.getfield 33, 3) := by decide +kernel
theorem dX11_book_166 : decode cX11_book 166 = .ok (.invokevirtual 234, 3) := by decide +kernel
theorem dX11_book_169 : decode cX11_book 169 = .ok (.aload_n 0, 1) := by decide +kernel
theorem dX11_book_170 : decode cX11_book 170 = .ok (.getfield 46, 3) := by decide +kernel
theorem dX11_book_173 : decode cX11_book 173 = .ok (.getfield 337, 3) := by decide +kernel
theorem dX11_book_176 : decode cX11_book 176 = .ok (.ifCond .ne 7, 3) := by decide +kernel
theorem dX11_book_179 : decode cX11_book 179 = .ok (.iconst (-1), 1) := by decide +kernel
theorem dX11_book_180 : decode cX11_book 180 = .ok (.goto 4, 3) := by decide +kernel
theorem dX11_book_183 : decode cX11_book 183 = .ok (.iload_n 2, 1) := by decide +kernel
theorem dX11_book_184 : decode cX11_book 184 = .ok (.ireturn, 1) := by decide +kernel
theorem dX11_told_0 : decode cX11_told 0 = .ok (.iload_n 1, 1) := by decide +kernel
theorem dX11_told_1 : decode cX11_told 1 = .ok (.ifCond .lt 17, 3) := by decide +kernel
theorem dX11_told_4 : decode cX11_told 4 = .ok (.iload_n 1, 1) := by decide +kernel
theorem dX11_told_5 : decode cX11_told 5 = .ok (.iconst 4, 1) := by decide +kernel
theorem dX11_told_6 : decode cX11_told 6 = .ok (.if_icmp .ge 12, 3) := by decide +kernel
theorem dX11_told_9 : decode cX11_told 9 = .ok (.aload_n 0, 1) := by decide +kernel
theorem dX11_told_10 : decode cX11_told 10 = .ok (.getfield 95, 3) := by decide +kernel
theorem dX11_told_13 : decode cX11_told 13 = .ok (.iload_n 1, 1) := by decide +kernel
theorem dX11_told_14 : decode cX11_told 14 = .ok (.iaload, 1) := by decide +kernel
theorem dX11_told_15 : decode cX11_told 15 = .ok (.goto 4, 3) := by decide +kernel
theorem dX11_told_18 : decode cX11_told 18 = .ok (.iconst (-1), 1) := by decide +kernel
theorem dX11_told_19 : decode cX11_told 19 = .ok (.ireturn, 1) := by decide +kernel
theorem dX11_sentence_0 : decode cX11_sentence 0 = .ok (.aload_n 0, 1) := by decide +kernel
theorem dX11_sentence_1 : decode cX11_sentence 1 = .ok (.getfield 85, 3) := by decide +kernel
theorem dX11_sentence_4 : decode cX11_sentence 4 = .ok (.aload_n 0, 1) := by decide +kernel
theorem dX11_sentence_5 : decode cX11_sentence 5 = .ok (.getfield 10, 3) := by decide +kernel
theorem dX11_sentence_8 : decode cX11_sentence 8 = .ok (.aload_n 0, 1) := by decide +kernel
theorem dX11_sentence_9 : decode cX11_sentence 9 = .ok (.getfield 19, 3) := by decide +kernel
theorem dX11_sentence_12 : decode cX11_sentence 12 = .ok (.invokevirtual 340, 3) := by decide +kernel
theorem dX11_sentence_15 : decode cX11_sentence 15 = .ok (.aload_n 0, 1) := by decide +kernel
theorem dX11_sentence_16 : decode cX11_sentence 16 = .ok (.aload_n 0, 1) := by decide +kernel
theorem dX11_sentence_17 : decode cX11_sentence 17 = .ok (.getfield 10, 3) := by decide +kernel
theorem dX11_sentence_20 : decode cX11_sentence 20 = .ok (.getfield 123, 3) := by decide +kernel
theorem dX11_sentence_23 : decode cX11_sentence 23 = .ok (.putfield 126, 3) := by decide +kernel
theorem dX11_sentence_26 : decode cX11_sentence 26 = .ok (.aload_n 0, 1) := by decide +kernel
theorem dX11_sentence_27 : decode cX11_sentence 27 = .ok (.getfield 10, 3) := by decide +kernel
theorem dX11_sentence_30 : decode cX11_sentence 30 = .ok (.iconst 0, 1) := by decide +kernel
theorem dX11_sentence_31 : decode cX11_sentence 31 = .ok (.putfield 112, 3) := by decide +kernel
theorem dX11_sentence_34 : decode cX11_sentence 34 = .ok (.aload_n 0, 1) := by decide +kernel
theorem dX11_sentence_35 : decode cX11_sentence 35 = .ok (.getfield 126, 3) := by decide +kernel
theorem dX11_sentence_38 : decode cX11_sentence 38 = .ok (.ifCond .eq 13, 3) := by decide +kernel
theorem dX11_sentence_41 : decode cX11_sentence 41 = .ok (.iconst (-1), 1) := by decide +kernel
theorem dX11_sentence_42 : decode cX11_sentence 42 = .ok (.aload_n 0, 1) := by decide +kernel
theorem dX11_sentence_43 : decode cX11_sentence 43 = .ok (.getfield 10, 3) := by decide +kernel
theorem dX11_sentence_46 : decode cX11_sentence 46 = .ok (.getfield 127, 3) := by decide +kernel
theorem dX11_sentence_49 : decode cX11_sentence 49 = .ok (.isub, 1) := by decide +kernel
theorem dX11_sentence_50 : decode cX11_sentence 50 = .ok (.ireturn, 1) := by decide +kernel
theorem dX11_sentence_51 : decode cX11_sentence 51 = .ok (.aload_n 0, 1) := by decide +kernel
theorem dX11_sentence_52 : decode cX11_sentence 52 = .ok (.getfield 81, 3) := by decide +kernel
theorem dX11_sentence_55 : decode cX11_sentence 55 = .ok (.astore_n 1, 1) := by decide +kernel
theorem dX11_sentence_56 : decode cX11_sentence 56 = .ok (.aload_n 0, 1) := by decide +kernel
theorem dX11_sentence_57 : decode cX11_sentence 57 = .ok (.aload_n 0, 1) := by decide +kernel
theorem dX11_sentence_58 : decode cX11_sentence 58 = .ok (.getfield 85, 3) := by decide +kernel
theorem dX11_sentence_61 : decode cX11_sentence 61 = .ok (.putfield 81, 3) := by decide +kernel
theorem dX11_sentence_64 : decode cX11_sentence 64 = .ok (.aload_n 0, 1) := by decide +kernel
theorem dX11_sentence_65 : decode cX11_sentence 65 = .ok (.aload_n 1, 1) := by decide +kernel
theorem dX11_sentence_66 : decode cX11_sentence 66 = .ok (.putfield 85, 3) := by decide +kernel
theorem dX11_sentence_69 : decode cX11_sentence 69 = .ok (.aload_n 0, 1) := by decide +kernel
theorem dX11_sentence_70 : decode cX11_sentence 70 = .ok (.getfield 81, 3) := by decide +kernel
theorem dX11_sentence_73 : decode cX11_sentence 73 = .ok (.getfield 341, 3) := by decide +kernel
theorem dX11_sentence_76 : decode cX11_sentence 76 = .ok (.ireturn, 1) := by decide +kernel
theorem dX11_said_0 : decode cX11_said 0 = .ok (.aload_n 0, 1) := by decide +kernel
theorem dX11_said_1 : decode cX11_said 1 = .ok (.getfield 81, 3) := by decide +kernel
theorem dX11_said_4 : decode cX11_said 4 = .ok (.getfield 134, 3) := by decide +kernel
theorem dX11_said_7 : decode cX11_said 7 = .ok (.ifCond .eq 8, 3) := by decide +kernel
theorem dX11_said_10 : decode cX11_said 10 = .ok (.iload_n 1, 1) := by decide +kernel
theorem dX11_said_11 : decode cX11_said 11 = .ok (.iconst (-1), 1) := by decide +kernel
theorem dX11_said_12 : decode cX11_said 12 = .ok (.if_icmp .ge 5, 3) := by decide +kernel
theorem dX11_said_15 : decode cX11_said 15 = .ok (.iconst (-1), 1) := by decide +kernel
theorem dX11_said_16 : decode cX11_said 16 = .ok (.ireturn, 1) := by decide +kernel
theorem dX11_said_17 : decode cX11_said 17 = .ok (.iconst 0, 1) := by decide +kernel
theorem dX11_said_18 : decode cX11_said 18 = .ok (.istore_n 2, 1) := by decide +kernel
theorem dX11_said_19 : decode cX11_said 19 = .ok (.iconst 0, 1) := by decide +kernel
theorem dX11_said_20 : decode cX11_said 20 = .ok (.istore_n 3, 1) := by decide +kernel
theorem dX11_said_21 : decode cX11_said 21 = .ok (.iload_n 3, 1) := by decide +kernel
theorem dX11_said_22 : decode cX11_said 22 = .ok (.aload_n 0, 1) := by decide +kernel
theorem dX11_said_23 : decode cX11_said 23 = .ok (.getfield 19, 3) := by decide +kernel
theorem dX11_said_26 : decode cX11_said 26 = .ok (.getfield 288, 3) := by decide +kernel
theorem dX11_said_29 : decode cX11_said 29 = .ok (.if_icmp .ge 42, 3) := by decide +kernel
theorem dX11_said_32 : decode cX11_said 32 = .ok (.aload_n 0, 1) := by decide +kernel
theorem dX11_said_33 : decode cX11_said 33 = .ok (.getfield 81, 3) := by decide +kernel
theorem dX11_said_36 : decode cX11_said 36 = .ok (.aload_n 0, 1) := by decide +kernel
theorem dX11_said_37 : decode cX11_said 37 = .ok (.getfield 19, 3) := by decide +kernel
theorem dX11_said_40 : decode cX11_said 40 = .ok (.aload_n 0, 1) := by decide +kernel
theorem dX11_said_41 : decode cX11_said 41 = .ok (.getfield 29, 3) := by decide +kernel
theorem dX11_said_44 : decode cX11_said 44 = .ok (.aload_n 0, 1) := by decide +kernel
theorem dX11_said_45 : decode cX11_said 45 = .ok (.getfield 53, 3) := by decide +kernel
theorem dX11_said_48 : decode cX11_said 48 = .ok (.iload_n 3, 1) := by decide +kernel
theorem dX11_said_49 : decode cX11_said 49 = .ok (.invokevirtual 344, 3) := by decide +kernel
theorem dX11_said_52 : decode cX11_said 52 = .ok (.ifCond .eq 13, 3) := by decide +kernel
theorem dX11_said_55 : decode cX11_said 55 = .ok (.iload_n 2, 1) := by decide +kernel
theorem dX11_said_56 : decode cX11_said 56 = .ok (.iload_n 1, 1) := by decide +kernel
theorem dX11_said_57 : decode cX11_said 57 = .ok (.if_icmp .ne 5, 3) := by decide +kernel
theorem dX11_said_60 : decode cX11_said 60 = .ok (.iload_n 3, 1) := by decide +kernel
theorem dX11_said_61 : decode cX11_said 61 = .ok (.ireturn, 1) := by decide +kernel
theorem dX11_said_62 : decode cX11_said 62 = .ok (.iinc 2 1, 3) := by decide +kernel
theorem dX11_said_65 : decode cX11_said 65 = .ok (.iinc 3 1, 3) := by decide +kernel
theorem dX11_said_68 : decode cX11_said 68 = .ok (.goto (-47), 3) := by decide +kernel
theorem dX11_said_71 : decode cX11_said 71 = .ok (.iload_n 1, 1) := by decide +kernel
theorem dX11_said_72 : decode cX11_said 72 = .ok (.iconst (-1), 1) := by decide +kernel
theorem dX11_said_73 : decode cX11_said 73 = .ok (.if_icmp .ne 7, 3) := by decide +kernel
theorem dX11_said_76 : decode cX11_said 76 = .ok (.iload_n 2, 1) := by decide +kernel
theorem dX11_said_77 : decode cX11_said 77 = .ok (.goto 4, 3) := by decide +kernel
theorem dX11_said_80 : decode cX11_said 80 = .ok (.iconst (-1), 1) := by decide +kernel
theorem dX11_said_81 : decode cX11_said 81 = .ok (.ireturn, 1) := by decide +kernel
theorem dX11_image_0 : decode cX11_image 0 = .ok (.iload_n 1, 1) := by decide +kernel
theorem dX11_image_1 : decode cX11_image 1 = .ok (.ifCond .lt 8, 3) := by decide +kernel
theorem dX11_image_4 : decode cX11_image 4 = .ok (.iload_n 1, 1) := by decide +kernel
theorem dX11_image_5 : decode cX11_image 5 = .ok (.iconst 1, 1) := by decide +kernel
theorem dX11_image_6 : decode cX11_image 6 = .ok (.if_icmp .le 5, 3) := by decide +kernel
theorem dX11_image_9 : decode cX11_image 9 = .ok (.iconst 0, 1) := by decide +kernel
theorem dX11_image_10 : decode cX11_image 10 = .ok (.ireturn, 1) := by decide +kernel
theorem dX11_image_11 : decode cX11_image 11 = .ok (.aload_n 0, 1) := by decide +kernel
theorem dX11_image_12 : decode cX11_image 12 = .ok (.getfield 90, 3) := by decide +kernel
theorem dX11_image_15 : decode cX11_image 15 = .ok (.iload_n 1, 1) := by decide +kernel
theorem dX11_image_16 : decode cX11_image 16 = .ok (.aaload, 1) := by decide +kernel
theorem dX11_image_17 : decode cX11_image 17 = .ok (.astore_n 2, 1) := by decide +kernel
theorem dX11_image_18 : decode cX11_image 18 = .ok (.aload_n 2, 1) := by decide +kernel
theorem dX11_image_19 : decode cX11_image 19 = .ok (.getfield 348, 3) := by decide +kernel
theorem dX11_image_22 : decode cX11_image 22 = .ok (.aload_n 0, 1) := by decide +kernel
theorem dX11_image_23 : decode cX11_image 23 = .ok (.getfield 19, 3) := by decide +kernel
theorem dX11_image_26 : decode cX11_image 26 = .ok (.invokevirtual 349, 3) := by decide +kernel
theorem dX11_image_29 : decode cX11_image 29 = .ok (.aload_n 2, 1) := by decide +kernel
theorem dX11_image_30 : decode cX11_image 30 = .ok (.getfield 351, 3) := by decide +kernel
theorem dX11_image_33 : decode cX11_image 33 = .ok (.aload_n 0, 1) := by decide +kernel
theorem dX11_image_34 : decode cX11_image 34 = .ok (.getfield 29, 3) := by decide +kernel
theorem dX11_image_37 : decode cX11_image 37 = .ok (.invokevirtual 234, 3) := by decide +kernel
theorem dX11_image_40 : decode cX11_image 40 = .ok (.aload_n 2, 1) := by decide +kernel
theorem dX11_image_41 : decode cX11_image 41 = .ok (.getfield 352, 3) := by decide +kernel
theorem dX11_image_44 : decode cX11_image 44 = .ok (.aload_n 0, 1) := by decide +kernel
theorem dX11_image_45 : decode cX11_image 45 = .ok (.getfield 81, 3) := by decide +kernel
theorem dX11_image_48 : decode cX11_image 48 = .ok (.invokevirtual 353, 3) := by decide +kernel
theorem dX11_image_51 : decode cX11_image 51 = .ok (.aload_n 2, 1) := by decide +kernel
theorem dX11_image_52 : decode cX11_image 52 = .ok (.iconst 1, 1) := by decide +kernel
theorem dX11_image_53 : decode cX11_image 53 = .ok (.putfield 356, 3) := by decide +kernel
theorem dX11_image_56 : decode cX11_image 56 = .ok (.iconst 1, 1) := by decide +kernel
theorem dX11_image_57 : decode cX11_image 57 = .ok (.ireturn, 1) := by decide +kernel
theorem dX11_restore_0 : decode cX11_restore 0 = .ok (.iload_n 1, 1) := by decide +kernel
theorem dX11_restore_1 : decode cX11_restore 1 = .ok (.ifCond .lt 20, 3) := by decide +kernel
theorem dX11_restore_4 : decode cX11_restore 4 = .ok (.iload_n 1, 1) := by decide +kernel
theorem dX11_restore_5 : decode cX11_restore 5 = .ok (.iconst 1, 1) := by decide +kernel
theorem dX11_restore_6 : decode cX11_restore 6 = .ok (.if_icmp .gt 15, 3) := by decide +kernel
theorem dX11_restore_9 : decode cX11_restore 9 = .ok (.aload_n 0, 1) := by decide +kernel
theorem dX11_restore_10 : decode cX11_restore 10 = .ok (.getfield 90, 3) := by decide +kernel
theorem dX11_restore_13 : decode cX11_restore 13 = .ok (.iload_n 1, 1) := by decide +kernel
theorem dX11_restore_14 : decode cX11_restore 14 = .ok (.aaload, 1) := by decide +kernel
theorem dX11_restore_15 : decode cX11_restore 15 = .ok (.getfield 356, 3) := by decide +kernel
theorem dX11_restore_18 : decode cX11_restore 18 = .ok (.ifCond .ne 5, 3) := by decide +kernel
theorem dX11_restore_21 : decode cX11_restore 21 = .ok (.iconst 0, 1) := by decide +kernel
theorem dX11_restore_22 : decode cX11_restore 22 = .ok (.ireturn, 1) := by decide +kernel
theorem dX11_restore_23 : decode cX11_restore 23 = .ok (.aload_n 0, 1) := by decide +kernel
theorem dX11_restore_24 : decode cX11_restore 24 = .ok (.getfield 90, 3) := by decide +kernel
theorem dX11_restore_27 : decode cX11_restore 27 = .ok (.iload_n 1, 1) := by decide +kernel
theorem dX11_restore_28 : decode cX11_restore 28 = .ok (.aaload, 1) := by decide +kernel
theorem dX11_restore_29 : decode cX11_restore 29 = .ok (.astore_n 2, 1) := by decide +kernel
theorem dX11_restore_30 : decode cX11_restore 30 = .ok (.aload_n 0, 1) := by decide +kernel
theorem dX11_restore_31 : decode cX11_restore 31 = .ok (.getfield 19, 3) := by decide +kernel
theorem dX11_restore_34 : decode cX11_restore 34 = .ok (.aload_n 2, 1) := by decide +kernel
theorem dX11_restore_35 : decode cX11_restore 35 = .ok (.getfield 348, 3) := by decide +kernel
theorem dX11_restore_38 : decode cX11_restore 38 = .ok (.invokevirtual 349, 3) := by decide +kernel
theorem dX11_restore_41 : decode cX11_restore 41 = .ok (.aload_n 0, 1) := by decide +kernel
theorem dX11_restore_42 : decode cX11_restore 42 = .ok (.getfield 29, 3) := by decide +kernel
theorem dX11_restore_45 : decode cX11_restore 45 = .ok (.aload_n 2, 1) := by decide +kernel
theorem dX11_restore_46 : decode cX11_restore 46 = .ok (.getfield 351, 3) := by decide +kernel
theorem dX11_restore_49 : decode cX11_restore 49 = .ok (.invokevirtual 234, 3) := by decide +kernel
theorem dX11_restore_52 : decode cX11_restore 52 = .ok (.aload_n 0, 1) := by decide +kernel
theorem dX11_restore_53 : decode cX11_restore 53 = .ok (.getfield 81, 3) := by decide +kernel
theorem dX11_restore_56 : decode cX11_restore 56 = .ok (.aload_n 2, 1) := by decide +kernel
theorem dX11_restore_57 : decode cX11_restore 57 = .ok (.getfield 352, 3) := by decide +kernel
theorem dX11_restore_60 : decode cX11_restore 60 = .ok (.invokevirtual 353, 3) := by decide +kernel
theorem dX11_restore_63 : decode cX11_restore 63 = .ok (.aload_n 0, 1) := by decide +kernel
theorem dX11_restore_64 : decode cX11_restore 64 = .ok (.getfield 39, 3) := by decide +kernel
theorem dX11_restore_67 : decode cX11_restore 67 = .ok (.iconst 0, 1) := by decide +kernel
theorem dX11_restore_68 : decode cX11_restore 68 = .ok (.putfield 137, 3) := by decide +kernel
theorem dX11_restore_71 : decode cX11_restore 71 = .ok (.iconst 1, 1) := by decide +kernel
theorem dX11_restore_72 : decode cX11_restore 72 = .ok (.ireturn, 1) := by decide +kernel
theorem dX11_count_0 : decode cX11_count 0 = .ok (.iload_n 1, 1) := by decide +kernel
theorem dX11_count_1 : decode cX11_count 1 = .ok (.tableswitch 87 0 5 #[39, 47, 55, 63, 71, 79], 39) := by decide +kernel
theorem dX11_count_40 : decode cX11_count 40 = .ok (.aload_n 0, 1) := by decide +kernel
theorem dX11_count_41 : decode cX11_count 41 = .ok (.getfield 19, 3) := by decide +kernel
theorem dX11_count_44 : decode cX11_count 44 = .ok (.getfield 288, 3) := by decide +kernel
theorem dX11_count_47 : decode cX11_count 47 = .ok (.ireturn, 1) := by decide +kernel
theorem dX11_count_48 : decode cX11_count 48 = .ok (.aload_n 0, 1) := by decide +kernel
theorem dX11_count_49 : decode cX11_count 49 = .ok (.getfield 19, 3) := by decide +kernel
theorem dX11_count_52 : decode cX11_count 52 = .ok (.getfield 360, 3) := by decide +kernel
theorem dX11_count_55 : decode cX11_count 55 = .ok (.ireturn, 1) := by decide +kernel
theorem dX11_count_56 : decode cX11_count 56 = .ok (.aload_n 0, 1) := by decide +kernel
theorem dX11_count_57 : decode cX11_count 57 = .ok (.getfield 19, 3) := by decide +kernel
theorem dX11_count_60 : decode cX11_count 60 = .ok (.getfield 282, 3) := by decide +kernel
theorem dX11_count_63 : decode cX11_count 63 = .ok (.ireturn, 1) := by decide +kernel
theorem dX11_count_64 : decode cX11_count 64 = .ok (.aload_n 0, 1) := by decide +kernel
theorem dX11_count_65 : decode cX11_count 65 = .ok (.getfield 19, 3) := by decide +kernel
theorem dX11_count_68 : decode cX11_count 68 = .ok (.getfield 258, 3) := by decide +kernel
theorem dX11_count_71 : decode cX11_count 71 = .ok (.ireturn, 1) := by decide +kernel
theorem dX11_count_72 : decode cX11_count 72 = .ok (.aload_n 0, 1) := by decide +kernel
theorem dX11_count_73 : decode cX11_count 73 = .ok (.getfield 19, 3) := by decide +kernel
theorem dX11_count_76 : decode cX11_count 76 = .ok (.getfield 363, 3) := by decide +kernel
theorem dX11_count_79 : decode cX11_count 79 = .ok (.ireturn, 1) := by decide +kernel
theorem dX11_count_80 : decode cX11_count 80 = .ok (.aload_n 0, 1) := by decide +kernel
theorem dX11_count_81 : decode cX11_count 81 = .ok (.getfield 10, 3) := by decide +kernel
theorem dX11_count_84 : decode cX11_count 84 = .ok (.getfield 112, 3) := by decide +kernel
theorem dX11_count_87 : decode cX11_count 87 = .ok (.ireturn, 1) := by decide +kernel
theorem dX11_count_88 : decode cX11_count 88 = .ok (.iconst (-1), 1) := by decide +kernel
theorem dX11_count_89 : decode cX11_count 89 = .ok (.ireturn, 1) := by decide +kernel
theorem dX12_thrown_0 : decode cX12_thrown 0 = .ok (.aload_n 0, 1) := by decide +kernel
theorem dX12_thrown_1 : decode cX12_thrown 1 = .ok (.getfield 1, 3) := by decide +kernel
theorem dX12_thrown_4 : decode cX12_thrown 4 = .ok (.ireturn, 1) := by decide +kernel
theorem dX12_throwsIf_0 : decode cX12_throwsIf 0 = .ok (.aload_n 0, 1) := by decide +kernel
theorem dX12_throwsIf_1 : decode cX12_throwsIf 1 = .ok (.iload_n 1, 1) := by decide +kernel
theorem dX12_throwsIf_2 : decode cX12_throwsIf 2 = .ok (.ifCond .eq 7, 3) := by decide +kernel
theorem dX12_throwsIf_5 : decode cX12_throwsIf 5 = .ok (.iconst 1, 1) := by decide +kernel
theorem dX12_throwsIf_6 : decode cX12_throwsIf 6 = .ok (.goto 4, 3) := by decide +kernel
theorem dX12_throwsIf_9 : decode cX12_throwsIf 9 = .ok (.iconst 0, 1) := by decide +kernel
theorem dX12_throwsIf_10 : decode cX12_throwsIf 10 = .ok (.putfield 1, 3) := by decide +kernel
theorem dX12_throwsIf_13 : decode cX12_throwsIf 13 = .ok (.iload_n 1, 1) := by decide +kernel
theorem dX12_throwsIf_14 : decode cX12_throwsIf 14 = .ok (.ireturn, 1) := by decide +kernel
theorem dX12_feed_0 : decode cX12_feed 0 = .ok (.aload_n 0, 1) := by decide +kernel
theorem dX12_feed_1 : decode cX12_feed 1 = .ok (.iconst 0, 1) := by decide +kernel
theorem dX12_feed_2 : decode cX12_feed 2 = .ok (.putfield 1, 3) := by decide +kernel
theorem dX12_feed_5 : decode cX12_feed 5 = .ok (.aload_n 0, 1) := by decide +kernel
theorem dX12_feed_6 : decode cX12_feed 6 = .ok (.getfield 7, 3) := by decide +kernel
theorem dX12_feed_9 : decode cX12_feed 9 = .ok (.bipush 20, 2) := by decide +kernel
theorem dX12_feed_11 : decode cX12_feed 11 = .ok (.iadd, 1) := by decide +kernel
theorem dX12_feed_12 : decode cX12_feed 12 = .ok (.sipush 940, 3) := by decide +kernel
theorem dX12_feed_15 : decode cX12_feed 15 = .ok (.if_icmp .le 5, 3) := by decide +kernel
theorem dX12_feed_18 : decode cX12_feed 18 = .ok (.iconst (-1), 1) := by decide +kernel
theorem dX12_feed_19 : decode cX12_feed 19 = .ok (.ireturn, 1) := by decide +kernel
theorem dX12_feed_20 : decode cX12_feed 20 = .ok (.aload_n 0, 1) := by decide +kernel
theorem dX12_feed_21 : decode cX12_feed 21 = .ok (.iload_n 1, 1) := by decide +kernel
theorem dX12_feed_22 : decode cX12_feed 22 = .ok (.invokevirtual 10, 3) := by decide +kernel
theorem dX12_feed_25 : decode cX12_feed 25 = .ok (.aload_n 0, 1) := by decide +kernel
theorem dX12_feed_26 : decode cX12_feed 26 = .ok (.iload_n 2, 1) := by decide +kernel
theorem dX12_feed_27 : decode cX12_feed 27 = .ok (.invokevirtual 10, 3) := by decide +kernel
theorem dX12_feed_30 : decode cX12_feed 30 = .ok (.aload_n 0, 1) := by decide +kernel
theorem dX12_feed_31 : decode cX12_feed 31 = .ok (.iload_n 3, 1) := by decide +kernel
theorem dX12_feed_32 : decode cX12_feed 32 = .ok (.invokevirtual 10, 3) := by decide +kernel
theorem dX12_feed_35 : decode cX12_feed 35 = .ok (.aload_n 0, 1) := by decide +kernel
theorem dX12_feed_36 : decode cX12_feed 36 = .ok (.iload 4, 2) := by decide +kernel
theorem dX12_feed_38 : decode cX12_feed 38 = .ok (.invokevirtual 10, 3) := by decide +kernel
theorem dX12_feed_41 : decode cX12_feed 41 = .ok (.aload_n 0, 1) := by decide +kernel
theorem dX12_feed_42 : decode cX12_feed 42 = .ok (.iload 5, 2) := by decide +kernel
theorem dX12_feed_44 : decode cX12_feed 44 = .ok (.invokevirtual 10, 3) := by decide +kernel
theorem dX12_feed_47 : decode cX12_feed 47 = .ok (.aload_n 0, 1) := by decide +kernel
theorem dX12_feed_48 : decode cX12_feed 48 = .ok (.getfield 7, 3) := by decide +kernel
theorem dX12_feed_51 : decode cX12_feed 51 = .ok (.ireturn, 1) := by decide +kernel
theorem dX12_four_0 : decode cX12_four 0 = .ok (.bipush 24, 2) := by decide +kernel
theorem dX12_four_2 : decode cX12_four 2 = .ok (.istore_n 2, 1) := by decide +kernel
theorem dX12_four_3 : decode cX12_four 3 = .ok (.iload_n 2, 1) := by decide +kernel
theorem dX12_four_4 : decode cX12_four 4 = .ok (.ifCond .lt 32, 3) := by decide +kernel
theorem dX12_four_7 : decode cX12_four 7 = .ok (.aload_n 0, 1) := by decide +kernel
theorem dX12_four_8 : decode cX12_four 8 = .ok (.getfield 14, 3) := by decide +kernel
theorem dX12_four_11 : decode cX12_four 11 = .ok (.aload_n 0, 1) := by decide +kernel
theorem dX12_four_12 : decode cX12_four 12 = .ok (.getfield 7, 3) := by decide +kernel
theorem dX12_four_15 : decode cX12_four 15 = .ok (.iload_n 1, 1) := by decide +kernel
theorem dX12_four_16 : decode cX12_four 16 = .ok (.iload_n 2, 1) := by decide +kernel
theorem dX12_four_17 : decode cX12_four 17 = .ok (.ishr, 1) := by decide +kernel
theorem dX12_four_18 : decode cX12_four 18 = .ok (.i2b, 1) := by decide +kernel
theorem dX12_four_19 : decode cX12_four 19 = .ok (.bastore, 1) := by decide +kernel
theorem dX12_four_20 : decode cX12_four 20 = .ok (.aload_n 0, 1) := by decide +kernel
theorem dX12_four_21 : decode cX12_four 21 = .ok (.dup, 1) := by decide +kernel
theorem dX12_four_22 : decode cX12_four 22 = .ok (.getfield 7, 3) := by decide +kernel
theorem dX12_four_25 : decode cX12_four 25 = .ok (.iconst 1, 1) := by decide +kernel
theorem dX12_four_26 : decode cX12_four 26 = .ok (.iadd, 1) := by decide +kernel
theorem dX12_four_27 : decode cX12_four 27 = .ok (.putfield 7, 3) := by decide +kernel
theorem dX12_four_30 : decode cX12_four 30 = .ok (.iinc 2 (-8), 3) := by decide +kernel
theorem dX12_four_33 : decode cX12_four 33 = .ok (.goto (-30), 3) := by decide +kernel
theorem dX12_four_36 : decode cX12_four 36 = .ok (.return_, 1) := by decide +kernel
theorem dX12_end_0 : decode cX12_end 0 = .ok (.aload_n 0, 1) := by decide +kernel
theorem dX12_end_1 : decode cX12_end 1 = .ok (.iconst 0, 1) := by decide +kernel
theorem dX12_end_2 : decode cX12_end 2 = .ok (.putfield 1, 3) := by decide +kernel
theorem dX12_end_5 : decode cX12_end 5 = .ok (.iload_n 1, 1) := by decide +kernel
theorem dX12_end_6 : decode cX12_end 6 = .ok (.ifCond .lt 11, 3) := by decide +kernel
theorem dX12_end_9 : decode cX12_end 9 = .ok (.iload_n 1, 1) := by decide +kernel
theorem dX12_end_10 : decode cX12_end 10 = .ok (.aload_n 0, 1) := by decide +kernel
theorem dX12_end_11 : decode cX12_end 11 = .ok (.getfield 7, 3) := by decide +kernel
theorem dX12_end_14 : decode cX12_end 14 = .ok (.if_icmp .le 5, 3) := by decide +kernel
theorem dX12_end_17 : decode cX12_end 17 = .ok (.iconst 0, 1) := by decide +kernel
theorem dX12_end_18 : decode cX12_end 18 = .ok (.ireturn, 1) := by decide +kernel
theorem dX12_end_19 : decode cX12_end 19 = .ok (.aload_n 0, 1) := by decide +kernel
theorem dX12_end_20 : decode cX12_end 20 = .ok (.iload_n 1, 1) := by decide +kernel
theorem dX12_end_21 : decode cX12_end 21 = .ok (.putfield 7, 3) := by decide +kernel
theorem dX12_end_24 : decode cX12_end 24 = .ok (.iconst 1, 1) := by decide +kernel
theorem dX12_end_25 : decode cX12_end 25 = .ok (.ireturn, 1) := by decide +kernel
theorem dX12_taken_0 : decode cX12_taken 0 = .ok (.aload_n 0, 1) := by decide +kernel
theorem dX12_taken_1 : decode cX12_taken 1 = .ok (.aload_n 0, 1) := by decide +kernel
theorem dX12_taken_2 : decode cX12_taken 2 = .ok (.getfield 7, 3) := by decide +kernel
theorem dX12_taken_5 : decode cX12_taken 5 = .ok (.putfield 18, 3) := by decide +kernel
theorem dX12_taken_8 : decode cX12_taken 8 = .ok (.aload_n 0, 1) := by decide +kernel
theorem dX12_taken_9 : decode cX12_taken 9 = .ok (.iconst 0, 1) := by decide +kernel
theorem dX12_taken_10 : decode cX12_taken 10 = .ok (.putfield 7, 3) := by decide +kernel
theorem dX12_taken_13 : decode cX12_taken 13 = .ok (.aload_n 0, 1) := by decide +kernel
theorem dX12_taken_14 : decode cX12_taken 14 = .ok (.iconst 0, 1) := by decide +kernel
theorem dX12_taken_15 : decode cX12_taken 15 = .ok (.putfield 21, 3) := by decide +kernel
theorem dX12_taken_18 : decode cX12_taken 18 = .ok (.aload_n 0, 1) := by decide +kernel
theorem dX12_taken_19 : decode cX12_taken 19 = .ok (.iload_n 1, 1) := by decide +kernel
theorem dX12_taken_20 : decode cX12_taken 20 = .ok (.putfield 24, 3) := by decide +kernel
theorem dX12_taken_23 : decode cX12_taken 23 = .ok (.return_, 1) := by decide +kernel
theorem dX12_isIn_0 : decode cX12_isIn 0 = .ok (.iload_n 0, 1) := by decide +kernel
theorem dX12_isIn_1 : decode cX12_isIn 1 = .ok (.iload_n 1, 1) := by decide +kernel
theorem dX12_isIn_2 : decode cX12_isIn 2 = .ok (.if_icmp .lt 12, 3) := by decide +kernel
theorem dX12_isIn_5 : decode cX12_isIn 5 = .ok (.iload_n 0, 1) := by decide +kernel
theorem dX12_isIn_6 : decode cX12_isIn 6 = .ok (.iload_n 2, 1) := by decide +kernel
theorem dX12_isIn_7 : decode cX12_isIn 7 = .ok (.if_icmp .gt 7, 3) := by decide +kernel
theorem dX12_isIn_10 : decode cX12_isIn 10 = .ok (.iconst 1, 1) := by decide +kernel
theorem dX12_isIn_11 : decode cX12_isIn 11 = .ok (.goto 4, 3) := by decide +kernel
theorem dX12_isIn_14 : decode cX12_isIn 14 = .ok (.iconst 0, 1) := by decide +kernel
theorem dX12_isIn_15 : decode cX12_isIn 15 = .ok (.ireturn, 1) := by decide +kernel
theorem dX12_bitOf_0 : decode cX12_bitOf 0 = .ok (.iload_n 0, 1) := by decide +kernel
theorem dX12_bitOf_1 : decode cX12_bitOf 1 = .ok (.iload_n 1, 1) := by decide +kernel
theorem dX12_bitOf_2 : decode cX12_bitOf 2 = .ok (.ishr, 1) := by decide +kernel
theorem dX12_bitOf_3 : decode cX12_bitOf 3 = .ok (.iconst 1, 1) := by decide +kernel
theorem dX12_bitOf_4 : decode cX12_bitOf 4 = .ok (.iand, 1) := by decide +kernel
theorem dX12_bitOf_5 : decode cX12_bitOf 5 = .ok (.iconst 1, 1) := by decide +kernel
theorem dX12_bitOf_6 : decode cX12_bitOf 6 = .ok (.if_icmp .ne 7, 3) := by decide +kernel
theorem dX12_bitOf_9 : decode cX12_bitOf 9 = .ok (.iconst 1, 1) := by decide +kernel
theorem dX12_bitOf_10 : decode cX12_bitOf 10 = .ok (.goto 4, 3) := by decide +kernel
theorem dX12_bitOf_13 : decode cX12_bitOf 13 = .ok (.iconst 0, 1) := by decide +kernel
theorem dX12_bitOf_14 : decode cX12_bitOf 14 = .ok (.ireturn, 1) := by decide +kernel
theorem dX12_greater_0 : decode cX12_greater 0 = .ok (.iload_n 0, 1) := by decide +kernel
theorem dX12_greater_1 : decode cX12_greater 1 = .ok (.iload_n 1, 1) := by decide +kernel
theorem dX12_greater_2 : decode cX12_greater 2 = .ok (.if_icmp .le 7, 3) := by decide +kernel
theorem dX12_greater_5 : decode cX12_greater 5 = .ok (.iload_n 0, 1) := by decide +kernel
theorem dX12_greater_6 : decode cX12_greater 6 = .ok (.goto 4, 3) := by decide +kernel
theorem dX12_greater_9 : decode cX12_greater 9 = .ok (.iload_n 1, 1) := by decide +kernel
theorem dX12_greater_10 : decode cX12_greater 10 = .ok (.ireturn, 1) := by decide +kernel
theorem dX12_bits_0 : decode cX12_bits 0 = .ok (.iconst 0, 1) := by decide +kernel
theorem dX12_bits_1 : decode cX12_bits 1 = .ok (.istore_n 1, 1) := by decide +kernel
theorem dX12_bits_2 : decode cX12_bits 2 = .ok (.iload_n 0, 1) := by decide +kernel
theorem dX12_bits_3 : decode cX12_bits 3 = .ok (.istore_n 2, 1) := by decide +kernel
theorem dX12_bits_4 : decode cX12_bits 4 = .ok (.iload_n 2, 1) := by decide +kernel
theorem dX12_bits_5 : decode cX12_bits 5 = .ok (.ifCond .eq 15, 3) := by decide +kernel
theorem dX12_bits_8 : decode cX12_bits 8 = .ok (.iinc 1 1, 3) := by decide +kernel
theorem dX12_bits_11 : decode cX12_bits 11 = .ok (.iload_n 2, 1) := by decide +kernel
theorem dX12_bits_12 : decode cX12_bits 12 = .ok (.iload_n 2, 1) := by decide +kernel
theorem dX12_bits_13 : decode cX12_bits 13 = .ok (.iconst 1, 1) := by decide +kernel
theorem dX12_bits_14 : decode cX12_bits 14 = .ok (.isub, 1) := by decide +kernel
theorem dX12_bits_15 : decode cX12_bits 15 = .ok (.iand, 1) := by decide +kernel
theorem dX12_bits_16 : decode cX12_bits 16 = .ok (.istore_n 2, 1) := by decide +kernel
theorem dX12_bits_17 : decode cX12_bits 17 = .ok (.goto (-13), 3) := by decide +kernel
theorem dX12_bits_20 : decode cX12_bits 20 = .ok (.iload_n 1, 1) := by decide +kernel
theorem dX12_bits_21 : decode cX12_bits 21 = .ok (.ireturn, 1) := by decide +kernel
theorem dX12_octet_0 : decode cX12_octet 0 = .ok (.aload_n 0, 1) := by decide +kernel
theorem dX12_octet_1 : decode cX12_octet 1 = .ok (.getfield 14, 3) := by decide +kernel
theorem dX12_octet_4 : decode cX12_octet 4 = .ok (.iload_n 1, 1) := by decide +kernel
theorem dX12_octet_5 : decode cX12_octet 5 = .ok (.baload, 1) := by decide +kernel
theorem dX12_octet_6 : decode cX12_octet 6 = .ok (.sipush 255, 3) := by decide +kernel
theorem dX12_octet_9 : decode cX12_octet 9 = .ok (.iand, 1) := by decide +kernel
theorem dX12_octet_10 : decode cX12_octet 10 = .ok (.ireturn, 1) := by decide +kernel
theorem dX12_init_0 : decode cX12_init 0 = .ok (.aload_n 0, 1) := by decide +kernel
theorem dX12_init_1 : decode cX12_init 1 = .ok (.invokespecial 27, 3) := by decide +kernel
theorem dX12_init_4 : decode cX12_init 4 = .ok (.aload_n 0, 1) := by decide +kernel
theorem dX12_init_5 : decode cX12_init 5 = .ok (.sipush 940, 3) := by decide +kernel
theorem dX12_init_8 : decode cX12_init 8 = .ok (.newarray .byte, 2) := by decide +kernel
theorem dX12_init_10 : decode cX12_init 10 = .ok (.putfield 14, 3) := by decide +kernel
theorem dX12_init_13 : decode cX12_init 13 = .ok (.aload_n 0, 1) := by decide +kernel
theorem dX12_init_14 : decode cX12_init 14 = .ok (.sipush 270, 3) := by decide +kernel
theorem dX12_init_17 : decode cX12_init 17 = .ok (.newarray .int, 2) := by decide +kernel
theorem dX12_init_19 : decode cX12_init 19 = .ok (.putfield 33, 3) := by decide +kernel
theorem dX12_init_22 : decode cX12_init 22 = .ok (.aload_n 0, 1) := by decide +kernel
theorem dX12_init_23 : decode cX12_init 23 = .ok (.bipush 80, 2) := by decide +kernel
theorem dX12_init_25 : decode cX12_init 25 = .ok (.newarray .int, 2) := by decide +kernel
theorem dX12_init_27 : decode cX12_init 27 = .ok (.putfield 37, 3) := by decide +kernel
theorem dX12_init_30 : decode cX12_init 30 = .ok (.aload_n 0, 1) := by decide +kernel
theorem dX12_init_31 : decode cX12_init 31 = .ok (.sipush 135, 3) := by decide +kernel
theorem dX12_init_34 : decode cX12_init 34 = .ok (.newarray .int, 2) := by decide +kernel
theorem dX12_init_36 : decode cX12_init 36 = .ok (.putfield 40, 3) := by decide +kernel
theorem dX12_init_39 : decode cX12_init 39 = .ok (.aload_n 0, 1) := by decide +kernel
theorem dX12_init_40 : decode cX12_init 40 = .ok (.bipush 30, 2) := by decide +kernel
theorem dX12_init_42 : decode cX12_init 42 = .ok (.newarray .long, 2) := by decide +kernel
theorem dX12_init_44 : decode cX12_init 44 = .ok (.putfield 43, 3) := by decide +kernel
theorem dX12_init_47 : decode cX12_init 47 = .ok (.aload_n 0, 1) := by decide +kernel
theorem dX12_init_48 : decode cX12_init 48 = .ok (.bipush 24, 2) := by decide +kernel
theorem dX12_init_50 : decode cX12_init 50 = .ok (.newarray .long, 2) := by decide +kernel
theorem dX12_init_52 : decode cX12_init 52 = .ok (.putfield 47, 3) := by decide +kernel
theorem dX12_init_55 : decode cX12_init 55 = .ok (.aload_n 0, 1) := by decide +kernel
theorem dX12_init_56 : decode cX12_init 56 = .ok (.bipush 72, 2) := by decide +kernel
theorem dX12_init_58 : decode cX12_init 58 = .ok (.newarray .int, 2) := by decide +kernel
theorem dX12_init_60 : decode cX12_init 60 = .ok (.putfield 50, 3) := by decide +kernel
theorem dX12_init_63 : decode cX12_init 63 = .ok (.aload_n 0, 1) := by decide +kernel
theorem dX12_init_64 : decode cX12_init 64 = .ok (.bipush 9, 2) := by decide +kernel
theorem dX12_init_66 : decode cX12_init 66 = .ok (.newarray .int, 2) := by decide +kernel
theorem dX12_init_68 : decode cX12_init 68 = .ok (.putfield 53, 3) := by decide +kernel
theorem dX12_init_71 : decode cX12_init 71 = .ok (.aload_n 0, 1) := by decide +kernel
theorem dX12_init_72 : decode cX12_init 72 = .ok (.bipush 6, 2) := by decide +kernel
theorem dX12_init_74 : decode cX12_init 74 = .ok (.newarray .int, 2) := by decide +kernel
theorem dX12_init_76 : decode cX12_init 76 = .ok (.putfield 56, 3) := by decide +kernel
theorem dX12_init_79 : decode cX12_init 79 = .ok (.aload_n 0, 1) := by decide +kernel
theorem dX12_init_80 : decode cX12_init 80 = .ok (.bipush 31, 2) := by decide +kernel
theorem dX12_init_82 : decode cX12_init 82 = .ok (.newarray .boolean, 2) := by decide +kernel
theorem dX12_init_84 : decode cX12_init 84 = .ok (.putfield 59, 3) := by decide +kernel
theorem dX12_init_87 : decode cX12_init 87 = .ok (.aload_n 0, 1) := by decide +kernel
theorem dX12_init_88 : decode cX12_init 88 = .ok (.bipush 11, 2) := by decide +kernel
theorem dX12_init_90 : decode cX12_init 90 = .ok (.newarray .int, 2) := by decide +kernel
theorem dX12_init_92 : decode cX12_init 92 = .ok (.putfield 63, 3) := by decide +kernel
theorem dX12_init_95 : decode cX12_init 95 = .ok (.aload_n 0, 1) := by decide +kernel
theorem dX12_init_96 : decode cX12_init 96 = .ok (.bipush 24, 2) := by decide +kernel
theorem dX12_init_98 : decode cX12_init 98 = .ok (.newarray .byte, 2) := by decide +kernel
theorem dX12_init_100 : decode cX12_init 100 = .ok (.putfield 66, 3) := by decide +kernel
theorem dX12_init_103 : decode cX12_init 103 = .ok (.aload_n 0, 1) := by decide +kernel
theorem dX12_init_104 : decode cX12_init 104 = .ok (.iconst 4, 1) := by decide +kernel
theorem dX12_init_105 : decode cX12_init 105 = .ok (.newarray .int, 2) := by decide +kernel
theorem dX12_init_107 : decode cX12_init 107 = .ok (.putfield 69, 3) := by decide +kernel
theorem dX12_init_110 : decode cX12_init 110 = .ok (.aload_n 0, 1) := by decide +kernel
theorem dX12_init_111 : decode cX12_init 111 = .ok (.bipush 45, 2) := by decide +kernel
theorem dX12_init_113 : decode cX12_init 113 = .ok (.newarray .int, 2) := by decide +kernel
theorem dX12_init_115 : decode cX12_init 115 = .ok (.putfield 72, 3) := by decide +kernel
theorem dX12_init_118 : decode cX12_init 118 = .ok (.aload_n 0, 1) := by decide +kernel
theorem dX12_init_119 : decode cX12_init 119 = .ok (.bipush 45, 2) := by decide +kernel
theorem dX12_init_121 : decode cX12_init 121 = .ok (.newarray .boolean, 2) := by decide +kernel
theorem dX12_init_123 : decode cX12_init 123 = .ok (.putfield 75, 3) := by decide +kernel
theorem dX12_init_126 : decode cX12_init 126 = .ok (.aload_n 0, 1) := by decide +kernel
theorem dX12_init_127 : decode cX12_init 127 = .ok (.sipush 540, 3) := by decide +kernel
theorem dX12_init_130 : decode cX12_init 130 = .ok (.newarray .int, 2) := by decide +kernel
theorem dX12_init_132 : decode cX12_init 132 = .ok (.putfield 78, 3) := by decide +kernel
theorem dX12_init_135 : decode cX12_init 135 = .ok (.aload_n 0, 1) := by decide +kernel
theorem dX12_init_136 : decode cX12_init 136 = .ok (.bipush 30, 2) := by decide +kernel
theorem dX12_init_138 : decode cX12_init 138 = .ok (.newarray .long, 2) := by decide +kernel
theorem dX12_init_140 : decode cX12_init 140 = .ok (.putfield 81, 3) := by decide +kernel
theorem dX12_init_143 : decode cX12_init 143 = .ok (.aload_n 0, 1) := by decide +kernel
theorem dX12_init_144 : decode cX12_init 144 = .ok (.iconst 2, 1) := by decide +kernel
theorem dX12_init_145 : decode cX12_init 145 = .ok (.newarray .boolean, 2) := by decide +kernel
theorem dX12_init_147 : decode cX12_init 147 = .ok (.putfield 84, 3) := by decide +kernel
theorem dX12_init_150 : decode cX12_init 150 = .ok (.aload_n 0, 1) := by decide +kernel
theorem dX12_init_151 : decode cX12_init 151 = .ok (.getfield 47, 3) := by decide +kernel
theorem dX12_init_154 : decode cX12_init 154 = .ok (.iconst 0, 1) := by decide +kernel
theorem dX12_init_155 : decode cX12_init 155 = .ok (.ldc2_w 87, 3) := by decide +kernel
theorem dX12_init_158 : decode cX12_init 158 = .ok (.lastore, 1) := by decide +kernel
theorem dX12_init_159 : decode cX12_init 159 = .ok (.aload_n 0, 1) := by decide +kernel
theorem dX12_init_160 : decode cX12_init 160 = .ok (.getfield 47, 3) := by decide +kernel
theorem dX12_init_163 : decode cX12_init 163 = .ok (.iconst 1, 1) := by decide +kernel
theorem dX12_init_164 : decode cX12_init 164 = .ok (.ldc2_w 89, 3) := by decide +kernel
theorem dX12_init_167 : decode cX12_init 167 = .ok (.lastore, 1) := by decide +kernel
theorem dX12_init_168 : decode cX12_init 168 = .ok (.aload_n 0, 1) := by decide +kernel
theorem dX12_init_169 : decode cX12_init 169 = .ok (.getfield 47, 3) := by decide +kernel
theorem dX12_init_172 : decode cX12_init 172 = .ok (.iconst 2, 1) := by decide +kernel
theorem dX12_init_173 : decode cX12_init 173 = .ok (.ldc2_w 91, 3) := by decide +kernel
theorem dX12_init_176 : decode cX12_init 176 = .ok (.lastore, 1) := by decide +kernel
theorem dX12_init_177 : decode cX12_init 177 = .ok (.aload_n 0, 1) := by decide +kernel
theorem dX12_init_178 : decode cX12_init 178 = .ok (.getfield 47, 3) := by decide +kernel
theorem dX12_init_181 : decode cX12_init 181 = .ok (.iconst 3, 1) := by decide +kernel
theorem dX12_init_182 : decode cX12_init 182 = .ok (.ldc2_w 93, 3) := by decide +kernel
theorem dX12_init_185 : decode cX12_init 185 = .ok (.lastore, 1) := by decide +kernel
theorem dX12_init_186 : decode cX12_init 186 = .ok (.aload_n 0, 1) := by decide +kernel
theorem dX12_init_187 : decode cX12_init 187 = .ok (.getfield 47, 3) := by decide +kernel
theorem dX12_init_190 : decode cX12_init 190 = .ok (.iconst 4, 1) := by decide +kernel
theorem dX12_init_191 : decode cX12_init 191 = .ok (.ldc2_w 95, 3) := by decide +kernel
theorem dX12_init_194 : decode cX12_init 194 = .ok (.lastore, 1) := by decide +kernel
theorem dX12_init_195 : decode cX12_init 195 = .ok (.aload_n 0, 1) := by decide +kernel
theorem dX12_init_196 : decode cX12_init 196 = .ok (.getfield 47, 3) := by decide +kernel
theorem dX12_init_199 : decode cX12_init 199 = .ok (.iconst 5, 1) := by decide +kernel
theorem dX12_init_200 : decode cX12_init 200 = .ok (.ldc2_w 97, 3) := by decide +kernel
theorem dX12_init_203 : decode cX12_init 203 = .ok (.lastore, 1) := by decide +kernel
theorem dX12_init_204 : decode cX12_init 204 = .ok (.aload_n 0, 1) := by decide +kernel
theorem dX12_init_205 : decode cX12_init 205 = .ok (.getfield 47, 3) := by decide +kernel
theorem dX12_init_208 : decode cX12_init 208 = .ok (.bipush 6, 2) := by decide +kernel
theorem dX12_init_210 : decode cX12_init 210 = .ok (.ldc2_w 99, 3) := by decide +kernel
theorem dX12_init_213 : decode cX12_init 213 = .ok (.lastore, 1) := by decide +kernel
theorem dX12_init_214 : decode cX12_init 214 = .ok (.aload_n 0, 1) := by decide +kernel
theorem dX12_init_215 : decode cX12_init 215 = .ok (.getfield 47, 3) := by decide +kernel
theorem dX12_init_218 : decode cX12_init 218 = .ok (.bipush 7, 2) := by decide +kernel
theorem dX12_init_220 : decode cX12_init 220 = .ok (.ldc2_w 101, 3) := by decide +kernel
theorem dX12_init_223 : decode cX12_init 223 = .ok (.lastore, 1) := by decide +kernel
theorem dX12_init_224 : decode cX12_init 224 = .ok (.aload_n 0, 1) := by decide +kernel
theorem dX12_init_225 : decode cX12_init 225 = .ok (.getfield 47, 3) := by decide +kernel
theorem dX12_init_228 : decode cX12_init 228 = .ok (.bipush 8, 2) := by decide +kernel
theorem dX12_init_230 : decode cX12_init 230 = .ok (.ldc2_w 103, 3) := by decide +kernel
theorem dX12_init_233 : decode cX12_init 233 = .ok (.lastore, 1) := by decide +kernel
theorem dX12_init_234 : decode cX12_init 234 = .ok (.aload_n 0, 1) := by decide +kernel
theorem dX12_init_235 : decode cX12_init 235 = .ok (.getfield 47, 3) := by decide +kernel
theorem dX12_init_238 : decode cX12_init 238 = .ok (.bipush 9, 2) := by decide +kernel
theorem dX12_init_240 : decode cX12_init 240 = .ok (.ldc2_w 105, 3) := by decide +kernel
theorem dX12_init_243 : decode cX12_init 243 = .ok (.lastore, 1) := by decide +kernel
theorem dX12_init_244 : decode cX12_init 244 = .ok (.aload_n 0, 1) := by decide +kernel
theorem dX12_init_245 : decode cX12_init 245 = .ok (.getfield 47, 3) := by decide +kernel
theorem dX12_init_248 : decode cX12_init 248 = .ok (.bipush 10, 2) := by decide +kernel
theorem dX12_init_250 : decode cX12_init 250 = .ok (.ldc2_w 107, 3) := by decide +kernel
theorem dX12_init_253 : decode cX12_init 253 = .ok (.lastore, 1) := by decide +kernel
theorem dX12_init_254 : decode cX12_init 254 = .ok (.aload_n 0, 1) := by decide +kernel
theorem dX12_init_255 : decode cX12_init 255 = .ok (.getfield 47, 3) := by decide +kernel
theorem dX12_init_258 : decode cX12_init 258 = .ok (.bipush 11, 2) := by decide +kernel
theorem dX12_init_260 : decode cX12_init 260 = .ok (.ldc2_w 109, 3) := by decide +kernel
theorem dX12_init_263 : decode cX12_init 263 = .ok (.lastore, 1) := by decide +kernel
theorem dX12_init_264 : decode cX12_init 264 = .ok (.aload_n 0, 1) := by decide +kernel
theorem dX12_init_265 : decode cX12_init 265 = .ok (.getfield 47, 3) := by decide +kernel
theorem dX12_init_268 : decode cX12_init 268 = .ok (.bipush 12, 2) := by decide +kernel
theorem dX12_init_270 : decode cX12_init 270 = .ok (.ldc2_w 111, 3) := by decide +kernel
theorem dX12_init_273 : decode cX12_init 273 = .ok (.lastore, 1) := by decide +kernel
theorem dX12_init_274 : decode cX12_init 274 = .ok (.aload_n 0, 1) := by decide +kernel
theorem dX12_init_275 : decode cX12_init 275 = .ok (.getfield 47, 3) := by decide +kernel
theorem dX12_init_278 : decode cX12_init 278 = .ok (.bipush 13, 2) := by decide +kernel
theorem dX12_init_280 : decode cX12_init 280 = .ok (.ldc2_w 113, 3) := by decide +kernel
theorem dX12_init_283 : decode cX12_init 283 = .ok (.lastore, 1) := by decide +kernel
theorem dX12_init_284 : decode cX12_init 284 = .ok (.aload_n 0, 1) := by decide +kernel
theorem dX12_init_285 : decode cX12_init 285 = .ok (.getfield 47, 3) := by decide +kernel
theorem dX12_init_288 : decode cX12_init 288 = .ok (.bipush 14, 2) := by decide +kernel
theorem dX12_init_290 : decode cX12_init 290 = .ok (.ldc2_w 115, 3) := by decide +kernel
theorem dX12_init_293 : decode cX12_init 293 = .ok (.lastore, 1) := by decide +kernel
theorem dX12_init_294 : decode cX12_init 294 = .ok (.aload_n 0, 1) := by decide +kernel
theorem dX12_init_295 : decode cX12_init 295 = .ok (.getfield 47, 3) := by decide +kernel
theorem dX12_init_298 : decode cX12_init 298 = .ok (.bipush 15, 2) := by decide +kernel
theorem dX12_init_300 : decode cX12_init 300 = .ok (.ldc2_w 117, 3) := by decide +kernel
theorem dX12_init_303 : decode cX12_init 303 = .ok (.lastore, 1) := by decide +kernel
theorem dX12_init_304 : decode cX12_init 304 = .ok (.aload_n 0, 1) := by decide +kernel
theorem dX12_init_305 : decode cX12_init 305 = .ok (.getfield 47, 3) := by decide +kernel
theorem dX12_init_308 : decode cX12_init 308 = .ok (.bipush 16, 2) := by decide +kernel
theorem dX12_init_310 : decode cX12_init 310 = .ok (.ldc2_w 119, 3) := by decide +kernel
theorem dX12_init_313 : decode cX12_init 313 = .ok (.lastore, 1) := by decide +kernel
theorem dX12_init_314 : decode cX12_init 314 = .ok (.aload_n 0, 1) := by decide +kernel
theorem dX12_init_315 : decode cX12_init 315 = .ok (.getfield 47, 3) := by decide +kernel
theorem dX12_init_318 : decode cX12_init 318 = .ok (.bipush 17, 2) := by decide +kernel
theorem dX12_init_320 : decode cX12_init 320 = .ok (.ldc2_w 121, 3) := by decide +kernel
theorem dX12_init_323 : decode cX12_init 323 = .ok (.lastore, 1) := by decide +kernel
theorem dX12_init_324 : decode cX12_init 324 = .ok (.aload_n 0, 1) := by decide +kernel
theorem dX12_init_325 : decode cX12_init 325 = .ok (.getfield 47, 3) := by decide +kernel
theorem dX12_init_328 : decode cX12_init 328 = .ok (.bipush 18, 2) := by decide +kernel
theorem dX12_init_330 : decode cX12_init 330 = .ok (.ldc2_w 123, 3) := by decide +kernel
theorem dX12_init_333 : decode cX12_init 333 = .ok (.lastore, 1) := by decide +kernel
theorem dX12_init_334 : decode cX12_init 334 = .ok (.aload_n 0, 1) := by decide +kernel
theorem dX12_init_335 : decode cX12_init 335 = .ok (.getfield 47, 3) := by decide +kernel
theorem dX12_init_338 : decode cX12_init 338 = .ok (.bipush 19, 2) := by decide +kernel
theorem dX12_init_340 : decode cX12_init 340 = .ok (.ldc2_w 125, 3) := by decide +kernel
theorem dX12_init_343 : decode cX12_init 343 = .ok (.lastore, 1) := by decide +kernel
theorem dX12_init_344 : decode cX12_init 344 = .ok (.aload_n 0, 1) := by decide +kernel
theorem dX12_init_345 : decode cX12_init 345 = .ok (.getfield 47, 3) := by decide +kernel
theorem dX12_init_348 : decode cX12_init 348 = .ok (.bipush 20, 2) := by decide +kernel
theorem dX12_init_350 : decode cX12_init 350 = .ok (.ldc2_w 127, 3) := by decide +kernel
theorem dX12_init_353 : decode cX12_init 353 = .ok (.lastore, 1) := by decide +kernel
theorem dX12_init_354 : decode cX12_init 354 = .ok (.aload_n 0, 1) := by decide +kernel
theorem dX12_init_355 : decode cX12_init 355 = .ok (.getfield 47, 3) := by decide +kernel
theorem dX12_init_358 : decode cX12_init 358 = .ok (.bipush 21, 2) := by decide +kernel
theorem dX12_init_360 : decode cX12_init 360 = .ok (.ldc2_w 129, 3) := by decide +kernel
theorem dX12_init_363 : decode cX12_init 363 = .ok (.lastore, 1) := by decide +kernel
theorem dX12_init_364 : decode cX12_init 364 = .ok (.aload_n 0, 1) := by decide +kernel
theorem dX12_init_365 : decode cX12_init 365 = .ok (.getfield 47, 3) := by decide +kernel
theorem dX12_init_368 : decode cX12_init 368 = .ok (.bipush 22, 2) := by decide +kernel
theorem dX12_init_370 : decode cX12_init 370 = .ok (.ldc2_w 131, 3) := by decide +kernel
theorem dX12_init_373 : decode cX12_init 373 = .ok (.lastore, 1) := by decide +kernel
theorem dX12_init_374 : decode cX12_init 374 = .ok (.aload_n 0, 1) := by decide +kernel
theorem dX12_init_375 : decode cX12_init 375 = .ok (.getfield 47, 3) := by decide +kernel
theorem dX12_init_378 : decode cX12_init 378 = .ok (.bipush 23, 2) := by decide +kernel
theorem dX12_init_380 : decode cX12_init 380 = .ok (.ldc2_w 133, 3) := by decide +kernel
theorem dX12_init_383 : decode cX12_init 383 = .ok (.lastore, 1) := by decide +kernel
theorem dX12_init_384 : decode cX12_init 384 = .ok (.aload_n 0, 1) := by decide +kernel
theorem dX12_init_385 : decode cX12_init 385 = .ok (.invokevirtual 135, 3) := by decide +kernel
theorem dX12_init_388 : decode cX12_init 388 = .ok (.iconst 0, 1) := by decide +kernel
theorem dX12_init_389 : decode cX12_init 389 = .ok (.istore_n 1, 1) := by decide +kernel
theorem dX12_init_390 : decode cX12_init 390 = .ok (.iload_n 1, 1) := by decide +kernel
theorem dX12_init_391 : decode cX12_init 391 = .ok (.bipush 80, 2) := by decide +kernel
theorem dX12_init_393 : decode cX12_init 393 = .ok (.if_icmp .ge 21, 3) := by decide +kernel
theorem dX12_init_396 : decode cX12_init 396 = .ok (.aload_n 0, 1) := by decide +kernel
theorem dX12_init_397 : decode cX12_init 397 = .ok (.getfield 33, 3) := by decide +kernel
theorem dX12_init_400 : decode cX12_init 400 = .ok (.iload_n 1, 1) := by decide +kernel
theorem dX12_init_401 : decode cX12_init 401 = .ok (.aload_n 0, 1) := by decide +kernel
theorem dX12_init_402 : decode cX12_init 402 = .ok (.getfield 37, 3) := by decide +kernel
theorem dX12_init_405 : decode cX12_init 405 = .ok (.iload_n 1, 1) := by decide +kernel
theorem dX12_init_406 : decode cX12_init 406 = .ok (.iaload, 1) := by decide +kernel
theorem dX12_init_407 : decode cX12_init 407 = .ok (.iastore, 1) := by decide +kernel
theorem dX12_init_408 : decode cX12_init 408 = .ok (.iinc 1 1, 3) := by decide +kernel
theorem dX12_init_411 : decode cX12_init 411 = .ok (.goto (-21), 3) := by decide +kernel
theorem dX12_init_414 : decode cX12_init 414 = .ok (.return_, 1) := by decide +kernel
theorem dX12_clears_0 : decode cX12_clears 0 = .ok (.iconst 0, 1) := by decide +kernel
theorem dX12_clears_1 : decode cX12_clears 1 = .ok (.istore_n 1, 1) := by decide +kernel
theorem dX12_clears_2 : decode cX12_clears 2 = .ok (.iload_n 1, 1) := by decide +kernel
theorem dX12_clears_3 : decode cX12_clears 3 = .ok (.bipush 80, 2) := by decide +kernel
theorem dX12_clears_5 : decode cX12_clears 5 = .ok (.if_icmp .ge 16, 3) := by decide +kernel
theorem dX12_clears_8 : decode cX12_clears 8 = .ok (.aload_n 0, 1) := by decide +kernel
theorem dX12_clears_9 : decode cX12_clears 9 = .ok (.getfield 37, 3) := by decide +kernel
theorem dX12_clears_12 : decode cX12_clears 12 = .ok (.iload_n 1, 1) := by decide +kernel
theorem dX12_clears_13 : decode cX12_clears 13 = .ok (.iconst 0, 1) := by decide +kernel
theorem dX12_clears_14 : decode cX12_clears 14 = .ok (.iastore, 1) := by decide +kernel
theorem dX12_clears_15 : decode cX12_clears 15 = .ok (.iinc 1 1, 3) := by decide +kernel
theorem dX12_clears_18 : decode cX12_clears 18 = .ok (.goto (-16), 3) := by decide +kernel
theorem dX12_clears_21 : decode cX12_clears 21 = .ok (.aload_n 0, 1) := by decide +kernel
theorem dX12_clears_22 : decode cX12_clears 22 = .ok (.getfield 37, 3) := by decide +kernel
theorem dX12_clears_25 : decode cX12_clears 25 = .ok (.iconst 3, 1) := by decide +kernel
theorem dX12_clears_26 : decode cX12_clears 26 = .ok (.bipush 10, 2) := by decide +kernel
theorem dX12_clears_28 : decode cX12_clears 28 = .ok (.iastore, 1) := by decide +kernel
theorem dX12_clears_29 : decode cX12_clears 29 = .ok (.aload_n 0, 1) := by decide +kernel
theorem dX12_clears_30 : decode cX12_clears 30 = .ok (.getfield 37, 3) := by decide +kernel
theorem dX12_clears_33 : decode cX12_clears 33 = .ok (.iconst 4, 1) := by decide +kernel
theorem dX12_clears_34 : decode cX12_clears 34 = .ok (.bipush 20, 2) := by decide +kernel
theorem dX12_clears_36 : decode cX12_clears 36 = .ok (.iastore, 1) := by decide +kernel
theorem dX12_clears_37 : decode cX12_clears 37 = .ok (.return_, 1) := by decide +kernel
theorem dX12_peek_0 : decode cX12_peek 0 = .ok (.aload_n 0, 1) := by decide +kernel
theorem dX12_peek_1 : decode cX12_peek 1 = .ok (.getfield 21, 3) := by decide +kernel
theorem dX12_peek_4 : decode cX12_peek 4 = .ok (.aload_n 0, 1) := by decide +kernel
theorem dX12_peek_5 : decode cX12_peek 5 = .ok (.getfield 18, 3) := by decide +kernel
theorem dX12_peek_8 : decode cX12_peek 8 = .ok (.if_icmp .ge 19, 3) := by decide +kernel
theorem dX12_peek_11 : decode cX12_peek 11 = .ok (.aload_n 0, 1) := by decide +kernel
theorem dX12_peek_12 : decode cX12_peek 12 = .ok (.getfield 14, 3) := by decide +kernel
theorem dX12_peek_15 : decode cX12_peek 15 = .ok (.aload_n 0, 1) := by decide +kernel
theorem dX12_peek_16 : decode cX12_peek 16 = .ok (.getfield 21, 3) := by decide +kernel
theorem dX12_peek_19 : decode cX12_peek 19 = .ok (.baload, 1) := by decide +kernel
theorem dX12_peek_20 : decode cX12_peek 20 = .ok (.sipush 255, 3) := by decide +kernel
theorem dX12_peek_23 : decode cX12_peek 23 = .ok (.iand, 1) := by decide +kernel
theorem dX12_peek_24 : decode cX12_peek 24 = .ok (.goto 4, 3) := by decide +kernel
theorem dX12_peek_27 : decode cX12_peek 27 = .ok (.iconst (-1), 1) := by decide +kernel
theorem dX12_peek_28 : decode cX12_peek 28 = .ok (.ireturn, 1) := by decide +kernel
theorem dX12_isSmall_0 : decode cX12_isSmall 0 = .ok (.iload_n 0, 1) := by decide +kernel
theorem dX12_isSmall_1 : decode cX12_isSmall 1 = .ok (.bipush 97, 2) := by decide +kernel
theorem dX12_isSmall_3 : decode cX12_isSmall 3 = .ok (.if_icmp .lt 13, 3) := by decide +kernel
theorem dX12_isSmall_6 : decode cX12_isSmall 6 = .ok (.iload_n 0, 1) := by decide +kernel
theorem dX12_isSmall_7 : decode cX12_isSmall 7 = .ok (.bipush 122, 2) := by decide +kernel
theorem dX12_isSmall_9 : decode cX12_isSmall 9 = .ok (.if_icmp .gt 7, 3) := by decide +kernel
theorem dX12_isSmall_12 : decode cX12_isSmall 12 = .ok (.iconst 1, 1) := by decide +kernel
theorem dX12_isSmall_13 : decode cX12_isSmall 13 = .ok (.goto 4, 3) := by decide +kernel
theorem dX12_isSmall_16 : decode cX12_isSmall 16 = .ok (.iconst 0, 1) := by decide +kernel
theorem dX12_isSmall_17 : decode cX12_isSmall 17 = .ok (.ireturn, 1) := by decide +kernel
theorem dX12_isDigit_0 : decode cX12_isDigit 0 = .ok (.iload_n 0, 1) := by decide +kernel
theorem dX12_isDigit_1 : decode cX12_isDigit 1 = .ok (.bipush 48, 2) := by decide +kernel
theorem dX12_isDigit_3 : decode cX12_isDigit 3 = .ok (.if_icmp .lt 13, 3) := by decide +kernel
theorem dX12_isDigit_6 : decode cX12_isDigit 6 = .ok (.iload_n 0, 1) := by decide +kernel
theorem dX12_isDigit_7 : decode cX12_isDigit 7 = .ok (.bipush 57, 2) := by decide +kernel
theorem dX12_isDigit_9 : decode cX12_isDigit 9 = .ok (.if_icmp .gt 7, 3) := by decide +kernel
theorem dX12_isDigit_12 : decode cX12_isDigit 12 = .ok (.iconst 1, 1) := by decide +kernel
theorem dX12_isDigit_13 : decode cX12_isDigit 13 = .ok (.goto 4, 3) := by decide +kernel
theorem dX12_isDigit_16 : decode cX12_isDigit 16 = .ok (.iconst 0, 1) := by decide +kernel
theorem dX12_isDigit_17 : decode cX12_isDigit 17 = .ok (.ireturn, 1) := by decide +kernel
theorem dX12_next_0 : decode cX12_next 0 = .ok (.aload_n 0, 1) := by decide +kernel
theorem dX12_next_1 : decode cX12_next 1 = .ok (.invokevirtual 138, 3) := by decide +kernel
theorem dX12_next_4 : decode cX12_next 4 = .ok (.bipush 32, 2) := by decide +kernel
theorem dX12_next_6 : decode cX12_next 6 = .ok (.if_icmp .eq 12, 3) := by decide +kernel
theorem dX12_next_9 : decode cX12_next 9 = .ok (.aload_n 0, 1) := by decide +kernel
theorem dX12_next_10 : decode cX12_next 10 = .ok (.invokevirtual 138, 3) := by decide +kernel
theorem dX12_next_13 : decode cX12_next 13 = .ok (.bipush 10, 2) := by decide +kernel
theorem dX12_next_15 : decode cX12_next 15 = .ok (.if_icmp .ne 16, 3) := by decide +kernel
theorem dX12_next_18 : decode cX12_next 18 = .ok (.aload_n 0, 1) := by decide +kernel
theorem dX12_next_19 : decode cX12_next 19 = .ok (.dup, 1) := by decide +kernel
theorem dX12_next_20 : decode cX12_next 20 = .ok (.getfield 21, 3) := by decide +kernel
theorem dX12_next_23 : decode cX12_next 23 = .ok (.iconst 1, 1) := by decide +kernel
theorem dX12_next_24 : decode cX12_next 24 = .ok (.iadd, 1) := by decide +kernel
theorem dX12_next_25 : decode cX12_next 25 = .ok (.putfield 21, 3) := by decide +kernel
theorem dX12_next_28 : decode cX12_next 28 = .ok (.goto (-28), 3) := by decide +kernel
theorem dX12_next_31 : decode cX12_next 31 = .ok (.aload_n 0, 1) := by decide +kernel
theorem dX12_next_32 : decode cX12_next 32 = .ok (.aload_n 0, 1) := by decide +kernel
theorem dX12_next_33 : decode cX12_next 33 = .ok (.getfield 21, 3) := by decide +kernel
theorem dX12_next_36 : decode cX12_next 36 = .ok (.putfield 142, 3) := by decide +kernel
theorem dX12_next_39 : decode cX12_next 39 = .ok (.aload_n 0, 1) := by decide +kernel
theorem dX12_next_40 : decode cX12_next 40 = .ok (.iconst 0, 1) := by decide +kernel
theorem dX12_next_41 : decode cX12_next 41 = .ok (.putfield 145, 3) := by decide +kernel
theorem dX12_next_44 : decode cX12_next 44 = .ok (.aload_n 0, 1) := by decide +kernel
theorem dX12_next_45 : decode cX12_next 45 = .ok (.getfield 18, 3) := by decide +kernel
theorem dX12_next_48 : decode cX12_next 48 = .ok (.aload_n 0, 1) := by decide +kernel
theorem dX12_next_49 : decode cX12_next 49 = .ok (.getfield 24, 3) := by decide +kernel
theorem dX12_next_52 : decode cX12_next 52 = .ok (.if_icmp .le 28, 3) := by decide +kernel
theorem dX12_next_55 : decode cX12_next 55 = .ok (.aload_n 0, 1) := by decide +kernel
theorem dX12_next_56 : decode cX12_next 56 = .ok (.getfield 21, 3) := by decide +kernel
theorem dX12_next_59 : decode cX12_next 59 = .ok (.aload_n 0, 1) := by decide +kernel
theorem dX12_next_60 : decode cX12_next 60 = .ok (.getfield 24, 3) := by decide +kernel
theorem dX12_next_63 : decode cX12_next 63 = .ok (.if_icmp .lt 17, 3) := by decide +kernel
theorem dX12_next_66 : decode cX12_next 66 = .ok (.aload_n 0, 1) := by decide +kernel
theorem dX12_next_67 : decode cX12_next 67 = .ok (.aload_n 0, 1) := by decide +kernel
theorem dX12_next_68 : decode cX12_next 68 = .ok (.getfield 24, 3) := by decide +kernel
theorem dX12_next_71 : decode cX12_next 71 = .ok (.putfield 142, 3) := by decide +kernel
theorem dX12_next_74 : decode cX12_next 74 = .ok (.aload_n 0, 1) := by decide +kernel
theorem dX12_next_75 : decode cX12_next 75 = .ok (.iconst 4, 1) := by decide +kernel
theorem dX12_next_76 : decode cX12_next 76 = .ok (.putfield 148, 3) := by decide +kernel
theorem dX12_next_79 : decode cX12_next 79 = .ok (.return_, 1) := by decide +kernel
theorem dX12_next_80 : decode cX12_next 80 = .ok (.aload_n 0, 1) := by decide +kernel
theorem dX12_next_81 : decode cX12_next 81 = .ok (.invokevirtual 138, 3) := by decide +kernel
theorem dX12_next_84 : decode cX12_next 84 = .ok (.istore_n 1, 1) := by decide +kernel
theorem dX12_next_85 : decode cX12_next 85 = .ok (.iload_n 1, 1) := by decide +kernel
theorem dX12_next_86 : decode cX12_next 86 = .ok (.ifCond .ge 9, 3) := by decide +kernel
theorem dX12_next_89 : decode cX12_next 89 = .ok (.aload_n 0, 1) := by decide +kernel
theorem dX12_next_90 : decode cX12_next 90 = .ok (.iconst 0, 1) := by decide +kernel
theorem dX12_next_91 : decode cX12_next 91 = .ok (.putfield 148, 3) := by decide +kernel
theorem dX12_next_94 : decode cX12_next 94 = .ok (.return_, 1) := by decide +kernel
theorem dX12_next_95 : decode cX12_next 95 = .ok (.iload_n 1, 1) := by decide +kernel
theorem dX12_next_96 : decode cX12_next 96 = .ok (.invokestatic 151, 3) := by decide +kernel
theorem dX12_next_99 : decode cX12_next 99 = .ok (.ifCond .ne 65, 3) := by decide +kernel
theorem dX12_next_102 : decode cX12_next 102 = .ok (.iload_n 1, 1) := by decide +kernel
theorem dX12_next_103 : decode cX12_next 103 = .ok (.invokestatic 155, 3) := by decide +kernel
theorem dX12_next_106 : decode cX12_next 106 = .ok (.ifCond .ne 58, 3) := by decide +kernel
theorem dX12_next_109 : decode cX12_next 109 = .ok (.aload_n 0, 1) := by decide +kernel
theorem dX12_next_110 : decode cX12_next 110 = .ok (.iload_n 1, 1) := by decide +kernel
theorem dX12_next_111 : decode cX12_next 111 = .ok (.bipush 59, 2) := by decide +kernel
theorem dX12_next_113 : decode cX12_next 113 = .ok (.if_icmp .eq 27, 3) := by decide +kernel
theorem dX12_next_116 : decode cX12_next 116 = .ok (.iload_n 1, 1) := by decide +kernel
theorem dX12_next_117 : decode cX12_next 117 = .ok (.bipush 40, 2) := by decide +kernel
theorem dX12_next_119 : decode cX12_next 119 = .ok (.if_icmp .eq 21, 3) := by decide +kernel
theorem dX12_next_122 : decode cX12_next 122 = .ok (.iload_n 1, 1) := by decide +kernel
theorem dX12_next_123 : decode cX12_next 123 = .ok (.bipush 41, 2) := by decide +kernel
theorem dX12_next_125 : decode cX12_next 125 = .ok (.if_icmp .eq 15, 3) := by decide +kernel
theorem dX12_next_128 : decode cX12_next 128 = .ok (.iload_n 1, 1) := by decide +kernel
theorem dX12_next_129 : decode cX12_next 129 = .ok (.bipush 60, 2) := by decide +kernel
theorem dX12_next_131 : decode cX12_next 131 = .ok (.if_icmp .lt 13, 3) := by decide +kernel
theorem dX12_next_134 : decode cX12_next 134 = .ok (.iload_n 1, 1) := by decide +kernel
theorem dX12_next_135 : decode cX12_next 135 = .ok (.bipush 62, 2) := by decide +kernel
theorem dX12_next_137 : decode cX12_next 137 = .ok (.if_icmp .gt 7, 3) := by decide +kernel
theorem dX12_next_140 : decode cX12_next 140 = .ok (.iconst 3, 1) := by decide +kernel
theorem dX12_next_141 : decode cX12_next 141 = .ok (.goto 4, 3) := by decide +kernel
theorem dX12_next_144 : decode cX12_next 144 = .ok (.iconst 4, 1) := by decide +kernel
theorem dX12_next_145 : decode cX12_next 145 = .ok (.putfield 148, 3) := by decide +kernel
theorem dX12_next_148 : decode cX12_next 148 = .ok (.aload_n 0, 1) := by decide +kernel
theorem dX12_next_149 : decode cX12_next 149 = .ok (.iload_n 1, 1) := by decide +kernel
theorem dX12_next_150 : decode cX12_next 150 = .ok (.putfield 158, 3) := by decide +kernel
theorem dX12_next_153 : decode cX12_next 153 = .ok (.aload_n 0, 1) := by decide +kernel
theorem dX12_next_154 : decode cX12_next 154 = .ok (.dup, 1) := by decide +kernel
theorem dX12_next_155 : decode cX12_next 155 = .ok (.getfield 21, 3) := by decide +kernel
theorem dX12_next_158 : decode cX12_next 158 = .ok (.iconst 1, 1) := by decide +kernel
theorem dX12_next_159 : decode cX12_next 159 = .ok (.iadd, 1) := by decide +kernel
theorem dX12_next_160 : decode cX12_next 160 = .ok (.putfield 21, 3) := by decide +kernel
theorem dX12_next_163 : decode cX12_next 163 = .ok (.return_, 1) := by decide +kernel
theorem dX12_next_164 : decode cX12_next 164 = .ok (.iload_n 1, 1) := by decide +kernel
theorem dX12_next_165 : decode cX12_next 165 = .ok (.invokestatic 151, 3) := by decide +kernel
theorem dX12_next_168 : decode cX12_next 168 = .ok (.istore_n 2, 1) := by decide +kernel
theorem dX12_next_169 : decode cX12_next 169 = .ok (.iconst 1, 1) := by decide +kernel
theorem dX12_next_170 : decode cX12_next 170 = .ok (.istore_n 3, 1) := by decide +kernel
theorem dX12_next_171 : decode cX12_next 171 = .ok (.aload_n 0, 1) := by decide +kernel
theorem dX12_next_172 : decode cX12_next 172 = .ok (.lconst 0, 1) := by decide +kernel
theorem dX12_next_173 : decode cX12_next 173 = .ok (.putfield 161, 3) := by decide +kernel
theorem dX12_next_176 : decode cX12_next 176 = .ok (.aload_n 0, 1) := by decide +kernel
theorem dX12_next_177 : decode cX12_next 177 = .ok (.iconst 0, 1) := by decide +kernel
theorem dX12_next_178 : decode cX12_next 178 = .ok (.putfield 158, 3) := by decide +kernel
theorem dX12_next_181 : decode cX12_next 181 = .ok (.aload_n 0, 1) := by decide +kernel
theorem dX12_next_182 : decode cX12_next 182 = .ok (.invokevirtual 138, 3) := by decide +kernel
theorem dX12_next_185 : decode cX12_next 185 = .ok (.invokestatic 151, 3) := by decide +kernel
theorem dX12_next_188 : decode cX12_next 188 = .ok (.ifCond .ne 13, 3) := by decide +kernel
theorem dX12_next_191 : decode cX12_next 191 = .ok (.aload_n 0, 1) := by decide +kernel
theorem dX12_next_192 : decode cX12_next 192 = .ok (.invokevirtual 138, 3) := by decide +kernel
theorem dX12_next_195 : decode cX12_next 195 = .ok (.invokestatic 155, 3) := by decide +kernel
theorem dX12_next_198 : decode cX12_next 198 = .ok (.ifCond .eq 100, 3) := by decide +kernel
theorem dX12_next_201 : decode cX12_next 201 = .ok (.iload_n 3, 1) := by decide +kernel
theorem dX12_next_202 : decode cX12_next 202 = .ok (.ifCond .eq 18, 3) := by decide +kernel
theorem dX12_next_205 : decode cX12_next 205 = .ok (.aload_n 0, 1) := by decide +kernel
theorem dX12_next_206 : decode cX12_next 206 = .ok (.invokevirtual 138, 3) := by decide +kernel
theorem dX12_next_209 : decode cX12_next 209 = .ok (.invokestatic 151, 3) := by decide +kernel
theorem dX12_next_212 : decode cX12_next 212 = .ok (.iload_n 2, 1) := by decide +kernel
theorem dX12_next_213 : decode cX12_next 213 = .ok (.if_icmp .ne 7, 3) := by decide +kernel
theorem dX12_next_216 : decode cX12_next 216 = .ok (.iconst 1, 1) := by decide +kernel
theorem dX12_next_217 : decode cX12_next 217 = .ok (.goto 4, 3) := by decide +kernel
theorem dX12_next_220 : decode cX12_next 220 = .ok (.iconst 0, 1) := by decide +kernel
theorem dX12_next_221 : decode cX12_next 221 = .ok (.istore_n 3, 1) := by decide +kernel
theorem dX12_next_222 : decode cX12_next 222 = .ok (.aload_n 0, 1) := by decide +kernel
theorem dX12_next_223 : decode cX12_next 223 = .ok (.getfield 145, 3) := by decide +kernel
theorem dX12_next_226 : decode cX12_next 226 = .ok (.bipush 7, 2) := by decide +kernel
theorem dX12_next_228 : decode cX12_next 228 = .ok (.if_icmp .ge 20, 3) := by decide +kernel
theorem dX12_next_231 : decode cX12_next 231 = .ok (.aload_n 0, 1) := by decide +kernel
theorem dX12_next_232 : decode cX12_next 232 = .ok (.aload_n 0, 1) := by decide +kernel
theorem dX12_next_233 : decode cX12_next 233 = .ok (.getfield 161, 3) := by decide +kernel
theorem dX12_next_236 : decode cX12_next 236 = .ok (.bipush 8, 2) := by decide +kernel
theorem dX12_next_238 : decode cX12_next 238 = .ok (.lshl, 1) := by decide +kernel
theorem dX12_next_239 : decode cX12_next 239 = .ok (.aload_n 0, 1) := by decide +kernel
theorem dX12_next_240 : decode cX12_next 240 = .ok (.invokevirtual 138, 3) := by decide +kernel
theorem dX12_next_243 : decode cX12_next 243 = .ok (.i2l, 1) := by decide +kernel
theorem dX12_next_244 : decode cX12_next 244 = .ok (.lor, 1) := by decide +kernel
theorem dX12_next_245 : decode cX12_next 245 = .ok (.putfield 161, 3) := by decide +kernel
theorem dX12_next_248 : decode cX12_next 248 = .ok (.aload_n 0, 1) := by decide +kernel
theorem dX12_next_249 : decode cX12_next 249 = .ok (.getfield 145, 3) := by decide +kernel
theorem dX12_next_252 : decode cX12_next 252 = .ok (.iconst 3, 1) := by decide +kernel
theorem dX12_next_253 : decode cX12_next 253 = .ok (.if_icmp .ge 22, 3) := by decide +kernel
theorem dX12_next_256 : decode cX12_next 256 = .ok (.aload_n 0, 1) := by decide +kernel
theorem dX12_next_257 : decode cX12_next 257 = .ok (.bipush 10, 2) := by decide +kernel
theorem dX12_next_259 : decode cX12_next 259 = .ok (.aload_n 0, 1) := by decide +kernel
theorem dX12_next_260 : decode cX12_next 260 = .ok (.getfield 158, 3) := by decide +kernel
theorem dX12_next_263 : decode cX12_next 263 = .ok (.imul, 1) := by decide +kernel
theorem dX12_next_264 : decode cX12_next 264 = .ok (.aload_n 0, 1) := by decide +kernel
theorem dX12_next_265 : decode cX12_next 265 = .ok (.invokevirtual 138, 3) := by decide +kernel
theorem dX12_next_268 : decode cX12_next 268 = .ok (.iadd, 1) := by decide +kernel
theorem dX12_next_269 : decode cX12_next 269 = .ok (.bipush 48, 2) := by decide +kernel
theorem dX12_next_271 : decode cX12_next 271 = .ok (.isub, 1) := by decide +kernel
theorem dX12_next_272 : decode cX12_next 272 = .ok (.putfield 158, 3) := by decide +kernel
theorem dX12_next_275 : decode cX12_next 275 = .ok (.aload_n 0, 1) := by decide +kernel
theorem dX12_next_276 : decode cX12_next 276 = .ok (.dup, 1) := by decide +kernel
theorem dX12_next_277 : decode cX12_next 277 = .ok (.getfield 145, 3) := by decide +kernel
theorem dX12_next_280 : decode cX12_next 280 = .ok (.iconst 1, 1) := by decide +kernel
theorem dX12_next_281 : decode cX12_next 281 = .ok (.iadd, 1) := by decide +kernel
theorem dX12_next_282 : decode cX12_next 282 = .ok (.putfield 145, 3) := by decide +kernel
theorem dX12_next_285 : decode cX12_next 285 = .ok (.aload_n 0, 1) := by decide +kernel
theorem dX12_next_286 : decode cX12_next 286 = .ok (.dup, 1) := by decide +kernel
theorem dX12_next_287 : decode cX12_next 287 = .ok (.getfield 21, 3) := by decide +kernel
theorem dX12_next_290 : decode cX12_next 290 = .ok (.iconst 1, 1) := by decide +kernel
theorem dX12_next_291 : decode cX12_next 291 = .ok (.iadd, 1) := by decide +kernel
theorem dX12_next_292 : decode cX12_next 292 = .ok (.putfield 21, 3) := by decide +kernel
theorem dX12_next_295 : decode cX12_next 295 = .ok (.goto (-114), 3) := by decide +kernel
theorem dX12_next_298 : decode cX12_next 298 = .ok (.aload_n 0, 1) := by decide +kernel
theorem dX12_next_299 : decode cX12_next 299 = .ok (.iload_n 3, 1) := by decide +kernel
theorem dX12_next_300 : decode cX12_next 300 = .ok (.ifCond .eq 20, 3) := by decide +kernel
theorem dX12_next_303 : decode cX12_next 303 = .ok (.aload_n 0, 1) := by decide +kernel
theorem dX12_next_304 : decode cX12_next 304 = .ok (.getfield 145, 3) := by decide +kernel
theorem dX12_next_307 : decode cX12_next 307 = .ok (.iload_n 2, 1) := by decide +kernel
theorem dX12_next_308 : decode cX12_next 308 = .ok (.ifCond .eq 8, 3) := by decide +kernel
theorem dX12_next_311 : decode cX12_next 311 = .ok (.bipush 7, 2) := by decide +kernel
theorem dX12_next_313 : decode cX12_next 313 = .ok (.goto 4, 3) := by decide +kernel
theorem dX12_next_316 : decode cX12_next 316 = .ok (.iconst 3, 1) := by decide +kernel
theorem dX12_next_317 : decode cX12_next 317 = .ok (.if_icmp .le 7, 3) := by decide +kernel
theorem dX12_next_320 : decode cX12_next 320 = .ok (.iconst 4, 1) := by decide +kernel
theorem dX12_next_321 : decode cX12_next 321 = .ok (.goto 12, 3) := by decide +kernel
theorem dX12_next_324 : decode cX12_next 324 = .ok (.iload_n 2, 1) := by decide +kernel
theorem dX12_next_325 : decode cX12_next 325 = .ok (.ifCond .eq 7, 3) := by decide +kernel
theorem dX12_next_328 : decode cX12_next 328 = .ok (.iconst 1, 1) := by decide +kernel
theorem dX12_next_329 : decode cX12_next 329 = .ok (.goto 4, 3) := by decide +kernel
theorem dX12_next_332 : decode cX12_next 332 = .ok (.iconst 2, 1) := by decide +kernel
theorem dX12_next_333 : decode cX12_next 333 = .ok (.putfield 148, 3) := by decide +kernel
theorem dX12_next_336 : decode cX12_next 336 = .ok (.return_, 1) := by decide +kernel
theorem dX12_bad_0 : decode cX12_bad 0 = .ok (.aload_n 0, 1) := by decide +kernel
theorem dX12_bad_1 : decode cX12_bad 1 = .ok (.iload_n 1, 1) := by decide +kernel
theorem dX12_bad_2 : decode cX12_bad 2 = .ok (.putfield 165, 3) := by decide +kernel
theorem dX12_bad_5 : decode cX12_bad 5 = .ok (.aload_n 0, 1) := by decide +kernel
theorem dX12_bad_6 : decode cX12_bad 6 = .ok (.aload_n 0, 1) := by decide +kernel
theorem dX12_bad_7 : decode cX12_bad 7 = .ok (.getfield 142, 3) := by decide +kernel
theorem dX12_bad_10 : decode cX12_bad 10 = .ok (.putfield 168, 3) := by decide +kernel
theorem dX12_bad_13 : decode cX12_bad 13 = .ok (.iconst 0, 1) := by decide +kernel
theorem dX12_bad_14 : decode cX12_bad 14 = .ok (.ireturn, 1) := by decide +kernel
theorem dX12_isWord_0 : decode cX12_isWord 0 = .ok (.aload_n 0, 1) := by decide +kernel
theorem dX12_isWord_1 : decode cX12_isWord 1 = .ok (.getfield 148, 3) := by decide +kernel
theorem dX12_isWord_4 : decode cX12_isWord 4 = .ok (.iconst 1, 1) := by decide +kernel
theorem dX12_isWord_5 : decode cX12_isWord 5 = .ok (.if_icmp .ne 16, 3) := by decide +kernel
theorem dX12_isWord_8 : decode cX12_isWord 8 = .ok (.aload_n 0, 1) := by decide +kernel
theorem dX12_isWord_9 : decode cX12_isWord 9 = .ok (.getfield 161, 3) := by decide +kernel
theorem dX12_isWord_12 : decode cX12_isWord 12 = .ok (.lload_n 1, 1) := by decide +kernel
theorem dX12_isWord_13 : decode cX12_isWord 13 = .ok (.lcmp, 1) := by decide +kernel
theorem dX12_isWord_14 : decode cX12_isWord 14 = .ok (.ifCond .ne 7, 3) := by decide +kernel
theorem dX12_isWord_17 : decode cX12_isWord 17 = .ok (.iconst 1, 1) := by decide +kernel
theorem dX12_isWord_18 : decode cX12_isWord 18 = .ok (.goto 4, 3) := by decide +kernel
theorem dX12_isWord_21 : decode cX12_isWord 21 = .ok (.iconst 0, 1) := by decide +kernel
theorem dX12_isWord_22 : decode cX12_isWord 22 = .ok (.ireturn, 1) := by decide +kernel
theorem dX12_isSign_0 : decode cX12_isSign 0 = .ok (.aload_n 0, 1) := by decide +kernel
theorem dX12_isSign_1 : decode cX12_isSign 1 = .ok (.getfield 148, 3) := by decide +kernel
theorem dX12_isSign_4 : decode cX12_isSign 4 = .ok (.iconst 3, 1) := by decide +kernel
theorem dX12_isSign_5 : decode cX12_isSign 5 = .ok (.if_icmp .ne 15, 3) := by decide +kernel
theorem dX12_isSign_8 : decode cX12_isSign 8 = .ok (.aload_n 0, 1) := by decide +kernel
theorem dX12_isSign_9 : decode cX12_isSign 9 = .ok (.getfield 158, 3) := by decide +kernel
theorem dX12_isSign_12 : decode cX12_isSign 12 = .ok (.iload_n 1, 1) := by decide +kernel
theorem dX12_isSign_13 : decode cX12_isSign 13 = .ok (.if_icmp .ne 7, 3) := by decide +kernel
theorem dX12_isSign_16 : decode cX12_isSign 16 = .ok (.iconst 1, 1) := by decide +kernel
theorem dX12_isSign_17 : decode cX12_isSign 17 = .ok (.goto 4, 3) := by decide +kernel
theorem dX12_isSign_20 : decode cX12_isSign 20 = .ok (.iconst 0, 1) := by decide +kernel
theorem dX12_isSign_21 : decode cX12_isSign 21 = .ok (.ireturn, 1) := by decide +kernel
theorem dX12_sign_0 : decode cX12_sign 0 = .ok (.aload_n 0, 1) := by decide +kernel
theorem dX12_sign_1 : decode cX12_sign 1 = .ok (.iload_n 1, 1) := by decide +kernel
theorem dX12_sign_2 : decode cX12_sign 2 = .ok (.invokevirtual 171, 3) := by decide +kernel
theorem dX12_sign_5 : decode cX12_sign 5 = .ok (.ifCond .ne 9, 3) := by decide +kernel
theorem dX12_sign_8 : decode cX12_sign 8 = .ok (.aload_n 0, 1) := by decide +kernel
theorem dX12_sign_9 : decode cX12_sign 9 = .ok (.iconst 1, 1) := by decide +kernel
theorem dX12_sign_10 : decode cX12_sign 10 = .ok (.invokevirtual 174, 3) := by decide +kernel
theorem dX12_sign_13 : decode cX12_sign 13 = .ok (.ireturn, 1) := by decide +kernel
theorem dX12_sign_14 : decode cX12_sign 14 = .ok (.aload_n 0, 1) := by decide +kernel
theorem dX12_sign_15 : decode cX12_sign 15 = .ok (.invokevirtual 177, 3) := by decide +kernel
theorem dX12_sign_18 : decode cX12_sign 18 = .ok (.iconst 1, 1) := by decide +kernel
theorem dX12_sign_19 : decode cX12_sign 19 = .ok (.ireturn, 1) := by decide +kernel
theorem dX12_isName_0 : decode cX12_isName 0 = .ok (.aload_n 0, 1) := by decide +kernel
theorem dX12_isName_1 : decode cX12_isName 1 = .ok (.getfield 148, 3) := by decide +kernel
theorem dX12_isName_4 : decode cX12_isName 4 = .ok (.iconst 1, 1) := by decide +kernel
theorem dX12_isName_5 : decode cX12_isName 5 = .ok (.if_icmp .ne 7, 3) := by decide +kernel
theorem dX12_isName_8 : decode cX12_isName 8 = .ok (.iconst 1, 1) := by decide +kernel
theorem dX12_isName_9 : decode cX12_isName 9 = .ok (.goto 4, 3) := by decide +kernel
theorem dX12_isName_12 : decode cX12_isName 12 = .ok (.iconst 0, 1) := by decide +kernel
theorem dX12_isName_13 : decode cX12_isName 13 = .ok (.istore_n 1, 1) := by decide +kernel
theorem dX12_isName_14 : decode cX12_isName 14 = .ok (.iconst 0, 1) := by decide +kernel
theorem dX12_isName_15 : decode cX12_isName 15 = .ok (.istore_n 2, 1) := by decide +kernel
theorem dX12_isName_16 : decode cX12_isName 16 = .ok (.iload_n 2, 1) := by decide +kernel
theorem dX12_isName_17 : decode cX12_isName 17 = .ok (.bipush 24, 2) := by decide +kernel
theorem dX12_isName_19 : decode cX12_isName 19 = .ok (.if_icmp .ge 33, 3) := by decide +kernel
theorem dX12_isName_22 : decode cX12_isName 22 = .ok (.iload_n 1, 1) := by decide +kernel
theorem dX12_isName_23 : decode cX12_isName 23 = .ok (.ifCond .eq 21, 3) := by decide +kernel
theorem dX12_isName_26 : decode cX12_isName 26 = .ok (.aload_n 0, 1) := by decide +kernel
theorem dX12_isName_27 : decode cX12_isName 27 = .ok (.getfield 161, 3) := by decide +kernel
theorem dX12_isName_30 : decode cX12_isName 30 = .ok (.aload_n 0, 1) := by decide +kernel
theorem dX12_isName_31 : decode cX12_isName 31 = .ok (.getfield 47, 3) := by decide +kernel
theorem dX12_isName_34 : decode cX12_isName 34 = .ok (.iload_n 2, 1) := by decide +kernel
theorem dX12_isName_35 : decode cX12_isName 35 = .ok (.laload, 1) := by decide +kernel
theorem dX12_isName_36 : decode cX12_isName 36 = .ok (.lcmp, 1) := by decide +kernel
theorem dX12_isName_37 : decode cX12_isName 37 = .ok (.ifCond .eq 7, 3) := by decide +kernel
theorem dX12_isName_40 : decode cX12_isName 40 = .ok (.iconst 1, 1) := by decide +kernel
theorem dX12_isName_41 : decode cX12_isName 41 = .ok (.goto 4, 3) := by decide +kernel
theorem dX12_isName_44 : decode cX12_isName 44 = .ok (.iconst 0, 1) := by decide +kernel
theorem dX12_isName_45 : decode cX12_isName 45 = .ok (.istore_n 1, 1) := by decide +kernel
theorem dX12_isName_46 : decode cX12_isName 46 = .ok (.iinc 2 1, 3) := by decide +kernel
theorem dX12_isName_49 : decode cX12_isName 49 = .ok (.goto (-33), 3) := by decide +kernel
theorem dX12_isName_52 : decode cX12_isName 52 = .ok (.iload_n 1, 1) := by decide +kernel
theorem dX12_isName_53 : decode cX12_isName 53 = .ok (.ireturn, 1) := by decide +kernel
theorem dX12_takes_0 : decode cX12_takes 0 = .ok (.aload_n 0, 1) := by decide +kernel
theorem dX12_takes_1 : decode cX12_takes 1 = .ok (.getfield 148, 3) := by decide +kernel
theorem dX12_takes_4 : decode cX12_takes 4 = .ok (.iconst 2, 1) := by decide +kernel
theorem dX12_takes_5 : decode cX12_takes 5 = .ok (.if_icmp .eq 9, 3) := by decide +kernel
theorem dX12_takes_8 : decode cX12_takes 8 = .ok (.aload_n 0, 1) := by decide +kernel
theorem dX12_takes_9 : decode cX12_takes 9 = .ok (.iconst 1, 1) := by decide +kernel
theorem dX12_takes_10 : decode cX12_takes 10 = .ok (.invokevirtual 174, 3) := by decide +kernel
theorem dX12_takes_13 : decode cX12_takes 13 = .ok (.ireturn, 1) := by decide +kernel
theorem dX12_takes_14 : decode cX12_takes 14 = .ok (.aload_n 0, 1) := by decide +kernel
theorem dX12_takes_15 : decode cX12_takes 15 = .ok (.getfield 158, 3) := by decide +kernel
theorem dX12_takes_18 : decode cX12_takes 18 = .ok (.iload_n 1, 1) := by decide +kernel
theorem dX12_takes_19 : decode cX12_takes 19 = .ok (.iload_n 2, 1) := by decide +kernel
theorem dX12_takes_20 : decode cX12_takes 20 = .ok (.invokestatic 180, 3) := by decide +kernel
theorem dX12_takes_23 : decode cX12_takes 23 = .ok (.ifCond .ne 9, 3) := by decide +kernel
theorem dX12_takes_26 : decode cX12_takes 26 = .ok (.aload_n 0, 1) := by decide +kernel
theorem dX12_takes_27 : decode cX12_takes 27 = .ok (.iconst 2, 1) := by decide +kernel
theorem dX12_takes_28 : decode cX12_takes 28 = .ok (.invokevirtual 174, 3) := by decide +kernel
theorem dX12_takes_31 : decode cX12_takes 31 = .ok (.ireturn, 1) := by decide +kernel
theorem dX12_takes_32 : decode cX12_takes 32 = .ok (.aload_n 0, 1) := by decide +kernel
theorem dX12_takes_33 : decode cX12_takes 33 = .ok (.aload_n 0, 1) := by decide +kernel
theorem dX12_takes_34 : decode cX12_takes 34 = .ok (.getfield 158, 3) := by decide +kernel
theorem dX12_takes_37 : decode cX12_takes 37 = .ok (.putfield 184, 3) := by decide +kernel
theorem dX12_takes_40 : decode cX12_takes 40 = .ok (.aload_n 0, 1) := by decide +kernel
theorem dX12_takes_41 : decode cX12_takes 41 = .ok (.invokevirtual 177, 3) := by decide +kernel
theorem dX12_takes_44 : decode cX12_takes 44 = .ok (.iconst 1, 1) := by decide +kernel
theorem dX12_takes_45 : decode cX12_takes 45 = .ok (.ireturn, 1) := by decide +kernel
theorem dX12_puts_0 : decode cX12_puts 0 = .ok (.aload_n 0, 1) := by decide +kernel
theorem dX12_puts_1 : decode cX12_puts 1 = .ok (.iload_n 2, 1) := by decide +kernel
theorem dX12_puts_2 : decode cX12_puts 2 = .ok (.iload_n 3, 1) := by decide +kernel
theorem dX12_puts_3 : decode cX12_puts 3 = .ok (.invokevirtual 187, 3) := by decide +kernel
theorem dX12_puts_6 : decode cX12_puts 6 = .ok (.ifCond .ne 5, 3) := by decide +kernel
theorem dX12_puts_9 : decode cX12_puts 9 = .ok (.iconst 0, 1) := by decide +kernel
theorem dX12_puts_10 : decode cX12_puts 10 = .ok (.ireturn, 1) := by decide +kernel
theorem dX12_puts_11 : decode cX12_puts 11 = .ok (.aload_n 0, 1) := by decide +kernel
theorem dX12_puts_12 : decode cX12_puts 12 = .ok (.getfield 37, 3) := by decide +kernel
theorem dX12_puts_15 : decode cX12_puts 15 = .ok (.iload_n 1, 1) := by decide +kernel
theorem dX12_puts_16 : decode cX12_puts 16 = .ok (.aload_n 0, 1) := by decide +kernel
theorem dX12_puts_17 : decode cX12_puts 17 = .ok (.getfield 184, 3) := by decide +kernel
theorem dX12_puts_20 : decode cX12_puts 20 = .ok (.iastore, 1) := by decide +kernel
theorem dX12_puts_21 : decode cX12_puts 21 = .ok (.iconst 1, 1) := by decide +kernel
theorem dX12_puts_22 : decode cX12_puts 22 = .ok (.ireturn, 1) := by decide +kernel
theorem dX12_seek_0 : decode cX12_seek 0 = .ok (.iconst 0, 1) := by decide +kernel
theorem dX12_seek_1 : decode cX12_seek 1 = .ok (.istore_n 3, 1) := by decide +kernel
theorem dX12_seek_2 : decode cX12_seek 2 = .ok (.iload_n 3, 1) := by decide +kernel
theorem dX12_seek_3 : decode cX12_seek 3 = .ok (.iload_n 2, 1) := by decide +kernel
theorem dX12_seek_4 : decode cX12_seek 4 = .ok (.if_icmp .ge 27, 3) := by decide +kernel
theorem dX12_seek_7 : decode cX12_seek 7 = .ok (.aload_n 0, 1) := by decide +kernel
theorem dX12_seek_8 : decode cX12_seek 8 = .ok (.getfield 43, 3) := by decide +kernel
theorem dX12_seek_11 : decode cX12_seek 11 = .ok (.iload_n 1, 1) := by decide +kernel
theorem dX12_seek_12 : decode cX12_seek 12 = .ok (.iload_n 3, 1) := by decide +kernel
theorem dX12_seek_13 : decode cX12_seek 13 = .ok (.iadd, 1) := by decide +kernel
theorem dX12_seek_14 : decode cX12_seek 14 = .ok (.laload, 1) := by decide +kernel
theorem dX12_seek_15 : decode cX12_seek 15 = .ok (.aload_n 0, 1) := by decide +kernel
theorem dX12_seek_16 : decode cX12_seek 16 = .ok (.getfield 161, 3) := by decide +kernel
theorem dX12_seek_19 : decode cX12_seek 19 = .ok (.lcmp, 1) := by decide +kernel
theorem dX12_seek_20 : decode cX12_seek 20 = .ok (.ifCond .ne 5, 3) := by decide +kernel
theorem dX12_seek_23 : decode cX12_seek 23 = .ok (.iload_n 3, 1) := by decide +kernel
theorem dX12_seek_24 : decode cX12_seek 24 = .ok (.ireturn, 1) := by decide +kernel
theorem dX12_seek_25 : decode cX12_seek 25 = .ok (.iinc 3 1, 3) := by decide +kernel
theorem dX12_seek_28 : decode cX12_seek 28 = .ok (.goto (-26), 3) := by decide +kernel
theorem dX12_seek_31 : decode cX12_seek 31 = .ok (.iconst (-1), 1) := by decide +kernel
theorem dX12_seek_32 : decode cX12_seek 32 = .ok (.ireturn, 1) := by decide +kernel
theorem dX12_fresh_0 : decode cX12_fresh 0 = .ok (.aload_n 0, 1) := by decide +kernel
theorem dX12_fresh_1 : decode cX12_fresh 1 = .ok (.invokevirtual 191, 3) := by decide +kernel
theorem dX12_fresh_4 : decode cX12_fresh 4 = .ok (.ifCond .ne 9, 3) := by decide +kernel
theorem dX12_fresh_7 : decode cX12_fresh 7 = .ok (.aload_n 0, 1) := by decide +kernel
theorem dX12_fresh_8 : decode cX12_fresh 8 = .ok (.iconst 1, 1) := by decide +kernel
theorem dX12_fresh_9 : decode cX12_fresh 9 = .ok (.invokevirtual 174, 3) := by decide +kernel
theorem dX12_fresh_12 : decode cX12_fresh 12 = .ok (.ireturn, 1) := by decide +kernel
theorem dX12_fresh_13 : decode cX12_fresh 13 = .ok (.aload_n 0, 1) := by decide +kernel
theorem dX12_fresh_14 : decode cX12_fresh 14 = .ok (.bipush 15, 2) := by decide +kernel
theorem dX12_fresh_16 : decode cX12_fresh 16 = .ok (.aload_n 0, 1) := by decide +kernel
theorem dX12_fresh_17 : decode cX12_fresh 17 = .ok (.getfield 37, 3) := by decide +kernel
theorem dX12_fresh_20 : decode cX12_fresh 20 = .ok (.iconst 0, 1) := by decide +kernel
theorem dX12_fresh_21 : decode cX12_fresh 21 = .ok (.iaload, 1) := by decide +kernel
theorem dX12_fresh_22 : decode cX12_fresh 22 = .ok (.invokevirtual 195, 3) := by decide +kernel
theorem dX12_fresh_25 : decode cX12_fresh 25 = .ok (.ifCond .ge 18, 3) := by decide +kernel
theorem dX12_fresh_28 : decode cX12_fresh 28 = .ok (.aload_n 0, 1) := by decide +kernel
theorem dX12_fresh_29 : decode cX12_fresh 29 = .ok (.bipush 20, 2) := by decide +kernel
theorem dX12_fresh_31 : decode cX12_fresh 31 = .ok (.aload_n 0, 1) := by decide +kernel
theorem dX12_fresh_32 : decode cX12_fresh 32 = .ok (.getfield 37, 3) := by decide +kernel
theorem dX12_fresh_35 : decode cX12_fresh 35 = .ok (.iconst 1, 1) := by decide +kernel
theorem dX12_fresh_36 : decode cX12_fresh 36 = .ok (.iaload, 1) := by decide +kernel
theorem dX12_fresh_37 : decode cX12_fresh 37 = .ok (.invokevirtual 195, 3) := by decide +kernel
theorem dX12_fresh_40 : decode cX12_fresh 40 = .ok (.ifCond .lt 9, 3) := by decide +kernel
theorem dX12_fresh_43 : decode cX12_fresh 43 = .ok (.aload_n 0, 1) := by decide +kernel
theorem dX12_fresh_44 : decode cX12_fresh 44 = .ok (.iconst 3, 1) := by decide +kernel
theorem dX12_fresh_45 : decode cX12_fresh 45 = .ok (.invokevirtual 174, 3) := by decide +kernel
theorem dX12_fresh_48 : decode cX12_fresh 48 = .ok (.ireturn, 1) := by decide +kernel
theorem dX12_fresh_49 : decode cX12_fresh 49 = .ok (.aload_n 0, 1) := by decide +kernel
theorem dX12_fresh_50 : decode cX12_fresh 50 = .ok (.getfield 43, 3) := by decide +kernel
theorem dX12_fresh_53 : decode cX12_fresh 53 = .ok (.iload_n 1, 1) := by decide +kernel
theorem dX12_fresh_54 : decode cX12_fresh 54 = .ok (.aload_n 0, 1) := by decide +kernel
theorem dX12_fresh_55 : decode cX12_fresh 55 = .ok (.getfield 161, 3) := by decide +kernel
theorem dX12_fresh_58 : decode cX12_fresh 58 = .ok (.lastore, 1) := by decide +kernel
theorem dX12_fresh_59 : decode cX12_fresh 59 = .ok (.aload_n 0, 1) := by decide +kernel
theorem dX12_fresh_60 : decode cX12_fresh 60 = .ok (.invokevirtual 177, 3) := by decide +kernel
theorem dX12_fresh_63 : decode cX12_fresh 63 = .ok (.iconst 1, 1) := by decide +kernel
theorem dX12_fresh_64 : decode cX12_fresh 64 = .ok (.ireturn, 1) := by decide +kernel
theorem dX12_looksAt_0 : decode cX12_looksAt 0 = .ok (.aload_n 0, 1) := by decide +kernel
theorem dX12_looksAt_1 : decode cX12_looksAt 1 = .ok (.invokevirtual 191, 3) := by decide +kernel
theorem dX12_looksAt_4 : decode cX12_looksAt 4 = .ok (.ifCond .ne 9, 3) := by decide +kernel
theorem dX12_looksAt_7 : decode cX12_looksAt 7 = .ok (.aload_n 0, 1) := by decide +kernel
theorem dX12_looksAt_8 : decode cX12_looksAt 8 = .ok (.iconst 1, 1) := by decide +kernel
theorem dX12_looksAt_9 : decode cX12_looksAt 9 = .ok (.invokevirtual 174, 3) := by decide +kernel
theorem dX12_looksAt_12 : decode cX12_looksAt 12 = .ok (.ireturn, 1) := by decide +kernel
theorem dX12_looksAt_13 : decode cX12_looksAt 13 = .ok (.aload_n 0, 1) := by decide +kernel
theorem dX12_looksAt_14 : decode cX12_looksAt 14 = .ok (.aload_n 0, 1) := by decide +kernel
theorem dX12_looksAt_15 : decode cX12_looksAt 15 = .ok (.iload_n 1, 1) := by decide +kernel
theorem dX12_looksAt_16 : decode cX12_looksAt 16 = .ok (.iload_n 2, 1) := by decide +kernel
theorem dX12_looksAt_17 : decode cX12_looksAt 17 = .ok (.invokevirtual 195, 3) := by decide +kernel
theorem dX12_looksAt_20 : decode cX12_looksAt 20 = .ok (.putfield 184, 3) := by decide +kernel
theorem dX12_looksAt_23 : decode cX12_looksAt 23 = .ok (.aload_n 0, 1) := by decide +kernel
theorem dX12_looksAt_24 : decode cX12_looksAt 24 = .ok (.getfield 184, 3) := by decide +kernel
theorem dX12_looksAt_27 : decode cX12_looksAt 27 = .ok (.ifCond .ge 11, 3) := by decide +kernel
theorem dX12_looksAt_30 : decode cX12_looksAt 30 = .ok (.aload_n 0, 1) := by decide +kernel
theorem dX12_looksAt_31 : decode cX12_looksAt 31 = .ok (.iconst 3, 1) := by decide +kernel
theorem dX12_looksAt_32 : decode cX12_looksAt 32 = .ok (.invokevirtual 174, 3) := by decide +kernel
theorem dX12_looksAt_35 : decode cX12_looksAt 35 = .ok (.ifCond .eq 7, 3) := by decide +kernel
theorem dX12_looksAt_38 : decode cX12_looksAt 38 = .ok (.iconst 1, 1) := by decide +kernel
theorem dX12_looksAt_39 : decode cX12_looksAt 39 = .ok (.goto 4, 3) := by decide +kernel
theorem dX12_looksAt_42 : decode cX12_looksAt 42 = .ok (.iconst 0, 1) := by decide +kernel
theorem dX12_looksAt_43 : decode cX12_looksAt 43 = .ok (.ireturn, 1) := by decide +kernel
theorem dX12_takesName_0 : decode cX12_takesName 0 = .ok (.aload_n 0, 1) := by decide +kernel
theorem dX12_takesName_1 : decode cX12_takesName 1 = .ok (.iload_n 1, 1) := by decide +kernel
theorem dX12_takesName_2 : decode cX12_takesName 2 = .ok (.iload_n 2, 1) := by decide +kernel
theorem dX12_takesName_3 : decode cX12_takesName 3 = .ok (.invokevirtual 199, 3) := by decide +kernel
theorem dX12_takesName_6 : decode cX12_takesName 6 = .ok (.ifCond .ne 5, 3) := by decide +kernel
theorem dX12_takesName_9 : decode cX12_takesName 9 = .ok (.iconst 0, 1) := by decide +kernel
theorem dX12_takesName_10 : decode cX12_takesName 10 = .ok (.ireturn, 1) := by decide +kernel
theorem dX12_takesName_11 : decode cX12_takesName 11 = .ok (.aload_n 0, 1) := by decide +kernel
theorem dX12_takesName_12 : decode cX12_takesName 12 = .ok (.invokevirtual 177, 3) := by decide +kernel
theorem dX12_takesName_15 : decode cX12_takesName 15 = .ok (.iconst 1, 1) := by decide +kernel
theorem dX12_takesName_16 : decode cX12_takesName 16 = .ok (.ireturn, 1) := by decide +kernel
theorem dX12_once_0 : decode cX12_once 0 = .ok (.aload_n 0, 1) := by decide +kernel
theorem dX12_once_1 : decode cX12_once 1 = .ok (.getfield 202, 3) := by decide +kernel
theorem dX12_once_4 : decode cX12_once 4 = .ok (.iload_n 1, 1) := by decide +kernel
theorem dX12_once_5 : decode cX12_once 5 = .ok (.invokestatic 205, 3) := by decide +kernel
theorem dX12_once_8 : decode cX12_once 8 = .ok (.ifCond .eq 9, 3) := by decide +kernel
theorem dX12_once_11 : decode cX12_once 11 = .ok (.aload_n 0, 1) := by decide +kernel
theorem dX12_once_12 : decode cX12_once 12 = .ok (.iconst 3, 1) := by decide +kernel
theorem dX12_once_13 : decode cX12_once 13 = .ok (.invokevirtual 174, 3) := by decide +kernel
theorem dX12_once_16 : decode cX12_once 16 = .ok (.ireturn, 1) := by decide +kernel
theorem dX12_once_17 : decode cX12_once 17 = .ok (.aload_n 0, 1) := by decide +kernel
theorem dX12_once_18 : decode cX12_once 18 = .ok (.dup, 1) := by decide +kernel
theorem dX12_once_19 : decode cX12_once 19 = .ok (.getfield 202, 3) := by decide +kernel
theorem dX12_once_22 : decode cX12_once 22 = .ok (.iconst 1, 1) := by decide +kernel
theorem dX12_once_23 : decode cX12_once 23 = .ok (.iload_n 1, 1) := by decide +kernel
theorem dX12_once_24 : decode cX12_once 24 = .ok (.ishl, 1) := by decide +kernel
theorem dX12_once_25 : decode cX12_once 25 = .ok (.ior, 1) := by decide +kernel
theorem dX12_once_26 : decode cX12_once 26 = .ok (.putfield 202, 3) := by decide +kernel
theorem dX12_once_29 : decode cX12_once 29 = .ok (.aload_n 0, 1) := by decide +kernel
theorem dX12_once_30 : decode cX12_once 30 = .ok (.invokevirtual 177, 3) := by decide +kernel
theorem dX12_once_33 : decode cX12_once 33 = .ok (.iconst 1, 1) := by decide +kernel
theorem dX12_once_34 : decode cX12_once 34 = .ok (.ireturn, 1) := by decide +kernel
theorem dX12_readLine_0 : decode cX12_readLine 0 = .ok (.aload_n 0, 1) := by decide +kernel
theorem dX12_readLine_1 : decode cX12_readLine 1 = .ok (.ldc2_w 87, 3) := by decide +kernel
theorem dX12_readLine_4 : decode cX12_readLine 4 = .ok (.invokevirtual 208, 3) := by decide +kernel
theorem dX12_readLine_7 : decode cX12_readLine 7 = .ok (.ifCond .eq 39, 3) := by decide +kernel
theorem dX12_readLine_10 : decode cX12_readLine 10 = .ok (.aload_n 0, 1) := by decide +kernel
theorem dX12_readLine_11 : decode cX12_readLine 11 = .ok (.iconst 0, 1) := by decide +kernel
theorem dX12_readLine_12 : decode cX12_readLine 12 = .ok (.invokevirtual 212, 3) := by decide +kernel
theorem dX12_readLine_15 : decode cX12_readLine 15 = .ok (.ifCond .eq 29, 3) := by decide +kernel
theorem dX12_readLine_18 : decode cX12_readLine 18 = .ok (.aload_n 0, 1) := by decide +kernel
theorem dX12_readLine_19 : decode cX12_readLine 19 = .ok (.iconst 3, 1) := by decide +kernel
theorem dX12_readLine_20 : decode cX12_readLine 20 = .ok (.iconst 1, 1) := by decide +kernel
theorem dX12_readLine_21 : decode cX12_readLine 21 = .ok (.bipush 30, 2) := by decide +kernel
theorem dX12_readLine_23 : decode cX12_readLine 23 = .ok (.invokevirtual 215, 3) := by decide +kernel
theorem dX12_readLine_26 : decode cX12_readLine 26 = .ok (.ifCond .eq 18, 3) := by decide +kernel
theorem dX12_readLine_29 : decode cX12_readLine 29 = .ok (.aload_n 0, 1) := by decide +kernel
theorem dX12_readLine_30 : decode cX12_readLine 30 = .ok (.iconst 4, 1) := by decide +kernel
theorem dX12_readLine_31 : decode cX12_readLine 31 = .ok (.iconst 1, 1) := by decide +kernel
theorem dX12_readLine_32 : decode cX12_readLine 32 = .ok (.bipush 99, 2) := by decide +kernel
theorem dX12_readLine_34 : decode cX12_readLine 34 = .ok (.invokevirtual 215, 3) := by decide +kernel
theorem dX12_readLine_37 : decode cX12_readLine 37 = .ok (.ifCond .eq 7, 3) := by decide +kernel
theorem dX12_readLine_40 : decode cX12_readLine 40 = .ok (.iconst 1, 1) := by decide +kernel
theorem dX12_readLine_41 : decode cX12_readLine 41 = .ok (.goto 4, 3) := by decide +kernel
theorem dX12_readLine_44 : decode cX12_readLine 44 = .ok (.iconst 0, 1) := by decide +kernel
theorem dX12_readLine_45 : decode cX12_readLine 45 = .ok (.ireturn, 1) := by decide +kernel
theorem dX12_readLine_46 : decode cX12_readLine 46 = .ok (.aload_n 0, 1) := by decide +kernel
theorem dX12_readLine_47 : decode cX12_readLine 47 = .ok (.ldc2_w 89, 3) := by decide +kernel
theorem dX12_readLine_50 : decode cX12_readLine 50 = .ok (.invokevirtual 208, 3) := by decide +kernel
theorem dX12_readLine_53 : decode cX12_readLine 53 = .ok (.ifCond .eq 40, 3) := by decide +kernel
theorem dX12_readLine_56 : decode cX12_readLine 56 = .ok (.aload_n 0, 1) := by decide +kernel
theorem dX12_readLine_57 : decode cX12_readLine 57 = .ok (.iconst 1, 1) := by decide +kernel
theorem dX12_readLine_58 : decode cX12_readLine 58 = .ok (.invokevirtual 212, 3) := by decide +kernel
theorem dX12_readLine_61 : decode cX12_readLine 61 = .ok (.ifCond .eq 30, 3) := by decide +kernel
theorem dX12_readLine_64 : decode cX12_readLine 64 = .ok (.aload_n 0, 1) := by decide +kernel
theorem dX12_readLine_65 : decode cX12_readLine 65 = .ok (.iconst 5, 1) := by decide +kernel
theorem dX12_readLine_66 : decode cX12_readLine 66 = .ok (.iconst 1, 1) := by decide +kernel
theorem dX12_readLine_67 : decode cX12_readLine 67 = .ok (.bipush 9, 2) := by decide +kernel
theorem dX12_readLine_69 : decode cX12_readLine 69 = .ok (.invokevirtual 215, 3) := by decide +kernel
theorem dX12_readLine_72 : decode cX12_readLine 72 = .ok (.ifCond .eq 19, 3) := by decide +kernel
theorem dX12_readLine_75 : decode cX12_readLine 75 = .ok (.aload_n 0, 1) := by decide +kernel
theorem dX12_readLine_76 : decode cX12_readLine 76 = .ok (.bipush 6, 2) := by decide +kernel
theorem dX12_readLine_78 : decode cX12_readLine 78 = .ok (.iconst 1, 1) := by decide +kernel
theorem dX12_readLine_79 : decode cX12_readLine 79 = .ok (.bipush 99, 2) := by decide +kernel
theorem dX12_readLine_81 : decode cX12_readLine 81 = .ok (.invokevirtual 215, 3) := by decide +kernel
theorem dX12_readLine_84 : decode cX12_readLine 84 = .ok (.ifCond .eq 7, 3) := by decide +kernel
theorem dX12_readLine_87 : decode cX12_readLine 87 = .ok (.iconst 1, 1) := by decide +kernel
theorem dX12_readLine_88 : decode cX12_readLine 88 = .ok (.goto 4, 3) := by decide +kernel
theorem dX12_readLine_91 : decode cX12_readLine 91 = .ok (.iconst 0, 1) := by decide +kernel
theorem dX12_readLine_92 : decode cX12_readLine 92 = .ok (.ireturn, 1) := by decide +kernel
theorem dX12_readLine_93 : decode cX12_readLine 93 = .ok (.aload_n 0, 1) := by decide +kernel
theorem dX12_readLine_94 : decode cX12_readLine 94 = .ok (.ldc2_w 91, 3) := by decide +kernel
theorem dX12_readLine_97 : decode cX12_readLine 97 = .ok (.invokevirtual 208, 3) := by decide +kernel
theorem dX12_readLine_100 : decode cX12_readLine 100 = .ok (.ifCond .eq 8, 3) := by decide +kernel
theorem dX12_readLine_103 : decode cX12_readLine 103 = .ok (.aload_n 0, 1) := by decide +kernel
theorem dX12_readLine_104 : decode cX12_readLine 104 = .ok (.invokevirtual 218, 3) := by decide +kernel
theorem dX12_readLine_107 : decode cX12_readLine 107 = .ok (.ireturn, 1) := by decide +kernel
theorem dX12_readLine_108 : decode cX12_readLine 108 = .ok (.aload_n 0, 1) := by decide +kernel
theorem dX12_readLine_109 : decode cX12_readLine 109 = .ok (.ldc2_w 93, 3) := by decide +kernel
theorem dX12_readLine_112 : decode cX12_readLine 112 = .ok (.invokevirtual 208, 3) := by decide +kernel
theorem dX12_readLine_115 : decode cX12_readLine 115 = .ok (.ifCond .eq 8, 3) := by decide +kernel
theorem dX12_readLine_118 : decode cX12_readLine 118 = .ok (.aload_n 0, 1) := by decide +kernel
theorem dX12_readLine_119 : decode cX12_readLine 119 = .ok (.invokevirtual 221, 3) := by decide +kernel
theorem dX12_readLine_122 : decode cX12_readLine 122 = .ok (.ireturn, 1) := by decide +kernel
theorem dX12_readLine_123 : decode cX12_readLine 123 = .ok (.aload_n 0, 1) := by decide +kernel
theorem dX12_readLine_124 : decode cX12_readLine 124 = .ok (.ldc2_w 95, 3) := by decide +kernel
theorem dX12_readLine_127 : decode cX12_readLine 127 = .ok (.invokevirtual 208, 3) := by decide +kernel
theorem dX12_readLine_130 : decode cX12_readLine 130 = .ok (.ifCond .eq 10, 3) := by decide +kernel
theorem dX12_readLine_133 : decode cX12_readLine 133 = .ok (.aload_n 0, 1) := by decide +kernel
theorem dX12_readLine_134 : decode cX12_readLine 134 = .ok (.invokevirtual 224, 3) := by decide +kernel
theorem dX12_readLine_137 : decode cX12_readLine 137 = .ok (.goto 8, 3) := by decide +kernel
theorem dX12_readLine_140 : decode cX12_readLine 140 = .ok (.aload_n 0, 1) := by decide +kernel
theorem dX12_readLine_141 : decode cX12_readLine 141 = .ok (.iconst 1, 1) := by decide +kernel
theorem dX12_readLine_142 : decode cX12_readLine 142 = .ok (.invokevirtual 174, 3) := by decide +kernel
theorem dX12_readLine_145 : decode cX12_readLine 145 = .ok (.ireturn, 1) := by decide +kernel
theorem dX12_readPerson_0 : decode cX12_readPerson 0 = .ok (.aload_n 0, 1) := by decide +kernel
theorem dX12_readPerson_1 : decode cX12_readPerson 1 = .ok (.getfield 37, 3) := by decide +kernel
theorem dX12_readPerson_4 : decode cX12_readPerson 4 = .ok (.iconst 0, 1) := by decide +kernel
theorem dX12_readPerson_5 : decode cX12_readPerson 5 = .ok (.iaload, 1) := by decide +kernel
theorem dX12_readPerson_6 : decode cX12_readPerson 6 = .ok (.istore_n 1, 1) := by decide +kernel
theorem dX12_readPerson_7 : decode cX12_readPerson 7 = .ok (.iload_n 1, 1) := by decide +kernel
theorem dX12_readPerson_8 : decode cX12_readPerson 8 = .ok (.iconst 5, 1) := by decide +kernel
theorem dX12_readPerson_9 : decode cX12_readPerson 9 = .ok (.if_icmp .ne 9, 3) := by decide +kernel
theorem dX12_readPerson_12 : decode cX12_readPerson 12 = .ok (.aload_n 0, 1) := by decide +kernel
theorem dX12_readPerson_13 : decode cX12_readPerson 13 = .ok (.iconst 4, 1) := by decide +kernel
theorem dX12_readPerson_14 : decode cX12_readPerson 14 = .ok (.invokevirtual 174, 3) := by decide +kernel
theorem dX12_readPerson_17 : decode cX12_readPerson 17 = .ok (.ireturn, 1) := by decide +kernel
theorem dX12_readPerson_18 : decode cX12_readPerson 18 = .ok (.aload_n 0, 1) := by decide +kernel
theorem dX12_readPerson_19 : decode cX12_readPerson 19 = .ok (.invokevirtual 177, 3) := by decide +kernel
theorem dX12_readPerson_22 : decode cX12_readPerson 22 = .ok (.aload_n 0, 1) := by decide +kernel
theorem dX12_readPerson_23 : decode cX12_readPerson 23 = .ok (.bipush 15, 2) := by decide +kernel
theorem dX12_readPerson_25 : decode cX12_readPerson 25 = .ok (.iload_n 1, 1) := by decide +kernel
theorem dX12_readPerson_26 : decode cX12_readPerson 26 = .ok (.iadd, 1) := by decide +kernel
theorem dX12_readPerson_27 : decode cX12_readPerson 27 = .ok (.invokevirtual 227, 3) := by decide +kernel
theorem dX12_readPerson_30 : decode cX12_readPerson 30 = .ok (.ifCond .eq 17, 3) := by decide +kernel
theorem dX12_readPerson_33 : decode cX12_readPerson 33 = .ok (.aload_n 0, 1) := by decide +kernel
theorem dX12_readPerson_34 : decode cX12_readPerson 34 = .ok (.bipush 7, 2) := by decide +kernel
theorem dX12_readPerson_36 : decode cX12_readPerson 36 = .ok (.iload_n 1, 1) := by decide +kernel
theorem dX12_readPerson_37 : decode cX12_readPerson 37 = .ok (.iadd, 1) := by decide +kernel
theorem dX12_readPerson_38 : decode cX12_readPerson 38 = .ok (.iconst 0, 1) := by decide +kernel
theorem dX12_readPerson_39 : decode cX12_readPerson 39 = .ok (.bipush 9, 2) := by decide +kernel
theorem dX12_readPerson_41 : decode cX12_readPerson 41 = .ok (.invokevirtual 215, 3) := by decide +kernel
theorem dX12_readPerson_44 : decode cX12_readPerson 44 = .ok (.ifCond .ne 5, 3) := by decide +kernel
theorem dX12_readPerson_47 : decode cX12_readPerson 47 = .ok (.iconst 0, 1) := by decide +kernel
theorem dX12_readPerson_48 : decode cX12_readPerson 48 = .ok (.ireturn, 1) := by decide +kernel
theorem dX12_readPerson_49 : decode cX12_readPerson 49 = .ok (.aload_n 0, 1) := by decide +kernel
theorem dX12_readPerson_50 : decode cX12_readPerson 50 = .ok (.getfield 37, 3) := by decide +kernel
theorem dX12_readPerson_53 : decode cX12_readPerson 53 = .ok (.iconst 0, 1) := by decide +kernel
theorem dX12_readPerson_54 : decode cX12_readPerson 54 = .ok (.dup2, 1) := by decide +kernel
theorem dX12_readPerson_55 : decode cX12_readPerson 55 = .ok (.iaload, 1) := by decide +kernel
theorem dX12_readPerson_56 : decode cX12_readPerson 56 = .ok (.iconst 1, 1) := by decide +kernel
theorem dX12_readPerson_57 : decode cX12_readPerson 57 = .ok (.iadd, 1) := by decide +kernel
theorem dX12_readPerson_58 : decode cX12_readPerson 58 = .ok (.iastore, 1) := by decide +kernel
theorem dX12_readPerson_59 : decode cX12_readPerson 59 = .ok (.iconst 1, 1) := by decide +kernel
theorem dX12_readPerson_60 : decode cX12_readPerson 60 = .ok (.ireturn, 1) := by decide +kernel
theorem dX12_readItem_0 : decode cX12_readItem 0 = .ok (.aload_n 0, 1) := by decide +kernel
theorem dX12_readItem_1 : decode cX12_readItem 1 = .ok (.getfield 37, 3) := by decide +kernel
theorem dX12_readItem_4 : decode cX12_readItem 4 = .ok (.iconst 1, 1) := by decide +kernel
theorem dX12_readItem_5 : decode cX12_readItem 5 = .ok (.iaload, 1) := by decide +kernel
theorem dX12_readItem_6 : decode cX12_readItem 6 = .ok (.istore_n 1, 1) := by decide +kernel
theorem dX12_readItem_7 : decode cX12_readItem 7 = .ok (.iload_n 1, 1) := by decide +kernel
theorem dX12_readItem_8 : decode cX12_readItem 8 = .ok (.bipush 10, 2) := by decide +kernel
theorem dX12_readItem_10 : decode cX12_readItem 10 = .ok (.if_icmp .ne 9, 3) := by decide +kernel
theorem dX12_readItem_13 : decode cX12_readItem 13 = .ok (.aload_n 0, 1) := by decide +kernel
theorem dX12_readItem_14 : decode cX12_readItem 14 = .ok (.iconst 4, 1) := by decide +kernel
theorem dX12_readItem_15 : decode cX12_readItem 15 = .ok (.invokevirtual 174, 3) := by decide +kernel
theorem dX12_readItem_18 : decode cX12_readItem 18 = .ok (.ireturn, 1) := by decide +kernel
theorem dX12_readItem_19 : decode cX12_readItem 19 = .ok (.aload_n 0, 1) := by decide +kernel
theorem dX12_readItem_20 : decode cX12_readItem 20 = .ok (.invokevirtual 177, 3) := by decide +kernel
theorem dX12_readItem_23 : decode cX12_readItem 23 = .ok (.aload_n 0, 1) := by decide +kernel
theorem dX12_readItem_24 : decode cX12_readItem 24 = .ok (.bipush 20, 2) := by decide +kernel
theorem dX12_readItem_26 : decode cX12_readItem 26 = .ok (.iload_n 1, 1) := by decide +kernel
theorem dX12_readItem_27 : decode cX12_readItem 27 = .ok (.iadd, 1) := by decide +kernel
theorem dX12_readItem_28 : decode cX12_readItem 28 = .ok (.invokevirtual 227, 3) := by decide +kernel
theorem dX12_readItem_31 : decode cX12_readItem 31 = .ok (.ifCond .eq 18, 3) := by decide +kernel
theorem dX12_readItem_34 : decode cX12_readItem 34 = .ok (.aload_n 0, 1) := by decide +kernel
theorem dX12_readItem_35 : decode cX12_readItem 35 = .ok (.bipush 15, 2) := by decide +kernel
theorem dX12_readItem_37 : decode cX12_readItem 37 = .ok (.aload_n 0, 1) := by decide +kernel
theorem dX12_readItem_38 : decode cX12_readItem 38 = .ok (.getfield 37, 3) := by decide +kernel
theorem dX12_readItem_41 : decode cX12_readItem 41 = .ok (.iconst 0, 1) := by decide +kernel
theorem dX12_readItem_42 : decode cX12_readItem 42 = .ok (.iaload, 1) := by decide +kernel
theorem dX12_readItem_43 : decode cX12_readItem 43 = .ok (.invokevirtual 230, 3) := by decide +kernel
theorem dX12_readItem_46 : decode cX12_readItem 46 = .ok (.ifCond .ne 5, 3) := by decide +kernel
theorem dX12_readItem_49 : decode cX12_readItem 49 = .ok (.iconst 0, 1) := by decide +kernel
theorem dX12_readItem_50 : decode cX12_readItem 50 = .ok (.ireturn, 1) := by decide +kernel
theorem dX12_readItem_51 : decode cX12_readItem 51 = .ok (.aload_n 0, 1) := by decide +kernel
theorem dX12_readItem_52 : decode cX12_readItem 52 = .ok (.getfield 37, 3) := by decide +kernel
theorem dX12_readItem_55 : decode cX12_readItem 55 = .ok (.bipush 12, 2) := by decide +kernel
theorem dX12_readItem_57 : decode cX12_readItem 57 = .ok (.iload_n 1, 1) := by decide +kernel
theorem dX12_readItem_58 : decode cX12_readItem 58 = .ok (.iadd, 1) := by decide +kernel
theorem dX12_readItem_59 : decode cX12_readItem 59 = .ok (.aload_n 0, 1) := by decide +kernel
theorem dX12_readItem_60 : decode cX12_readItem 60 = .ok (.getfield 184, 3) := by decide +kernel
theorem dX12_readItem_63 : decode cX12_readItem 63 = .ok (.iastore, 1) := by decide +kernel
theorem dX12_readItem_64 : decode cX12_readItem 64 = .ok (.aload_n 0, 1) := by decide +kernel
theorem dX12_readItem_65 : decode cX12_readItem 65 = .ok (.bipush 22, 2) := by decide +kernel
theorem dX12_readItem_67 : decode cX12_readItem 67 = .ok (.iload_n 1, 1) := by decide +kernel
theorem dX12_readItem_68 : decode cX12_readItem 68 = .ok (.iadd, 1) := by decide +kernel
theorem dX12_readItem_69 : decode cX12_readItem 69 = .ok (.iconst 1, 1) := by decide +kernel
theorem dX12_readItem_70 : decode cX12_readItem 70 = .ok (.bipush 20, 2) := by decide +kernel
theorem dX12_readItem_72 : decode cX12_readItem 72 = .ok (.invokevirtual 215, 3) := by decide +kernel
theorem dX12_readItem_75 : decode cX12_readItem 75 = .ok (.ifCond .ne 5, 3) := by decide +kernel
theorem dX12_readItem_78 : decode cX12_readItem 78 = .ok (.iconst 0, 1) := by decide +kernel
theorem dX12_readItem_79 : decode cX12_readItem 79 = .ok (.ireturn, 1) := by decide +kernel
theorem dX12_readItem_80 : decode cX12_readItem 80 = .ok (.aload_n 0, 1) := by decide +kernel
theorem dX12_readItem_81 : decode cX12_readItem 81 = .ok (.getfield 37, 3) := by decide +kernel
theorem dX12_readItem_84 : decode cX12_readItem 84 = .ok (.iconst 1, 1) := by decide +kernel
theorem dX12_readItem_85 : decode cX12_readItem 85 = .ok (.dup2, 1) := by decide +kernel
theorem dX12_readItem_86 : decode cX12_readItem 86 = .ok (.iaload, 1) := by decide +kernel
theorem dX12_readItem_87 : decode cX12_readItem 87 = .ok (.iconst 1, 1) := by decide +kernel
theorem dX12_readItem_88 : decode cX12_readItem 88 = .ok (.iadd, 1) := by decide +kernel
theorem dX12_readItem_89 : decode cX12_readItem 89 = .ok (.iastore, 1) := by decide +kernel
theorem dX12_readItem_90 : decode cX12_readItem 90 = .ok (.iconst 1, 1) := by decide +kernel
theorem dX12_readItem_91 : decode cX12_readItem 91 = .ok (.ireturn, 1) := by decide +kernel
theorem dX12_readJoin_0 : decode cX12_readJoin 0 = .ok (.aload_n 0, 1) := by decide +kernel
theorem dX12_readJoin_1 : decode cX12_readJoin 1 = .ok (.getfield 37, 3) := by decide +kernel
theorem dX12_readJoin_4 : decode cX12_readJoin 4 = .ok (.iconst 2, 1) := by decide +kernel
theorem dX12_readJoin_5 : decode cX12_readJoin 5 = .ok (.iaload, 1) := by decide +kernel
theorem dX12_readJoin_6 : decode cX12_readJoin 6 = .ok (.istore_n 1, 1) := by decide +kernel
theorem dX12_readJoin_7 : decode cX12_readJoin 7 = .ok (.iload_n 1, 1) := by decide +kernel
theorem dX12_readJoin_8 : decode cX12_readJoin 8 = .ok (.bipush 16, 2) := by decide +kernel
theorem dX12_readJoin_10 : decode cX12_readJoin 10 = .ok (.if_icmp .ne 9, 3) := by decide +kernel
theorem dX12_readJoin_13 : decode cX12_readJoin 13 = .ok (.aload_n 0, 1) := by decide +kernel
theorem dX12_readJoin_14 : decode cX12_readJoin 14 = .ok (.iconst 4, 1) := by decide +kernel
theorem dX12_readJoin_15 : decode cX12_readJoin 15 = .ok (.invokevirtual 174, 3) := by decide +kernel
theorem dX12_readJoin_18 : decode cX12_readJoin 18 = .ok (.ireturn, 1) := by decide +kernel
theorem dX12_readJoin_19 : decode cX12_readJoin 19 = .ok (.aload_n 0, 1) := by decide +kernel
theorem dX12_readJoin_20 : decode cX12_readJoin 20 = .ok (.invokevirtual 177, 3) := by decide +kernel
theorem dX12_readJoin_23 : decode cX12_readJoin 23 = .ok (.aload_n 0, 1) := by decide +kernel
theorem dX12_readJoin_24 : decode cX12_readJoin 24 = .ok (.bipush 20, 2) := by decide +kernel
theorem dX12_readJoin_26 : decode cX12_readJoin 26 = .ok (.aload_n 0, 1) := by decide +kernel
theorem dX12_readJoin_27 : decode cX12_readJoin 27 = .ok (.getfield 37, 3) := by decide +kernel
theorem dX12_readJoin_30 : decode cX12_readJoin 30 = .ok (.iconst 1, 1) := by decide +kernel
theorem dX12_readJoin_31 : decode cX12_readJoin 31 = .ok (.iaload, 1) := by decide +kernel
theorem dX12_readJoin_32 : decode cX12_readJoin 32 = .ok (.invokevirtual 230, 3) := by decide +kernel
theorem dX12_readJoin_35 : decode cX12_readJoin 35 = .ok (.ifCond .ne 5, 3) := by decide +kernel
theorem dX12_readJoin_38 : decode cX12_readJoin 38 = .ok (.iconst 0, 1) := by decide +kernel
theorem dX12_readJoin_39 : decode cX12_readJoin 39 = .ok (.ireturn, 1) := by decide +kernel
theorem dX12_readJoin_40 : decode cX12_readJoin 40 = .ok (.aload_n 0, 1) := by decide +kernel
theorem dX12_readJoin_41 : decode cX12_readJoin 41 = .ok (.getfield 184, 3) := by decide +kernel
theorem dX12_readJoin_44 : decode cX12_readJoin 44 = .ok (.istore_n 2, 1) := by decide +kernel
theorem dX12_readJoin_45 : decode cX12_readJoin 45 = .ok (.aload_n 0, 1) := by decide +kernel
theorem dX12_readJoin_46 : decode cX12_readJoin 46 = .ok (.bipush 20, 2) := by decide +kernel
theorem dX12_readJoin_48 : decode cX12_readJoin 48 = .ok (.aload_n 0, 1) := by decide +kernel
theorem dX12_readJoin_49 : decode cX12_readJoin 49 = .ok (.getfield 37, 3) := by decide +kernel
theorem dX12_readJoin_52 : decode cX12_readJoin 52 = .ok (.iconst 1, 1) := by decide +kernel
theorem dX12_readJoin_53 : decode cX12_readJoin 53 = .ok (.iaload, 1) := by decide +kernel
theorem dX12_readJoin_54 : decode cX12_readJoin 54 = .ok (.invokevirtual 199, 3) := by decide +kernel
theorem dX12_readJoin_57 : decode cX12_readJoin 57 = .ok (.ifCond .ne 5, 3) := by decide +kernel
theorem dX12_readJoin_60 : decode cX12_readJoin 60 = .ok (.iconst 0, 1) := by decide +kernel
theorem dX12_readJoin_61 : decode cX12_readJoin 61 = .ok (.ireturn, 1) := by decide +kernel
theorem dX12_readJoin_62 : decode cX12_readJoin 62 = .ok (.aload_n 0, 1) := by decide +kernel
theorem dX12_readJoin_63 : decode cX12_readJoin 63 = .ok (.getfield 184, 3) := by decide +kernel
theorem dX12_readJoin_66 : decode cX12_readJoin 66 = .ok (.iload_n 2, 1) := by decide +kernel
theorem dX12_readJoin_67 : decode cX12_readJoin 67 = .ok (.if_icmp .eq 27, 3) := by decide +kernel
theorem dX12_readJoin_70 : decode cX12_readJoin 70 = .ok (.aload_n 0, 1) := by decide +kernel
theorem dX12_readJoin_71 : decode cX12_readJoin 71 = .ok (.getfield 37, 3) := by decide +kernel
theorem dX12_readJoin_74 : decode cX12_readJoin 74 = .ok (.bipush 12, 2) := by decide +kernel
theorem dX12_readJoin_76 : decode cX12_readJoin 76 = .ok (.aload_n 0, 1) := by decide +kernel
theorem dX12_readJoin_77 : decode cX12_readJoin 77 = .ok (.getfield 184, 3) := by decide +kernel
theorem dX12_readJoin_80 : decode cX12_readJoin 80 = .ok (.iadd, 1) := by decide +kernel
theorem dX12_readJoin_81 : decode cX12_readJoin 81 = .ok (.iaload, 1) := by decide +kernel
theorem dX12_readJoin_82 : decode cX12_readJoin 82 = .ok (.aload_n 0, 1) := by decide +kernel
theorem dX12_readJoin_83 : decode cX12_readJoin 83 = .ok (.getfield 37, 3) := by decide +kernel
theorem dX12_readJoin_86 : decode cX12_readJoin 86 = .ok (.bipush 12, 2) := by decide +kernel
theorem dX12_readJoin_88 : decode cX12_readJoin 88 = .ok (.iload_n 2, 1) := by decide +kernel
theorem dX12_readJoin_89 : decode cX12_readJoin 89 = .ok (.iadd, 1) := by decide +kernel
theorem dX12_readJoin_90 : decode cX12_readJoin 90 = .ok (.iaload, 1) := by decide +kernel
theorem dX12_readJoin_91 : decode cX12_readJoin 91 = .ok (.if_icmp .eq 7, 3) := by decide +kernel
theorem dX12_readJoin_94 : decode cX12_readJoin 94 = .ok (.iconst 1, 1) := by decide +kernel
theorem dX12_readJoin_95 : decode cX12_readJoin 95 = .ok (.goto 4, 3) := by decide +kernel
theorem dX12_readJoin_98 : decode cX12_readJoin 98 = .ok (.iconst 0, 1) := by decide +kernel
theorem dX12_readJoin_99 : decode cX12_readJoin 99 = .ok (.istore_n 3, 1) := by decide +kernel
theorem dX12_readJoin_100 : decode cX12_readJoin 100 = .ok (.iconst 0, 1) := by decide +kernel
theorem dX12_readJoin_101 : decode cX12_readJoin 101 = .ok (.istore 4, 2) := by decide +kernel
theorem dX12_readJoin_103 : decode cX12_readJoin 103 = .ok (.iload 4, 2) := by decide +kernel
theorem dX12_readJoin_105 : decode cX12_readJoin 105 = .ok (.iload_n 1, 1) := by decide +kernel
theorem dX12_readJoin_106 : decode cX12_readJoin 106 = .ok (.if_icmp .ge 81, 3) := by decide +kernel
theorem dX12_readJoin_109 : decode cX12_readJoin 109 = .ok (.iload_n 3, 1) := by decide +kernel
theorem dX12_readJoin_110 : decode cX12_readJoin 110 = .ok (.ifCond .ne 65, 3) := by decide +kernel
theorem dX12_readJoin_113 : decode cX12_readJoin 113 = .ok (.aload_n 0, 1) := by decide +kernel
theorem dX12_readJoin_114 : decode cX12_readJoin 114 = .ok (.getfield 37, 3) := by decide +kernel
theorem dX12_readJoin_117 : decode cX12_readJoin 117 = .ok (.bipush 32, 2) := by decide +kernel
theorem dX12_readJoin_119 : decode cX12_readJoin 119 = .ok (.iload 4, 2) := by decide +kernel
theorem dX12_readJoin_121 : decode cX12_readJoin 121 = .ok (.iadd, 1) := by decide +kernel
theorem dX12_readJoin_122 : decode cX12_readJoin 122 = .ok (.iaload, 1) := by decide +kernel
theorem dX12_readJoin_123 : decode cX12_readJoin 123 = .ok (.iload_n 2, 1) := by decide +kernel
theorem dX12_readJoin_124 : decode cX12_readJoin 124 = .ok (.if_icmp .ne 20, 3) := by decide +kernel
theorem dX12_readJoin_127 : decode cX12_readJoin 127 = .ok (.aload_n 0, 1) := by decide +kernel
theorem dX12_readJoin_128 : decode cX12_readJoin 128 = .ok (.getfield 37, 3) := by decide +kernel
theorem dX12_readJoin_131 : decode cX12_readJoin 131 = .ok (.bipush 48, 2) := by decide +kernel
theorem dX12_readJoin_133 : decode cX12_readJoin 133 = .ok (.iload 4, 2) := by decide +kernel
theorem dX12_readJoin_135 : decode cX12_readJoin 135 = .ok (.iadd, 1) := by decide +kernel
theorem dX12_readJoin_136 : decode cX12_readJoin 136 = .ok (.iaload, 1) := by decide +kernel
theorem dX12_readJoin_137 : decode cX12_readJoin 137 = .ok (.aload_n 0, 1) := by decide +kernel
theorem dX12_readJoin_138 : decode cX12_readJoin 138 = .ok (.getfield 184, 3) := by decide +kernel
theorem dX12_readJoin_141 : decode cX12_readJoin 141 = .ok (.if_icmp .eq 34, 3) := by decide +kernel
theorem dX12_readJoin_144 : decode cX12_readJoin 144 = .ok (.aload_n 0, 1) := by decide +kernel
theorem dX12_readJoin_145 : decode cX12_readJoin 145 = .ok (.getfield 37, 3) := by decide +kernel
theorem dX12_readJoin_148 : decode cX12_readJoin 148 = .ok (.bipush 32, 2) := by decide +kernel
theorem dX12_readJoin_150 : decode cX12_readJoin 150 = .ok (.iload 4, 2) := by decide +kernel
theorem dX12_readJoin_152 : decode cX12_readJoin 152 = .ok (.iadd, 1) := by decide +kernel
theorem dX12_readJoin_153 : decode cX12_readJoin 153 = .ok (.iaload, 1) := by decide +kernel
theorem dX12_readJoin_154 : decode cX12_readJoin 154 = .ok (.aload_n 0, 1) := by decide +kernel
theorem dX12_readJoin_155 : decode cX12_readJoin 155 = .ok (.getfield 184, 3) := by decide +kernel
theorem dX12_readJoin_158 : decode cX12_readJoin 158 = .ok (.if_icmp .ne 21, 3) := by decide +kernel
theorem dX12_readJoin_161 : decode cX12_readJoin 161 = .ok (.aload_n 0, 1) := by decide +kernel
theorem dX12_readJoin_162 : decode cX12_readJoin 162 = .ok (.getfield 37, 3) := by decide +kernel
theorem dX12_readJoin_165 : decode cX12_readJoin 165 = .ok (.bipush 48, 2) := by decide +kernel
theorem dX12_readJoin_167 : decode cX12_readJoin 167 = .ok (.iload 4, 2) := by decide +kernel
theorem dX12_readJoin_169 : decode cX12_readJoin 169 = .ok (.iadd, 1) := by decide +kernel
theorem dX12_readJoin_170 : decode cX12_readJoin 170 = .ok (.iaload, 1) := by decide +kernel
theorem dX12_readJoin_171 : decode cX12_readJoin 171 = .ok (.iload_n 2, 1) := by decide +kernel
theorem dX12_readJoin_172 : decode cX12_readJoin 172 = .ok (.if_icmp .ne 7, 3) := by decide +kernel
theorem dX12_readJoin_175 : decode cX12_readJoin 175 = .ok (.iconst 1, 1) := by decide +kernel
theorem dX12_readJoin_176 : decode cX12_readJoin 176 = .ok (.goto 4, 3) := by decide +kernel
theorem dX12_readJoin_179 : decode cX12_readJoin 179 = .ok (.iconst 0, 1) := by decide +kernel
theorem dX12_readJoin_180 : decode cX12_readJoin 180 = .ok (.istore_n 3, 1) := by decide +kernel
theorem dX12_readJoin_181 : decode cX12_readJoin 181 = .ok (.iinc 4 1, 3) := by decide +kernel
theorem dX12_readJoin_184 : decode cX12_readJoin 184 = .ok (.goto (-81), 3) := by decide +kernel
theorem dX12_readJoin_187 : decode cX12_readJoin 187 = .ok (.iload_n 3, 1) := by decide +kernel
theorem dX12_readJoin_188 : decode cX12_readJoin 188 = .ok (.ifCond .eq 9, 3) := by decide +kernel
theorem dX12_readJoin_191 : decode cX12_readJoin 191 = .ok (.aload_n 0, 1) := by decide +kernel
theorem dX12_readJoin_192 : decode cX12_readJoin 192 = .ok (.iconst 3, 1) := by decide +kernel
theorem dX12_readJoin_193 : decode cX12_readJoin 193 = .ok (.invokevirtual 174, 3) := by decide +kernel
theorem dX12_readJoin_196 : decode cX12_readJoin 196 = .ok (.ireturn, 1) := by decide +kernel
theorem dX12_readJoin_197 : decode cX12_readJoin 197 = .ok (.aload_n 0, 1) := by decide +kernel
theorem dX12_readJoin_198 : decode cX12_readJoin 198 = .ok (.getfield 37, 3) := by decide +kernel
theorem dX12_readJoin_201 : decode cX12_readJoin 201 = .ok (.bipush 32, 2) := by decide +kernel
theorem dX12_readJoin_203 : decode cX12_readJoin 203 = .ok (.iload_n 1, 1) := by decide +kernel
theorem dX12_readJoin_204 : decode cX12_readJoin 204 = .ok (.iadd, 1) := by decide +kernel
theorem dX12_readJoin_205 : decode cX12_readJoin 205 = .ok (.iload_n 2, 1) := by decide +kernel
theorem dX12_readJoin_206 : decode cX12_readJoin 206 = .ok (.iastore, 1) := by decide +kernel
theorem dX12_readJoin_207 : decode cX12_readJoin 207 = .ok (.aload_n 0, 1) := by decide +kernel
theorem dX12_readJoin_208 : decode cX12_readJoin 208 = .ok (.getfield 37, 3) := by decide +kernel
theorem dX12_readJoin_211 : decode cX12_readJoin 211 = .ok (.bipush 48, 2) := by decide +kernel
theorem dX12_readJoin_213 : decode cX12_readJoin 213 = .ok (.iload_n 1, 1) := by decide +kernel
theorem dX12_readJoin_214 : decode cX12_readJoin 214 = .ok (.iadd, 1) := by decide +kernel
theorem dX12_readJoin_215 : decode cX12_readJoin 215 = .ok (.aload_n 0, 1) := by decide +kernel
theorem dX12_readJoin_216 : decode cX12_readJoin 216 = .ok (.getfield 184, 3) := by decide +kernel
theorem dX12_readJoin_219 : decode cX12_readJoin 219 = .ok (.iastore, 1) := by decide +kernel
theorem dX12_readJoin_220 : decode cX12_readJoin 220 = .ok (.aload_n 0, 1) := by decide +kernel
theorem dX12_readJoin_221 : decode cX12_readJoin 221 = .ok (.invokevirtual 177, 3) := by decide +kernel
theorem dX12_readJoin_224 : decode cX12_readJoin 224 = .ok (.aload_n 0, 1) := by decide +kernel
theorem dX12_readJoin_225 : decode cX12_readJoin 225 = .ok (.bipush 64, 2) := by decide +kernel
theorem dX12_readJoin_227 : decode cX12_readJoin 227 = .ok (.iload_n 1, 1) := by decide +kernel
theorem dX12_readJoin_228 : decode cX12_readJoin 228 = .ok (.iadd, 1) := by decide +kernel
theorem dX12_readJoin_229 : decode cX12_readJoin 229 = .ok (.iconst 1, 1) := by decide +kernel
theorem dX12_readJoin_230 : decode cX12_readJoin 230 = .ok (.bipush 30, 2) := by decide +kernel
theorem dX12_readJoin_232 : decode cX12_readJoin 232 = .ok (.invokevirtual 215, 3) := by decide +kernel
theorem dX12_readJoin_235 : decode cX12_readJoin 235 = .ok (.ifCond .ne 5, 3) := by decide +kernel
theorem dX12_readJoin_238 : decode cX12_readJoin 238 = .ok (.iconst 0, 1) := by decide +kernel
theorem dX12_readJoin_239 : decode cX12_readJoin 239 = .ok (.ireturn, 1) := by decide +kernel
theorem dX12_readJoin_240 : decode cX12_readJoin 240 = .ok (.aload_n 0, 1) := by decide +kernel
theorem dX12_readJoin_241 : decode cX12_readJoin 241 = .ok (.getfield 37, 3) := by decide +kernel
theorem dX12_readJoin_244 : decode cX12_readJoin 244 = .ok (.iconst 2, 1) := by decide +kernel
theorem dX12_readJoin_245 : decode cX12_readJoin 245 = .ok (.dup2, 1) := by decide +kernel
theorem dX12_readJoin_246 : decode cX12_readJoin 246 = .ok (.iaload, 1) := by decide +kernel
theorem dX12_readJoin_247 : decode cX12_readJoin 247 = .ok (.iconst 1, 1) := by decide +kernel
theorem dX12_readJoin_248 : decode cX12_readJoin 248 = .ok (.iadd, 1) := by decide +kernel
theorem dX12_readJoin_249 : decode cX12_readJoin 249 = .ok (.iastore, 1) := by decide +kernel
theorem dX12_readJoin_250 : decode cX12_readJoin 250 = .ok (.iconst 1, 1) := by decide +kernel
theorem dX12_readJoin_251 : decode cX12_readJoin 251 = .ok (.ireturn, 1) := by decide +kernel
theorem dX12_falls_0 : decode cX12_falls 0 = .ok (.aload_n 0, 1) := by decide +kernel
theorem dX12_falls_1 : decode cX12_falls 1 = .ok (.iconst 0, 1) := by decide +kernel
theorem dX12_falls_2 : decode cX12_falls 2 = .ok (.putfield 1, 3) := by decide +kernel
theorem dX12_falls_5 : decode cX12_falls 5 = .ok (.aload_n 0, 1) := by decide +kernel
theorem dX12_falls_6 : decode cX12_falls 6 = .ok (.sipush 900, 3) := by decide +kernel
theorem dX12_falls_9 : decode cX12_falls 9 = .ok (.invokevirtual 233, 3) := by decide +kernel
theorem dX12_falls_12 : decode cX12_falls 12 = .ok (.aload_n 0, 1) := by decide +kernel
theorem dX12_falls_13 : decode cX12_falls 13 = .ok (.iconst 0, 1) := by decide +kernel
theorem dX12_falls_14 : decode cX12_falls 14 = .ok (.putfield 165, 3) := by decide +kernel
theorem dX12_falls_17 : decode cX12_falls 17 = .ok (.aload_n 0, 1) := by decide +kernel
theorem dX12_falls_18 : decode cX12_falls 18 = .ok (.iconst 0, 1) := by decide +kernel
theorem dX12_falls_19 : decode cX12_falls 19 = .ok (.putfield 236, 3) := by decide +kernel
theorem dX12_falls_22 : decode cX12_falls 22 = .ok (.aload_n 0, 1) := by decide +kernel
theorem dX12_falls_23 : decode cX12_falls 23 = .ok (.iconst 0, 1) := by decide +kernel
theorem dX12_falls_24 : decode cX12_falls 24 = .ok (.putfield 202, 3) := by decide +kernel
theorem dX12_falls_27 : decode cX12_falls 27 = .ok (.aload_n 0, 1) := by decide +kernel
theorem dX12_falls_28 : decode cX12_falls 28 = .ok (.invokevirtual 135, 3) := by decide +kernel
theorem dX12_falls_31 : decode cX12_falls 31 = .ok (.aload_n 0, 1) := by decide +kernel
theorem dX12_falls_32 : decode cX12_falls 32 = .ok (.invokevirtual 177, 3) := by decide +kernel
theorem dX12_falls_35 : decode cX12_falls 35 = .ok (.aload_n 0, 1) := by decide +kernel
theorem dX12_falls_36 : decode cX12_falls 36 = .ok (.getfield 148, 3) := by decide +kernel
theorem dX12_falls_39 : decode cX12_falls 39 = .ok (.ifCond .eq 39, 3) := by decide +kernel
theorem dX12_falls_42 : decode cX12_falls 42 = .ok (.aload_n 0, 1) := by decide +kernel
theorem dX12_falls_43 : decode cX12_falls 43 = .ok (.invokevirtual 239, 3) := by decide +kernel
theorem dX12_falls_46 : decode cX12_falls 46 = .ok (.ifCond .eq 12, 3) := by decide +kernel
theorem dX12_falls_49 : decode cX12_falls 49 = .ok (.aload_n 0, 1) := by decide +kernel
theorem dX12_falls_50 : decode cX12_falls 50 = .ok (.bipush 59, 2) := by decide +kernel
theorem dX12_falls_52 : decode cX12_falls 52 = .ok (.invokevirtual 242, 3) := by decide +kernel
theorem dX12_falls_55 : decode cX12_falls 55 = .ok (.ifCond .ne 10, 3) := by decide +kernel
theorem dX12_falls_58 : decode cX12_falls 58 = .ok (.iconst (-1), 1) := by decide +kernel
theorem dX12_falls_59 : decode cX12_falls 59 = .ok (.aload_n 0, 1) := by decide +kernel
theorem dX12_falls_60 : decode cX12_falls 60 = .ok (.getfield 168, 3) := by decide +kernel
theorem dX12_falls_63 : decode cX12_falls 63 = .ok (.isub, 1) := by decide +kernel
theorem dX12_falls_64 : decode cX12_falls 64 = .ok (.ireturn, 1) := by decide +kernel
theorem dX12_falls_65 : decode cX12_falls 65 = .ok (.aload_n 0, 1) := by decide +kernel
theorem dX12_falls_66 : decode cX12_falls 66 = .ok (.dup, 1) := by decide +kernel
theorem dX12_falls_67 : decode cX12_falls 67 = .ok (.getfield 236, 3) := by decide +kernel
theorem dX12_falls_70 : decode cX12_falls 70 = .ok (.iconst 1, 1) := by decide +kernel
theorem dX12_falls_71 : decode cX12_falls 71 = .ok (.iadd, 1) := by decide +kernel
theorem dX12_falls_72 : decode cX12_falls 72 = .ok (.putfield 236, 3) := by decide +kernel
theorem dX12_falls_75 : decode cX12_falls 75 = .ok (.goto (-40), 3) := by decide +kernel
theorem dX12_falls_78 : decode cX12_falls 78 = .ok (.iconst 0, 1) := by decide +kernel
theorem dX12_falls_79 : decode cX12_falls 79 = .ok (.istore_n 1, 1) := by decide +kernel
theorem dX12_falls_80 : decode cX12_falls 80 = .ok (.iload_n 1, 1) := by decide +kernel
theorem dX12_falls_81 : decode cX12_falls 81 = .ok (.sipush 270, 3) := by decide +kernel
theorem dX12_falls_84 : decode cX12_falls 84 = .ok (.if_icmp .ge 31, 3) := by decide +kernel
theorem dX12_falls_87 : decode cX12_falls 87 = .ok (.aload_n 0, 1) := by decide +kernel
theorem dX12_falls_88 : decode cX12_falls 88 = .ok (.getfield 33, 3) := by decide +kernel
theorem dX12_falls_91 : decode cX12_falls 91 = .ok (.iload_n 1, 1) := by decide +kernel
theorem dX12_falls_92 : decode cX12_falls 92 = .ok (.iload_n 1, 1) := by decide +kernel
theorem dX12_falls_93 : decode cX12_falls 93 = .ok (.bipush 80, 2) := by decide +kernel
theorem dX12_falls_95 : decode cX12_falls 95 = .ok (.if_icmp .ge 12, 3) := by decide +kernel
theorem dX12_falls_98 : decode cX12_falls 98 = .ok (.aload_n 0, 1) := by decide +kernel
theorem dX12_falls_99 : decode cX12_falls 99 = .ok (.getfield 37, 3) := by decide +kernel
theorem dX12_falls_102 : decode cX12_falls 102 = .ok (.iload_n 1, 1) := by decide +kernel
theorem dX12_falls_103 : decode cX12_falls 103 = .ok (.iaload, 1) := by decide +kernel
theorem dX12_falls_104 : decode cX12_falls 104 = .ok (.goto 4, 3) := by decide +kernel
theorem dX12_falls_107 : decode cX12_falls 107 = .ok (.iconst 0, 1) := by decide +kernel
theorem dX12_falls_108 : decode cX12_falls 108 = .ok (.iastore, 1) := by decide +kernel
theorem dX12_falls_109 : decode cX12_falls 109 = .ok (.iinc 1 1, 3) := by decide +kernel
theorem dX12_falls_112 : decode cX12_falls 112 = .ok (.goto (-32), 3) := by decide +kernel
theorem dX12_falls_115 : decode cX12_falls 115 = .ok (.iconst 0, 1) := by decide +kernel
theorem dX12_falls_116 : decode cX12_falls 116 = .ok (.istore_n 1, 1) := by decide +kernel
theorem dX12_falls_117 : decode cX12_falls 117 = .ok (.iload_n 1, 1) := by decide +kernel
theorem dX12_falls_118 : decode cX12_falls 118 = .ok (.bipush 15, 2) := by decide +kernel
theorem dX12_falls_120 : decode cX12_falls 120 = .ok (.if_icmp .ge 24, 3) := by decide +kernel
theorem dX12_falls_123 : decode cX12_falls 123 = .ok (.aload_n 0, 1) := by decide +kernel
theorem dX12_falls_124 : decode cX12_falls 124 = .ok (.getfield 43, 3) := by decide +kernel
theorem dX12_falls_127 : decode cX12_falls 127 = .ok (.iload_n 1, 1) := by decide +kernel
theorem dX12_falls_128 : decode cX12_falls 128 = .ok (.aload_n 0, 1) := by decide +kernel
theorem dX12_falls_129 : decode cX12_falls 129 = .ok (.getfield 43, 3) := by decide +kernel
theorem dX12_falls_132 : decode cX12_falls 132 = .ok (.bipush 15, 2) := by decide +kernel
theorem dX12_falls_134 : decode cX12_falls 134 = .ok (.iload_n 1, 1) := by decide +kernel
theorem dX12_falls_135 : decode cX12_falls 135 = .ok (.iadd, 1) := by decide +kernel
theorem dX12_falls_136 : decode cX12_falls 136 = .ok (.laload, 1) := by decide +kernel
theorem dX12_falls_137 : decode cX12_falls 137 = .ok (.lastore, 1) := by decide +kernel
theorem dX12_falls_138 : decode cX12_falls 138 = .ok (.iinc 1 1, 3) := by decide +kernel
theorem dX12_falls_141 : decode cX12_falls 141 = .ok (.goto (-24), 3) := by decide +kernel
theorem dX12_falls_144 : decode cX12_falls 144 = .ok (.aload_n 0, 1) := by decide +kernel
theorem dX12_falls_145 : decode cX12_falls 145 = .ok (.getfield 33, 3) := by decide +kernel
theorem dX12_falls_148 : decode cX12_falls 148 = .ok (.bipush 81, 2) := by decide +kernel
theorem dX12_falls_150 : decode cX12_falls 150 = .ok (.iconst 1, 1) := by decide +kernel
theorem dX12_falls_151 : decode cX12_falls 151 = .ok (.aload_n 0, 1) := by decide +kernel
theorem dX12_falls_152 : decode cX12_falls 152 = .ok (.getfield 33, 3) := by decide +kernel
theorem dX12_falls_155 : decode cX12_falls 155 = .ok (.iconst 1, 1) := by decide +kernel
theorem dX12_falls_156 : decode cX12_falls 156 = .ok (.iaload, 1) := by decide +kernel
theorem dX12_falls_157 : decode cX12_falls 157 = .ok (.ishl, 1) := by decide +kernel
theorem dX12_falls_158 : decode cX12_falls 158 = .ok (.iconst 1, 1) := by decide +kernel
theorem dX12_falls_159 : decode cX12_falls 159 = .ok (.isub, 1) := by decide +kernel
theorem dX12_falls_160 : decode cX12_falls 160 = .ok (.iastore, 1) := by decide +kernel
theorem dX12_falls_161 : decode cX12_falls 161 = .ok (.aload_n 0, 1) := by decide +kernel
theorem dX12_falls_162 : decode cX12_falls 162 = .ok (.getfield 33, 3) := by decide +kernel
theorem dX12_falls_165 : decode cX12_falls 165 = .ok (.bipush 82, 2) := by decide +kernel
theorem dX12_falls_167 : decode cX12_falls 167 = .ok (.iconst 1, 1) := by decide +kernel
theorem dX12_falls_168 : decode cX12_falls 168 = .ok (.aload_n 0, 1) := by decide +kernel
theorem dX12_falls_169 : decode cX12_falls 169 = .ok (.getfield 33, 3) := by decide +kernel
theorem dX12_falls_172 : decode cX12_falls 172 = .ok (.iconst 2, 1) := by decide +kernel
theorem dX12_falls_173 : decode cX12_falls 173 = .ok (.iaload, 1) := by decide +kernel
theorem dX12_falls_174 : decode cX12_falls 174 = .ok (.ishl, 1) := by decide +kernel
theorem dX12_falls_175 : decode cX12_falls 175 = .ok (.iconst 1, 1) := by decide +kernel
theorem dX12_falls_176 : decode cX12_falls 176 = .ok (.isub, 1) := by decide +kernel
theorem dX12_falls_177 : decode cX12_falls 177 = .ok (.iastore, 1) := by decide +kernel
theorem dX12_falls_178 : decode cX12_falls 178 = .ok (.aload_n 0, 1) := by decide +kernel
theorem dX12_falls_179 : decode cX12_falls 179 = .ok (.iconst 0, 1) := by decide +kernel
theorem dX12_falls_180 : decode cX12_falls 180 = .ok (.putfield 245, 3) := by decide +kernel
theorem dX12_falls_183 : decode cX12_falls 183 = .ok (.aload_n 0, 1) := by decide +kernel
theorem dX12_falls_184 : decode cX12_falls 184 = .ok (.getfield 236, 3) := by decide +kernel
theorem dX12_falls_187 : decode cX12_falls 187 = .ok (.ireturn, 1) := by decide +kernel
theorem dX12_fault_0 : decode cX12_fault 0 = .ok (.aload_n 0, 1) := by decide +kernel
theorem dX12_fault_1 : decode cX12_fault 1 = .ok (.iconst 0, 1) := by decide +kernel
theorem dX12_fault_2 : decode cX12_fault 2 = .ok (.putfield 1, 3) := by decide +kernel
theorem dX12_fault_5 : decode cX12_fault 5 = .ok (.aload_n 0, 1) := by decide +kernel
theorem dX12_fault_6 : decode cX12_fault 6 = .ok (.getfield 165, 3) := by decide +kernel
theorem dX12_fault_9 : decode cX12_fault 9 = .ok (.ireturn, 1) := by decide +kernel
theorem dX12_isPerson_0 : decode cX12_isPerson 0 = .ok (.iload_n 1, 1) := by decide +kernel
theorem dX12_isPerson_1 : decode cX12_isPerson 1 = .ok (.iconst 0, 1) := by decide +kernel
theorem dX12_isPerson_2 : decode cX12_isPerson 2 = .ok (.aload_n 0, 1) := by decide +kernel
theorem dX12_isPerson_3 : decode cX12_isPerson 3 = .ok (.getfield 33, 3) := by decide +kernel
theorem dX12_isPerson_6 : decode cX12_isPerson 6 = .ok (.iconst 0, 1) := by decide +kernel
theorem dX12_isPerson_7 : decode cX12_isPerson 7 = .ok (.iaload, 1) := by decide +kernel
theorem dX12_isPerson_8 : decode cX12_isPerson 8 = .ok (.iconst 1, 1) := by decide +kernel
theorem dX12_isPerson_9 : decode cX12_isPerson 9 = .ok (.isub, 1) := by decide +kernel
theorem dX12_isPerson_10 : decode cX12_isPerson 10 = .ok (.invokestatic 180, 3) := by decide +kernel
theorem dX12_isPerson_13 : decode cX12_isPerson 13 = .ok (.ireturn, 1) := by decide +kernel
theorem dX12_isItem_0 : decode cX12_isItem 0 = .ok (.iload_n 1, 1) := by decide +kernel
theorem dX12_isItem_1 : decode cX12_isItem 1 = .ok (.iconst 0, 1) := by decide +kernel
theorem dX12_isItem_2 : decode cX12_isItem 2 = .ok (.aload_n 0, 1) := by decide +kernel
theorem dX12_isItem_3 : decode cX12_isItem 3 = .ok (.getfield 33, 3) := by decide +kernel
theorem dX12_isItem_6 : decode cX12_isItem 6 = .ok (.iconst 1, 1) := by decide +kernel
theorem dX12_isItem_7 : decode cX12_isItem 7 = .ok (.iaload, 1) := by decide +kernel
theorem dX12_isItem_8 : decode cX12_isItem 8 = .ok (.iconst 1, 1) := by decide +kernel
theorem dX12_isItem_9 : decode cX12_isItem 9 = .ok (.isub, 1) := by decide +kernel
theorem dX12_isItem_10 : decode cX12_isItem 10 = .ok (.invokestatic 180, 3) := by decide +kernel
theorem dX12_isItem_13 : decode cX12_isItem 13 = .ok (.ireturn, 1) := by decide +kernel
theorem dX12_isJoin_0 : decode cX12_isJoin 0 = .ok (.iload_n 1, 1) := by decide +kernel
theorem dX12_isJoin_1 : decode cX12_isJoin 1 = .ok (.iconst 0, 1) := by decide +kernel
theorem dX12_isJoin_2 : decode cX12_isJoin 2 = .ok (.aload_n 0, 1) := by decide +kernel
theorem dX12_isJoin_3 : decode cX12_isJoin 3 = .ok (.getfield 33, 3) := by decide +kernel
theorem dX12_isJoin_6 : decode cX12_isJoin 6 = .ok (.iconst 2, 1) := by decide +kernel
theorem dX12_isJoin_7 : decode cX12_isJoin 7 = .ok (.iaload, 1) := by decide +kernel
theorem dX12_isJoin_8 : decode cX12_isJoin 8 = .ok (.iconst 1, 1) := by decide +kernel
theorem dX12_isJoin_9 : decode cX12_isJoin 9 = .ok (.isub, 1) := by decide +kernel
theorem dX12_isJoin_10 : decode cX12_isJoin 10 = .ok (.invokestatic 180, 3) := by decide +kernel
theorem dX12_isJoin_13 : decode cX12_isJoin 13 = .ok (.ireturn, 1) := by decide +kernel
theorem dX12_allOf_0 : decode cX12_allOf 0 = .ok (.iconst 0, 1) := by decide +kernel
theorem dX12_allOf_1 : decode cX12_allOf 1 = .ok (.istore_n 2, 1) := by decide +kernel
theorem dX12_allOf_2 : decode cX12_allOf 2 = .ok (.iconst 0, 1) := by decide +kernel
theorem dX12_allOf_3 : decode cX12_allOf 3 = .ok (.istore_n 3, 1) := by decide +kernel
theorem dX12_allOf_4 : decode cX12_allOf 4 = .ok (.iload_n 3, 1) := by decide +kernel
theorem dX12_allOf_5 : decode cX12_allOf 5 = .ok (.aload_n 0, 1) := by decide +kernel
theorem dX12_allOf_6 : decode cX12_allOf 6 = .ok (.getfield 33, 3) := by decide +kernel
theorem dX12_allOf_9 : decode cX12_allOf 9 = .ok (.iconst 1, 1) := by decide +kernel
theorem dX12_allOf_10 : decode cX12_allOf 10 = .ok (.iaload, 1) := by decide +kernel
theorem dX12_allOf_11 : decode cX12_allOf 11 = .ok (.if_icmp .ge 32, 3) := by decide +kernel
theorem dX12_allOf_14 : decode cX12_allOf 14 = .ok (.iload_n 2, 1) := by decide +kernel
theorem dX12_allOf_15 : decode cX12_allOf 15 = .ok (.aload_n 0, 1) := by decide +kernel
theorem dX12_allOf_16 : decode cX12_allOf 16 = .ok (.getfield 33, 3) := by decide +kernel
theorem dX12_allOf_19 : decode cX12_allOf 19 = .ok (.bipush 12, 2) := by decide +kernel
theorem dX12_allOf_21 : decode cX12_allOf 21 = .ok (.iload_n 3, 1) := by decide +kernel
theorem dX12_allOf_22 : decode cX12_allOf 22 = .ok (.iadd, 1) := by decide +kernel
theorem dX12_allOf_23 : decode cX12_allOf 23 = .ok (.iaload, 1) := by decide +kernel
theorem dX12_allOf_24 : decode cX12_allOf 24 = .ok (.iload_n 1, 1) := by decide +kernel
theorem dX12_allOf_25 : decode cX12_allOf 25 = .ok (.if_icmp .ne 9, 3) := by decide +kernel
theorem dX12_allOf_28 : decode cX12_allOf 28 = .ok (.iconst 1, 1) := by decide +kernel
theorem dX12_allOf_29 : decode cX12_allOf 29 = .ok (.iload_n 3, 1) := by decide +kernel
theorem dX12_allOf_30 : decode cX12_allOf 30 = .ok (.ishl, 1) := by decide +kernel
theorem dX12_allOf_31 : decode cX12_allOf 31 = .ok (.goto 4, 3) := by decide +kernel
theorem dX12_allOf_34 : decode cX12_allOf 34 = .ok (.iconst 0, 1) := by decide +kernel
theorem dX12_allOf_35 : decode cX12_allOf 35 = .ok (.ior, 1) := by decide +kernel
theorem dX12_allOf_36 : decode cX12_allOf 36 = .ok (.istore_n 2, 1) := by decide +kernel
theorem dX12_allOf_37 : decode cX12_allOf 37 = .ok (.iinc 3 1, 3) := by decide +kernel
theorem dX12_allOf_40 : decode cX12_allOf 40 = .ok (.goto (-36), 3) := by decide +kernel
theorem dX12_allOf_43 : decode cX12_allOf 43 = .ok (.iload_n 2, 1) := by decide +kernel
theorem dX12_allOf_44 : decode cX12_allOf 44 = .ok (.ireturn, 1) := by decide +kernel
theorem dX12_barrelOf_0 : decode cX12_barrelOf 0 = .ok (.aload_n 0, 1) := by decide +kernel
theorem dX12_barrelOf_1 : decode cX12_barrelOf 1 = .ok (.iload_n 1, 1) := by decide +kernel
theorem dX12_barrelOf_2 : decode cX12_barrelOf 2 = .ok (.invokevirtual 248, 3) := by decide +kernel
theorem dX12_barrelOf_5 : decode cX12_barrelOf 5 = .ok (.aload_n 0, 1) := by decide +kernel
theorem dX12_barrelOf_6 : decode cX12_barrelOf 6 = .ok (.getfield 33, 3) := by decide +kernel
theorem dX12_barrelOf_9 : decode cX12_barrelOf 9 = .ok (.bipush 81, 2) := by decide +kernel
theorem dX12_barrelOf_11 : decode cX12_barrelOf 11 = .ok (.iaload, 1) := by decide +kernel
theorem dX12_barrelOf_12 : decode cX12_barrelOf 12 = .ok (.iand, 1) := by decide +kernel
theorem dX12_barrelOf_13 : decode cX12_barrelOf 13 = .ok (.ireturn, 1) := by decide +kernel
theorem dX12_weighsIn_0 : decode cX12_weighsIn 0 = .ok (.iconst 0, 1) := by decide +kernel
theorem dX12_weighsIn_1 : decode cX12_weighsIn 1 = .ok (.istore_n 2, 1) := by decide +kernel
theorem dX12_weighsIn_2 : decode cX12_weighsIn 2 = .ok (.iconst 0, 1) := by decide +kernel
theorem dX12_weighsIn_3 : decode cX12_weighsIn 3 = .ok (.istore_n 3, 1) := by decide +kernel
theorem dX12_weighsIn_4 : decode cX12_weighsIn 4 = .ok (.iload_n 3, 1) := by decide +kernel
theorem dX12_weighsIn_5 : decode cX12_weighsIn 5 = .ok (.aload_n 0, 1) := by decide +kernel
theorem dX12_weighsIn_6 : decode cX12_weighsIn 6 = .ok (.getfield 33, 3) := by decide +kernel
theorem dX12_weighsIn_9 : decode cX12_weighsIn 9 = .ok (.iconst 1, 1) := by decide +kernel
theorem dX12_weighsIn_10 : decode cX12_weighsIn 10 = .ok (.iaload, 1) := by decide +kernel
theorem dX12_weighsIn_11 : decode cX12_weighsIn 11 = .ok (.if_icmp .ge 33, 3) := by decide +kernel
theorem dX12_weighsIn_14 : decode cX12_weighsIn 14 = .ok (.iload_n 2, 1) := by decide +kernel
theorem dX12_weighsIn_15 : decode cX12_weighsIn 15 = .ok (.iload_n 1, 1) := by decide +kernel
theorem dX12_weighsIn_16 : decode cX12_weighsIn 16 = .ok (.iload_n 3, 1) := by decide +kernel
theorem dX12_weighsIn_17 : decode cX12_weighsIn 17 = .ok (.invokestatic 205, 3) := by decide +kernel
theorem dX12_weighsIn_20 : decode cX12_weighsIn 20 = .ok (.ifCond .eq 15, 3) := by decide +kernel
theorem dX12_weighsIn_23 : decode cX12_weighsIn 23 = .ok (.aload_n 0, 1) := by decide +kernel
theorem dX12_weighsIn_24 : decode cX12_weighsIn 24 = .ok (.getfield 33, 3) := by decide +kernel
theorem dX12_weighsIn_27 : decode cX12_weighsIn 27 = .ok (.bipush 22, 2) := by decide +kernel
theorem dX12_weighsIn_29 : decode cX12_weighsIn 29 = .ok (.iload_n 3, 1) := by decide +kernel
theorem dX12_weighsIn_30 : decode cX12_weighsIn 30 = .ok (.iadd, 1) := by decide +kernel
theorem dX12_weighsIn_31 : decode cX12_weighsIn 31 = .ok (.iaload, 1) := by decide +kernel
theorem dX12_weighsIn_32 : decode cX12_weighsIn 32 = .ok (.goto 4, 3) := by decide +kernel
theorem dX12_weighsIn_35 : decode cX12_weighsIn 35 = .ok (.iconst 0, 1) := by decide +kernel
theorem dX12_weighsIn_36 : decode cX12_weighsIn 36 = .ok (.iadd, 1) := by decide +kernel
theorem dX12_weighsIn_37 : decode cX12_weighsIn 37 = .ok (.istore_n 2, 1) := by decide +kernel
theorem dX12_weighsIn_38 : decode cX12_weighsIn 38 = .ok (.iinc 3 1, 3) := by decide +kernel
theorem dX12_weighsIn_41 : decode cX12_weighsIn 41 = .ok (.goto (-37), 3) := by decide +kernel
theorem dX12_weighsIn_44 : decode cX12_weighsIn 44 = .ok (.iload_n 2, 1) := by decide +kernel
theorem dX12_weighsIn_45 : decode cX12_weighsIn 45 = .ok (.ireturn, 1) := by decide +kernel
theorem dX12_weightOf_0 : decode cX12_weightOf 0 = .ok (.aload_n 0, 1) := by decide +kernel
theorem dX12_weightOf_1 : decode cX12_weightOf 1 = .ok (.aload_n 0, 1) := by decide +kernel
theorem dX12_weightOf_2 : decode cX12_weightOf 2 = .ok (.iload_n 1, 1) := by decide +kernel
theorem dX12_weightOf_3 : decode cX12_weightOf 3 = .ok (.invokevirtual 252, 3) := by decide +kernel
theorem dX12_weightOf_6 : decode cX12_weightOf 6 = .ok (.invokevirtual 255, 3) := by decide +kernel
theorem dX12_weightOf_9 : decode cX12_weightOf 9 = .ok (.ireturn, 1) := by decide +kernel
theorem dX12_flowOn_0 : decode cX12_flowOn 0 = .ok (.aload_n 0, 1) := by decide +kernel
theorem dX12_flowOn_1 : decode cX12_flowOn 1 = .ok (.getfield 33, 3) := by decide +kernel
theorem dX12_flowOn_4 : decode cX12_flowOn 4 = .ok (.iconst 4, 1) := by decide +kernel
theorem dX12_flowOn_5 : decode cX12_flowOn 5 = .ok (.iaload, 1) := by decide +kernel
theorem dX12_flowOn_6 : decode cX12_flowOn 6 = .ok (.aload_n 0, 1) := by decide +kernel
theorem dX12_flowOn_7 : decode cX12_flowOn 7 = .ok (.getfield 33, 3) := by decide +kernel
theorem dX12_flowOn_10 : decode cX12_flowOn 10 = .ok (.iconst 5, 1) := by decide +kernel
theorem dX12_flowOn_11 : decode cX12_flowOn 11 = .ok (.iaload, 1) := by decide +kernel
theorem dX12_flowOn_12 : decode cX12_flowOn 12 = .ok (.ifCond .le 24, 3) := by decide +kernel
theorem dX12_flowOn_15 : decode cX12_flowOn 15 = .ok (.iload_n 1, 1) := by decide +kernel
theorem dX12_flowOn_16 : decode cX12_flowOn 16 = .ok (.aload_n 0, 1) := by decide +kernel
theorem dX12_flowOn_17 : decode cX12_flowOn 17 = .ok (.getfield 33, 3) := by decide +kernel
theorem dX12_flowOn_20 : decode cX12_flowOn 20 = .ok (.iconst 5, 1) := by decide +kernel
theorem dX12_flowOn_21 : decode cX12_flowOn 21 = .ok (.iaload, 1) := by decide +kernel
theorem dX12_flowOn_22 : decode cX12_flowOn 22 = .ok (.irem, 1) := by decide +kernel
theorem dX12_flowOn_23 : decode cX12_flowOn 23 = .ok (.ifCond .ne 13, 3) := by decide +kernel
theorem dX12_flowOn_26 : decode cX12_flowOn 26 = .ok (.aload_n 0, 1) := by decide +kernel
theorem dX12_flowOn_27 : decode cX12_flowOn 27 = .ok (.getfield 33, 3) := by decide +kernel
theorem dX12_flowOn_30 : decode cX12_flowOn 30 = .ok (.bipush 6, 2) := by decide +kernel
theorem dX12_flowOn_32 : decode cX12_flowOn 32 = .ok (.iaload, 1) := by decide +kernel
theorem dX12_flowOn_33 : decode cX12_flowOn 33 = .ok (.goto 4, 3) := by decide +kernel
theorem dX12_flowOn_36 : decode cX12_flowOn 36 = .ok (.iconst 0, 1) := by decide +kernel
theorem dX12_flowOn_37 : decode cX12_flowOn 37 = .ok (.iadd, 1) := by decide +kernel
theorem dX12_flowOn_38 : decode cX12_flowOn 38 = .ok (.ireturn, 1) := by decide +kernel
theorem dX12_flowNow_0 : decode cX12_flowNow 0 = .ok (.aload_n 0, 1) := by decide +kernel
theorem dX12_flowNow_1 : decode cX12_flowNow 1 = .ok (.aload_n 0, 1) := by decide +kernel
theorem dX12_flowNow_2 : decode cX12_flowNow 2 = .ok (.getfield 33, 3) := by decide +kernel
theorem dX12_flowNow_5 : decode cX12_flowNow 5 = .ok (.bipush 80, 2) := by decide +kernel
theorem dX12_flowNow_7 : decode cX12_flowNow 7 = .ok (.iaload, 1) := by decide +kernel
theorem dX12_flowNow_8 : decode cX12_flowNow 8 = .ok (.invokevirtual 258, 3) := by decide +kernel
theorem dX12_flowNow_11 : decode cX12_flowNow 11 = .ok (.ireturn, 1) := by decide +kernel
theorem dX12_heldWith_0 : decode cX12_heldWith 0 = .ok (.iconst 1, 1) := by decide +kernel
theorem dX12_heldWith_1 : decode cX12_heldWith 1 = .ok (.iload_n 1, 1) := by decide +kernel
theorem dX12_heldWith_2 : decode cX12_heldWith 2 = .ok (.ishl, 1) := by decide +kernel
theorem dX12_heldWith_3 : decode cX12_heldWith 3 = .ok (.istore 4, 2) := by decide +kernel
theorem dX12_heldWith_5 : decode cX12_heldWith 5 = .ok (.iconst 1, 1) := by decide +kernel
theorem dX12_heldWith_6 : decode cX12_heldWith 6 = .ok (.istore 5, 2) := by decide +kernel
theorem dX12_heldWith_8 : decode cX12_heldWith 8 = .ok (.iload 5, 2) := by decide +kernel
theorem dX12_heldWith_10 : decode cX12_heldWith 10 = .ok (.ifCond .eq 110, 3) := by decide +kernel
theorem dX12_heldWith_13 : decode cX12_heldWith 13 = .ok (.iconst 0, 1) := by decide +kernel
theorem dX12_heldWith_14 : decode cX12_heldWith 14 = .ok (.istore 5, 2) := by decide +kernel
theorem dX12_heldWith_16 : decode cX12_heldWith 16 = .ok (.iconst 0, 1) := by decide +kernel
theorem dX12_heldWith_17 : decode cX12_heldWith 17 = .ok (.istore 6, 2) := by decide +kernel
theorem dX12_heldWith_19 : decode cX12_heldWith 19 = .ok (.iload 6, 2) := by decide +kernel
theorem dX12_heldWith_21 : decode cX12_heldWith 21 = .ok (.aload_n 0, 1) := by decide +kernel
theorem dX12_heldWith_22 : decode cX12_heldWith 22 = .ok (.getfield 33, 3) := by decide +kernel
theorem dX12_heldWith_25 : decode cX12_heldWith 25 = .ok (.iconst 2, 1) := by decide +kernel
theorem dX12_heldWith_26 : decode cX12_heldWith 26 = .ok (.iaload, 1) := by decide +kernel
theorem dX12_heldWith_27 : decode cX12_heldWith 27 = .ok (.if_icmp .ge 90, 3) := by decide +kernel
theorem dX12_heldWith_30 : decode cX12_heldWith 30 = .ok (.iload_n 3, 1) := by decide +kernel
theorem dX12_heldWith_31 : decode cX12_heldWith 31 = .ok (.iload 6, 2) := by decide +kernel
theorem dX12_heldWith_33 : decode cX12_heldWith 33 = .ok (.invokestatic 205, 3) := by decide +kernel
theorem dX12_heldWith_36 : decode cX12_heldWith 36 = .ok (.ifCond .ne 6, 3) := by decide +kernel
theorem dX12_heldWith_39 : decode cX12_heldWith 39 = .ok (.goto 72, 3) := by decide +kernel
theorem dX12_heldWith_42 : decode cX12_heldWith 42 = .ok (.iconst 1, 1) := by decide +kernel
theorem dX12_heldWith_43 : decode cX12_heldWith 43 = .ok (.aload_n 0, 1) := by decide +kernel
theorem dX12_heldWith_44 : decode cX12_heldWith 44 = .ok (.getfield 33, 3) := by decide +kernel
theorem dX12_heldWith_47 : decode cX12_heldWith 47 = .ok (.bipush 32, 2) := by decide +kernel
theorem dX12_heldWith_49 : decode cX12_heldWith 49 = .ok (.iload 6, 2) := by decide +kernel
theorem dX12_heldWith_51 : decode cX12_heldWith 51 = .ok (.iadd, 1) := by decide +kernel
theorem dX12_heldWith_52 : decode cX12_heldWith 52 = .ok (.iaload, 1) := by decide +kernel
theorem dX12_heldWith_53 : decode cX12_heldWith 53 = .ok (.ishl, 1) := by decide +kernel
theorem dX12_heldWith_54 : decode cX12_heldWith 54 = .ok (.iconst 1, 1) := by decide +kernel
theorem dX12_heldWith_55 : decode cX12_heldWith 55 = .ok (.aload_n 0, 1) := by decide +kernel
theorem dX12_heldWith_56 : decode cX12_heldWith 56 = .ok (.getfield 33, 3) := by decide +kernel
theorem dX12_heldWith_59 : decode cX12_heldWith 59 = .ok (.bipush 48, 2) := by decide +kernel
theorem dX12_heldWith_61 : decode cX12_heldWith 61 = .ok (.iload 6, 2) := by decide +kernel
theorem dX12_heldWith_63 : decode cX12_heldWith 63 = .ok (.iadd, 1) := by decide +kernel
theorem dX12_heldWith_64 : decode cX12_heldWith 64 = .ok (.iaload, 1) := by decide +kernel
theorem dX12_heldWith_65 : decode cX12_heldWith 65 = .ok (.ishl, 1) := by decide +kernel
theorem dX12_heldWith_66 : decode cX12_heldWith 66 = .ok (.ior, 1) := by decide +kernel
theorem dX12_heldWith_67 : decode cX12_heldWith 67 = .ok (.iload_n 2, 1) := by decide +kernel
theorem dX12_heldWith_68 : decode cX12_heldWith 68 = .ok (.iand, 1) := by decide +kernel
theorem dX12_heldWith_69 : decode cX12_heldWith 69 = .ok (.istore 7, 2) := by decide +kernel
theorem dX12_heldWith_71 : decode cX12_heldWith 71 = .ok (.iload 7, 2) := by decide +kernel
theorem dX12_heldWith_73 : decode cX12_heldWith 73 = .ok (.invokestatic 261, 3) := by decide +kernel
theorem dX12_heldWith_76 : decode cX12_heldWith 76 = .ok (.iconst 2, 1) := by decide +kernel
theorem dX12_heldWith_77 : decode cX12_heldWith 77 = .ok (.if_icmp .lt 34, 3) := by decide +kernel
theorem dX12_heldWith_80 : decode cX12_heldWith 80 = .ok (.iload 7, 2) := by decide +kernel
theorem dX12_heldWith_82 : decode cX12_heldWith 82 = .ok (.iload 4, 2) := by decide +kernel
theorem dX12_heldWith_84 : decode cX12_heldWith 84 = .ok (.iand, 1) := by decide +kernel
theorem dX12_heldWith_85 : decode cX12_heldWith 85 = .ok (.ifCond .eq 26, 3) := by decide +kernel
theorem dX12_heldWith_88 : decode cX12_heldWith 88 = .ok (.iload 7, 2) := by decide +kernel
theorem dX12_heldWith_90 : decode cX12_heldWith 90 = .ok (.iload 4, 2) := by decide +kernel
theorem dX12_heldWith_92 : decode cX12_heldWith 92 = .ok (.iconst (-1), 1) := by decide +kernel
theorem dX12_heldWith_93 : decode cX12_heldWith 93 = .ok (.ixor, 1) := by decide +kernel
theorem dX12_heldWith_94 : decode cX12_heldWith 94 = .ok (.iand, 1) := by decide +kernel
theorem dX12_heldWith_95 : decode cX12_heldWith 95 = .ok (.ifCond .ne 6, 3) := by decide +kernel
theorem dX12_heldWith_98 : decode cX12_heldWith 98 = .ok (.goto 13, 3) := by decide +kernel
theorem dX12_heldWith_101 : decode cX12_heldWith 101 = .ok (.iload 4, 2) := by decide +kernel
theorem dX12_heldWith_103 : decode cX12_heldWith 103 = .ok (.iload 7, 2) := by decide +kernel
theorem dX12_heldWith_105 : decode cX12_heldWith 105 = .ok (.ior, 1) := by decide +kernel
theorem dX12_heldWith_106 : decode cX12_heldWith 106 = .ok (.istore 4, 2) := by decide +kernel
theorem dX12_heldWith_108 : decode cX12_heldWith 108 = .ok (.iconst 1, 1) := by decide +kernel
theorem dX12_heldWith_109 : decode cX12_heldWith 109 = .ok (.istore 5, 2) := by decide +kernel
theorem dX12_heldWith_111 : decode cX12_heldWith 111 = .ok (.iinc 6 1, 3) := by decide +kernel
theorem dX12_heldWith_114 : decode cX12_heldWith 114 = .ok (.goto (-95), 3) := by decide +kernel
theorem dX12_heldWith_117 : decode cX12_heldWith 117 = .ok (.goto (-109), 3) := by decide +kernel
theorem dX12_heldWith_120 : decode cX12_heldWith 120 = .ok (.iload 4, 2) := by decide +kernel
theorem dX12_heldWith_122 : decode cX12_heldWith 122 = .ok (.ireturn, 1) := by decide +kernel
theorem dX12_partsOf_0 : decode cX12_partsOf 0 = .ok (.iconst 0, 1) := by decide +kernel
theorem dX12_partsOf_1 : decode cX12_partsOf 1 = .ok (.istore_n 3, 1) := by decide +kernel
theorem dX12_partsOf_2 : decode cX12_partsOf 2 = .ok (.iload_n 1, 1) := by decide +kernel
theorem dX12_partsOf_3 : decode cX12_partsOf 3 = .ok (.istore 4, 2) := by decide +kernel
theorem dX12_partsOf_5 : decode cX12_partsOf 5 = .ok (.iconst 0, 1) := by decide +kernel
theorem dX12_partsOf_6 : decode cX12_partsOf 6 = .ok (.istore 5, 2) := by decide +kernel
theorem dX12_partsOf_8 : decode cX12_partsOf 8 = .ok (.iload 5, 2) := by decide +kernel
theorem dX12_partsOf_10 : decode cX12_partsOf 10 = .ok (.aload_n 0, 1) := by decide +kernel
theorem dX12_partsOf_11 : decode cX12_partsOf 11 = .ok (.getfield 33, 3) := by decide +kernel
theorem dX12_partsOf_14 : decode cX12_partsOf 14 = .ok (.iconst 1, 1) := by decide +kernel
theorem dX12_partsOf_15 : decode cX12_partsOf 15 = .ok (.iaload, 1) := by decide +kernel
theorem dX12_partsOf_16 : decode cX12_partsOf 16 = .ok (.if_icmp .ge 40, 3) := by decide +kernel
theorem dX12_partsOf_19 : decode cX12_partsOf 19 = .ok (.iload 4, 2) := by decide +kernel
theorem dX12_partsOf_21 : decode cX12_partsOf 21 = .ok (.iload 5, 2) := by decide +kernel
theorem dX12_partsOf_23 : decode cX12_partsOf 23 = .ok (.invokestatic 205, 3) := by decide +kernel
theorem dX12_partsOf_26 : decode cX12_partsOf 26 = .ok (.ifCond .ne 6, 3) := by decide +kernel
theorem dX12_partsOf_29 : decode cX12_partsOf 29 = .ok (.goto 21, 3) := by decide +kernel
theorem dX12_partsOf_32 : decode cX12_partsOf 32 = .ok (.iload 4, 2) := by decide +kernel
theorem dX12_partsOf_34 : decode cX12_partsOf 34 = .ok (.aload_n 0, 1) := by decide +kernel
theorem dX12_partsOf_35 : decode cX12_partsOf 35 = .ok (.iload 5, 2) := by decide +kernel
theorem dX12_partsOf_37 : decode cX12_partsOf 37 = .ok (.iload_n 1, 1) := by decide +kernel
theorem dX12_partsOf_38 : decode cX12_partsOf 38 = .ok (.iload_n 2, 1) := by decide +kernel
theorem dX12_partsOf_39 : decode cX12_partsOf 39 = .ok (.invokevirtual 264, 3) := by decide +kernel
theorem dX12_partsOf_42 : decode cX12_partsOf 42 = .ok (.iconst (-1), 1) := by decide +kernel
theorem dX12_partsOf_43 : decode cX12_partsOf 43 = .ok (.ixor, 1) := by decide +kernel
theorem dX12_partsOf_44 : decode cX12_partsOf 44 = .ok (.iand, 1) := by decide +kernel
theorem dX12_partsOf_45 : decode cX12_partsOf 45 = .ok (.istore 4, 2) := by decide +kernel
theorem dX12_partsOf_47 : decode cX12_partsOf 47 = .ok (.iinc 3 1, 3) := by decide +kernel
theorem dX12_partsOf_50 : decode cX12_partsOf 50 = .ok (.iinc 5 1, 3) := by decide +kernel
theorem dX12_partsOf_53 : decode cX12_partsOf 53 = .ok (.goto (-45), 3) := by decide +kernel
theorem dX12_partsOf_56 : decode cX12_partsOf 56 = .ok (.iload_n 3, 1) := by decide +kernel
theorem dX12_partsOf_57 : decode cX12_partsOf 57 = .ok (.ireturn, 1) := by decide +kernel
theorem dX12_joinsFrom_0 : decode cX12_joinsFrom 0 = .ok (.iconst 0, 1) := by decide +kernel
theorem dX12_joinsFrom_1 : decode cX12_joinsFrom 1 = .ok (.istore_n 2, 1) := by decide +kernel
theorem dX12_joinsFrom_2 : decode cX12_joinsFrom 2 = .ok (.iconst 0, 1) := by decide +kernel
theorem dX12_joinsFrom_3 : decode cX12_joinsFrom 3 = .ok (.istore_n 3, 1) := by decide +kernel
theorem dX12_joinsFrom_4 : decode cX12_joinsFrom 4 = .ok (.iload_n 3, 1) := by decide +kernel
theorem dX12_joinsFrom_5 : decode cX12_joinsFrom 5 = .ok (.aload_n 0, 1) := by decide +kernel
theorem dX12_joinsFrom_6 : decode cX12_joinsFrom 6 = .ok (.getfield 33, 3) := by decide +kernel
theorem dX12_joinsFrom_9 : decode cX12_joinsFrom 9 = .ok (.iconst 2, 1) := by decide +kernel
theorem dX12_joinsFrom_10 : decode cX12_joinsFrom 10 = .ok (.iaload, 1) := by decide +kernel
theorem dX12_joinsFrom_11 : decode cX12_joinsFrom 11 = .ok (.if_icmp .ge 46, 3) := by decide +kernel
theorem dX12_joinsFrom_14 : decode cX12_joinsFrom 14 = .ok (.iload_n 2, 1) := by decide +kernel
theorem dX12_joinsFrom_15 : decode cX12_joinsFrom 15 = .ok (.aload_n 0, 1) := by decide +kernel
theorem dX12_joinsFrom_16 : decode cX12_joinsFrom 16 = .ok (.getfield 33, 3) := by decide +kernel
theorem dX12_joinsFrom_19 : decode cX12_joinsFrom 19 = .ok (.bipush 82, 2) := by decide +kernel
theorem dX12_joinsFrom_21 : decode cX12_joinsFrom 21 = .ok (.iaload, 1) := by decide +kernel
theorem dX12_joinsFrom_22 : decode cX12_joinsFrom 22 = .ok (.iload_n 3, 1) := by decide +kernel
theorem dX12_joinsFrom_23 : decode cX12_joinsFrom 23 = .ok (.invokestatic 205, 3) := by decide +kernel
theorem dX12_joinsFrom_26 : decode cX12_joinsFrom 26 = .ok (.ifCond .eq 22, 3) := by decide +kernel
theorem dX12_joinsFrom_29 : decode cX12_joinsFrom 29 = .ok (.aload_n 0, 1) := by decide +kernel
theorem dX12_joinsFrom_30 : decode cX12_joinsFrom 30 = .ok (.getfield 33, 3) := by decide +kernel
theorem dX12_joinsFrom_33 : decode cX12_joinsFrom 33 = .ok (.bipush 64, 2) := by decide +kernel
theorem dX12_joinsFrom_35 : decode cX12_joinsFrom 35 = .ok (.iload_n 3, 1) := by decide +kernel
theorem dX12_joinsFrom_36 : decode cX12_joinsFrom 36 = .ok (.iadd, 1) := by decide +kernel
theorem dX12_joinsFrom_37 : decode cX12_joinsFrom 37 = .ok (.iaload, 1) := by decide +kernel
theorem dX12_joinsFrom_38 : decode cX12_joinsFrom 38 = .ok (.iload_n 1, 1) := by decide +kernel
theorem dX12_joinsFrom_39 : decode cX12_joinsFrom 39 = .ok (.if_icmp .lt 9, 3) := by decide +kernel
theorem dX12_joinsFrom_42 : decode cX12_joinsFrom 42 = .ok (.iconst 1, 1) := by decide +kernel
theorem dX12_joinsFrom_43 : decode cX12_joinsFrom 43 = .ok (.iload_n 3, 1) := by decide +kernel
theorem dX12_joinsFrom_44 : decode cX12_joinsFrom 44 = .ok (.ishl, 1) := by decide +kernel
theorem dX12_joinsFrom_45 : decode cX12_joinsFrom 45 = .ok (.goto 4, 3) := by decide +kernel
theorem dX12_joinsFrom_48 : decode cX12_joinsFrom 48 = .ok (.iconst 0, 1) := by decide +kernel
theorem dX12_joinsFrom_49 : decode cX12_joinsFrom 49 = .ok (.ior, 1) := by decide +kernel
theorem dX12_joinsFrom_50 : decode cX12_joinsFrom 50 = .ok (.istore_n 2, 1) := by decide +kernel
theorem dX12_joinsFrom_51 : decode cX12_joinsFrom 51 = .ok (.iinc 3 1, 3) := by decide +kernel
theorem dX12_joinsFrom_54 : decode cX12_joinsFrom 54 = .ok (.goto (-50), 3) := by decide +kernel
theorem dX12_joinsFrom_57 : decode cX12_joinsFrom 57 = .ok (.iload_n 2, 1) := by decide +kernel
theorem dX12_joinsFrom_58 : decode cX12_joinsFrom 58 = .ok (.ireturn, 1) := by decide +kernel
theorem dX12_isDown_0 : decode cX12_isDown 0 = .ok (.aload_n 0, 1) := by decide +kernel
theorem dX12_isDown_1 : decode cX12_isDown 1 = .ok (.getfield 33, 3) := by decide +kernel
theorem dX12_isDown_4 : decode cX12_isDown 4 = .ok (.bipush 84, 2) := by decide +kernel
theorem dX12_isDown_6 : decode cX12_isDown 6 = .ok (.iload_n 1, 1) := by decide +kernel
theorem dX12_isDown_7 : decode cX12_isDown 7 = .ok (.iadd, 1) := by decide +kernel
theorem dX12_isDown_8 : decode cX12_isDown 8 = .ok (.iaload, 1) := by decide +kernel
theorem dX12_isDown_9 : decode cX12_isDown 9 = .ok (.iconst 2, 1) := by decide +kernel
theorem dX12_isDown_10 : decode cX12_isDown 10 = .ok (.if_icmp .lt 7, 3) := by decide +kernel
theorem dX12_isDown_13 : decode cX12_isDown 13 = .ok (.iconst 1, 1) := by decide +kernel
theorem dX12_isDown_14 : decode cX12_isDown 14 = .ok (.goto 4, 3) := by decide +kernel
theorem dX12_isDown_17 : decode cX12_isDown 17 = .ok (.iconst 0, 1) := by decide +kernel
theorem dX12_isDown_18 : decode cX12_isDown 18 = .ok (.ireturn, 1) := by decide +kernel
theorem dX12_fateJoins_0 : decode cX12_fateJoins 0 = .ok (.aload_n 0, 1) := by decide +kernel
theorem dX12_fateJoins_1 : decode cX12_fateJoins 1 = .ok (.iload_n 1, 1) := by decide +kernel
theorem dX12_fateJoins_2 : decode cX12_fateJoins 2 = .ok (.invokevirtual 268, 3) := by decide +kernel
theorem dX12_fateJoins_5 : decode cX12_fateJoins 5 = .ok (.ifCond .eq 13, 3) := by decide +kernel
theorem dX12_fateJoins_8 : decode cX12_fateJoins 8 = .ok (.aload_n 0, 1) := by decide +kernel
theorem dX12_fateJoins_9 : decode cX12_fateJoins 9 = .ok (.getfield 33, 3) := by decide +kernel
theorem dX12_fateJoins_12 : decode cX12_fateJoins 12 = .ok (.bipush 82, 2) := by decide +kernel
theorem dX12_fateJoins_14 : decode cX12_fateJoins 14 = .ok (.iaload, 1) := by decide +kernel
theorem dX12_fateJoins_15 : decode cX12_fateJoins 15 = .ok (.goto 23, 3) := by decide +kernel
theorem dX12_fateJoins_18 : decode cX12_fateJoins 18 = .ok (.aload_n 0, 1) := by decide +kernel
theorem dX12_fateJoins_19 : decode cX12_fateJoins 19 = .ok (.aload_n 0, 1) := by decide +kernel
theorem dX12_fateJoins_20 : decode cX12_fateJoins 20 = .ok (.getfield 33, 3) := by decide +kernel
theorem dX12_fateJoins_23 : decode cX12_fateJoins 23 = .ok (.iconst 3, 1) := by decide +kernel
theorem dX12_fateJoins_24 : decode cX12_fateJoins 24 = .ok (.iaload, 1) := by decide +kernel
theorem dX12_fateJoins_25 : decode cX12_fateJoins 25 = .ok (.aload_n 0, 1) := by decide +kernel
theorem dX12_fateJoins_26 : decode cX12_fateJoins 26 = .ok (.getfield 33, 3) := by decide +kernel
theorem dX12_fateJoins_29 : decode cX12_fateJoins 29 = .ok (.bipush 7, 2) := by decide +kernel
theorem dX12_fateJoins_31 : decode cX12_fateJoins 31 = .ok (.iload_n 1, 1) := by decide +kernel
theorem dX12_fateJoins_32 : decode cX12_fateJoins 32 = .ok (.iadd, 1) := by decide +kernel
theorem dX12_fateJoins_33 : decode cX12_fateJoins 33 = .ok (.iaload, 1) := by decide +kernel
theorem dX12_fateJoins_34 : decode cX12_fateJoins 34 = .ok (.isub, 1) := by decide +kernel
theorem dX12_fateJoins_35 : decode cX12_fateJoins 35 = .ok (.invokevirtual 271, 3) := by decide +kernel
theorem dX12_fateJoins_38 : decode cX12_fateJoins 38 = .ok (.ireturn, 1) := by decide +kernel
theorem dX12_partsNow_0 : decode cX12_partsNow 0 = .ok (.aload_n 0, 1) := by decide +kernel
theorem dX12_partsNow_1 : decode cX12_partsNow 1 = .ok (.aload_n 0, 1) := by decide +kernel
theorem dX12_partsNow_2 : decode cX12_partsNow 2 = .ok (.iload_n 1, 1) := by decide +kernel
theorem dX12_partsNow_3 : decode cX12_partsNow 3 = .ok (.invokevirtual 252, 3) := by decide +kernel
theorem dX12_partsNow_6 : decode cX12_partsNow 6 = .ok (.aload_n 0, 1) := by decide +kernel
theorem dX12_partsNow_7 : decode cX12_partsNow 7 = .ok (.getfield 33, 3) := by decide +kernel
theorem dX12_partsNow_10 : decode cX12_partsNow 10 = .ok (.bipush 82, 2) := by decide +kernel
theorem dX12_partsNow_12 : decode cX12_partsNow 12 = .ok (.iaload, 1) := by decide +kernel
theorem dX12_partsNow_13 : decode cX12_partsNow 13 = .ok (.invokevirtual 274, 3) := by decide +kernel
theorem dX12_partsNow_16 : decode cX12_partsNow 16 = .ok (.ireturn, 1) := by decide +kernel
