-- 05.dec6
theorem dX6_init_0 : decode cX6_init 0 = .ok (.aload_n 0, 1) := by decide +kernel
theorem dX6_init_1 : decode cX6_init 1 = .ok (.invokespecial 3, 3) := by decide +kernel
theorem dX6_init_4 : decode cX6_init 4 = .ok (.aload_n 0, 1) := by decide +kernel
theorem dX6_init_5 : decode cX6_init 5 = .ok (.new 9, 3) := by decide +kernel
theorem dX6_init_8 : decode cX6_init 8 = .ok (.dup, 1) := by decide +kernel
theorem dX6_init_9 : decode cX6_init 9 = .ok (.invokespecial 11, 3) := by decide +kernel
theorem dX6_init_12 : decode cX6_init 12 = .ok (.putfield 12, 3) := by decide +kernel
theorem dX6_init_15 : decode cX6_init 15 = .ok (.aload_n 0, 1) := by decide +kernel
theorem dX6_init_16 : decode cX6_init 16 = .ok (.new 9, 3) := by decide +kernel
theorem dX6_init_19 : decode cX6_init 19 = .ok (.dup, 1) := by decide +kernel
theorem dX6_init_20 : decode cX6_init 20 = .ok (.invokespecial 11, 3) := by decide +kernel
theorem dX6_init_23 : decode cX6_init 23 = .ok (.putfield 16, 3) := by decide +kernel
theorem dX6_init_26 : decode cX6_init 26 = .ok (.aload_n 0, 1) := by decide +kernel
theorem dX6_init_27 : decode cX6_init 27 = .ok (.iconst 4, 1) := by decide +kernel
theorem dX6_init_28 : decode cX6_init 28 = .ok (.anewarray 19, 3) := by decide +kernel
theorem dX6_init_31 : decode cX6_init 31 = .ok (.putfield 21, 3) := by decide +kernel
theorem dX6_init_34 : decode cX6_init 34 = .ok (.aload_n 0, 1) := by decide +kernel
theorem dX6_init_35 : decode cX6_init 35 = .ok (.sipush 300, 3) := by decide +kernel
theorem dX6_init_38 : decode cX6_init 38 = .ok (.newarray .char, 2) := by decide +kernel
theorem dX6_init_40 : decode cX6_init 40 = .ok (.putfield 25, 3) := by decide +kernel
theorem dX6_init_43 : decode cX6_init 43 = .ok (.aload_n 0, 1) := by decide +kernel
theorem dX6_init_44 : decode cX6_init 44 = .ok (.new 29, 3) := by decide +kernel
theorem dX6_init_47 : decode cX6_init 47 = .ok (.dup, 1) := by decide +kernel
theorem dX6_init_48 : decode cX6_init 48 = .ok (.invokespecial 31, 3) := by decide +kernel
theorem dX6_init_51 : decode cX6_init 51 = .ok (.putfield 32, 3) := by decide +kernel
theorem dX6_init_54 : decode cX6_init 54 = .ok (.aload_n 0, 1) := by decide +kernel
theorem dX6_init_55 : decode cX6_init 55 = .ok (.new 36, 3) := by decide +kernel
theorem dX6_init_58 : decode cX6_init 58 = .ok (.dup, 1) := by decide +kernel
theorem dX6_init_59 : decode cX6_init 59 = .ok (.invokespecial 38, 3) := by decide +kernel
theorem dX6_init_62 : decode cX6_init 62 = .ok (.putfield 39, 3) := by decide +kernel
theorem dX6_init_65 : decode cX6_init 65 = .ok (.aload_n 0, 1) := by decide +kernel
theorem dX6_init_66 : decode cX6_init 66 = .ok (.new 43, 3) := by decide +kernel
theorem dX6_init_69 : decode cX6_init 69 = .ok (.dup, 1) := by decide +kernel
theorem dX6_init_70 : decode cX6_init 70 = .ok (.invokespecial 45, 3) := by decide +kernel
theorem dX6_init_73 : decode cX6_init 73 = .ok (.putfield 46, 3) := by decide +kernel
theorem dX6_init_76 : decode cX6_init 76 = .ok (.aload_n 0, 1) := by decide +kernel
theorem dX6_init_77 : decode cX6_init 77 = .ok (.bipush 6, 2) := by decide +kernel
theorem dX6_init_79 : decode cX6_init 79 = .ok (.newarray .int, 2) := by decide +kernel
theorem dX6_init_81 : decode cX6_init 81 = .ok (.putfield 50, 3) := by decide +kernel
theorem dX6_init_84 : decode cX6_init 84 = .ok (.aload_n 0, 1) := by decide +kernel
theorem dX6_init_85 : decode cX6_init 85 = .ok (.bipush 6, 2) := by decide +kernel
theorem dX6_init_87 : decode cX6_init 87 = .ok (.newarray .int, 2) := by decide +kernel
theorem dX6_init_89 : decode cX6_init 89 = .ok (.putfield 54, 3) := by decide +kernel
theorem dX6_init_92 : decode cX6_init 92 = .ok (.aload_n 0, 1) := by decide +kernel
theorem dX6_init_93 : decode cX6_init 93 = .ok (.bipush 12, 2) := by decide +kernel
theorem dX6_init_95 : decode cX6_init 95 = .ok (.newarray .int, 2) := by decide +kernel
theorem dX6_init_97 : decode cX6_init 97 = .ok (.putfield 57, 3) := by decide +kernel
theorem dX6_init_100 : decode cX6_init 100 = .ok (.aload_n 0, 1) := by decide +kernel
theorem dX6_init_101 : decode cX6_init 101 = .ok (.iconst 0, 1) := by decide +kernel
theorem dX6_init_102 : decode cX6_init 102 = .ok (.putfield 60, 3) := by decide +kernel
theorem dX6_init_105 : decode cX6_init 105 = .ok (.aload_n 0, 1) := by decide +kernel
theorem dX6_init_106 : decode cX6_init 106 = .ok (.iconst (-1), 1) := by decide +kernel
theorem dX6_init_107 : decode cX6_init 107 = .ok (.putfield 64, 3) := by decide +kernel
theorem dX6_init_110 : decode cX6_init 110 = .ok (.aload_n 0, 1) := by decide +kernel
theorem dX6_init_111 : decode cX6_init 111 = .ok (.iconst (-1), 1) := by decide +kernel
theorem dX6_init_112 : decode cX6_init 112 = .ok (.putfield 67, 3) := by decide +kernel
theorem dX6_init_115 : decode cX6_init 115 = .ok (.iconst 0, 1) := by decide +kernel
theorem dX6_init_116 : decode cX6_init 116 = .ok (.istore_n 1, 1) := by decide +kernel
theorem dX6_init_117 : decode cX6_init 117 = .ok (.iload_n 1, 1) := by decide +kernel
theorem dX6_init_118 : decode cX6_init 118 = .ok (.iconst 4, 1) := by decide +kernel
theorem dX6_init_119 : decode cX6_init 119 = .ok (.if_icmp .ge 22, 3) := by decide +kernel
theorem dX6_init_122 : decode cX6_init 122 = .ok (.aload_n 0, 1) := by decide +kernel
theorem dX6_init_123 : decode cX6_init 123 = .ok (.getfield 21, 3) := by decide +kernel
theorem dX6_init_126 : decode cX6_init 126 = .ok (.iload_n 1, 1) := by decide +kernel
theorem dX6_init_127 : decode cX6_init 127 = .ok (.new 19, 3) := by decide +kernel
theorem dX6_init_130 : decode cX6_init 130 = .ok (.dup, 1) := by decide +kernel
theorem dX6_init_131 : decode cX6_init 131 = .ok (.invokespecial 70, 3) := by decide +kernel
theorem dX6_init_134 : decode cX6_init 134 = .ok (.aastore, 1) := by decide +kernel
theorem dX6_init_135 : decode cX6_init 135 = .ok (.iinc 1 1, 3) := by decide +kernel
theorem dX6_init_138 : decode cX6_init 138 = .ok (.goto (-21), 3) := by decide +kernel
theorem dX6_init_141 : decode cX6_init 141 = .ok (.return_, 1) := by decide +kernel
theorem dX6_sort_0 : decode cX6_sort 0 = .ok (.iload_n 1, 1) := by decide +kernel
theorem dX6_sort_1 : decode cX6_sort 1 = .ok (.invokestatic 71, 3) := by decide +kernel
theorem dX6_sort_4 : decode cX6_sort 4 = .ok (.ifCond .eq 23, 3) := by decide +kernel
theorem dX6_sort_7 : decode cX6_sort 7 = .ok (.iload_n 2, 1) := by decide +kernel
theorem dX6_sort_8 : decode cX6_sort 8 = .ok (.iconst 0, 1) := by decide +kernel
theorem dX6_sort_9 : decode cX6_sort 9 = .ok (.bipush 9, 2) := by decide +kernel
theorem dX6_sort_11 : decode cX6_sort 11 = .ok (.invokestatic 75, 3) := by decide +kernel
theorem dX6_sort_14 : decode cX6_sort 14 = .ok (.ifCond .eq 13, 3) := by decide +kernel
theorem dX6_sort_17 : decode cX6_sort 17 = .ok (.iload_n 3, 1) := by decide +kernel
theorem dX6_sort_18 : decode cX6_sort 18 = .ok (.iconst 0, 1) := by decide +kernel
theorem dX6_sort_19 : decode cX6_sort 19 = .ok (.bipush 99, 2) := by decide +kernel
theorem dX6_sort_21 : decode cX6_sort 21 = .ok (.invokestatic 75, 3) := by decide +kernel
theorem dX6_sort_24 : decode cX6_sort 24 = .ok (.ifCond .ne 5, 3) := by decide +kernel
theorem dX6_sort_27 : decode cX6_sort 27 = .ok (.iconst 0, 1) := by decide +kernel
theorem dX6_sort_28 : decode cX6_sort 28 = .ok (.ireturn, 1) := by decide +kernel
theorem dX6_sort_29 : decode cX6_sort 29 = .ok (.aload_n 0, 1) := by decide +kernel
theorem dX6_sort_30 : decode cX6_sort 30 = .ok (.getfield 12, 3) := by decide +kernel
theorem dX6_sort_33 : decode cX6_sort 33 = .ok (.getfield 79, 3) := by decide +kernel
theorem dX6_sort_36 : decode cX6_sort 36 = .ok (.iload_n 1, 1) := by decide +kernel
theorem dX6_sort_37 : decode cX6_sort 37 = .ok (.iload_n 2, 1) := by decide +kernel
theorem dX6_sort_38 : decode cX6_sort 38 = .ok (.iastore, 1) := by decide +kernel
theorem dX6_sort_39 : decode cX6_sort 39 = .ok (.aload_n 0, 1) := by decide +kernel
theorem dX6_sort_40 : decode cX6_sort 40 = .ok (.getfield 12, 3) := by decide +kernel
theorem dX6_sort_43 : decode cX6_sort 43 = .ok (.getfield 82, 3) := by decide +kernel
theorem dX6_sort_46 : decode cX6_sort 46 = .ok (.iload_n 1, 1) := by decide +kernel
theorem dX6_sort_47 : decode cX6_sort 47 = .ok (.iload_n 3, 1) := by decide +kernel
theorem dX6_sort_48 : decode cX6_sort 48 = .ok (.iastore, 1) := by decide +kernel
theorem dX6_sort_49 : decode cX6_sort 49 = .ok (.iconst 1, 1) := by decide +kernel
theorem dX6_sort_50 : decode cX6_sort 50 = .ok (.ireturn, 1) := by decide +kernel
theorem dX6_buyer_0 : decode cX6_buyer 0 = .ok (.iload_n 1, 1) := by decide +kernel
theorem dX6_buyer_1 : decode cX6_buyer 1 = .ok (.iconst 0, 1) := by decide +kernel
theorem dX6_buyer_2 : decode cX6_buyer 2 = .ok (.bipush 31, 2) := by decide +kernel
theorem dX6_buyer_4 : decode cX6_buyer 4 = .ok (.invokestatic 75, 3) := by decide +kernel
theorem dX6_buyer_7 : decode cX6_buyer 7 = .ok (.ifCond .eq 27, 3) := by decide +kernel
theorem dX6_buyer_10 : decode cX6_buyer 10 = .ok (.iload_n 2, 1) := by decide +kernel
theorem dX6_buyer_11 : decode cX6_buyer 11 = .ok (.iload_n 3, 1) := by decide +kernel
theorem dX6_buyer_12 : decode cX6_buyer 12 = .ok (.invokestatic 85, 3) := by decide +kernel
theorem dX6_buyer_15 : decode cX6_buyer 15 = .ok (.ifCond .eq 19, 3) := by decide +kernel
theorem dX6_buyer_18 : decode cX6_buyer 18 = .ok (.iload 4, 2) := by decide +kernel
theorem dX6_buyer_20 : decode cX6_buyer 20 = .ok (.iconst 0, 1) := by decide +kernel
theorem dX6_buyer_21 : decode cX6_buyer 21 = .ok (.sipush 999, 3) := by decide +kernel
theorem dX6_buyer_24 : decode cX6_buyer 24 = .ok (.invokestatic 75, 3) := by decide +kernel
theorem dX6_buyer_27 : decode cX6_buyer 27 = .ok (.ifCond .eq 7, 3) := by decide +kernel
theorem dX6_buyer_30 : decode cX6_buyer 30 = .ok (.iconst 1, 1) := by decide +kernel
theorem dX6_buyer_31 : decode cX6_buyer 31 = .ok (.goto 4, 3) := by decide +kernel
theorem dX6_buyer_34 : decode cX6_buyer 34 = .ok (.iconst 0, 1) := by decide +kernel
theorem dX6_buyer_35 : decode cX6_buyer 35 = .ok (.istore 5, 2) := by decide +kernel
theorem dX6_buyer_37 : decode cX6_buyer 37 = .ok (.iload 5, 2) := by decide +kernel
theorem dX6_buyer_39 : decode cX6_buyer 39 = .ok (.ifCond .eq 15, 3) := by decide +kernel
theorem dX6_buyer_42 : decode cX6_buyer 42 = .ok (.aload_n 0, 1) := by decide +kernel
theorem dX6_buyer_43 : decode cX6_buyer 43 = .ok (.getfield 12, 3) := by decide +kernel
theorem dX6_buyer_46 : decode cX6_buyer 46 = .ok (.getfield 89, 3) := by decide +kernel
theorem dX6_buyer_49 : decode cX6_buyer 49 = .ok (.bipush 6, 2) := by decide +kernel
theorem dX6_buyer_51 : decode cX6_buyer 51 = .ok (.if_icmp .lt 5, 3) := by decide +kernel
theorem dX6_buyer_54 : decode cX6_buyer 54 = .ok (.iconst (-1), 1) := by decide +kernel
theorem dX6_buyer_55 : decode cX6_buyer 55 = .ok (.ireturn, 1) := by decide +kernel
theorem dX6_buyer_56 : decode cX6_buyer 56 = .ok (.aload_n 0, 1) := by decide +kernel
theorem dX6_buyer_57 : decode cX6_buyer 57 = .ok (.getfield 12, 3) := by decide +kernel
theorem dX6_buyer_60 : decode cX6_buyer 60 = .ok (.getfield 89, 3) := by decide +kernel
theorem dX6_buyer_63 : decode cX6_buyer 63 = .ok (.istore 6, 2) := by decide +kernel
theorem dX6_buyer_65 : decode cX6_buyer 65 = .ok (.aload_n 0, 1) := by decide +kernel
theorem dX6_buyer_66 : decode cX6_buyer 66 = .ok (.getfield 12, 3) := by decide +kernel
theorem dX6_buyer_69 : decode cX6_buyer 69 = .ok (.iload 6, 2) := by decide +kernel
theorem dX6_buyer_71 : decode cX6_buyer 71 = .ok (.iconst 1, 1) := by decide +kernel
theorem dX6_buyer_72 : decode cX6_buyer 72 = .ok (.iadd, 1) := by decide +kernel
theorem dX6_buyer_73 : decode cX6_buyer 73 = .ok (.putfield 89, 3) := by decide +kernel
theorem dX6_buyer_76 : decode cX6_buyer 76 = .ok (.aload_n 0, 1) := by decide +kernel
theorem dX6_buyer_77 : decode cX6_buyer 77 = .ok (.getfield 12, 3) := by decide +kernel
theorem dX6_buyer_80 : decode cX6_buyer 80 = .ok (.getfield 92, 3) := by decide +kernel
theorem dX6_buyer_83 : decode cX6_buyer 83 = .ok (.iload 6, 2) := by decide +kernel
theorem dX6_buyer_85 : decode cX6_buyer 85 = .ok (.iload_n 1, 1) := by decide +kernel
theorem dX6_buyer_86 : decode cX6_buyer 86 = .ok (.iastore, 1) := by decide +kernel
theorem dX6_buyer_87 : decode cX6_buyer 87 = .ok (.aload_n 0, 1) := by decide +kernel
theorem dX6_buyer_88 : decode cX6_buyer 88 = .ok (.getfield 12, 3) := by decide +kernel
theorem dX6_buyer_91 : decode cX6_buyer 91 = .ok (.getfield 95, 3) := by decide +kernel
theorem dX6_buyer_94 : decode cX6_buyer 94 = .ok (.iload 6, 2) := by decide +kernel
theorem dX6_buyer_96 : decode cX6_buyer 96 = .ok (.iload_n 2, 1) := by decide +kernel
theorem dX6_buyer_97 : decode cX6_buyer 97 = .ok (.iastore, 1) := by decide +kernel
theorem dX6_buyer_98 : decode cX6_buyer 98 = .ok (.aload_n 0, 1) := by decide +kernel
theorem dX6_buyer_99 : decode cX6_buyer 99 = .ok (.getfield 12, 3) := by decide +kernel
theorem dX6_buyer_102 : decode cX6_buyer 102 = .ok (.getfield 98, 3) := by decide +kernel
theorem dX6_buyer_105 : decode cX6_buyer 105 = .ok (.iload 6, 2) := by decide +kernel
theorem dX6_buyer_107 : decode cX6_buyer 107 = .ok (.iload_n 3, 1) := by decide +kernel
theorem dX6_buyer_108 : decode cX6_buyer 108 = .ok (.iastore, 1) := by decide +kernel
theorem dX6_buyer_109 : decode cX6_buyer 109 = .ok (.aload_n 0, 1) := by decide +kernel
theorem dX6_buyer_110 : decode cX6_buyer 110 = .ok (.getfield 12, 3) := by decide +kernel
theorem dX6_buyer_113 : decode cX6_buyer 113 = .ok (.getfield 101, 3) := by decide +kernel
theorem dX6_buyer_116 : decode cX6_buyer 116 = .ok (.iload 6, 2) := by decide +kernel
theorem dX6_buyer_118 : decode cX6_buyer 118 = .ok (.iload 4, 2) := by decide +kernel
theorem dX6_buyer_120 : decode cX6_buyer 120 = .ok (.iastore, 1) := by decide +kernel
theorem dX6_buyer_121 : decode cX6_buyer 121 = .ok (.aload_n 0, 1) := by decide +kernel
theorem dX6_buyer_122 : decode cX6_buyer 122 = .ok (.getfield 12, 3) := by decide +kernel
theorem dX6_buyer_125 : decode cX6_buyer 125 = .ok (.getfield 104, 3) := by decide +kernel
theorem dX6_buyer_128 : decode cX6_buyer 128 = .ok (.getfield 107, 3) := by decide +kernel
theorem dX6_buyer_131 : decode cX6_buyer 131 = .ok (.iload 6, 2) := by decide +kernel
theorem dX6_buyer_133 : decode cX6_buyer 133 = .ok (.iload 4, 2) := by decide +kernel
theorem dX6_buyer_135 : decode cX6_buyer 135 = .ok (.iastore, 1) := by decide +kernel
theorem dX6_buyer_136 : decode cX6_buyer 136 = .ok (.aload_n 0, 1) := by decide +kernel
theorem dX6_buyer_137 : decode cX6_buyer 137 = .ok (.getfield 12, 3) := by decide +kernel
theorem dX6_buyer_140 : decode cX6_buyer 140 = .ok (.getfield 104, 3) := by decide +kernel
theorem dX6_buyer_143 : decode cX6_buyer 143 = .ok (.getfield 110, 3) := by decide +kernel
theorem dX6_buyer_146 : decode cX6_buyer 146 = .ok (.iload 6, 2) := by decide +kernel
theorem dX6_buyer_148 : decode cX6_buyer 148 = .ok (.iconst 0, 1) := by decide +kernel
theorem dX6_buyer_149 : decode cX6_buyer 149 = .ok (.iastore, 1) := by decide +kernel
theorem dX6_buyer_150 : decode cX6_buyer 150 = .ok (.iload 6, 2) := by decide +kernel
theorem dX6_buyer_152 : decode cX6_buyer 152 = .ok (.ireturn, 1) := by decide +kernel
theorem dX6_value_0 : decode cX6_value 0 = .ok (.iload_n 1, 1) := by decide +kernel
theorem dX6_value_1 : decode cX6_value 1 = .ok (.invokestatic 113, 3) := by decide +kernel
theorem dX6_value_4 : decode cX6_value 4 = .ok (.ifCond .eq 13, 3) := by decide +kernel
theorem dX6_value_7 : decode cX6_value 7 = .ok (.iload_n 2, 1) := by decide +kernel
theorem dX6_value_8 : decode cX6_value 8 = .ok (.iconst 0, 1) := by decide +kernel
theorem dX6_value_9 : decode cX6_value 9 = .ok (.bipush 99, 2) := by decide +kernel
theorem dX6_value_11 : decode cX6_value 11 = .ok (.invokestatic 75, 3) := by decide +kernel
theorem dX6_value_14 : decode cX6_value 14 = .ok (.ifCond .ne 5, 3) := by decide +kernel
theorem dX6_value_17 : decode cX6_value 17 = .ok (.iconst 0, 1) := by decide +kernel
theorem dX6_value_18 : decode cX6_value 18 = .ok (.ireturn, 1) := by decide +kernel
theorem dX6_value_19 : decode cX6_value 19 = .ok (.aload_n 0, 1) := by decide +kernel
theorem dX6_value_20 : decode cX6_value 20 = .ok (.getfield 12, 3) := by decide +kernel
theorem dX6_value_23 : decode cX6_value 23 = .ok (.getfield 116, 3) := by decide +kernel
theorem dX6_value_26 : decode cX6_value 26 = .ok (.iload_n 1, 1) := by decide +kernel
theorem dX6_value_27 : decode cX6_value 27 = .ok (.iload_n 2, 1) := by decide +kernel
theorem dX6_value_28 : decode cX6_value 28 = .ok (.iastore, 1) := by decide +kernel
theorem dX6_value_29 : decode cX6_value 29 = .ok (.iconst 1, 1) := by decide +kernel
theorem dX6_value_30 : decode cX6_value 30 = .ok (.ireturn, 1) := by decide +kernel
theorem dX6_paid_0 : decode cX6_paid 0 = .ok (.iload_n 1, 1) := by decide +kernel
theorem dX6_paid_1 : decode cX6_paid 1 = .ok (.iconst (-1), 1) := by decide +kernel
theorem dX6_paid_2 : decode cX6_paid 2 = .ok (.if_icmp .ne 21, 3) := by decide +kernel
theorem dX6_paid_5 : decode cX6_paid 5 = .ok (.aload_n 0, 1) := by decide +kernel
theorem dX6_paid_6 : decode cX6_paid 6 = .ok (.getfield 12, 3) := by decide +kernel
theorem dX6_paid_9 : decode cX6_paid 9 = .ok (.iconst 0, 1) := by decide +kernel
theorem dX6_paid_10 : decode cX6_paid 10 = .ok (.putfield 119, 3) := by decide +kernel
theorem dX6_paid_13 : decode cX6_paid 13 = .ok (.aload_n 0, 1) := by decide +kernel
theorem dX6_paid_14 : decode cX6_paid 14 = .ok (.getfield 12, 3) := by decide +kernel
theorem dX6_paid_17 : decode cX6_paid 17 = .ok (.iconst 0, 1) := by decide +kernel
theorem dX6_paid_18 : decode cX6_paid 18 = .ok (.putfield 122, 3) := by decide +kernel
theorem dX6_paid_21 : decode cX6_paid 21 = .ok (.iconst 0, 1) := by decide +kernel
theorem dX6_paid_22 : decode cX6_paid 22 = .ok (.ireturn, 1) := by decide +kernel
theorem dX6_paid_23 : decode cX6_paid 23 = .ok (.aload_n 0, 1) := by decide +kernel
theorem dX6_paid_24 : decode cX6_paid 24 = .ok (.iload_n 1, 1) := by decide +kernel
theorem dX6_paid_25 : decode cX6_paid 25 = .ok (.invokevirtual 125, 3) := by decide +kernel
theorem dX6_paid_28 : decode cX6_paid 28 = .ok (.ifCond .eq 18, 3) := by decide +kernel
theorem dX6_paid_31 : decode cX6_paid 31 = .ok (.aload_n 0, 1) := by decide +kernel
theorem dX6_paid_32 : decode cX6_paid 32 = .ok (.getfield 12, 3) := by decide +kernel
theorem dX6_paid_35 : decode cX6_paid 35 = .ok (.getfield 119, 3) := by decide +kernel
theorem dX6_paid_38 : decode cX6_paid 38 = .ok (.iload_n 1, 1) := by decide +kernel
theorem dX6_paid_39 : decode cX6_paid 39 = .ok (.ishr, 1) := by decide +kernel
theorem dX6_paid_40 : decode cX6_paid 40 = .ok (.iconst 1, 1) := by decide +kernel
theorem dX6_paid_41 : decode cX6_paid 41 = .ok (.iand, 1) := by decide +kernel
theorem dX6_paid_42 : decode cX6_paid 42 = .ok (.iconst 1, 1) := by decide +kernel
theorem dX6_paid_43 : decode cX6_paid 43 = .ok (.if_icmp .ne 6, 3) := by decide +kernel
theorem dX6_paid_46 : decode cX6_paid 46 = .ok (.bipush (-2), 2) := by decide +kernel
theorem dX6_paid_48 : decode cX6_paid 48 = .ok (.ireturn, 1) := by decide +kernel
theorem dX6_paid_49 : decode cX6_paid 49 = .ok (.aload_n 0, 1) := by decide +kernel
theorem dX6_paid_50 : decode cX6_paid 50 = .ok (.getfield 12, 3) := by decide +kernel
theorem dX6_paid_53 : decode cX6_paid 53 = .ok (.dup, 1) := by decide +kernel
theorem dX6_paid_54 : decode cX6_paid 54 = .ok (.getfield 119, 3) := by decide +kernel
theorem dX6_paid_57 : decode cX6_paid 57 = .ok (.iconst 1, 1) := by decide +kernel
theorem dX6_paid_58 : decode cX6_paid 58 = .ok (.iload_n 1, 1) := by decide +kernel
theorem dX6_paid_59 : decode cX6_paid 59 = .ok (.ishl, 1) := by decide +kernel
theorem dX6_paid_60 : decode cX6_paid 60 = .ok (.ior, 1) := by decide +kernel
theorem dX6_paid_61 : decode cX6_paid 61 = .ok (.putfield 119, 3) := by decide +kernel
theorem dX6_paid_64 : decode cX6_paid 64 = .ok (.iload_n 2, 1) := by decide +kernel
theorem dX6_paid_65 : decode cX6_paid 65 = .ok (.ifCond .eq 18, 3) := by decide +kernel
theorem dX6_paid_68 : decode cX6_paid 68 = .ok (.aload_n 0, 1) := by decide +kernel
theorem dX6_paid_69 : decode cX6_paid 69 = .ok (.getfield 12, 3) := by decide +kernel
theorem dX6_paid_72 : decode cX6_paid 72 = .ok (.dup, 1) := by decide +kernel
theorem dX6_paid_73 : decode cX6_paid 73 = .ok (.getfield 122, 3) := by decide +kernel
theorem dX6_paid_76 : decode cX6_paid 76 = .ok (.iconst 1, 1) := by decide +kernel
theorem dX6_paid_77 : decode cX6_paid 77 = .ok (.iload_n 1, 1) := by decide +kernel
theorem dX6_paid_78 : decode cX6_paid 78 = .ok (.ishl, 1) := by decide +kernel
theorem dX6_paid_79 : decode cX6_paid 79 = .ok (.ior, 1) := by decide +kernel
theorem dX6_paid_80 : decode cX6_paid 80 = .ok (.putfield 122, 3) := by decide +kernel
theorem dX6_paid_83 : decode cX6_paid 83 = .ok (.aload_n 0, 1) := by decide +kernel
theorem dX6_paid_84 : decode cX6_paid 84 = .ok (.getfield 12, 3) := by decide +kernel
theorem dX6_paid_87 : decode cX6_paid 87 = .ok (.getfield 119, 3) := by decide +kernel
theorem dX6_paid_90 : decode cX6_paid 90 = .ok (.invokestatic 128, 3) := by decide +kernel
theorem dX6_paid_93 : decode cX6_paid 93 = .ok (.ireturn, 1) := by decide +kernel
theorem dX6_said_0 : decode cX6_said 0 = .ok (.iload_n 1, 1) := by decide +kernel
theorem dX6_said_1 : decode cX6_said 1 = .ok (.iconst (-1), 1) := by decide +kernel
theorem dX6_said_2 : decode cX6_said 2 = .ok (.if_icmp .ne 13, 3) := by decide +kernel
theorem dX6_said_5 : decode cX6_said 5 = .ok (.aload_n 0, 1) := by decide +kernel
theorem dX6_said_6 : decode cX6_said 6 = .ok (.getfield 12, 3) := by decide +kernel
theorem dX6_said_9 : decode cX6_said 9 = .ok (.iconst 0, 1) := by decide +kernel
theorem dX6_said_10 : decode cX6_said 10 = .ok (.putfield 134, 3) := by decide +kernel
theorem dX6_said_13 : decode cX6_said 13 = .ok (.iconst 0, 1) := by decide +kernel
theorem dX6_said_14 : decode cX6_said 14 = .ok (.ireturn, 1) := by decide +kernel
theorem dX6_said_15 : decode cX6_said 15 = .ok (.aload_n 0, 1) := by decide +kernel
theorem dX6_said_16 : decode cX6_said 16 = .ok (.iload_n 1, 1) := by decide +kernel
theorem dX6_said_17 : decode cX6_said 17 = .ok (.invokevirtual 125, 3) := by decide +kernel
theorem dX6_said_20 : decode cX6_said 20 = .ok (.ifCond .eq 25, 3) := by decide +kernel
theorem dX6_said_23 : decode cX6_said 23 = .ok (.iload_n 2, 1) := by decide +kernel
theorem dX6_said_24 : decode cX6_said 24 = .ok (.iconst 0, 1) := by decide +kernel
theorem dX6_said_25 : decode cX6_said 25 = .ok (.bipush 99, 2) := by decide +kernel
theorem dX6_said_27 : decode cX6_said 27 = .ok (.invokestatic 75, 3) := by decide +kernel
theorem dX6_said_30 : decode cX6_said 30 = .ok (.ifCond .eq 15, 3) := by decide +kernel
theorem dX6_said_33 : decode cX6_said 33 = .ok (.aload_n 0, 1) := by decide +kernel
theorem dX6_said_34 : decode cX6_said 34 = .ok (.getfield 12, 3) := by decide +kernel
theorem dX6_said_37 : decode cX6_said 37 = .ok (.getfield 134, 3) := by decide +kernel
theorem dX6_said_40 : decode cX6_said 40 = .ok (.bipush 8, 2) := by decide +kernel
theorem dX6_said_42 : decode cX6_said 42 = .ok (.if_icmp .lt 6, 3) := by decide +kernel
theorem dX6_said_45 : decode cX6_said 45 = .ok (.bipush (-2), 2) := by decide +kernel
theorem dX6_said_47 : decode cX6_said 47 = .ok (.ireturn, 1) := by decide +kernel
theorem dX6_said_48 : decode cX6_said 48 = .ok (.aload_n 0, 1) := by decide +kernel
theorem dX6_said_49 : decode cX6_said 49 = .ok (.getfield 12, 3) := by decide +kernel
theorem dX6_said_52 : decode cX6_said 52 = .ok (.getfield 137, 3) := by decide +kernel
theorem dX6_said_55 : decode cX6_said 55 = .ok (.aload_n 0, 1) := by decide +kernel
theorem dX6_said_56 : decode cX6_said 56 = .ok (.getfield 12, 3) := by decide +kernel
theorem dX6_said_59 : decode cX6_said 59 = .ok (.getfield 134, 3) := by decide +kernel
theorem dX6_said_62 : decode cX6_said 62 = .ok (.iload_n 1, 1) := by decide +kernel
theorem dX6_said_63 : decode cX6_said 63 = .ok (.iastore, 1) := by decide +kernel
theorem dX6_said_64 : decode cX6_said 64 = .ok (.aload_n 0, 1) := by decide +kernel
theorem dX6_said_65 : decode cX6_said 65 = .ok (.getfield 12, 3) := by decide +kernel
theorem dX6_said_68 : decode cX6_said 68 = .ok (.getfield 140, 3) := by decide +kernel
theorem dX6_said_71 : decode cX6_said 71 = .ok (.aload_n 0, 1) := by decide +kernel
theorem dX6_said_72 : decode cX6_said 72 = .ok (.getfield 12, 3) := by decide +kernel
theorem dX6_said_75 : decode cX6_said 75 = .ok (.getfield 134, 3) := by decide +kernel
theorem dX6_said_78 : decode cX6_said 78 = .ok (.iload_n 2, 1) := by decide +kernel
theorem dX6_said_79 : decode cX6_said 79 = .ok (.iastore, 1) := by decide +kernel
theorem dX6_said_80 : decode cX6_said 80 = .ok (.aload_n 0, 1) := by decide +kernel
theorem dX6_said_81 : decode cX6_said 81 = .ok (.getfield 12, 3) := by decide +kernel
theorem dX6_said_84 : decode cX6_said 84 = .ok (.dup, 1) := by decide +kernel
theorem dX6_said_85 : decode cX6_said 85 = .ok (.getfield 134, 3) := by decide +kernel
theorem dX6_said_88 : decode cX6_said 88 = .ok (.iconst 1, 1) := by decide +kernel
theorem dX6_said_89 : decode cX6_said 89 = .ok (.iadd, 1) := by decide +kernel
theorem dX6_said_90 : decode cX6_said 90 = .ok (.putfield 134, 3) := by decide +kernel
theorem dX6_said_93 : decode cX6_said 93 = .ok (.aload_n 0, 1) := by decide +kernel
theorem dX6_said_94 : decode cX6_said 94 = .ok (.getfield 12, 3) := by decide +kernel
theorem dX6_said_97 : decode cX6_said 97 = .ok (.getfield 134, 3) := by decide +kernel
theorem dX6_said_100 : decode cX6_said 100 = .ok (.ireturn, 1) := by decide +kernel
theorem dX6_feed_0 : decode cX6_feed 0 = .ok (.aload_n 0, 1) := by decide +kernel
theorem dX6_feed_1 : decode cX6_feed 1 = .ok (.getfield 60, 3) := by decide +kernel
theorem dX6_feed_4 : decode cX6_feed 4 = .ok (.bipush 20, 2) := by decide +kernel
theorem dX6_feed_6 : decode cX6_feed 6 = .ok (.iadd, 1) := by decide +kernel
theorem dX6_feed_7 : decode cX6_feed 7 = .ok (.sipush 300, 3) := by decide +kernel
theorem dX6_feed_10 : decode cX6_feed 10 = .ok (.if_icmp .le 5, 3) := by decide +kernel
theorem dX6_feed_13 : decode cX6_feed 13 = .ok (.iconst (-1), 1) := by decide +kernel
theorem dX6_feed_14 : decode cX6_feed 14 = .ok (.ireturn, 1) := by decide +kernel
theorem dX6_feed_15 : decode cX6_feed 15 = .ok (.aload_n 0, 1) := by decide +kernel
theorem dX6_feed_16 : decode cX6_feed 16 = .ok (.iload_n 1, 1) := by decide +kernel
theorem dX6_feed_17 : decode cX6_feed 17 = .ok (.invokevirtual 143, 3) := by decide +kernel
theorem dX6_feed_20 : decode cX6_feed 20 = .ok (.aload_n 0, 1) := by decide +kernel
theorem dX6_feed_21 : decode cX6_feed 21 = .ok (.iload_n 2, 1) := by decide +kernel
theorem dX6_feed_22 : decode cX6_feed 22 = .ok (.invokevirtual 143, 3) := by decide +kernel
theorem dX6_feed_25 : decode cX6_feed 25 = .ok (.aload_n 0, 1) := by decide +kernel
theorem dX6_feed_26 : decode cX6_feed 26 = .ok (.iload_n 3, 1) := by decide +kernel
theorem dX6_feed_27 : decode cX6_feed 27 = .ok (.invokevirtual 143, 3) := by decide +kernel
theorem dX6_feed_30 : decode cX6_feed 30 = .ok (.aload_n 0, 1) := by decide +kernel
theorem dX6_feed_31 : decode cX6_feed 31 = .ok (.iload 4, 2) := by decide +kernel
theorem dX6_feed_33 : decode cX6_feed 33 = .ok (.invokevirtual 143, 3) := by decide +kernel
theorem dX6_feed_36 : decode cX6_feed 36 = .ok (.aload_n 0, 1) := by decide +kernel
theorem dX6_feed_37 : decode cX6_feed 37 = .ok (.iload 5, 2) := by decide +kernel
theorem dX6_feed_39 : decode cX6_feed 39 = .ok (.invokevirtual 143, 3) := by decide +kernel
theorem dX6_feed_42 : decode cX6_feed 42 = .ok (.aload_n 0, 1) := by decide +kernel
theorem dX6_feed_43 : decode cX6_feed 43 = .ok (.getfield 60, 3) := by decide +kernel
theorem dX6_feed_46 : decode cX6_feed 46 = .ok (.ireturn, 1) := by decide +kernel
theorem dX6_putBytes_0 : decode cX6_putBytes 0 = .ok (.bipush 24, 2) := by decide +kernel
theorem dX6_putBytes_2 : decode cX6_putBytes 2 = .ok (.istore_n 2, 1) := by decide +kernel
theorem dX6_putBytes_3 : decode cX6_putBytes 3 = .ok (.iload_n 2, 1) := by decide +kernel
theorem dX6_putBytes_4 : decode cX6_putBytes 4 = .ok (.ifCond .lt 46, 3) := by decide +kernel
theorem dX6_putBytes_7 : decode cX6_putBytes 7 = .ok (.aload_n 0, 1) := by decide +kernel
theorem dX6_putBytes_8 : decode cX6_putBytes 8 = .ok (.getfield 60, 3) := by decide +kernel
theorem dX6_putBytes_11 : decode cX6_putBytes 11 = .ok (.sipush 300, 3) := by decide +kernel
theorem dX6_putBytes_14 : decode cX6_putBytes 14 = .ok (.if_icmp .ge 36, 3) := by decide +kernel
theorem dX6_putBytes_17 : decode cX6_putBytes 17 = .ok (.aload_n 0, 1) := by decide +kernel
theorem dX6_putBytes_18 : decode cX6_putBytes 18 = .ok (.getfield 25, 3) := by decide +kernel
theorem dX6_putBytes_21 : decode cX6_putBytes 21 = .ok (.aload_n 0, 1) := by decide +kernel
theorem dX6_putBytes_22 : decode cX6_putBytes 22 = .ok (.getfield 60, 3) := by decide +kernel
theorem dX6_putBytes_25 : decode cX6_putBytes 25 = .ok (.iload_n 1, 1) := by decide +kernel
theorem dX6_putBytes_26 : decode cX6_putBytes 26 = .ok (.iload_n 2, 1) := by decide +kernel
theorem dX6_putBytes_27 : decode cX6_putBytes 27 = .ok (.iushr, 1) := by decide +kernel
theorem dX6_putBytes_28 : decode cX6_putBytes 28 = .ok (.sipush 255, 3) := by decide +kernel
theorem dX6_putBytes_31 : decode cX6_putBytes 31 = .ok (.iand, 1) := by decide +kernel
theorem dX6_putBytes_32 : decode cX6_putBytes 32 = .ok (.i2c, 1) := by decide +kernel
theorem dX6_putBytes_33 : decode cX6_putBytes 33 = .ok (.castore, 1) := by decide +kernel
theorem dX6_putBytes_34 : decode cX6_putBytes 34 = .ok (.aload_n 0, 1) := by decide +kernel
theorem dX6_putBytes_35 : decode cX6_putBytes 35 = .ok (.dup, 1) := by decide +kernel
theorem dX6_putBytes_36 : decode cX6_putBytes 36 = .ok (.getfield 60, 3) := by decide +kernel
theorem dX6_putBytes_39 : decode cX6_putBytes 39 = .ok (.iconst 1, 1) := by decide +kernel
theorem dX6_putBytes_40 : decode cX6_putBytes 40 = .ok (.iadd, 1) := by decide +kernel
theorem dX6_putBytes_41 : decode cX6_putBytes 41 = .ok (.putfield 60, 3) := by decide +kernel
theorem dX6_putBytes_44 : decode cX6_putBytes 44 = .ok (.iinc 2 (-8), 3) := by decide +kernel
theorem dX6_putBytes_47 : decode cX6_putBytes 47 = .ok (.goto (-44), 3) := by decide +kernel
theorem dX6_putBytes_50 : decode cX6_putBytes 50 = .ok (.return_, 1) := by decide +kernel
theorem dX6_end_0 : decode cX6_end 0 = .ok (.iload_n 1, 1) := by decide +kernel
theorem dX6_end_1 : decode cX6_end 1 = .ok (.iconst 0, 1) := by decide +kernel
theorem dX6_end_2 : decode cX6_end 2 = .ok (.aload_n 0, 1) := by decide +kernel
theorem dX6_end_3 : decode cX6_end 3 = .ok (.getfield 60, 3) := by decide +kernel
theorem dX6_end_6 : decode cX6_end 6 = .ok (.invokestatic 75, 3) := by decide +kernel
theorem dX6_end_9 : decode cX6_end 9 = .ok (.ifCond .ne 5, 3) := by decide +kernel
theorem dX6_end_12 : decode cX6_end 12 = .ok (.iconst (-1), 1) := by decide +kernel
theorem dX6_end_13 : decode cX6_end 13 = .ok (.ireturn, 1) := by decide +kernel
theorem dX6_end_14 : decode cX6_end 14 = .ok (.aload_n 0, 1) := by decide +kernel
theorem dX6_end_15 : decode cX6_end 15 = .ok (.iload_n 1, 1) := by decide +kernel
theorem dX6_end_16 : decode cX6_end 16 = .ok (.putfield 60, 3) := by decide +kernel
theorem dX6_end_19 : decode cX6_end 19 = .ok (.iload_n 1, 1) := by decide +kernel
theorem dX6_end_20 : decode cX6_end 20 = .ok (.ireturn, 1) := by decide +kernel
theorem dX6_text_0 : decode cX6_text 0 = .ok (.aload_n 0, 1) := by decide +kernel
theorem dX6_text_1 : decode cX6_text 1 = .ok (.getfield 12, 3) := by decide +kernel
theorem dX6_text_4 : decode cX6_text 4 = .ok (.getfield 147, 3) := by decide +kernel
theorem dX6_text_7 : decode cX6_text 7 = .ok (.iconst 4, 1) := by decide +kernel
theorem dX6_text_8 : decode cX6_text 8 = .ok (.if_icmp .lt 5, 3) := by decide +kernel
theorem dX6_text_11 : decode cX6_text 11 = .ok (.iconst (-1), 1) := by decide +kernel
theorem dX6_text_12 : decode cX6_text 12 = .ok (.ireturn, 1) := by decide +kernel
theorem dX6_text_13 : decode cX6_text 13 = .ok (.aload_n 0, 1) := by decide +kernel
theorem dX6_text_14 : decode cX6_text 14 = .ok (.getfield 32, 3) := by decide +kernel
theorem dX6_text_17 : decode cX6_text 17 = .ok (.aload_n 0, 1) := by decide +kernel
theorem dX6_text_18 : decode cX6_text 18 = .ok (.getfield 25, 3) := by decide +kernel
theorem dX6_text_21 : decode cX6_text 21 = .ok (.aload_n 0, 1) := by decide +kernel
theorem dX6_text_22 : decode cX6_text 22 = .ok (.getfield 60, 3) := by decide +kernel
theorem dX6_text_25 : decode cX6_text 25 = .ok (.aload_n 0, 1) := by decide +kernel
theorem dX6_text_26 : decode cX6_text 26 = .ok (.getfield 21, 3) := by decide +kernel
theorem dX6_text_29 : decode cX6_text 29 = .ok (.aload_n 0, 1) := by decide +kernel
theorem dX6_text_30 : decode cX6_text 30 = .ok (.getfield 12, 3) := by decide +kernel
theorem dX6_text_33 : decode cX6_text 33 = .ok (.getfield 147, 3) := by decide +kernel
theorem dX6_text_36 : decode cX6_text 36 = .ok (.aaload, 1) := by decide +kernel
theorem dX6_text_37 : decode cX6_text 37 = .ok (.invokevirtual 149, 3) := by decide +kernel
theorem dX6_text_40 : decode cX6_text 40 = .ok (.istore_n 1, 1) := by decide +kernel
theorem dX6_text_41 : decode cX6_text 41 = .ok (.aload_n 0, 1) := by decide +kernel
theorem dX6_text_42 : decode cX6_text 42 = .ok (.iconst 0, 1) := by decide +kernel
theorem dX6_text_43 : decode cX6_text 43 = .ok (.putfield 60, 3) := by decide +kernel
theorem dX6_text_46 : decode cX6_text 46 = .ok (.aload_n 0, 1) := by decide +kernel
theorem dX6_text_47 : decode cX6_text 47 = .ok (.aload_n 0, 1) := by decide +kernel
theorem dX6_text_48 : decode cX6_text 48 = .ok (.getfield 32, 3) := by decide +kernel
theorem dX6_text_51 : decode cX6_text 51 = .ok (.getfield 153, 3) := by decide +kernel
theorem dX6_text_54 : decode cX6_text 54 = .ok (.putfield 64, 3) := by decide +kernel
theorem dX6_text_57 : decode cX6_text 57 = .ok (.aload_n 0, 1) := by decide +kernel
theorem dX6_text_58 : decode cX6_text 58 = .ok (.aload_n 0, 1) := by decide +kernel
theorem dX6_text_59 : decode cX6_text 59 = .ok (.getfield 32, 3) := by decide +kernel
theorem dX6_text_62 : decode cX6_text 62 = .ok (.getfield 156, 3) := by decide +kernel
theorem dX6_text_65 : decode cX6_text 65 = .ok (.putfield 67, 3) := by decide +kernel
theorem dX6_text_68 : decode cX6_text 68 = .ok (.iload_n 1, 1) := by decide +kernel
theorem dX6_text_69 : decode cX6_text 69 = .ok (.ifCond .ne 5, 3) := by decide +kernel
theorem dX6_text_72 : decode cX6_text 72 = .ok (.iconst (-1), 1) := by decide +kernel
theorem dX6_text_73 : decode cX6_text 73 = .ok (.ireturn, 1) := by decide +kernel
theorem dX6_text_74 : decode cX6_text 74 = .ok (.aload_n 0, 1) := by decide +kernel
theorem dX6_text_75 : decode cX6_text 75 = .ok (.getfield 12, 3) := by decide +kernel
theorem dX6_text_78 : decode cX6_text 78 = .ok (.dup, 1) := by decide +kernel
theorem dX6_text_79 : decode cX6_text 79 = .ok (.getfield 147, 3) := by decide +kernel
theorem dX6_text_82 : decode cX6_text 82 = .ok (.iconst 1, 1) := by decide +kernel
theorem dX6_text_83 : decode cX6_text 83 = .ok (.iadd, 1) := by decide +kernel
theorem dX6_text_84 : decode cX6_text 84 = .ok (.putfield 147, 3) := by decide +kernel
theorem dX6_text_87 : decode cX6_text 87 = .ok (.aload_n 0, 1) := by decide +kernel
theorem dX6_text_88 : decode cX6_text 88 = .ok (.getfield 12, 3) := by decide +kernel
theorem dX6_text_91 : decode cX6_text 91 = .ok (.getfield 147, 3) := by decide +kernel
theorem dX6_text_94 : decode cX6_text 94 = .ok (.iconst 1, 1) := by decide +kernel
theorem dX6_text_95 : decode cX6_text 95 = .ok (.isub, 1) := by decide +kernel
theorem dX6_text_96 : decode cX6_text 96 = .ok (.ireturn, 1) := by decide +kernel
theorem dX6_fault_0 : decode cX6_fault 0 = .ok (.iload_n 1, 1) := by decide +kernel
theorem dX6_fault_1 : decode cX6_fault 1 = .ok (.lookupswitch 37 #[(0, 27), (1, 32)], 27) := by decide +kernel
theorem dX6_fault_28 : decode cX6_fault 28 = .ok (.aload_n 0, 1) := by decide +kernel
theorem dX6_fault_29 : decode cX6_fault 29 = .ok (.getfield 64, 3) := by decide +kernel
theorem dX6_fault_32 : decode cX6_fault 32 = .ok (.ireturn, 1) := by decide +kernel
theorem dX6_fault_33 : decode cX6_fault 33 = .ok (.aload_n 0, 1) := by decide +kernel
theorem dX6_fault_34 : decode cX6_fault 34 = .ok (.getfield 67, 3) := by decide +kernel
theorem dX6_fault_37 : decode cX6_fault 37 = .ok (.ireturn, 1) := by decide +kernel
theorem dX6_fault_38 : decode cX6_fault 38 = .ok (.iconst (-1), 1) := by decide +kernel
theorem dX6_fault_39 : decode cX6_fault 39 = .ok (.ireturn, 1) := by decide +kernel
theorem dX6_by_0 : decode cX6_by 0 = .ok (.iload_n 1, 1) := by decide +kernel
theorem dX6_by_1 : decode cX6_by 1 = .ok (.iconst (-1), 1) := by decide +kernel
theorem dX6_by_2 : decode cX6_by 2 = .ok (.if_icmp .eq 13, 3) := by decide +kernel
theorem dX6_by_5 : decode cX6_by 5 = .ok (.aload_n 0, 1) := by decide +kernel
theorem dX6_by_6 : decode cX6_by 6 = .ok (.iload_n 1, 1) := by decide +kernel
theorem dX6_by_7 : decode cX6_by 7 = .ok (.invokevirtual 159, 3) := by decide +kernel
theorem dX6_by_10 : decode cX6_by 10 = .ok (.ifCond .ne 5, 3) := by decide +kernel
theorem dX6_by_13 : decode cX6_by 13 = .ok (.iconst 0, 1) := by decide +kernel
theorem dX6_by_14 : decode cX6_by 14 = .ok (.ireturn, 1) := by decide +kernel
theorem dX6_by_15 : decode cX6_by 15 = .ok (.aload_n 0, 1) := by decide +kernel
theorem dX6_by_16 : decode cX6_by 16 = .ok (.getfield 12, 3) := by decide +kernel
theorem dX6_by_19 : decode cX6_by 19 = .ok (.iload_n 1, 1) := by decide +kernel
theorem dX6_by_20 : decode cX6_by 20 = .ok (.putfield 162, 3) := by decide +kernel
theorem dX6_by_23 : decode cX6_by 23 = .ok (.iconst 1, 1) := by decide +kernel
theorem dX6_by_24 : decode cX6_by 24 = .ok (.ireturn, 1) := by decide +kernel
theorem dX6_sell_0 : decode cX6_sell 0 = .ok (.aload_n 0, 1) := by decide +kernel
theorem dX6_sell_1 : decode cX6_sell 1 = .ok (.iload_n 1, 1) := by decide +kernel
theorem dX6_sell_2 : decode cX6_sell 2 = .ok (.invokevirtual 165, 3) := by decide +kernel
theorem dX6_sell_5 : decode cX6_sell 5 = .ok (.istore_n 2, 1) := by decide +kernel
theorem dX6_sell_6 : decode cX6_sell 6 = .ok (.iload_n 2, 1) := by decide +kernel
theorem dX6_sell_7 : decode cX6_sell 7 = .ok (.iconst (-1), 1) := by decide +kernel
theorem dX6_sell_8 : decode cX6_sell 8 = .ok (.if_icmp .ne 5, 3) := by decide +kernel
theorem dX6_sell_11 : decode cX6_sell 11 = .ok (.iconst (-1), 1) := by decide +kernel
theorem dX6_sell_12 : decode cX6_sell 12 = .ok (.ireturn, 1) := by decide +kernel
theorem dX6_sell_13 : decode cX6_sell 13 = .ok (.aload_n 0, 1) := by decide +kernel
theorem dX6_sell_14 : decode cX6_sell 14 = .ok (.invokevirtual 168, 3) := by decide +kernel
theorem dX6_sell_17 : decode cX6_sell 17 = .ok (.aload_n 0, 1) := by decide +kernel
theorem dX6_sell_18 : decode cX6_sell 18 = .ok (.iload_n 1, 1) := by decide +kernel
theorem dX6_sell_19 : decode cX6_sell 19 = .ok (.iload_n 2, 1) := by decide +kernel
theorem dX6_sell_20 : decode cX6_sell 20 = .ok (.invokevirtual 171, 3) := by decide +kernel
theorem dX6_sell_23 : decode cX6_sell 23 = .ok (.iload_n 2, 1) := by decide +kernel
theorem dX6_sell_24 : decode cX6_sell 24 = .ok (.ireturn, 1) := by decide +kernel
theorem dX6_give_0 : decode cX6_give 0 = .ok (.aload_n 0, 1) := by decide +kernel
theorem dX6_give_1 : decode cX6_give 1 = .ok (.iload_n 1, 1) := by decide +kernel
theorem dX6_give_2 : decode cX6_give 2 = .ok (.invokevirtual 175, 3) := by decide +kernel
theorem dX6_give_5 : decode cX6_give 5 = .ok (.ifCond .ne 5, 3) := by decide +kernel
theorem dX6_give_8 : decode cX6_give 8 = .ok (.iconst 0, 1) := by decide +kernel
theorem dX6_give_9 : decode cX6_give 9 = .ok (.ireturn, 1) := by decide +kernel
theorem dX6_give_10 : decode cX6_give 10 = .ok (.aload_n 0, 1) := by decide +kernel
theorem dX6_give_11 : decode cX6_give 11 = .ok (.invokevirtual 168, 3) := by decide +kernel
theorem dX6_give_14 : decode cX6_give 14 = .ok (.aload_n 0, 1) := by decide +kernel
theorem dX6_give_15 : decode cX6_give 15 = .ok (.iload_n 1, 1) := by decide +kernel
theorem dX6_give_16 : decode cX6_give 16 = .ok (.invokevirtual 178, 3) := by decide +kernel
theorem dX6_give_19 : decode cX6_give 19 = .ok (.iconst 1, 1) := by decide +kernel
theorem dX6_give_20 : decode cX6_give 20 = .ok (.ireturn, 1) := by decide +kernel
theorem dX6_turn_0 : decode cX6_turn 0 = .ok (.aload_n 0, 1) := by decide +kernel
theorem dX6_turn_1 : decode cX6_turn 1 = .ok (.iload_n 1, 1) := by decide +kernel
theorem dX6_turn_2 : decode cX6_turn 2 = .ok (.invokevirtual 181, 3) := by decide +kernel
theorem dX6_turn_5 : decode cX6_turn 5 = .ok (.ifCond .ne 5, 3) := by decide +kernel
theorem dX6_turn_8 : decode cX6_turn 8 = .ok (.iconst 0, 1) := by decide +kernel
theorem dX6_turn_9 : decode cX6_turn 9 = .ok (.ireturn, 1) := by decide +kernel
theorem dX6_turn_10 : decode cX6_turn 10 = .ok (.aload_n 0, 1) := by decide +kernel
theorem dX6_turn_11 : decode cX6_turn 11 = .ok (.invokevirtual 168, 3) := by decide +kernel
theorem dX6_turn_14 : decode cX6_turn 14 = .ok (.aload_n 0, 1) := by decide +kernel
theorem dX6_turn_15 : decode cX6_turn 15 = .ok (.iload_n 1, 1) := by decide +kernel
theorem dX6_turn_16 : decode cX6_turn 16 = .ok (.invokevirtual 184, 3) := by decide +kernel
theorem dX6_turn_19 : decode cX6_turn 19 = .ok (.iconst 1, 1) := by decide +kernel
theorem dX6_turn_20 : decode cX6_turn 20 = .ok (.ireturn, 1) := by decide +kernel
theorem dX6_pass_0 : decode cX6_pass 0 = .ok (.aload_n 0, 1) := by decide +kernel
theorem dX6_pass_1 : decode cX6_pass 1 = .ok (.iload_n 1, 1) := by decide +kernel
theorem dX6_pass_2 : decode cX6_pass 2 = .ok (.invokevirtual 181, 3) := by decide +kernel
theorem dX6_pass_5 : decode cX6_pass 5 = .ok (.ifCond .eq 19, 3) := by decide +kernel
theorem dX6_pass_8 : decode cX6_pass 8 = .ok (.aload_n 0, 1) := by decide +kernel
theorem dX6_pass_9 : decode cX6_pass 9 = .ok (.iload_n 2, 1) := by decide +kernel
theorem dX6_pass_10 : decode cX6_pass 10 = .ok (.invokevirtual 125, 3) := by decide +kernel
theorem dX6_pass_13 : decode cX6_pass 13 = .ok (.ifCond .eq 11, 3) := by decide +kernel
theorem dX6_pass_16 : decode cX6_pass 16 = .ok (.aload_n 0, 1) := by decide +kernel
theorem dX6_pass_17 : decode cX6_pass 17 = .ok (.iload_n 2, 1) := by decide +kernel
theorem dX6_pass_18 : decode cX6_pass 18 = .ok (.invokevirtual 181, 3) := by decide +kernel
theorem dX6_pass_21 : decode cX6_pass 21 = .ok (.ifCond .eq 5, 3) := by decide +kernel
theorem dX6_pass_24 : decode cX6_pass 24 = .ok (.iconst (-1), 1) := by decide +kernel
theorem dX6_pass_25 : decode cX6_pass 25 = .ok (.ireturn, 1) := by decide +kernel
theorem dX6_pass_26 : decode cX6_pass 26 = .ok (.aload_n 0, 1) := by decide +kernel
theorem dX6_pass_27 : decode cX6_pass 27 = .ok (.getfield 12, 3) := by decide +kernel
theorem dX6_pass_30 : decode cX6_pass 30 = .ok (.getfield 104, 3) := by decide +kernel
theorem dX6_pass_33 : decode cX6_pass 33 = .ok (.astore_n 3, 1) := by decide +kernel
theorem dX6_pass_34 : decode cX6_pass 34 = .ok (.aload_n 3, 1) := by decide +kernel
theorem dX6_pass_35 : decode cX6_pass 35 = .ok (.getfield 110, 3) := by decide +kernel
theorem dX6_pass_38 : decode cX6_pass 38 = .ok (.iload_n 1, 1) := by decide +kernel
theorem dX6_pass_39 : decode cX6_pass 39 = .ok (.iaload, 1) := by decide +kernel
theorem dX6_pass_40 : decode cX6_pass 40 = .ok (.istore 4, 2) := by decide +kernel
theorem dX6_pass_42 : decode cX6_pass 42 = .ok (.aload_n 0, 1) := by decide +kernel
theorem dX6_pass_43 : decode cX6_pass 43 = .ok (.iload_n 2, 1) := by decide +kernel
theorem dX6_pass_44 : decode cX6_pass 44 = .ok (.aload_n 3, 1) := by decide +kernel
theorem dX6_pass_45 : decode cX6_pass 45 = .ok (.getfield 187, 3) := by decide +kernel
theorem dX6_pass_48 : decode cX6_pass 48 = .ok (.invokevirtual 190, 3) := by decide +kernel
theorem dX6_pass_51 : decode cX6_pass 51 = .ok (.ifCond .eq 19, 3) := by decide +kernel
theorem dX6_pass_54 : decode cX6_pass 54 = .ok (.iload 4, 2) := by decide +kernel
theorem dX6_pass_56 : decode cX6_pass 56 = .ok (.aload_n 0, 1) := by decide +kernel
theorem dX6_pass_57 : decode cX6_pass 57 = .ok (.getfield 12, 3) := by decide +kernel
theorem dX6_pass_60 : decode cX6_pass 60 = .ok (.iload_n 2, 1) := by decide +kernel
theorem dX6_pass_61 : decode cX6_pass 61 = .ok (.invokevirtual 193, 3) := by decide +kernel
theorem dX6_pass_64 : decode cX6_pass 64 = .ok (.iconst (-1), 1) := by decide +kernel
theorem dX6_pass_65 : decode cX6_pass 65 = .ok (.ixor, 1) := by decide +kernel
theorem dX6_pass_66 : decode cX6_pass 66 = .ok (.iand, 1) := by decide +kernel
theorem dX6_pass_67 : decode cX6_pass 67 = .ok (.ifCond .eq 5, 3) := by decide +kernel
theorem dX6_pass_70 : decode cX6_pass 70 = .ok (.iconst (-1), 1) := by decide +kernel
theorem dX6_pass_71 : decode cX6_pass 71 = .ok (.ireturn, 1) := by decide +kernel
theorem dX6_pass_72 : decode cX6_pass 72 = .ok (.aload_n 0, 1) := by decide +kernel
theorem dX6_pass_73 : decode cX6_pass 73 = .ok (.iload_n 1, 1) := by decide +kernel
theorem dX6_pass_74 : decode cX6_pass 74 = .ok (.invokevirtual 196, 3) := by decide +kernel
theorem dX6_pass_77 : decode cX6_pass 77 = .ok (.istore 5, 2) := by decide +kernel
theorem dX6_pass_79 : decode cX6_pass 79 = .ok (.aload_n 0, 1) := by decide +kernel
theorem dX6_pass_80 : decode cX6_pass 80 = .ok (.iload_n 2, 1) := by decide +kernel
theorem dX6_pass_81 : decode cX6_pass 81 = .ok (.invokevirtual 196, 3) := by decide +kernel
theorem dX6_pass_84 : decode cX6_pass 84 = .ok (.istore 6, 2) := by decide +kernel
theorem dX6_pass_86 : decode cX6_pass 86 = .ok (.iload 5, 2) := by decide +kernel
theorem dX6_pass_88 : decode cX6_pass 88 = .ok (.iload 6, 2) := by decide +kernel
theorem dX6_pass_90 : decode cX6_pass 90 = .ok (.iadd, 1) := by decide +kernel
theorem dX6_pass_91 : decode cX6_pass 91 = .ok (.iconst 2, 1) := by decide +kernel
theorem dX6_pass_92 : decode cX6_pass 92 = .ok (.idiv, 1) := by decide +kernel
theorem dX6_pass_93 : decode cX6_pass 93 = .ok (.istore 7, 2) := by decide +kernel
theorem dX6_pass_95 : decode cX6_pass 95 = .ok (.iload 6, 2) := by decide +kernel
theorem dX6_pass_97 : decode cX6_pass 97 = .ok (.iload 5, 2) := by decide +kernel
theorem dX6_pass_99 : decode cX6_pass 99 = .ok (.if_icmp .le 14, 3) := by decide +kernel
theorem dX6_pass_102 : decode cX6_pass 102 = .ok (.aload_n 3, 1) := by decide +kernel
theorem dX6_pass_103 : decode cX6_pass 103 = .ok (.getfield 107, 3) := by decide +kernel
theorem dX6_pass_106 : decode cX6_pass 106 = .ok (.iload_n 2, 1) := by decide +kernel
theorem dX6_pass_107 : decode cX6_pass 107 = .ok (.iaload, 1) := by decide +kernel
theorem dX6_pass_108 : decode cX6_pass 108 = .ok (.iload 7, 2) := by decide +kernel
theorem dX6_pass_110 : decode cX6_pass 110 = .ok (.if_icmp .ge 5, 3) := by decide +kernel
theorem dX6_pass_113 : decode cX6_pass 113 = .ok (.iconst (-1), 1) := by decide +kernel
theorem dX6_pass_114 : decode cX6_pass 114 = .ok (.ireturn, 1) := by decide +kernel
theorem dX6_pass_115 : decode cX6_pass 115 = .ok (.aload_n 0, 1) := by decide +kernel
theorem dX6_pass_116 : decode cX6_pass 116 = .ok (.invokevirtual 168, 3) := by decide +kernel
theorem dX6_pass_119 : decode cX6_pass 119 = .ok (.aload_n 3, 1) := by decide +kernel
theorem dX6_pass_120 : decode cX6_pass 120 = .ok (.getfield 110, 3) := by decide +kernel
theorem dX6_pass_123 : decode cX6_pass 123 = .ok (.iload_n 2, 1) := by decide +kernel
theorem dX6_pass_124 : decode cX6_pass 124 = .ok (.iload 4, 2) := by decide +kernel
theorem dX6_pass_126 : decode cX6_pass 126 = .ok (.iastore, 1) := by decide +kernel
theorem dX6_pass_127 : decode cX6_pass 127 = .ok (.aload_n 3, 1) := by decide +kernel
theorem dX6_pass_128 : decode cX6_pass 128 = .ok (.getfield 110, 3) := by decide +kernel
theorem dX6_pass_131 : decode cX6_pass 131 = .ok (.iload_n 1, 1) := by decide +kernel
theorem dX6_pass_132 : decode cX6_pass 132 = .ok (.iconst 0, 1) := by decide +kernel
theorem dX6_pass_133 : decode cX6_pass 133 = .ok (.iastore, 1) := by decide +kernel
theorem dX6_pass_134 : decode cX6_pass 134 = .ok (.aload_n 3, 1) := by decide +kernel
theorem dX6_pass_135 : decode cX6_pass 135 = .ok (.getfield 107, 3) := by decide +kernel
theorem dX6_pass_138 : decode cX6_pass 138 = .ok (.iload_n 2, 1) := by decide +kernel
theorem dX6_pass_139 : decode cX6_pass 139 = .ok (.dup2, 1) := by decide +kernel
theorem dX6_pass_140 : decode cX6_pass 140 = .ok (.iaload, 1) := by decide +kernel
theorem dX6_pass_141 : decode cX6_pass 141 = .ok (.iload 7, 2) := by decide +kernel
theorem dX6_pass_143 : decode cX6_pass 143 = .ok (.isub, 1) := by decide +kernel
theorem dX6_pass_144 : decode cX6_pass 144 = .ok (.iastore, 1) := by decide +kernel
theorem dX6_pass_145 : decode cX6_pass 145 = .ok (.aload_n 3, 1) := by decide +kernel
theorem dX6_pass_146 : decode cX6_pass 146 = .ok (.getfield 107, 3) := by decide +kernel
theorem dX6_pass_149 : decode cX6_pass 149 = .ok (.iload_n 1, 1) := by decide +kernel
theorem dX6_pass_150 : decode cX6_pass 150 = .ok (.sipush 999, 3) := by decide +kernel
theorem dX6_pass_153 : decode cX6_pass 153 = .ok (.aload_n 3, 1) := by decide +kernel
theorem dX6_pass_154 : decode cX6_pass 154 = .ok (.getfield 107, 3) := by decide +kernel
theorem dX6_pass_157 : decode cX6_pass 157 = .ok (.iload_n 1, 1) := by decide +kernel
theorem dX6_pass_158 : decode cX6_pass 158 = .ok (.iaload, 1) := by decide +kernel
theorem dX6_pass_159 : decode cX6_pass 159 = .ok (.iload 7, 2) := by decide +kernel
theorem dX6_pass_161 : decode cX6_pass 161 = .ok (.iadd, 1) := by decide +kernel
theorem dX6_pass_162 : decode cX6_pass 162 = .ok (.invokestatic 199, 3) := by decide +kernel
theorem dX6_pass_165 : decode cX6_pass 165 = .ok (.iastore, 1) := by decide +kernel
theorem dX6_pass_166 : decode cX6_pass 166 = .ok (.aload_n 3, 1) := by decide +kernel
theorem dX6_pass_167 : decode cX6_pass 167 = .ok (.iconst 4, 1) := by decide +kernel
theorem dX6_pass_168 : decode cX6_pass 168 = .ok (.iload_n 2, 1) := by decide +kernel
theorem dX6_pass_169 : decode cX6_pass 169 = .ok (.iload 7, 2) := by decide +kernel
theorem dX6_pass_171 : decode cX6_pass 171 = .ok (.invokevirtual 205, 3) := by decide +kernel
theorem dX6_pass_174 : decode cX6_pass 174 = .ok (.iload 7, 2) := by decide +kernel
theorem dX6_pass_176 : decode cX6_pass 176 = .ok (.ireturn, 1) := by decide +kernel
theorem dX6_day_0 : decode cX6_day 0 = .ok (.iload_n 1, 1) := by decide +kernel
theorem dX6_day_1 : decode cX6_day 1 = .ok (.iconst 1, 1) := by decide +kernel
theorem dX6_day_2 : decode cX6_day 2 = .ok (.bipush 60, 2) := by decide +kernel
theorem dX6_day_4 : decode cX6_day 4 = .ok (.invokestatic 75, 3) := by decide +kernel
theorem dX6_day_7 : decode cX6_day 7 = .ok (.ifCond .eq 21, 3) := by decide +kernel
theorem dX6_day_10 : decode cX6_day 10 = .ok (.aload_n 0, 1) := by decide +kernel
theorem dX6_day_11 : decode cX6_day 11 = .ok (.getfield 12, 3) := by decide +kernel
theorem dX6_day_14 : decode cX6_day 14 = .ok (.getfield 104, 3) := by decide +kernel
theorem dX6_day_17 : decode cX6_day 17 = .ok (.getfield 209, 3) := by decide +kernel
theorem dX6_day_20 : decode cX6_day 20 = .ok (.iload_n 1, 1) := by decide +kernel
theorem dX6_day_21 : decode cX6_day 21 = .ok (.iadd, 1) := by decide +kernel
theorem dX6_day_22 : decode cX6_day 22 = .ok (.sipush 9999, 3) := by decide +kernel
theorem dX6_day_25 : decode cX6_day 25 = .ok (.if_icmp .le 5, 3) := by decide +kernel
theorem dX6_day_28 : decode cX6_day 28 = .ok (.iconst (-1), 1) := by decide +kernel
theorem dX6_day_29 : decode cX6_day 29 = .ok (.ireturn, 1) := by decide +kernel
theorem dX6_day_30 : decode cX6_day 30 = .ok (.aload_n 0, 1) := by decide +kernel
theorem dX6_day_31 : decode cX6_day 31 = .ok (.iload_n 1, 1) := by decide +kernel
theorem dX6_day_32 : decode cX6_day 32 = .ok (.invokevirtual 212, 3) := by decide +kernel
theorem dX6_day_35 : decode cX6_day 35 = .ok (.pop, 1) := by decide +kernel
theorem dX6_day_36 : decode cX6_day 36 = .ok (.aload_n 0, 1) := by decide +kernel
theorem dX6_day_37 : decode cX6_day 37 = .ok (.getfield 12, 3) := by decide +kernel
theorem dX6_day_40 : decode cX6_day 40 = .ok (.getfield 104, 3) := by decide +kernel
theorem dX6_day_43 : decode cX6_day 43 = .ok (.getfield 187, 3) := by decide +kernel
theorem dX6_day_46 : decode cX6_day 46 = .ok (.ireturn, 1) := by decide +kernel
theorem dX6_played_0 : decode cX6_played 0 = .ok (.aload_n 0, 1) := by decide +kernel
theorem dX6_played_1 : decode cX6_played 1 = .ok (.iload_n 1, 1) := by decide +kernel
theorem dX6_played_2 : decode cX6_played 2 = .ok (.invokevirtual 159, 3) := by decide +kernel
theorem dX6_played_5 : decode cX6_played 5 = .ok (.ifCond .ne 6, 3) := by decide +kernel
theorem dX6_played_8 : decode cX6_played 8 = .ok (.bipush (-2), 2) := by decide +kernel
theorem dX6_played_10 : decode cX6_played 10 = .ok (.ireturn, 1) := by decide +kernel
theorem dX6_played_11 : decode cX6_played 11 = .ok (.aload_n 0, 1) := by decide +kernel
theorem dX6_played_12 : decode cX6_played 12 = .ok (.getfield 21, 3) := by decide +kernel
theorem dX6_played_15 : decode cX6_played 15 = .ok (.iload_n 1, 1) := by decide +kernel
theorem dX6_played_16 : decode cX6_played 16 = .ok (.aaload, 1) := by decide +kernel
theorem dX6_played_17 : decode cX6_played 17 = .ok (.astore_n 2, 1) := by decide +kernel
theorem dX6_played_18 : decode cX6_played 18 = .ok (.iconst 0, 1) := by decide +kernel
theorem dX6_played_19 : decode cX6_played 19 = .ok (.istore_n 3, 1) := by decide +kernel
theorem dX6_played_20 : decode cX6_played 20 = .ok (.iload_n 3, 1) := by decide +kernel
theorem dX6_played_21 : decode cX6_played 21 = .ok (.aload_n 2, 1) := by decide +kernel
theorem dX6_played_22 : decode cX6_played 22 = .ok (.getfield 215, 3) := by decide +kernel
theorem dX6_played_25 : decode cX6_played 25 = .ok (.if_icmp .ge 42, 3) := by decide +kernel
theorem dX6_played_28 : decode cX6_played 28 = .ok (.iload_n 3, 1) := by decide +kernel
theorem dX6_played_29 : decode cX6_played 29 = .ok (.bipush 24, 2) := by decide +kernel
theorem dX6_played_31 : decode cX6_played 31 = .ok (.if_icmp .ge 36, 3) := by decide +kernel
theorem dX6_played_34 : decode cX6_played 34 = .ok (.aload_n 0, 1) := by decide +kernel
theorem dX6_played_35 : decode cX6_played 35 = .ok (.aload_n 2, 1) := by decide +kernel
theorem dX6_played_36 : decode cX6_played 36 = .ok (.getfield 218, 3) := by decide +kernel
theorem dX6_played_39 : decode cX6_played 39 = .ok (.iload_n 3, 1) := by decide +kernel
theorem dX6_played_40 : decode cX6_played 40 = .ok (.iaload, 1) := by decide +kernel
theorem dX6_played_41 : decode cX6_played 41 = .ok (.aload_n 2, 1) := by decide +kernel
theorem dX6_played_42 : decode cX6_played 42 = .ok (.getfield 221, 3) := by decide +kernel
theorem dX6_played_45 : decode cX6_played 45 = .ok (.iload_n 3, 1) := by decide +kernel
theorem dX6_played_46 : decode cX6_played 46 = .ok (.iaload, 1) := by decide +kernel
theorem dX6_played_47 : decode cX6_played 47 = .ok (.aload_n 2, 1) := by decide +kernel
theorem dX6_played_48 : decode cX6_played 48 = .ok (.getfield 224, 3) := by decide +kernel
theorem dX6_played_51 : decode cX6_played 51 = .ok (.iload_n 3, 1) := by decide +kernel
theorem dX6_played_52 : decode cX6_played 52 = .ok (.iaload, 1) := by decide +kernel
theorem dX6_played_53 : decode cX6_played 53 = .ok (.invokevirtual 227, 3) := by decide +kernel
theorem dX6_played_56 : decode cX6_played 56 = .ok (.ifCond .ne 5, 3) := by decide +kernel
theorem dX6_played_59 : decode cX6_played 59 = .ok (.iload_n 3, 1) := by decide +kernel
theorem dX6_played_60 : decode cX6_played 60 = .ok (.ireturn, 1) := by decide +kernel
theorem dX6_played_61 : decode cX6_played 61 = .ok (.iinc 3 1, 3) := by decide +kernel
theorem dX6_played_64 : decode cX6_played 64 = .ok (.goto (-44), 3) := by decide +kernel
theorem dX6_played_67 : decode cX6_played 67 = .ok (.iconst (-1), 1) := by decide +kernel
theorem dX6_played_68 : decode cX6_played 68 = .ok (.ireturn, 1) := by decide +kernel
theorem dX6_play_0 : decode cX6_play 0 = .ok (.iload_n 1, 1) := by decide +kernel
theorem dX6_play_1 : decode cX6_play 1 = .ok (.tableswitch 131 2 9 #[47, 131, 67, 131, 98, 113, 119, 125], 47) := by decide +kernel
theorem dX6_play_48 : decode cX6_play 48 = .ok (.aload_n 0, 1) := by decide +kernel
theorem dX6_play_49 : decode cX6_play 49 = .ok (.bipush 31, 2) := by decide +kernel
theorem dX6_play_51 : decode cX6_play 51 = .ok (.iload_n 2, 1) := by decide +kernel
theorem dX6_play_52 : decode cX6_play 52 = .ok (.iload_n 3, 1) := by decide +kernel
theorem dX6_play_53 : decode cX6_play 53 = .ok (.bipush 50, 2) := by decide +kernel
theorem dX6_play_55 : decode cX6_play 55 = .ok (.invokevirtual 230, 3) := by decide +kernel
theorem dX6_play_58 : decode cX6_play 58 = .ok (.iconst (-1), 1) := by decide +kernel
theorem dX6_play_59 : decode cX6_play 59 = .ok (.if_icmp .eq 7, 3) := by decide +kernel
theorem dX6_play_62 : decode cX6_play 62 = .ok (.iconst 1, 1) := by decide +kernel
theorem dX6_play_63 : decode cX6_play 63 = .ok (.goto 4, 3) := by decide +kernel
theorem dX6_play_66 : decode cX6_play 66 = .ok (.iconst 0, 1) := by decide +kernel
theorem dX6_play_67 : decode cX6_play 67 = .ok (.ireturn, 1) := by decide +kernel
theorem dX6_play_68 : decode cX6_play 68 = .ok (.iload_n 2, 1) := by decide +kernel
theorem dX6_play_69 : decode cX6_play 69 = .ok (.invokestatic 71, 3) := by decide +kernel
theorem dX6_play_72 : decode cX6_play 72 = .ok (.ifCond .eq 25, 3) := by decide +kernel
theorem dX6_play_75 : decode cX6_play 75 = .ok (.aload_n 0, 1) := by decide +kernel
theorem dX6_play_76 : decode cX6_play 76 = .ok (.iload_n 2, 1) := by decide +kernel
theorem dX6_play_77 : decode cX6_play 77 = .ok (.iload_n 3, 1) := by decide +kernel
theorem dX6_play_78 : decode cX6_play 78 = .ok (.aload_n 0, 1) := by decide +kernel
theorem dX6_play_79 : decode cX6_play 79 = .ok (.getfield 12, 3) := by decide +kernel
theorem dX6_play_82 : decode cX6_play 82 = .ok (.getfield 82, 3) := by decide +kernel
theorem dX6_play_85 : decode cX6_play 85 = .ok (.iload_n 2, 1) := by decide +kernel
theorem dX6_play_86 : decode cX6_play 86 = .ok (.iaload, 1) := by decide +kernel
theorem dX6_play_87 : decode cX6_play 87 = .ok (.invokevirtual 234, 3) := by decide +kernel
theorem dX6_play_90 : decode cX6_play 90 = .ok (.ifCond .eq 7, 3) := by decide +kernel
theorem dX6_play_93 : decode cX6_play 93 = .ok (.iconst 1, 1) := by decide +kernel
theorem dX6_play_94 : decode cX6_play 94 = .ok (.goto 4, 3) := by decide +kernel
theorem dX6_play_97 : decode cX6_play 97 = .ok (.iconst 0, 1) := by decide +kernel
theorem dX6_play_98 : decode cX6_play 98 = .ok (.ireturn, 1) := by decide +kernel
theorem dX6_play_99 : decode cX6_play 99 = .ok (.aload_n 0, 1) := by decide +kernel
theorem dX6_play_100 : decode cX6_play 100 = .ok (.iload_n 2, 1) := by decide +kernel
theorem dX6_play_101 : decode cX6_play 101 = .ok (.invokevirtual 236, 3) := by decide +kernel
theorem dX6_play_104 : decode cX6_play 104 = .ok (.iconst (-1), 1) := by decide +kernel
theorem dX6_play_105 : decode cX6_play 105 = .ok (.if_icmp .eq 7, 3) := by decide +kernel
theorem dX6_play_108 : decode cX6_play 108 = .ok (.iconst 1, 1) := by decide +kernel
theorem dX6_play_109 : decode cX6_play 109 = .ok (.goto 4, 3) := by decide +kernel
theorem dX6_play_112 : decode cX6_play 112 = .ok (.iconst 0, 1) := by decide +kernel
theorem dX6_play_113 : decode cX6_play 113 = .ok (.ireturn, 1) := by decide +kernel
theorem dX6_play_114 : decode cX6_play 114 = .ok (.aload_n 0, 1) := by decide +kernel
theorem dX6_play_115 : decode cX6_play 115 = .ok (.iload_n 2, 1) := by decide +kernel
theorem dX6_play_116 : decode cX6_play 116 = .ok (.invokevirtual 239, 3) := by decide +kernel
theorem dX6_play_119 : decode cX6_play 119 = .ok (.ireturn, 1) := by decide +kernel
theorem dX6_play_120 : decode cX6_play 120 = .ok (.aload_n 0, 1) := by decide +kernel
theorem dX6_play_121 : decode cX6_play 121 = .ok (.iload_n 2, 1) := by decide +kernel
theorem dX6_play_122 : decode cX6_play 122 = .ok (.invokevirtual 242, 3) := by decide +kernel
theorem dX6_play_125 : decode cX6_play 125 = .ok (.ireturn, 1) := by decide +kernel
theorem dX6_play_126 : decode cX6_play 126 = .ok (.aload_n 0, 1) := by decide +kernel
theorem dX6_play_127 : decode cX6_play 127 = .ok (.iload_n 2, 1) := by decide +kernel
theorem dX6_play_128 : decode cX6_play 128 = .ok (.invokevirtual 212, 3) := by decide +kernel
theorem dX6_play_131 : decode cX6_play 131 = .ok (.ireturn, 1) := by decide +kernel
theorem dX6_play_132 : decode cX6_play 132 = .ok (.iconst 1, 1) := by decide +kernel
theorem dX6_play_133 : decode cX6_play 133 = .ok (.ireturn, 1) := by decide +kernel
theorem dX6_years_0 : decode cX6_years 0 = .ok (.iload_n 1, 1) := by decide +kernel
theorem dX6_years_1 : decode cX6_years 1 = .ok (.iconst 0, 1) := by decide +kernel
theorem dX6_years_2 : decode cX6_years 2 = .ok (.sipush 9999, 3) := by decide +kernel
theorem dX6_years_5 : decode cX6_years 5 = .ok (.invokestatic 75, 3) := by decide +kernel
theorem dX6_years_8 : decode cX6_years 8 = .ok (.ifCond .eq 13, 3) := by decide +kernel
theorem dX6_years_11 : decode cX6_years 11 = .ok (.iload_n 2, 1) := by decide +kernel
theorem dX6_years_12 : decode cX6_years 12 = .ok (.iconst 1, 1) := by decide +kernel
theorem dX6_years_13 : decode cX6_years 13 = .ok (.bipush 40, 2) := by decide +kernel
theorem dX6_years_15 : decode cX6_years 15 = .ok (.invokestatic 75, 3) := by decide +kernel
theorem dX6_years_18 : decode cX6_years 18 = .ok (.ifCond .ne 5, 3) := by decide +kernel
theorem dX6_years_21 : decode cX6_years 21 = .ok (.iconst (-1), 1) := by decide +kernel
theorem dX6_years_22 : decode cX6_years 22 = .ok (.ireturn, 1) := by decide +kernel
theorem dX6_years_23 : decode cX6_years 23 = .ok (.aload_n 0, 1) := by decide +kernel
theorem dX6_years_24 : decode cX6_years 24 = .ok (.invokevirtual 168, 3) := by decide +kernel
theorem dX6_years_27 : decode cX6_years 27 = .ok (.aload_n 0, 1) := by decide +kernel
theorem dX6_years_28 : decode cX6_years 28 = .ok (.getfield 12, 3) := by decide +kernel
theorem dX6_years_31 : decode cX6_years 31 = .ok (.getfield 104, 3) := by decide +kernel
theorem dX6_years_34 : decode cX6_years 34 = .ok (.astore_n 3, 1) := by decide +kernel
theorem dX6_years_35 : decode cX6_years 35 = .ok (.aload_n 3, 1) := by decide +kernel
theorem dX6_years_36 : decode cX6_years 36 = .ok (.iload_n 1, 1) := by decide +kernel
theorem dX6_years_37 : decode cX6_years 37 = .ok (.iconst 2, 1) := by decide +kernel
theorem dX6_years_38 : decode cX6_years 38 = .ok (.imul, 1) := by decide +kernel
theorem dX6_years_39 : decode cX6_years 39 = .ok (.sipush 457, 3) := by decide +kernel
theorem dX6_years_42 : decode cX6_years 42 = .ok (.iadd, 1) := by decide +kernel
theorem dX6_years_43 : decode cX6_years 43 = .ok (.putfield 245, 3) := by decide +kernel
theorem dX6_years_46 : decode cX6_years 46 = .ok (.iconst 0, 1) := by decide +kernel
theorem dX6_years_47 : decode cX6_years 47 = .ok (.istore 4, 2) := by decide +kernel
theorem dX6_years_49 : decode cX6_years 49 = .ok (.iload 4, 2) := by decide +kernel
theorem dX6_years_51 : decode cX6_years 51 = .ok (.iload_n 2, 1) := by decide +kernel
theorem dX6_years_52 : decode cX6_years 52 = .ok (.if_icmp .ge 30, 3) := by decide +kernel
theorem dX6_years_55 : decode cX6_years 55 = .ok (.aload_n 3, 1) := by decide +kernel
theorem dX6_years_56 : decode cX6_years 56 = .ok (.getfield 245, 3) := by decide +kernel
theorem dX6_years_59 : decode cX6_years 59 = .ok (.istore 5, 2) := by decide +kernel
theorem dX6_years_61 : decode cX6_years 61 = .ok (.aload_n 3, 1) := by decide +kernel
theorem dX6_years_62 : decode cX6_years 62 = .ok (.iload 5, 2) := by decide +kernel
theorem dX6_years_64 : decode cX6_years 64 = .ok (.invokestatic 248, 3) := by decide +kernel
theorem dX6_years_67 : decode cX6_years 67 = .ok (.putfield 245, 3) := by decide +kernel
theorem dX6_years_70 : decode cX6_years 70 = .ok (.aload_n 0, 1) := by decide +kernel
theorem dX6_years_71 : decode cX6_years 71 = .ok (.iload 5, 2) := by decide +kernel
theorem dX6_years_73 : decode cX6_years 73 = .ok (.invokevirtual 251, 3) := by decide +kernel
theorem dX6_years_76 : decode cX6_years 76 = .ok (.iinc 4 1, 3) := by decide +kernel
theorem dX6_years_79 : decode cX6_years 79 = .ok (.goto (-30), 3) := by decide +kernel
theorem dX6_years_82 : decode cX6_years 82 = .ok (.aload_n 3, 1) := by decide +kernel
theorem dX6_years_83 : decode cX6_years 83 = .ok (.getfield 209, 3) := by decide +kernel
theorem dX6_years_86 : decode cX6_years 86 = .ok (.ireturn, 1) := by decide +kernel
theorem dX6_yearly_0 : decode cX6_yearly 0 = .ok (.iload_n 1, 1) := by decide +kernel
theorem dX6_yearly_1 : decode cX6_yearly 1 = .ok (.bipush 6, 2) := by decide +kernel
theorem dX6_yearly_3 : decode cX6_yearly 3 = .ok (.idiv, 1) := by decide +kernel
theorem dX6_yearly_4 : decode cX6_yearly 4 = .ok (.bipush 6, 2) := by decide +kernel
theorem dX6_yearly_6 : decode cX6_yearly 6 = .ok (.irem, 1) := by decide +kernel
theorem dX6_yearly_7 : decode cX6_yearly 7 = .ok (.istore_n 2, 1) := by decide +kernel
theorem dX6_yearly_8 : decode cX6_yearly 8 = .ok (.iload_n 1, 1) := by decide +kernel
theorem dX6_yearly_9 : decode cX6_yearly 9 = .ok (.bipush 6, 2) := by decide +kernel
theorem dX6_yearly_11 : decode cX6_yearly 11 = .ok (.irem, 1) := by decide +kernel
theorem dX6_yearly_12 : decode cX6_yearly 12 = .ok (.tableswitch 107 0 3 #[32, 32, 52, 84], 32) := by decide +kernel
theorem dX6_yearly_44 : decode cX6_yearly 44 = .ok (.aload_n 0, 1) := by decide +kernel
theorem dX6_yearly_45 : decode cX6_yearly 45 = .ok (.iload_n 2, 1) := by decide +kernel
theorem dX6_yearly_46 : decode cX6_yearly 46 = .ok (.invokevirtual 165, 3) := by decide +kernel
theorem dX6_yearly_49 : decode cX6_yearly 49 = .ok (.istore_n 3, 1) := by decide +kernel
theorem dX6_yearly_50 : decode cX6_yearly 50 = .ok (.iload_n 3, 1) := by decide +kernel
theorem dX6_yearly_51 : decode cX6_yearly 51 = .ok (.iconst (-1), 1) := by decide +kernel
theorem dX6_yearly_52 : decode cX6_yearly 52 = .ok (.if_icmp .eq 94, 3) := by decide +kernel
theorem dX6_yearly_55 : decode cX6_yearly 55 = .ok (.aload_n 0, 1) := by decide +kernel
theorem dX6_yearly_56 : decode cX6_yearly 56 = .ok (.iload_n 2, 1) := by decide +kernel
theorem dX6_yearly_57 : decode cX6_yearly 57 = .ok (.iload_n 3, 1) := by decide +kernel
theorem dX6_yearly_58 : decode cX6_yearly 58 = .ok (.invokevirtual 171, 3) := by decide +kernel
theorem dX6_yearly_61 : decode cX6_yearly 61 = .ok (.goto 85, 3) := by decide +kernel
theorem dX6_yearly_64 : decode cX6_yearly 64 = .ok (.iload_n 1, 1) := by decide +kernel
theorem dX6_yearly_65 : decode cX6_yearly 65 = .ok (.bipush 6, 2) := by decide +kernel
theorem dX6_yearly_67 : decode cX6_yearly 67 = .ok (.idiv, 1) := by decide +kernel
theorem dX6_yearly_68 : decode cX6_yearly 68 = .ok (.iconst 3, 1) := by decide +kernel
theorem dX6_yearly_69 : decode cX6_yearly 69 = .ok (.irem, 1) := by decide +kernel
theorem dX6_yearly_70 : decode cX6_yearly 70 = .ok (.iconst 1, 1) := by decide +kernel
theorem dX6_yearly_71 : decode cX6_yearly 71 = .ok (.if_icmp .ne 75, 3) := by decide +kernel
theorem dX6_yearly_74 : decode cX6_yearly 74 = .ok (.aload_n 0, 1) := by decide +kernel
theorem dX6_yearly_75 : decode cX6_yearly 75 = .ok (.iload_n 1, 1) := by decide +kernel
theorem dX6_yearly_76 : decode cX6_yearly 76 = .ok (.bipush 12, 2) := by decide +kernel
theorem dX6_yearly_78 : decode cX6_yearly 78 = .ok (.irem, 1) := by decide +kernel
theorem dX6_yearly_79 : decode cX6_yearly 79 = .ok (.invokevirtual 175, 3) := by decide +kernel
theorem dX6_yearly_82 : decode cX6_yearly 82 = .ok (.ifCond .eq 64, 3) := by decide +kernel
theorem dX6_yearly_85 : decode cX6_yearly 85 = .ok (.aload_n 0, 1) := by decide +kernel
theorem dX6_yearly_86 : decode cX6_yearly 86 = .ok (.iload_n 1, 1) := by decide +kernel
theorem dX6_yearly_87 : decode cX6_yearly 87 = .ok (.bipush 12, 2) := by decide +kernel
theorem dX6_yearly_89 : decode cX6_yearly 89 = .ok (.irem, 1) := by decide +kernel
theorem dX6_yearly_90 : decode cX6_yearly 90 = .ok (.invokevirtual 178, 3) := by decide +kernel
theorem dX6_yearly_93 : decode cX6_yearly 93 = .ok (.goto 53, 3) := by decide +kernel
theorem dX6_yearly_96 : decode cX6_yearly 96 = .ok (.iload_n 1, 1) := by decide +kernel
theorem dX6_yearly_97 : decode cX6_yearly 97 = .ok (.iconst 4, 1) := by decide +kernel
theorem dX6_yearly_98 : decode cX6_yearly 98 = .ok (.irem, 1) := by decide +kernel
theorem dX6_yearly_99 : decode cX6_yearly 99 = .ok (.iconst 3, 1) := by decide +kernel
theorem dX6_yearly_100 : decode cX6_yearly 100 = .ok (.if_icmp .ne 46, 3) := by decide +kernel
theorem dX6_yearly_103 : decode cX6_yearly 103 = .ok (.aload_n 0, 1) := by decide +kernel
theorem dX6_yearly_104 : decode cX6_yearly 104 = .ok (.iload_n 2, 1) := by decide +kernel
theorem dX6_yearly_105 : decode cX6_yearly 105 = .ok (.invokevirtual 181, 3) := by decide +kernel
theorem dX6_yearly_108 : decode cX6_yearly 108 = .ok (.ifCond .eq 38, 3) := by decide +kernel
theorem dX6_yearly_111 : decode cX6_yearly 111 = .ok (.aload_n 0, 1) := by decide +kernel
theorem dX6_yearly_112 : decode cX6_yearly 112 = .ok (.iload_n 2, 1) := by decide +kernel
theorem dX6_yearly_113 : decode cX6_yearly 113 = .ok (.invokevirtual 184, 3) := by decide +kernel
theorem dX6_yearly_116 : decode cX6_yearly 116 = .ok (.goto 30, 3) := by decide +kernel
theorem dX6_yearly_119 : decode cX6_yearly 119 = .ok (.aload_n 0, 1) := by decide +kernel
theorem dX6_yearly_120 : decode cX6_yearly 120 = .ok (.getfield 12, 3) := by decide +kernel
theorem dX6_yearly_123 : decode cX6_yearly 123 = .ok (.getfield 104, 3) := by decide +kernel
theorem dX6_yearly_126 : decode cX6_yearly 126 = .ok (.getfield 209, 3) := by decide +kernel
theorem dX6_yearly_129 : decode cX6_yearly 129 = .ok (.sipush 9999, 3) := by decide +kernel
theorem dX6_yearly_132 : decode cX6_yearly 132 = .ok (.if_icmp .ge 14, 3) := by decide +kernel
theorem dX6_yearly_135 : decode cX6_yearly 135 = .ok (.aload_n 0, 1) := by decide +kernel
theorem dX6_yearly_136 : decode cX6_yearly 136 = .ok (.aload_n 0, 1) := by decide +kernel
theorem dX6_yearly_137 : decode cX6_yearly 137 = .ok (.getfield 12, 3) := by decide +kernel
theorem dX6_yearly_140 : decode cX6_yearly 140 = .ok (.getfield 104, 3) := by decide +kernel
theorem dX6_yearly_143 : decode cX6_yearly 143 = .ok (.invokevirtual 254, 3) := by decide +kernel
theorem dX6_yearly_146 : decode cX6_yearly 146 = .ok (.return_, 1) := by decide +kernel
theorem dX6_sellTo_0 : decode cX6_sellTo 0 = .ok (.aload_n 0, 1) := by decide +kernel
theorem dX6_sellTo_1 : decode cX6_sellTo 1 = .ok (.getfield 12, 3) := by decide +kernel
theorem dX6_sellTo_4 : decode cX6_sellTo 4 = .ok (.getfield 104, 3) := by decide +kernel
theorem dX6_sellTo_7 : decode cX6_sellTo 7 = .ok (.astore_n 3, 1) := by decide +kernel
theorem dX6_sellTo_8 : decode cX6_sellTo 8 = .ok (.aload_n 3, 1) := by decide +kernel
theorem dX6_sellTo_9 : decode cX6_sellTo 9 = .ok (.getfield 110, 3) := by decide +kernel
theorem dX6_sellTo_12 : decode cX6_sellTo 12 = .ok (.iload_n 1, 1) := by decide +kernel
theorem dX6_sellTo_13 : decode cX6_sellTo 13 = .ok (.aload_n 0, 1) := by decide +kernel
theorem dX6_sellTo_14 : decode cX6_sellTo 14 = .ok (.getfield 12, 3) := by decide +kernel
theorem dX6_sellTo_17 : decode cX6_sellTo 17 = .ok (.iload_n 1, 1) := by decide +kernel
theorem dX6_sellTo_18 : decode cX6_sellTo 18 = .ok (.invokevirtual 193, 3) := by decide +kernel
theorem dX6_sellTo_21 : decode cX6_sellTo 21 = .ok (.iastore, 1) := by decide +kernel
theorem dX6_sellTo_22 : decode cX6_sellTo 22 = .ok (.aload_n 3, 1) := by decide +kernel
theorem dX6_sellTo_23 : decode cX6_sellTo 23 = .ok (.dup, 1) := by decide +kernel
theorem dX6_sellTo_24 : decode cX6_sellTo 24 = .ok (.getfield 258, 3) := by decide +kernel
theorem dX6_sellTo_27 : decode cX6_sellTo 27 = .ok (.aload_n 0, 1) := by decide +kernel
theorem dX6_sellTo_28 : decode cX6_sellTo 28 = .ok (.getfield 12, 3) := by decide +kernel
theorem dX6_sellTo_31 : decode cX6_sellTo 31 = .ok (.iload_n 1, 1) := by decide +kernel
theorem dX6_sellTo_32 : decode cX6_sellTo 32 = .ok (.invokevirtual 193, 3) := by decide +kernel
theorem dX6_sellTo_35 : decode cX6_sellTo 35 = .ok (.iconst (-1), 1) := by decide +kernel
theorem dX6_sellTo_36 : decode cX6_sellTo 36 = .ok (.ixor, 1) := by decide +kernel
theorem dX6_sellTo_37 : decode cX6_sellTo 37 = .ok (.iand, 1) := by decide +kernel
theorem dX6_sellTo_38 : decode cX6_sellTo 38 = .ok (.putfield 258, 3) := by decide +kernel
theorem dX6_sellTo_41 : decode cX6_sellTo 41 = .ok (.aload_n 3, 1) := by decide +kernel
theorem dX6_sellTo_42 : decode cX6_sellTo 42 = .ok (.getfield 107, 3) := by decide +kernel
theorem dX6_sellTo_45 : decode cX6_sellTo 45 = .ok (.iload_n 1, 1) := by decide +kernel
theorem dX6_sellTo_46 : decode cX6_sellTo 46 = .ok (.dup2, 1) := by decide +kernel
theorem dX6_sellTo_47 : decode cX6_sellTo 47 = .ok (.iaload, 1) := by decide +kernel
theorem dX6_sellTo_48 : decode cX6_sellTo 48 = .ok (.iload_n 2, 1) := by decide +kernel
theorem dX6_sellTo_49 : decode cX6_sellTo 49 = .ok (.isub, 1) := by decide +kernel
theorem dX6_sellTo_50 : decode cX6_sellTo 50 = .ok (.iastore, 1) := by decide +kernel
theorem dX6_sellTo_51 : decode cX6_sellTo 51 = .ok (.aload_n 3, 1) := by decide +kernel
theorem dX6_sellTo_52 : decode cX6_sellTo 52 = .ok (.ldc_w 261, 3) := by decide +kernel
theorem dX6_sellTo_55 : decode cX6_sellTo 55 = .ok (.aload_n 3, 1) := by decide +kernel
theorem dX6_sellTo_56 : decode cX6_sellTo 56 = .ok (.getfield 262, 3) := by decide +kernel
theorem dX6_sellTo_59 : decode cX6_sellTo 59 = .ok (.iload_n 2, 1) := by decide +kernel
theorem dX6_sellTo_60 : decode cX6_sellTo 60 = .ok (.iadd, 1) := by decide +kernel
theorem dX6_sellTo_61 : decode cX6_sellTo 61 = .ok (.invokestatic 199, 3) := by decide +kernel
theorem dX6_sellTo_64 : decode cX6_sellTo 64 = .ok (.putfield 262, 3) := by decide +kernel
theorem dX6_sellTo_67 : decode cX6_sellTo 67 = .ok (.aload_n 3, 1) := by decide +kernel
theorem dX6_sellTo_68 : decode cX6_sellTo 68 = .ok (.iconst 0, 1) := by decide +kernel
theorem dX6_sellTo_69 : decode cX6_sellTo 69 = .ok (.iload_n 1, 1) := by decide +kernel
theorem dX6_sellTo_70 : decode cX6_sellTo 70 = .ok (.iload_n 2, 1) := by decide +kernel
theorem dX6_sellTo_71 : decode cX6_sellTo 71 = .ok (.invokevirtual 205, 3) := by decide +kernel
theorem dX6_sellTo_74 : decode cX6_sellTo 74 = .ok (.return_, 1) := by decide +kernel
theorem dX6_giveAway_0 : decode cX6_giveAway 0 = .ok (.aload_n 0, 1) := by decide +kernel
theorem dX6_giveAway_1 : decode cX6_giveAway 1 = .ok (.getfield 12, 3) := by decide +kernel
theorem dX6_giveAway_4 : decode cX6_giveAway 4 = .ok (.getfield 104, 3) := by decide +kernel
theorem dX6_giveAway_7 : decode cX6_giveAway 7 = .ok (.dup, 1) := by decide +kernel
theorem dX6_giveAway_8 : decode cX6_giveAway 8 = .ok (.getfield 258, 3) := by decide +kernel
theorem dX6_giveAway_11 : decode cX6_giveAway 11 = .ok (.iconst 1, 1) := by decide +kernel
theorem dX6_giveAway_12 : decode cX6_giveAway 12 = .ok (.iload_n 1, 1) := by decide +kernel
theorem dX6_giveAway_13 : decode cX6_giveAway 13 = .ok (.ishl, 1) := by decide +kernel
theorem dX6_giveAway_14 : decode cX6_giveAway 14 = .ok (.iconst (-1), 1) := by decide +kernel
theorem dX6_giveAway_15 : decode cX6_giveAway 15 = .ok (.ixor, 1) := by decide +kernel
theorem dX6_giveAway_16 : decode cX6_giveAway 16 = .ok (.iand, 1) := by decide +kernel
theorem dX6_giveAway_17 : decode cX6_giveAway 17 = .ok (.putfield 258, 3) := by decide +kernel
theorem dX6_giveAway_20 : decode cX6_giveAway 20 = .ok (.aload_n 0, 1) := by decide +kernel
theorem dX6_giveAway_21 : decode cX6_giveAway 21 = .ok (.getfield 12, 3) := by decide +kernel
theorem dX6_giveAway_24 : decode cX6_giveAway 24 = .ok (.getfield 104, 3) := by decide +kernel
theorem dX6_giveAway_27 : decode cX6_giveAway 27 = .ok (.iconst 1, 1) := by decide +kernel
theorem dX6_giveAway_28 : decode cX6_giveAway 28 = .ok (.iload_n 1, 1) := by decide +kernel
theorem dX6_giveAway_29 : decode cX6_giveAway 29 = .ok (.iconst 0, 1) := by decide +kernel
theorem dX6_giveAway_30 : decode cX6_giveAway 30 = .ok (.invokevirtual 205, 3) := by decide +kernel
theorem dX6_giveAway_33 : decode cX6_giveAway 33 = .ok (.return_, 1) := by decide +kernel
theorem dX6_turnAway_0 : decode cX6_turnAway 0 = .ok (.aload_n 0, 1) := by decide +kernel
theorem dX6_turnAway_1 : decode cX6_turnAway 1 = .ok (.getfield 12, 3) := by decide +kernel
theorem dX6_turnAway_4 : decode cX6_turnAway 4 = .ok (.getfield 104, 3) := by decide +kernel
theorem dX6_turnAway_7 : decode cX6_turnAway 7 = .ok (.dup, 1) := by decide +kernel
theorem dX6_turnAway_8 : decode cX6_turnAway 8 = .ok (.getfield 258, 3) := by decide +kernel
theorem dX6_turnAway_11 : decode cX6_turnAway 11 = .ok (.aload_n 0, 1) := by decide +kernel
theorem dX6_turnAway_12 : decode cX6_turnAway 12 = .ok (.getfield 12, 3) := by decide +kernel
theorem dX6_turnAway_15 : decode cX6_turnAway 15 = .ok (.getfield 104, 3) := by decide +kernel
theorem dX6_turnAway_18 : decode cX6_turnAway 18 = .ok (.getfield 110, 3) := by decide +kernel
theorem dX6_turnAway_21 : decode cX6_turnAway 21 = .ok (.iload_n 1, 1) := by decide +kernel
theorem dX6_turnAway_22 : decode cX6_turnAway 22 = .ok (.iaload, 1) := by decide +kernel
theorem dX6_turnAway_23 : decode cX6_turnAway 23 = .ok (.ior, 1) := by decide +kernel
theorem dX6_turnAway_24 : decode cX6_turnAway 24 = .ok (.putfield 258, 3) := by decide +kernel
theorem dX6_turnAway_27 : decode cX6_turnAway 27 = .ok (.aload_n 0, 1) := by decide +kernel
theorem dX6_turnAway_28 : decode cX6_turnAway 28 = .ok (.getfield 12, 3) := by decide +kernel
theorem dX6_turnAway_31 : decode cX6_turnAway 31 = .ok (.getfield 104, 3) := by decide +kernel
theorem dX6_turnAway_34 : decode cX6_turnAway 34 = .ok (.getfield 110, 3) := by decide +kernel
theorem dX6_turnAway_37 : decode cX6_turnAway 37 = .ok (.iload_n 1, 1) := by decide +kernel
theorem dX6_turnAway_38 : decode cX6_turnAway 38 = .ok (.iconst 0, 1) := by decide +kernel
theorem dX6_turnAway_39 : decode cX6_turnAway 39 = .ok (.iastore, 1) := by decide +kernel
theorem dX6_turnAway_40 : decode cX6_turnAway 40 = .ok (.aload_n 0, 1) := by decide +kernel
theorem dX6_turnAway_41 : decode cX6_turnAway 41 = .ok (.getfield 12, 3) := by decide +kernel
theorem dX6_turnAway_44 : decode cX6_turnAway 44 = .ok (.getfield 104, 3) := by decide +kernel
theorem dX6_turnAway_47 : decode cX6_turnAway 47 = .ok (.iconst 2, 1) := by decide +kernel
theorem dX6_turnAway_48 : decode cX6_turnAway 48 = .ok (.iload_n 1, 1) := by decide +kernel
theorem dX6_turnAway_49 : decode cX6_turnAway 49 = .ok (.iconst 0, 1) := by decide +kernel
theorem dX6_turnAway_50 : decode cX6_turnAway 50 = .ok (.invokevirtual 205, 3) := by decide +kernel
theorem dX6_turnAway_53 : decode cX6_turnAway 53 = .ok (.return_, 1) := by decide +kernel
theorem dX6_passDays_0 : decode cX6_passDays 0 = .ok (.iconst 0, 1) := by decide +kernel
theorem dX6_passDays_1 : decode cX6_passDays 1 = .ok (.istore_n 2, 1) := by decide +kernel
theorem dX6_passDays_2 : decode cX6_passDays 2 = .ok (.iload_n 2, 1) := by decide +kernel
theorem dX6_passDays_3 : decode cX6_passDays 3 = .ok (.iload_n 1, 1) := by decide +kernel
theorem dX6_passDays_4 : decode cX6_passDays 4 = .ok (.if_icmp .ge 42, 3) := by decide +kernel
theorem dX6_passDays_7 : decode cX6_passDays 7 = .ok (.aload_n 0, 1) := by decide +kernel
theorem dX6_passDays_8 : decode cX6_passDays 8 = .ok (.getfield 12, 3) := by decide +kernel
theorem dX6_passDays_11 : decode cX6_passDays 11 = .ok (.getfield 104, 3) := by decide +kernel
theorem dX6_passDays_14 : decode cX6_passDays 14 = .ok (.getfield 209, 3) := by decide +kernel
theorem dX6_passDays_17 : decode cX6_passDays 17 = .ok (.sipush 9999, 3) := by decide +kernel
theorem dX6_passDays_20 : decode cX6_passDays 20 = .ok (.if_icmp .lt 5, 3) := by decide +kernel
theorem dX6_passDays_23 : decode cX6_passDays 23 = .ok (.iconst 0, 1) := by decide +kernel
theorem dX6_passDays_24 : decode cX6_passDays 24 = .ok (.ireturn, 1) := by decide +kernel
theorem dX6_passDays_25 : decode cX6_passDays 25 = .ok (.aload_n 0, 1) := by decide +kernel
theorem dX6_passDays_26 : decode cX6_passDays 26 = .ok (.invokevirtual 168, 3) := by decide +kernel
theorem dX6_passDays_29 : decode cX6_passDays 29 = .ok (.aload_n 0, 1) := by decide +kernel
theorem dX6_passDays_30 : decode cX6_passDays 30 = .ok (.aload_n 0, 1) := by decide +kernel
theorem dX6_passDays_31 : decode cX6_passDays 31 = .ok (.getfield 12, 3) := by decide +kernel
theorem dX6_passDays_34 : decode cX6_passDays 34 = .ok (.getfield 104, 3) := by decide +kernel
theorem dX6_passDays_37 : decode cX6_passDays 37 = .ok (.invokevirtual 254, 3) := by decide +kernel
theorem dX6_passDays_40 : decode cX6_passDays 40 = .ok (.iinc 2 1, 3) := by decide +kernel
theorem dX6_passDays_43 : decode cX6_passDays 43 = .ok (.goto (-41), 3) := by decide +kernel
theorem dX6_passDays_46 : decode cX6_passDays 46 = .ok (.iconst 1, 1) := by decide +kernel
theorem dX6_passDays_47 : decode cX6_passDays 47 = .ok (.ireturn, 1) := by decide +kernel
theorem dX6_dawnComes_0 : decode cX6_dawnComes 0 = .ok (.iconst 0, 1) := by decide +kernel
theorem dX6_dawnComes_1 : decode cX6_dawnComes 1 = .ok (.istore_n 2, 1) := by decide +kernel
theorem dX6_dawnComes_2 : decode cX6_dawnComes 2 = .ok (.iload_n 2, 1) := by decide +kernel
theorem dX6_dawnComes_3 : decode cX6_dawnComes 3 = .ok (.aload_n 0, 1) := by decide +kernel
theorem dX6_dawnComes_4 : decode cX6_dawnComes 4 = .ok (.getfield 12, 3) := by decide +kernel
theorem dX6_dawnComes_7 : decode cX6_dawnComes 7 = .ok (.getfield 89, 3) := by decide +kernel
theorem dX6_dawnComes_10 : decode cX6_dawnComes 10 = .ok (.if_icmp .ge 35, 3) := by decide +kernel
theorem dX6_dawnComes_13 : decode cX6_dawnComes 13 = .ok (.aload_n 1, 1) := by decide +kernel
theorem dX6_dawnComes_14 : decode cX6_dawnComes 14 = .ok (.getfield 107, 3) := by decide +kernel
theorem dX6_dawnComes_17 : decode cX6_dawnComes 17 = .ok (.iload_n 2, 1) := by decide +kernel
theorem dX6_dawnComes_18 : decode cX6_dawnComes 18 = .ok (.aload_n 1, 1) := by decide +kernel
theorem dX6_dawnComes_19 : decode cX6_dawnComes 19 = .ok (.getfield 107, 3) := by decide +kernel
theorem dX6_dawnComes_22 : decode cX6_dawnComes 22 = .ok (.iload_n 2, 1) := by decide +kernel
theorem dX6_dawnComes_23 : decode cX6_dawnComes 23 = .ok (.iaload, 1) := by decide +kernel
theorem dX6_dawnComes_24 : decode cX6_dawnComes 24 = .ok (.aload_n 0, 1) := by decide +kernel
theorem dX6_dawnComes_25 : decode cX6_dawnComes 25 = .ok (.aload_n 1, 1) := by decide +kernel
theorem dX6_dawnComes_26 : decode cX6_dawnComes 26 = .ok (.iload_n 2, 1) := by decide +kernel
theorem dX6_dawnComes_27 : decode cX6_dawnComes 27 = .ok (.invokevirtual 265, 3) := by decide +kernel
theorem dX6_dawnComes_30 : decode cX6_dawnComes 30 = .ok (.iadd, 1) := by decide +kernel
theorem dX6_dawnComes_31 : decode cX6_dawnComes 31 = .ok (.iconst 0, 1) := by decide +kernel
theorem dX6_dawnComes_32 : decode cX6_dawnComes 32 = .ok (.sipush 999, 3) := by decide +kernel
theorem dX6_dawnComes_35 : decode cX6_dawnComes 35 = .ok (.invokestatic 269, 3) := by decide +kernel
theorem dX6_dawnComes_38 : decode cX6_dawnComes 38 = .ok (.iastore, 1) := by decide +kernel
theorem dX6_dawnComes_39 : decode cX6_dawnComes 39 = .ok (.iinc 2 1, 3) := by decide +kernel
theorem dX6_dawnComes_42 : decode cX6_dawnComes 42 = .ok (.goto (-40), 3) := by decide +kernel
theorem dX6_dawnComes_45 : decode cX6_dawnComes 45 = .ok (.aload_n 1, 1) := by decide +kernel
theorem dX6_dawnComes_46 : decode cX6_dawnComes 46 = .ok (.sipush 4095, 3) := by decide +kernel
theorem dX6_dawnComes_49 : decode cX6_dawnComes 49 = .ok (.putfield 258, 3) := by decide +kernel
theorem dX6_dawnComes_52 : decode cX6_dawnComes 52 = .ok (.iconst 0, 1) := by decide +kernel
theorem dX6_dawnComes_53 : decode cX6_dawnComes 53 = .ok (.istore_n 2, 1) := by decide +kernel
theorem dX6_dawnComes_54 : decode cX6_dawnComes 54 = .ok (.iload_n 2, 1) := by decide +kernel
theorem dX6_dawnComes_55 : decode cX6_dawnComes 55 = .ok (.bipush 6, 2) := by decide +kernel
theorem dX6_dawnComes_57 : decode cX6_dawnComes 57 = .ok (.if_icmp .ge 16, 3) := by decide +kernel
theorem dX6_dawnComes_60 : decode cX6_dawnComes 60 = .ok (.aload_n 1, 1) := by decide +kernel
theorem dX6_dawnComes_61 : decode cX6_dawnComes 61 = .ok (.getfield 110, 3) := by decide +kernel
theorem dX6_dawnComes_64 : decode cX6_dawnComes 64 = .ok (.iload_n 2, 1) := by decide +kernel
theorem dX6_dawnComes_65 : decode cX6_dawnComes 65 = .ok (.iconst 0, 1) := by decide +kernel
theorem dX6_dawnComes_66 : decode cX6_dawnComes 66 = .ok (.iastore, 1) := by decide +kernel
theorem dX6_dawnComes_67 : decode cX6_dawnComes 67 = .ok (.iinc 2 1, 3) := by decide +kernel
theorem dX6_dawnComes_70 : decode cX6_dawnComes 70 = .ok (.goto (-16), 3) := by decide +kernel
theorem dX6_dawnComes_73 : decode cX6_dawnComes 73 = .ok (.aload_n 0, 1) := by decide +kernel
theorem dX6_dawnComes_74 : decode cX6_dawnComes 74 = .ok (.aload_n 1, 1) := by decide +kernel
theorem dX6_dawnComes_75 : decode cX6_dawnComes 75 = .ok (.invokevirtual 273, 3) := by decide +kernel
theorem dX6_dawnComes_78 : decode cX6_dawnComes 78 = .ok (.aload_n 1, 1) := by decide +kernel
theorem dX6_dawnComes_79 : decode cX6_dawnComes 79 = .ok (.dup, 1) := by decide +kernel
theorem dX6_dawnComes_80 : decode cX6_dawnComes 80 = .ok (.getfield 209, 3) := by decide +kernel
theorem dX6_dawnComes_83 : decode cX6_dawnComes 83 = .ok (.iconst 1, 1) := by decide +kernel
theorem dX6_dawnComes_84 : decode cX6_dawnComes 84 = .ok (.iadd, 1) := by decide +kernel
theorem dX6_dawnComes_85 : decode cX6_dawnComes 85 = .ok (.putfield 209, 3) := by decide +kernel
theorem dX6_dawnComes_88 : decode cX6_dawnComes 88 = .ok (.aload_n 1, 1) := by decide +kernel
theorem dX6_dawnComes_89 : decode cX6_dawnComes 89 = .ok (.iconst 3, 1) := by decide +kernel
theorem dX6_dawnComes_90 : decode cX6_dawnComes 90 = .ok (.aload_n 1, 1) := by decide +kernel
theorem dX6_dawnComes_91 : decode cX6_dawnComes 91 = .ok (.getfield 187, 3) := by decide +kernel
theorem dX6_dawnComes_94 : decode cX6_dawnComes 94 = .ok (.iconst 0, 1) := by decide +kernel
theorem dX6_dawnComes_95 : decode cX6_dawnComes 95 = .ok (.invokevirtual 205, 3) := by decide +kernel
theorem dX6_dawnComes_98 : decode cX6_dawnComes 98 = .ok (.return_, 1) := by decide +kernel
theorem dX6_drawSort_0 : decode cX6_drawSort 0 = .ok (.aload_n 0, 1) := by decide +kernel
theorem dX6_drawSort_1 : decode cX6_drawSort 1 = .ok (.invokevirtual 276, 3) := by decide +kernel
theorem dX6_drawSort_4 : decode cX6_drawSort 4 = .ok (.istore_n 2, 1) := by decide +kernel
theorem dX6_drawSort_5 : decode cX6_drawSort 5 = .ok (.aload_n 1, 1) := by decide +kernel
theorem dX6_drawSort_6 : decode cX6_drawSort 6 = .ok (.iconst 0, 1) := by decide +kernel
theorem dX6_drawSort_7 : decode cX6_drawSort 7 = .ok (.putfield 187, 3) := by decide +kernel
theorem dX6_drawSort_10 : decode cX6_drawSort 10 = .ok (.iload_n 2, 1) := by decide +kernel
theorem dX6_drawSort_11 : decode cX6_drawSort 11 = .ok (.ifCond .gt 4, 3) := by decide +kernel
theorem dX6_drawSort_14 : decode cX6_drawSort 14 = .ok (.return_, 1) := by decide +kernel
theorem dX6_drawSort_15 : decode cX6_drawSort 15 = .ok (.aload_n 1, 1) := by decide +kernel
theorem dX6_drawSort_16 : decode cX6_drawSort 16 = .ok (.getfield 245, 3) := by decide +kernel
theorem dX6_drawSort_19 : decode cX6_drawSort 19 = .ok (.iload_n 2, 1) := by decide +kernel
theorem dX6_drawSort_20 : decode cX6_drawSort 20 = .ok (.irem, 1) := by decide +kernel
theorem dX6_drawSort_21 : decode cX6_drawSort 21 = .ok (.istore_n 3, 1) := by decide +kernel
theorem dX6_drawSort_22 : decode cX6_drawSort 22 = .ok (.aload_n 1, 1) := by decide +kernel
theorem dX6_drawSort_23 : decode cX6_drawSort 23 = .ok (.aload_n 1, 1) := by decide +kernel
theorem dX6_drawSort_24 : decode cX6_drawSort 24 = .ok (.getfield 245, 3) := by decide +kernel
theorem dX6_drawSort_27 : decode cX6_drawSort 27 = .ok (.invokestatic 248, 3) := by decide +kernel
theorem dX6_drawSort_30 : decode cX6_drawSort 30 = .ok (.putfield 245, 3) := by decide +kernel
theorem dX6_drawSort_33 : decode cX6_drawSort 33 = .ok (.iconst 0, 1) := by decide +kernel
theorem dX6_drawSort_34 : decode cX6_drawSort 34 = .ok (.istore 4, 2) := by decide +kernel
theorem dX6_drawSort_36 : decode cX6_drawSort 36 = .ok (.iconst 0, 1) := by decide +kernel
theorem dX6_drawSort_37 : decode cX6_drawSort 37 = .ok (.istore 5, 2) := by decide +kernel
theorem dX6_drawSort_39 : decode cX6_drawSort 39 = .ok (.iload 5, 2) := by decide +kernel
theorem dX6_drawSort_41 : decode cX6_drawSort 41 = .ok (.iconst 5, 1) := by decide +kernel
theorem dX6_drawSort_42 : decode cX6_drawSort 42 = .ok (.if_icmp .ge 37, 3) := by decide +kernel
theorem dX6_drawSort_45 : decode cX6_drawSort 45 = .ok (.iload 4, 2) := by decide +kernel
theorem dX6_drawSort_47 : decode cX6_drawSort 47 = .ok (.aload_n 0, 1) := by decide +kernel
theorem dX6_drawSort_48 : decode cX6_drawSort 48 = .ok (.getfield 12, 3) := by decide +kernel
theorem dX6_drawSort_51 : decode cX6_drawSort 51 = .ok (.getfield 79, 3) := by decide +kernel
theorem dX6_drawSort_54 : decode cX6_drawSort 54 = .ok (.iload 5, 2) := by decide +kernel
theorem dX6_drawSort_56 : decode cX6_drawSort 56 = .ok (.iaload, 1) := by decide +kernel
theorem dX6_drawSort_57 : decode cX6_drawSort 57 = .ok (.iadd, 1) := by decide +kernel
theorem dX6_drawSort_58 : decode cX6_drawSort 58 = .ok (.istore 4, 2) := by decide +kernel
theorem dX6_drawSort_60 : decode cX6_drawSort 60 = .ok (.iload 4, 2) := by decide +kernel
theorem dX6_drawSort_62 : decode cX6_drawSort 62 = .ok (.iload_n 3, 1) := by decide +kernel
theorem dX6_drawSort_63 : decode cX6_drawSort 63 = .ok (.if_icmp .le 10, 3) := by decide +kernel
theorem dX6_drawSort_66 : decode cX6_drawSort 66 = .ok (.aload_n 1, 1) := by decide +kernel
theorem dX6_drawSort_67 : decode cX6_drawSort 67 = .ok (.iload 5, 2) := by decide +kernel
theorem dX6_drawSort_69 : decode cX6_drawSort 69 = .ok (.putfield 187, 3) := by decide +kernel
theorem dX6_drawSort_72 : decode cX6_drawSort 72 = .ok (.return_, 1) := by decide +kernel
theorem dX6_drawSort_73 : decode cX6_drawSort 73 = .ok (.iinc 5 1, 3) := by decide +kernel
theorem dX6_drawSort_76 : decode cX6_drawSort 76 = .ok (.goto (-37), 3) := by decide +kernel
theorem dX6_drawSort_79 : decode cX6_drawSort 79 = .ok (.return_, 1) := by decide +kernel
theorem dX6_drawnAnew_0 : decode cX6_drawnAnew 0 = .ok (.iload_n 0, 1) := by decide +kernel
theorem dX6_drawnAnew_1 : decode cX6_drawnAnew 1 = .ok (.sipush 719, 3) := by decide +kernel
theorem dX6_drawnAnew_4 : decode cX6_drawnAnew 4 = .ok (.imul, 1) := by decide +kernel
theorem dX6_drawnAnew_5 : decode cX6_drawnAnew 5 = .ok (.sipush 587, 3) := by decide +kernel
theorem dX6_drawnAnew_8 : decode cX6_drawnAnew 8 = .ok (.iadd, 1) := by decide +kernel
theorem dX6_drawnAnew_9 : decode cX6_drawnAnew 9 = .ok (.sipush 31039, 3) := by decide +kernel
theorem dX6_drawnAnew_12 : decode cX6_drawnAnew 12 = .ok (.irem, 1) := by decide +kernel
theorem dX6_drawnAnew_13 : decode cX6_drawnAnew 13 = .ok (.ireturn, 1) := by decide +kernel
theorem dX6_remember_0 : decode cX6_remember 0 = .ok (.aload_n 0, 1) := by decide +kernel
theorem dX6_remember_1 : decode cX6_remember 1 = .ok (.getfield 12, 3) := by decide +kernel
theorem dX6_remember_4 : decode cX6_remember 4 = .ok (.getfield 280, 3) := by decide +kernel
theorem dX6_remember_7 : decode cX6_remember 7 = .ok (.aload_n 0, 1) := by decide +kernel
theorem dX6_remember_8 : decode cX6_remember 8 = .ok (.getfield 12, 3) := by decide +kernel
theorem dX6_remember_11 : decode cX6_remember 11 = .ok (.getfield 283, 3) := by decide +kernel
theorem dX6_remember_14 : decode cX6_remember 14 = .ok (.iadd, 1) := by decide +kernel
theorem dX6_remember_15 : decode cX6_remember 15 = .ok (.bipush 30, 2) := by decide +kernel
theorem dX6_remember_17 : decode cX6_remember 17 = .ok (.irem, 1) := by decide +kernel
theorem dX6_remember_18 : decode cX6_remember 18 = .ok (.istore_n 1, 1) := by decide +kernel
theorem dX6_remember_19 : decode cX6_remember 19 = .ok (.aload_n 0, 1) := by decide +kernel
theorem dX6_remember_20 : decode cX6_remember 20 = .ok (.getfield 12, 3) := by decide +kernel
theorem dX6_remember_23 : decode cX6_remember 23 = .ok (.getfield 286, 3) := by decide +kernel
theorem dX6_remember_26 : decode cX6_remember 26 = .ok (.iload_n 1, 1) := by decide +kernel
theorem dX6_remember_27 : decode cX6_remember 27 = .ok (.aaload, 1) := by decide +kernel
theorem dX6_remember_28 : decode cX6_remember 28 = .ok (.aload_n 0, 1) := by decide +kernel
theorem dX6_remember_29 : decode cX6_remember 29 = .ok (.getfield 12, 3) := by decide +kernel
theorem dX6_remember_32 : decode cX6_remember 32 = .ok (.getfield 104, 3) := by decide +kernel
theorem dX6_remember_35 : decode cX6_remember 35 = .ok (.invokevirtual 290, 3) := by decide +kernel
theorem dX6_remember_38 : decode cX6_remember 38 = .ok (.aload_n 0, 1) := by decide +kernel
theorem dX6_remember_39 : decode cX6_remember 39 = .ok (.getfield 12, 3) := by decide +kernel
theorem dX6_remember_42 : decode cX6_remember 42 = .ok (.getfield 293, 3) := by decide +kernel
theorem dX6_remember_45 : decode cX6_remember 45 = .ok (.iload_n 1, 1) := by decide +kernel
theorem dX6_remember_46 : decode cX6_remember 46 = .ok (.aload_n 0, 1) := by decide +kernel
theorem dX6_remember_47 : decode cX6_remember 47 = .ok (.getfield 12, 3) := by decide +kernel
theorem dX6_remember_50 : decode cX6_remember 50 = .ok (.getfield 89, 3) := by decide +kernel
theorem dX6_remember_53 : decode cX6_remember 53 = .ok (.iastore, 1) := by decide +kernel
theorem dX6_remember_54 : decode cX6_remember 54 = .ok (.aload_n 0, 1) := by decide +kernel
theorem dX6_remember_55 : decode cX6_remember 55 = .ok (.getfield 12, 3) := by decide +kernel
theorem dX6_remember_58 : decode cX6_remember 58 = .ok (.getfield 283, 3) := by decide +kernel
theorem dX6_remember_61 : decode cX6_remember 61 = .ok (.bipush 30, 2) := by decide +kernel
theorem dX6_remember_63 : decode cX6_remember 63 = .ok (.if_icmp .ge 19, 3) := by decide +kernel
theorem dX6_remember_66 : decode cX6_remember 66 = .ok (.aload_n 0, 1) := by decide +kernel
theorem dX6_remember_67 : decode cX6_remember 67 = .ok (.getfield 12, 3) := by decide +kernel
theorem dX6_remember_70 : decode cX6_remember 70 = .ok (.dup, 1) := by decide +kernel
theorem dX6_remember_71 : decode cX6_remember 71 = .ok (.getfield 283, 3) := by decide +kernel
theorem dX6_remember_74 : decode cX6_remember 74 = .ok (.iconst 1, 1) := by decide +kernel
theorem dX6_remember_75 : decode cX6_remember 75 = .ok (.iadd, 1) := by decide +kernel
theorem dX6_remember_76 : decode cX6_remember 76 = .ok (.putfield 283, 3) := by decide +kernel
theorem dX6_remember_79 : decode cX6_remember 79 = .ok (.goto 22, 3) := by decide +kernel
theorem dX6_remember_82 : decode cX6_remember 82 = .ok (.aload_n 0, 1) := by decide +kernel
theorem dX6_remember_83 : decode cX6_remember 83 = .ok (.getfield 12, 3) := by decide +kernel
theorem dX6_remember_86 : decode cX6_remember 86 = .ok (.aload_n 0, 1) := by decide +kernel
theorem dX6_remember_87 : decode cX6_remember 87 = .ok (.getfield 12, 3) := by decide +kernel
theorem dX6_remember_90 : decode cX6_remember 90 = .ok (.getfield 280, 3) := by decide +kernel
theorem dX6_remember_93 : decode cX6_remember 93 = .ok (.iconst 1, 1) := by decide +kernel
theorem dX6_remember_94 : decode cX6_remember 94 = .ok (.iadd, 1) := by decide +kernel
theorem dX6_remember_95 : decode cX6_remember 95 = .ok (.bipush 30, 2) := by decide +kernel
theorem dX6_remember_97 : decode cX6_remember 97 = .ok (.irem, 1) := by decide +kernel
theorem dX6_remember_98 : decode cX6_remember 98 = .ok (.putfield 280, 3) := by decide +kernel
theorem dX6_remember_101 : decode cX6_remember 101 = .ok (.return_, 1) := by decide +kernel
theorem dX6_undo_0 : decode cX6_undo 0 = .ok (.aload_n 0, 1) := by decide +kernel
theorem dX6_undo_1 : decode cX6_undo 1 = .ok (.getfield 12, 3) := by decide +kernel
theorem dX6_undo_4 : decode cX6_undo 4 = .ok (.getfield 283, 3) := by decide +kernel
theorem dX6_undo_7 : decode cX6_undo 7 = .ok (.ifCond .gt 5, 3) := by decide +kernel
theorem dX6_undo_10 : decode cX6_undo 10 = .ok (.iconst (-1), 1) := by decide +kernel
theorem dX6_undo_11 : decode cX6_undo 11 = .ok (.ireturn, 1) := by decide +kernel
theorem dX6_undo_12 : decode cX6_undo 12 = .ok (.aload_n 0, 1) := by decide +kernel
theorem dX6_undo_13 : decode cX6_undo 13 = .ok (.getfield 12, 3) := by decide +kernel
theorem dX6_undo_16 : decode cX6_undo 16 = .ok (.dup, 1) := by decide +kernel
theorem dX6_undo_17 : decode cX6_undo 17 = .ok (.getfield 283, 3) := by decide +kernel
theorem dX6_undo_20 : decode cX6_undo 20 = .ok (.iconst 1, 1) := by decide +kernel
theorem dX6_undo_21 : decode cX6_undo 21 = .ok (.isub, 1) := by decide +kernel
theorem dX6_undo_22 : decode cX6_undo 22 = .ok (.putfield 283, 3) := by decide +kernel
theorem dX6_undo_25 : decode cX6_undo 25 = .ok (.aload_n 0, 1) := by decide +kernel
theorem dX6_undo_26 : decode cX6_undo 26 = .ok (.getfield 12, 3) := by decide +kernel
theorem dX6_undo_29 : decode cX6_undo 29 = .ok (.getfield 280, 3) := by decide +kernel
theorem dX6_undo_32 : decode cX6_undo 32 = .ok (.aload_n 0, 1) := by decide +kernel
theorem dX6_undo_33 : decode cX6_undo 33 = .ok (.getfield 12, 3) := by decide +kernel
theorem dX6_undo_36 : decode cX6_undo 36 = .ok (.getfield 283, 3) := by decide +kernel
theorem dX6_undo_39 : decode cX6_undo 39 = .ok (.iadd, 1) := by decide +kernel
theorem dX6_undo_40 : decode cX6_undo 40 = .ok (.bipush 30, 2) := by decide +kernel
theorem dX6_undo_42 : decode cX6_undo 42 = .ok (.irem, 1) := by decide +kernel
theorem dX6_undo_43 : decode cX6_undo 43 = .ok (.istore_n 1, 1) := by decide +kernel
theorem dX6_undo_44 : decode cX6_undo 44 = .ok (.aload_n 0, 1) := by decide +kernel
theorem dX6_undo_45 : decode cX6_undo 45 = .ok (.getfield 12, 3) := by decide +kernel
theorem dX6_undo_48 : decode cX6_undo 48 = .ok (.getfield 104, 3) := by decide +kernel
theorem dX6_undo_51 : decode cX6_undo 51 = .ok (.aload_n 0, 1) := by decide +kernel
theorem dX6_undo_52 : decode cX6_undo 52 = .ok (.getfield 12, 3) := by decide +kernel
theorem dX6_undo_55 : decode cX6_undo 55 = .ok (.getfield 286, 3) := by decide +kernel
theorem dX6_undo_58 : decode cX6_undo 58 = .ok (.iload_n 1, 1) := by decide +kernel
theorem dX6_undo_59 : decode cX6_undo 59 = .ok (.aaload, 1) := by decide +kernel
theorem dX6_undo_60 : decode cX6_undo 60 = .ok (.invokevirtual 290, 3) := by decide +kernel
theorem dX6_undo_63 : decode cX6_undo 63 = .ok (.aload_n 0, 1) := by decide +kernel
theorem dX6_undo_64 : decode cX6_undo 64 = .ok (.getfield 12, 3) := by decide +kernel
theorem dX6_undo_67 : decode cX6_undo 67 = .ok (.getfield 293, 3) := by decide +kernel
theorem dX6_undo_70 : decode cX6_undo 70 = .ok (.iload_n 1, 1) := by decide +kernel
theorem dX6_undo_71 : decode cX6_undo 71 = .ok (.iaload, 1) := by decide +kernel
theorem dX6_undo_72 : decode cX6_undo 72 = .ok (.istore_n 2, 1) := by decide +kernel
theorem dX6_undo_73 : decode cX6_undo 73 = .ok (.iload_n 2, 1) := by decide +kernel
theorem dX6_undo_74 : decode cX6_undo 74 = .ok (.aload_n 0, 1) := by decide +kernel
theorem dX6_undo_75 : decode cX6_undo 75 = .ok (.getfield 12, 3) := by decide +kernel
theorem dX6_undo_78 : decode cX6_undo 78 = .ok (.getfield 89, 3) := by decide +kernel
theorem dX6_undo_81 : decode cX6_undo 81 = .ok (.if_icmp .ge 43, 3) := by decide +kernel
theorem dX6_undo_84 : decode cX6_undo 84 = .ok (.aload_n 0, 1) := by decide +kernel
theorem dX6_undo_85 : decode cX6_undo 85 = .ok (.getfield 12, 3) := by decide +kernel
theorem dX6_undo_88 : decode cX6_undo 88 = .ok (.getfield 104, 3) := by decide +kernel
theorem dX6_undo_91 : decode cX6_undo 91 = .ok (.getfield 107, 3) := by decide +kernel
theorem dX6_undo_94 : decode cX6_undo 94 = .ok (.iload_n 2, 1) := by decide +kernel
theorem dX6_undo_95 : decode cX6_undo 95 = .ok (.aload_n 0, 1) := by decide +kernel
theorem dX6_undo_96 : decode cX6_undo 96 = .ok (.getfield 12, 3) := by decide +kernel
theorem dX6_undo_99 : decode cX6_undo 99 = .ok (.getfield 101, 3) := by decide +kernel
theorem dX6_undo_102 : decode cX6_undo 102 = .ok (.iload_n 2, 1) := by decide +kernel
theorem dX6_undo_103 : decode cX6_undo 103 = .ok (.iaload, 1) := by decide +kernel
theorem dX6_undo_104 : decode cX6_undo 104 = .ok (.iastore, 1) := by decide +kernel
theorem dX6_undo_105 : decode cX6_undo 105 = .ok (.aload_n 0, 1) := by decide +kernel
theorem dX6_undo_106 : decode cX6_undo 106 = .ok (.getfield 12, 3) := by decide +kernel
theorem dX6_undo_109 : decode cX6_undo 109 = .ok (.getfield 104, 3) := by decide +kernel
theorem dX6_undo_112 : decode cX6_undo 112 = .ok (.getfield 110, 3) := by decide +kernel
theorem dX6_undo_115 : decode cX6_undo 115 = .ok (.iload_n 2, 1) := by decide +kernel
theorem dX6_undo_116 : decode cX6_undo 116 = .ok (.iconst 0, 1) := by decide +kernel
theorem dX6_undo_117 : decode cX6_undo 117 = .ok (.iastore, 1) := by decide +kernel
theorem dX6_undo_118 : decode cX6_undo 118 = .ok (.iinc 2 1, 3) := by decide +kernel
theorem dX6_undo_121 : decode cX6_undo 121 = .ok (.goto (-48), 3) := by decide +kernel
theorem dX6_undo_124 : decode cX6_undo 124 = .ok (.aload_n 0, 1) := by decide +kernel
theorem dX6_undo_125 : decode cX6_undo 125 = .ok (.getfield 12, 3) := by decide +kernel
theorem dX6_undo_128 : decode cX6_undo 128 = .ok (.getfield 283, 3) := by decide +kernel
theorem dX6_undo_131 : decode cX6_undo 131 = .ok (.ireturn, 1) := by decide +kernel
theorem dX6_image_0 : decode cX6_image 0 = .ok (.aload_n 0, 1) := by decide +kernel
theorem dX6_image_1 : decode cX6_image 1 = .ok (.getfield 16, 3) := by decide +kernel
theorem dX6_image_4 : decode cX6_image 4 = .ok (.aload_n 0, 1) := by decide +kernel
theorem dX6_image_5 : decode cX6_image 5 = .ok (.getfield 12, 3) := by decide +kernel
theorem dX6_image_8 : decode cX6_image 8 = .ok (.invokevirtual 296, 3) := by decide +kernel
theorem dX6_image_11 : decode cX6_image 11 = .ok (.aload_n 0, 1) := by decide +kernel
theorem dX6_image_12 : decode cX6_image 12 = .ok (.getfield 12, 3) := by decide +kernel
theorem dX6_image_15 : decode cX6_image 15 = .ok (.getfield 104, 3) := by decide +kernel
theorem dX6_image_18 : decode cX6_image 18 = .ok (.getfield 209, 3) := by decide +kernel
theorem dX6_image_21 : decode cX6_image 21 = .ok (.ireturn, 1) := by decide +kernel
theorem dX6_back_0 : decode cX6_back 0 = .ok (.aload_n 0, 1) := by decide +kernel
theorem dX6_back_1 : decode cX6_back 1 = .ok (.getfield 12, 3) := by decide +kernel
theorem dX6_back_4 : decode cX6_back 4 = .ok (.aload_n 0, 1) := by decide +kernel
theorem dX6_back_5 : decode cX6_back 5 = .ok (.getfield 16, 3) := by decide +kernel
theorem dX6_back_8 : decode cX6_back 8 = .ok (.invokevirtual 296, 3) := by decide +kernel
theorem dX6_back_11 : decode cX6_back 11 = .ok (.aload_n 0, 1) := by decide +kernel
theorem dX6_back_12 : decode cX6_back 12 = .ok (.getfield 12, 3) := by decide +kernel
theorem dX6_back_15 : decode cX6_back 15 = .ok (.getfield 104, 3) := by decide +kernel
theorem dX6_back_18 : decode cX6_back 18 = .ok (.getfield 209, 3) := by decide +kernel
theorem dX6_back_21 : decode cX6_back 21 = .ok (.ireturn, 1) := by decide +kernel
theorem dX6_of_0 : decode cX6_of 0 = .ok (.aload_n 0, 1) := by decide +kernel
theorem dX6_of_1 : decode cX6_of 1 = .ok (.iload_n 1, 1) := by decide +kernel
theorem dX6_of_2 : decode cX6_of 2 = .ok (.invokevirtual 125, 3) := by decide +kernel
theorem dX6_of_5 : decode cX6_of 5 = .ok (.ifCond .ne 6, 3) := by decide +kernel
theorem dX6_of_8 : decode cX6_of 8 = .ok (.bipush (-10), 2) := by decide +kernel
theorem dX6_of_10 : decode cX6_of 10 = .ok (.ireturn, 1) := by decide +kernel
theorem dX6_of_11 : decode cX6_of 11 = .ok (.iload_n 2, 1) := by decide +kernel
theorem dX6_of_12 : decode cX6_of 12 = .ok (.tableswitch 122 0 6 #[44, 54, 64, 74, 87, 93, 106], 44) := by decide +kernel
theorem dX6_of_56 : decode cX6_of 56 = .ok (.aload_n 0, 1) := by decide +kernel
theorem dX6_of_57 : decode cX6_of 57 = .ok (.getfield 12, 3) := by decide +kernel
theorem dX6_of_60 : decode cX6_of 60 = .ok (.getfield 92, 3) := by decide +kernel
theorem dX6_of_63 : decode cX6_of 63 = .ok (.iload_n 1, 1) := by decide +kernel
theorem dX6_of_64 : decode cX6_of 64 = .ok (.iaload, 1) := by decide +kernel
theorem dX6_of_65 : decode cX6_of 65 = .ok (.ireturn, 1) := by decide +kernel
theorem dX6_of_66 : decode cX6_of 66 = .ok (.aload_n 0, 1) := by decide +kernel
theorem dX6_of_67 : decode cX6_of 67 = .ok (.getfield 12, 3) := by decide +kernel
theorem dX6_of_70 : decode cX6_of 70 = .ok (.getfield 95, 3) := by decide +kernel
theorem dX6_of_73 : decode cX6_of 73 = .ok (.iload_n 1, 1) := by decide +kernel
theorem dX6_of_74 : decode cX6_of 74 = .ok (.iaload, 1) := by decide +kernel
theorem dX6_of_75 : decode cX6_of 75 = .ok (.ireturn, 1) := by decide +kernel
theorem dX6_of_76 : decode cX6_of 76 = .ok (.aload_n 0, 1) := by decide +kernel
theorem dX6_of_77 : decode cX6_of 77 = .ok (.getfield 12, 3) := by decide +kernel
theorem dX6_of_80 : decode cX6_of 80 = .ok (.getfield 98, 3) := by decide +kernel
theorem dX6_of_83 : decode cX6_of 83 = .ok (.iload_n 1, 1) := by decide +kernel
theorem dX6_of_84 : decode cX6_of 84 = .ok (.iaload, 1) := by decide +kernel
theorem dX6_of_85 : decode cX6_of 85 = .ok (.ireturn, 1) := by decide +kernel
theorem dX6_of_86 : decode cX6_of 86 = .ok (.aload_n 0, 1) := by decide +kernel
theorem dX6_of_87 : decode cX6_of 87 = .ok (.getfield 12, 3) := by decide +kernel
theorem dX6_of_90 : decode cX6_of 90 = .ok (.getfield 104, 3) := by decide +kernel
theorem dX6_of_93 : decode cX6_of 93 = .ok (.getfield 107, 3) := by decide +kernel
theorem dX6_of_96 : decode cX6_of 96 = .ok (.iload_n 1, 1) := by decide +kernel
theorem dX6_of_97 : decode cX6_of 97 = .ok (.iaload, 1) := by decide +kernel
theorem dX6_of_98 : decode cX6_of 98 = .ok (.ireturn, 1) := by decide +kernel
theorem dX6_of_99 : decode cX6_of 99 = .ok (.aload_n 0, 1) := by decide +kernel
theorem dX6_of_100 : decode cX6_of 100 = .ok (.iload_n 1, 1) := by decide +kernel
theorem dX6_of_101 : decode cX6_of 101 = .ok (.invokevirtual 196, 3) := by decide +kernel
theorem dX6_of_104 : decode cX6_of 104 = .ok (.ireturn, 1) := by decide +kernel
theorem dX6_of_105 : decode cX6_of 105 = .ok (.aload_n 0, 1) := by decide +kernel
theorem dX6_of_106 : decode cX6_of 106 = .ok (.aload_n 0, 1) := by decide +kernel
theorem dX6_of_107 : decode cX6_of 107 = .ok (.getfield 12, 3) := by decide +kernel
theorem dX6_of_110 : decode cX6_of 110 = .ok (.getfield 104, 3) := by decide +kernel
theorem dX6_of_113 : decode cX6_of 113 = .ok (.iload_n 1, 1) := by decide +kernel
theorem dX6_of_114 : decode cX6_of 114 = .ok (.invokevirtual 265, 3) := by decide +kernel
theorem dX6_of_117 : decode cX6_of 117 = .ok (.ireturn, 1) := by decide +kernel
theorem dX6_of_118 : decode cX6_of 118 = .ok (.aload_n 0, 1) := by decide +kernel
theorem dX6_of_119 : decode cX6_of 119 = .ok (.getfield 12, 3) := by decide +kernel
theorem dX6_of_122 : decode cX6_of 122 = .ok (.getfield 104, 3) := by decide +kernel
theorem dX6_of_125 : decode cX6_of 125 = .ok (.getfield 110, 3) := by decide +kernel
theorem dX6_of_128 : decode cX6_of 128 = .ok (.iload_n 1, 1) := by decide +kernel
theorem dX6_of_129 : decode cX6_of 129 = .ok (.iaload, 1) := by decide +kernel
theorem dX6_of_130 : decode cX6_of 130 = .ok (.invokestatic 128, 3) := by decide +kernel
theorem dX6_of_133 : decode cX6_of 133 = .ok (.ireturn, 1) := by decide +kernel
theorem dX6_of_134 : decode cX6_of 134 = .ok (.bipush (-10), 2) := by decide +kernel
theorem dX6_of_136 : decode cX6_of 136 = .ok (.ireturn, 1) := by decide +kernel
theorem dX6_ofSort_0 : decode cX6_ofSort 0 = .ok (.iload_n 1, 1) := by decide +kernel
theorem dX6_ofSort_1 : decode cX6_ofSort 1 = .ok (.invokestatic 71, 3) := by decide +kernel
theorem dX6_ofSort_4 : decode cX6_ofSort 4 = .ok (.ifCond .ne 5, 3) := by decide +kernel
theorem dX6_ofSort_7 : decode cX6_ofSort 7 = .ok (.iconst (-1), 1) := by decide +kernel
theorem dX6_ofSort_8 : decode cX6_ofSort 8 = .ok (.ireturn, 1) := by decide +kernel
theorem dX6_ofSort_9 : decode cX6_ofSort 9 = .ok (.iload_n 2, 1) := by decide +kernel
theorem dX6_ofSort_10 : decode cX6_ofSort 10 = .ok (.lookupswitch 46 #[(0, 26), (1, 36)], 26) := by decide +kernel
theorem dX6_ofSort_36 : decode cX6_ofSort 36 = .ok (.aload_n 0, 1) := by decide +kernel
theorem dX6_ofSort_37 : decode cX6_ofSort 37 = .ok (.getfield 12, 3) := by decide +kernel
theorem dX6_ofSort_40 : decode cX6_ofSort 40 = .ok (.getfield 79, 3) := by decide +kernel
theorem dX6_ofSort_43 : decode cX6_ofSort 43 = .ok (.iload_n 1, 1) := by decide +kernel
theorem dX6_ofSort_44 : decode cX6_ofSort 44 = .ok (.iaload, 1) := by decide +kernel
theorem dX6_ofSort_45 : decode cX6_ofSort 45 = .ok (.ireturn, 1) := by decide +kernel
theorem dX6_ofSort_46 : decode cX6_ofSort 46 = .ok (.aload_n 0, 1) := by decide +kernel
theorem dX6_ofSort_47 : decode cX6_ofSort 47 = .ok (.getfield 12, 3) := by decide +kernel
theorem dX6_ofSort_50 : decode cX6_ofSort 50 = .ok (.getfield 82, 3) := by decide +kernel
theorem dX6_ofSort_53 : decode cX6_ofSort 53 = .ok (.iload_n 1, 1) := by decide +kernel
theorem dX6_ofSort_54 : decode cX6_ofSort 54 = .ok (.iaload, 1) := by decide +kernel
theorem dX6_ofSort_55 : decode cX6_ofSort 55 = .ok (.ireturn, 1) := by decide +kernel
theorem dX6_ofSort_56 : decode cX6_ofSort 56 = .ok (.iconst (-1), 1) := by decide +kernel
theorem dX6_ofSort_57 : decode cX6_ofSort 57 = .ok (.ireturn, 1) := by decide +kernel
theorem dX6_at_0 : decode cX6_at 0 = .ok (.iload_n 1, 1) := by decide +kernel
theorem dX6_at_1 : decode cX6_at 1 = .ok (.invokestatic 113, 3) := by decide +kernel
theorem dX6_at_4 : decode cX6_at 4 = .ok (.ifCond .ne 6, 3) := by decide +kernel
theorem dX6_at_7 : decode cX6_at 7 = .ok (.bipush (-2), 2) := by decide +kernel
theorem dX6_at_9 : decode cX6_at 9 = .ok (.ireturn, 1) := by decide +kernel
theorem dX6_at_10 : decode cX6_at 10 = .ok (.aload_n 0, 1) := by decide +kernel
theorem dX6_at_11 : decode cX6_at 11 = .ok (.iload_n 1, 1) := by decide +kernel
theorem dX6_at_12 : decode cX6_at 12 = .ok (.invokevirtual 175, 3) := by decide +kernel
theorem dX6_at_15 : decode cX6_at 15 = .ok (.ifCond .eq 5, 3) := by decide +kernel
theorem dX6_at_18 : decode cX6_at 18 = .ok (.iconst (-1), 1) := by decide +kernel
theorem dX6_at_19 : decode cX6_at 19 = .ok (.ireturn, 1) := by decide +kernel
theorem dX6_at_20 : decode cX6_at 20 = .ok (.iconst 0, 1) := by decide +kernel
theorem dX6_at_21 : decode cX6_at 21 = .ok (.istore_n 2, 1) := by decide +kernel
theorem dX6_at_22 : decode cX6_at 22 = .ok (.iload_n 2, 1) := by decide +kernel
theorem dX6_at_23 : decode cX6_at 23 = .ok (.aload_n 0, 1) := by decide +kernel
theorem dX6_at_24 : decode cX6_at 24 = .ok (.getfield 12, 3) := by decide +kernel
theorem dX6_at_27 : decode cX6_at 27 = .ok (.getfield 89, 3) := by decide +kernel
theorem dX6_at_30 : decode cX6_at 30 = .ok (.if_icmp .ge 31, 3) := by decide +kernel
theorem dX6_at_33 : decode cX6_at 33 = .ok (.aload_n 0, 1) := by decide +kernel
theorem dX6_at_34 : decode cX6_at 34 = .ok (.getfield 12, 3) := by decide +kernel
theorem dX6_at_37 : decode cX6_at 37 = .ok (.getfield 104, 3) := by decide +kernel
theorem dX6_at_40 : decode cX6_at 40 = .ok (.getfield 110, 3) := by decide +kernel
theorem dX6_at_43 : decode cX6_at 43 = .ok (.iload_n 2, 1) := by decide +kernel
theorem dX6_at_44 : decode cX6_at 44 = .ok (.iaload, 1) := by decide +kernel
theorem dX6_at_45 : decode cX6_at 45 = .ok (.iload_n 1, 1) := by decide +kernel
theorem dX6_at_46 : decode cX6_at 46 = .ok (.ishr, 1) := by decide +kernel
theorem dX6_at_47 : decode cX6_at 47 = .ok (.iconst 1, 1) := by decide +kernel
theorem dX6_at_48 : decode cX6_at 48 = .ok (.iand, 1) := by decide +kernel
theorem dX6_at_49 : decode cX6_at 49 = .ok (.iconst 1, 1) := by decide +kernel
theorem dX6_at_50 : decode cX6_at 50 = .ok (.if_icmp .ne 5, 3) := by decide +kernel
theorem dX6_at_53 : decode cX6_at 53 = .ok (.iload_n 2, 1) := by decide +kernel
theorem dX6_at_54 : decode cX6_at 54 = .ok (.ireturn, 1) := by decide +kernel
theorem dX6_at_55 : decode cX6_at 55 = .ok (.iinc 2 1, 3) := by decide +kernel
theorem dX6_at_58 : decode cX6_at 58 = .ok (.goto (-36), 3) := by decide +kernel
theorem dX6_at_61 : decode cX6_at 61 = .ok (.bipush 6, 2) := by decide +kernel
theorem dX6_at_63 : decode cX6_at 63 = .ok (.ireturn, 1) := by decide +kernel
theorem dX6_is_0 : decode cX6_is 0 = .ok (.iload_n 1, 1) := by decide +kernel
theorem dX6_is_1 : decode cX6_is 1 = .ok (.tableswitch 90 0 4 #[35, 46, 57, 68, 79], 35) := by decide +kernel
theorem dX6_is_36 : decode cX6_is 36 = .ok (.aload_n 0, 1) := by decide +kernel
theorem dX6_is_37 : decode cX6_is 37 = .ok (.getfield 12, 3) := by decide +kernel
theorem dX6_is_40 : decode cX6_is 40 = .ok (.getfield 104, 3) := by decide +kernel
theorem dX6_is_43 : decode cX6_is 43 = .ok (.getfield 209, 3) := by decide +kernel
theorem dX6_is_46 : decode cX6_is 46 = .ok (.ireturn, 1) := by decide +kernel
theorem dX6_is_47 : decode cX6_is 47 = .ok (.aload_n 0, 1) := by decide +kernel
theorem dX6_is_48 : decode cX6_is 48 = .ok (.getfield 12, 3) := by decide +kernel
theorem dX6_is_51 : decode cX6_is 51 = .ok (.getfield 104, 3) := by decide +kernel
theorem dX6_is_54 : decode cX6_is 54 = .ok (.getfield 245, 3) := by decide +kernel
theorem dX6_is_57 : decode cX6_is 57 = .ok (.ireturn, 1) := by decide +kernel
theorem dX6_is_58 : decode cX6_is 58 = .ok (.aload_n 0, 1) := by decide +kernel
theorem dX6_is_59 : decode cX6_is 59 = .ok (.getfield 12, 3) := by decide +kernel
theorem dX6_is_62 : decode cX6_is 62 = .ok (.getfield 104, 3) := by decide +kernel
theorem dX6_is_65 : decode cX6_is 65 = .ok (.getfield 262, 3) := by decide +kernel
theorem dX6_is_68 : decode cX6_is 68 = .ok (.ireturn, 1) := by decide +kernel
theorem dX6_is_69 : decode cX6_is 69 = .ok (.aload_n 0, 1) := by decide +kernel
theorem dX6_is_70 : decode cX6_is 70 = .ok (.getfield 12, 3) := by decide +kernel
theorem dX6_is_73 : decode cX6_is 73 = .ok (.getfield 104, 3) := by decide +kernel
theorem dX6_is_76 : decode cX6_is 76 = .ok (.getfield 187, 3) := by decide +kernel
theorem dX6_is_79 : decode cX6_is 79 = .ok (.ireturn, 1) := by decide +kernel
theorem dX6_is_80 : decode cX6_is 80 = .ok (.aload_n 0, 1) := by decide +kernel
theorem dX6_is_81 : decode cX6_is 81 = .ok (.getfield 12, 3) := by decide +kernel
theorem dX6_is_84 : decode cX6_is 84 = .ok (.getfield 104, 3) := by decide +kernel
theorem dX6_is_87 : decode cX6_is 87 = .ok (.getfield 258, 3) := by decide +kernel
theorem dX6_is_90 : decode cX6_is 90 = .ok (.ireturn, 1) := by decide +kernel
theorem dX6_is_91 : decode cX6_is 91 = .ok (.bipush (-2), 2) := by decide +kernel
theorem dX6_is_93 : decode cX6_is 93 = .ok (.ireturn, 1) := by decide +kernel
theorem dX6_book_0 : decode cX6_book 0 = .ok (.aload_n 0, 1) := by decide +kernel
theorem dX6_book_1 : decode cX6_book 1 = .ok (.getfield 12, 3) := by decide +kernel
theorem dX6_book_4 : decode cX6_book 4 = .ok (.getfield 104, 3) := by decide +kernel
theorem dX6_book_7 : decode cX6_book 7 = .ok (.astore_n 3, 1) := by decide +kernel
theorem dX6_book_8 : decode cX6_book 8 = .ok (.iload_n 1, 1) := by decide +kernel
theorem dX6_book_9 : decode cX6_book 9 = .ok (.iconst (-1), 1) := by decide +kernel
theorem dX6_book_10 : decode cX6_book 10 = .ok (.if_icmp .ne 8, 3) := by decide +kernel
theorem dX6_book_13 : decode cX6_book 13 = .ok (.aload_n 3, 1) := by decide +kernel
theorem dX6_book_14 : decode cX6_book 14 = .ok (.getfield 299, 3) := by decide +kernel
theorem dX6_book_17 : decode cX6_book 17 = .ok (.ireturn, 1) := by decide +kernel
theorem dX6_book_18 : decode cX6_book 18 = .ok (.iload_n 1, 1) := by decide +kernel
theorem dX6_book_19 : decode cX6_book 19 = .ok (.iconst 0, 1) := by decide +kernel
theorem dX6_book_20 : decode cX6_book 20 = .ok (.aload_n 3, 1) := by decide +kernel
theorem dX6_book_21 : decode cX6_book 21 = .ok (.getfield 299, 3) := by decide +kernel
theorem dX6_book_24 : decode cX6_book 24 = .ok (.iconst 1, 1) := by decide +kernel
theorem dX6_book_25 : decode cX6_book 25 = .ok (.isub, 1) := by decide +kernel
theorem dX6_book_26 : decode cX6_book 26 = .ok (.invokestatic 75, 3) := by decide +kernel
theorem dX6_book_29 : decode cX6_book 29 = .ok (.ifCond .ne 6, 3) := by decide +kernel
theorem dX6_book_32 : decode cX6_book 32 = .ok (.bipush (-2), 2) := by decide +kernel
theorem dX6_book_34 : decode cX6_book 34 = .ok (.ireturn, 1) := by decide +kernel
theorem dX6_book_35 : decode cX6_book 35 = .ok (.aload_n 3, 1) := by decide +kernel
theorem dX6_book_36 : decode cX6_book 36 = .ok (.getfield 302, 3) := by decide +kernel
theorem dX6_book_39 : decode cX6_book 39 = .ok (.iload_n 1, 1) := by decide +kernel
theorem dX6_book_40 : decode cX6_book 40 = .ok (.iaload, 1) := by decide +kernel
theorem dX6_book_41 : decode cX6_book 41 = .ok (.istore 4, 2) := by decide +kernel
theorem dX6_book_43 : decode cX6_book 43 = .ok (.iload_n 2, 1) := by decide +kernel
theorem dX6_book_44 : decode cX6_book 44 = .ok (.tableswitch 56 0 3 #[32, 38, 44, 50], 32) := by decide +kernel
theorem dX6_book_76 : decode cX6_book 76 = .ok (.iload 4, 2) := by decide +kernel
theorem dX6_book_78 : decode cX6_book 78 = .ok (.invokestatic 305, 3) := by decide +kernel
theorem dX6_book_81 : decode cX6_book 81 = .ok (.ireturn, 1) := by decide +kernel
theorem dX6_book_82 : decode cX6_book 82 = .ok (.iload 4, 2) := by decide +kernel
theorem dX6_book_84 : decode cX6_book 84 = .ok (.invokestatic 308, 3) := by decide +kernel
theorem dX6_book_87 : decode cX6_book 87 = .ok (.ireturn, 1) := by decide +kernel
theorem dX6_book_88 : decode cX6_book 88 = .ok (.iload 4, 2) := by decide +kernel
theorem dX6_book_90 : decode cX6_book 90 = .ok (.invokestatic 311, 3) := by decide +kernel
theorem dX6_book_93 : decode cX6_book 93 = .ok (.ireturn, 1) := by decide +kernel
theorem dX6_book_94 : decode cX6_book 94 = .ok (.iload 4, 2) := by decide +kernel
theorem dX6_book_96 : decode cX6_book 96 = .ok (.invokestatic 314, 3) := by decide +kernel
theorem dX6_book_99 : decode cX6_book 99 = .ok (.ireturn, 1) := by decide +kernel
theorem dX6_book_100 : decode cX6_book 100 = .ok (.bipush (-2), 2) := by decide +kernel
theorem dX6_book_102 : decode cX6_book 102 = .ok (.ireturn, 1) := by decide +kernel
theorem dX6_ledger_0 : decode cX6_ledger 0 = .ok (.iload_n 1, 1) := by decide +kernel
theorem dX6_ledger_1 : decode cX6_ledger 1 = .ok (.iconst 0, 1) := by decide +kernel
theorem dX6_ledger_2 : decode cX6_ledger 2 = .ok (.iconst 4, 1) := by decide +kernel
theorem dX6_ledger_3 : decode cX6_ledger 3 = .ok (.invokestatic 75, 3) := by decide +kernel
theorem dX6_ledger_6 : decode cX6_ledger 6 = .ok (.ifCond .eq 11, 3) := by decide +kernel
theorem dX6_ledger_9 : decode cX6_ledger 9 = .ok (.aload_n 0, 1) := by decide +kernel
theorem dX6_ledger_10 : decode cX6_ledger 10 = .ok (.iload_n 1, 1) := by decide +kernel
theorem dX6_ledger_11 : decode cX6_ledger 11 = .ok (.invokevirtual 317, 3) := by decide +kernel
theorem dX6_ledger_14 : decode cX6_ledger 14 = .ok (.goto 5, 3) := by decide +kernel
theorem dX6_ledger_17 : decode cX6_ledger 17 = .ok (.bipush (-2), 2) := by decide +kernel
theorem dX6_ledger_19 : decode cX6_ledger 19 = .ok (.ireturn, 1) := by decide +kernel
theorem dX6_about_0 : decode cX6_about 0 = .ok (.iload_n 1, 1) := by decide +kernel
theorem dX6_about_1 : decode cX6_about 1 = .ok (.tableswitch 99 0 6 #[43, 51, 59, 67, 75, 86, 94], 43) := by decide +kernel
theorem dX6_about_44 : decode cX6_about 44 = .ok (.aload_n 0, 1) := by decide +kernel
theorem dX6_about_45 : decode cX6_about 45 = .ok (.getfield 12, 3) := by decide +kernel
theorem dX6_about_48 : decode cX6_about 48 = .ok (.getfield 89, 3) := by decide +kernel
theorem dX6_about_51 : decode cX6_about 51 = .ok (.ireturn, 1) := by decide +kernel
theorem dX6_about_52 : decode cX6_about 52 = .ok (.aload_n 0, 1) := by decide +kernel
theorem dX6_about_53 : decode cX6_about 53 = .ok (.getfield 12, 3) := by decide +kernel
theorem dX6_about_56 : decode cX6_about 56 = .ok (.getfield 147, 3) := by decide +kernel
theorem dX6_about_59 : decode cX6_about 59 = .ok (.ireturn, 1) := by decide +kernel
theorem dX6_about_60 : decode cX6_about 60 = .ok (.aload_n 0, 1) := by decide +kernel
theorem dX6_about_61 : decode cX6_about 61 = .ok (.getfield 12, 3) := by decide +kernel
theorem dX6_about_64 : decode cX6_about 64 = .ok (.getfield 162, 3) := by decide +kernel
theorem dX6_about_67 : decode cX6_about 67 = .ok (.ireturn, 1) := by decide +kernel
theorem dX6_about_68 : decode cX6_about 68 = .ok (.aload_n 0, 1) := by decide +kernel
theorem dX6_about_69 : decode cX6_about 69 = .ok (.getfield 12, 3) := by decide +kernel
theorem dX6_about_72 : decode cX6_about 72 = .ok (.getfield 283, 3) := by decide +kernel
theorem dX6_about_75 : decode cX6_about 75 = .ok (.ireturn, 1) := by decide +kernel
theorem dX6_about_76 : decode cX6_about 76 = .ok (.aload_n 0, 1) := by decide +kernel
theorem dX6_about_77 : decode cX6_about 77 = .ok (.getfield 12, 3) := by decide +kernel
theorem dX6_about_80 : decode cX6_about 80 = .ok (.getfield 119, 3) := by decide +kernel
theorem dX6_about_83 : decode cX6_about 83 = .ok (.invokestatic 128, 3) := by decide +kernel
theorem dX6_about_86 : decode cX6_about 86 = .ok (.ireturn, 1) := by decide +kernel
theorem dX6_about_87 : decode cX6_about 87 = .ok (.aload_n 0, 1) := by decide +kernel
theorem dX6_about_88 : decode cX6_about 88 = .ok (.getfield 12, 3) := by decide +kernel
theorem dX6_about_91 : decode cX6_about 91 = .ok (.getfield 134, 3) := by decide +kernel
theorem dX6_about_94 : decode cX6_about 94 = .ok (.ireturn, 1) := by decide +kernel
theorem dX6_about_95 : decode cX6_about 95 = .ok (.aload_n 0, 1) := by decide +kernel
theorem dX6_about_96 : decode cX6_about 96 = .ok (.getfield 60, 3) := by decide +kernel
theorem dX6_about_99 : decode cX6_about 99 = .ok (.ireturn, 1) := by decide +kernel
theorem dX6_about_100 : decode cX6_about 100 = .ok (.bipush (-2), 2) := by decide +kernel
theorem dX6_about_102 : decode cX6_about 102 = .ok (.ireturn, 1) := by decide +kernel
theorem dX6_foretold_0 : decode cX6_foretold 0 = .ok (.iload_n 1, 1) := by decide +kernel
theorem dX6_foretold_1 : decode cX6_foretold 1 = .ok (.iconst 1, 1) := by decide +kernel
theorem dX6_foretold_2 : decode cX6_foretold 2 = .ok (.bipush 60, 2) := by decide +kernel
theorem dX6_foretold_4 : decode cX6_foretold 4 = .ok (.invokestatic 75, 3) := by decide +kernel
theorem dX6_foretold_7 : decode cX6_foretold 7 = .ok (.ifCond .eq 12, 3) := by decide +kernel
theorem dX6_foretold_10 : decode cX6_foretold 10 = .ok (.iload_n 2, 1) := by decide +kernel
theorem dX6_foretold_11 : decode cX6_foretold 11 = .ok (.iconst 0, 1) := by decide +kernel
theorem dX6_foretold_12 : decode cX6_foretold 12 = .ok (.iconst 1, 1) := by decide +kernel
theorem dX6_foretold_13 : decode cX6_foretold 13 = .ok (.invokestatic 75, 3) := by decide +kernel
theorem dX6_foretold_16 : decode cX6_foretold 16 = .ok (.ifCond .ne 5, 3) := by decide +kernel
theorem dX6_foretold_19 : decode cX6_foretold 19 = .ok (.iconst (-1), 1) := by decide +kernel
theorem dX6_foretold_20 : decode cX6_foretold 20 = .ok (.ireturn, 1) := by decide +kernel
theorem dX6_foretold_21 : decode cX6_foretold 21 = .ok (.aload_n 0, 1) := by decide +kernel
theorem dX6_foretold_22 : decode cX6_foretold 22 = .ok (.getfield 46, 3) := by decide +kernel
theorem dX6_foretold_25 : decode cX6_foretold 25 = .ok (.aload_n 0, 1) := by decide +kernel
theorem dX6_foretold_26 : decode cX6_foretold 26 = .ok (.getfield 12, 3) := by decide +kernel
theorem dX6_foretold_29 : decode cX6_foretold 29 = .ok (.getfield 104, 3) := by decide +kernel
theorem dX6_foretold_32 : decode cX6_foretold 32 = .ok (.invokevirtual 290, 3) := by decide +kernel
theorem dX6_foretold_35 : decode cX6_foretold 35 = .ok (.iconst 0, 1) := by decide +kernel
theorem dX6_foretold_36 : decode cX6_foretold 36 = .ok (.istore_n 3, 1) := by decide +kernel
theorem dX6_foretold_37 : decode cX6_foretold 37 = .ok (.iload_n 3, 1) := by decide +kernel
theorem dX6_foretold_38 : decode cX6_foretold 38 = .ok (.iload_n 1, 1) := by decide +kernel
theorem dX6_foretold_39 : decode cX6_foretold 39 = .ok (.if_icmp .ge 30, 3) := by decide +kernel
theorem dX6_foretold_42 : decode cX6_foretold 42 = .ok (.aload_n 0, 1) := by decide +kernel
theorem dX6_foretold_43 : decode cX6_foretold 43 = .ok (.getfield 46, 3) := by decide +kernel
theorem dX6_foretold_46 : decode cX6_foretold 46 = .ok (.getfield 209, 3) := by decide +kernel
theorem dX6_foretold_49 : decode cX6_foretold 49 = .ok (.sipush 9999, 3) := by decide +kernel
theorem dX6_foretold_52 : decode cX6_foretold 52 = .ok (.if_icmp .ge 17, 3) := by decide +kernel
theorem dX6_foretold_55 : decode cX6_foretold 55 = .ok (.aload_n 0, 1) := by decide +kernel
theorem dX6_foretold_56 : decode cX6_foretold 56 = .ok (.aload_n 0, 1) := by decide +kernel
theorem dX6_foretold_57 : decode cX6_foretold 57 = .ok (.getfield 46, 3) := by decide +kernel
theorem dX6_foretold_60 : decode cX6_foretold 60 = .ok (.invokevirtual 254, 3) := by decide +kernel
theorem dX6_foretold_63 : decode cX6_foretold 63 = .ok (.iinc 3 1, 3) := by decide +kernel
theorem dX6_foretold_66 : decode cX6_foretold 66 = .ok (.goto (-29), 3) := by decide +kernel
theorem dX6_foretold_69 : decode cX6_foretold 69 = .ok (.iload_n 2, 1) := by decide +kernel
theorem dX6_foretold_70 : decode cX6_foretold 70 = .ok (.ifCond .ne 11, 3) := by decide +kernel
theorem dX6_foretold_73 : decode cX6_foretold 73 = .ok (.aload_n 0, 1) := by decide +kernel
theorem dX6_foretold_74 : decode cX6_foretold 74 = .ok (.getfield 46, 3) := by decide +kernel
theorem dX6_foretold_77 : decode cX6_foretold 77 = .ok (.getfield 187, 3) := by decide +kernel
theorem dX6_foretold_80 : decode cX6_foretold 80 = .ok (.ireturn, 1) := by decide +kernel
theorem dX6_foretold_81 : decode cX6_foretold 81 = .ok (.iconst 0, 1) := by decide +kernel
theorem dX6_foretold_82 : decode cX6_foretold 82 = .ok (.istore_n 3, 1) := by decide +kernel
theorem dX6_foretold_83 : decode cX6_foretold 83 = .ok (.iconst 0, 1) := by decide +kernel
theorem dX6_foretold_84 : decode cX6_foretold 84 = .ok (.istore 4, 2) := by decide +kernel
theorem dX6_foretold_86 : decode cX6_foretold 86 = .ok (.iload 4, 2) := by decide +kernel
theorem dX6_foretold_88 : decode cX6_foretold 88 = .ok (.aload_n 0, 1) := by decide +kernel
theorem dX6_foretold_89 : decode cX6_foretold 89 = .ok (.getfield 12, 3) := by decide +kernel
theorem dX6_foretold_92 : decode cX6_foretold 92 = .ok (.getfield 89, 3) := by decide +kernel
theorem dX6_foretold_95 : decode cX6_foretold 95 = .ok (.if_icmp .ge 22, 3) := by decide +kernel
theorem dX6_foretold_98 : decode cX6_foretold 98 = .ok (.iload_n 3, 1) := by decide +kernel
theorem dX6_foretold_99 : decode cX6_foretold 99 = .ok (.aload_n 0, 1) := by decide +kernel
theorem dX6_foretold_100 : decode cX6_foretold 100 = .ok (.getfield 46, 3) := by decide +kernel
theorem dX6_foretold_103 : decode cX6_foretold 103 = .ok (.getfield 107, 3) := by decide +kernel
theorem dX6_foretold_106 : decode cX6_foretold 106 = .ok (.iload 4, 2) := by decide +kernel
theorem dX6_foretold_108 : decode cX6_foretold 108 = .ok (.iaload, 1) := by decide +kernel
theorem dX6_foretold_109 : decode cX6_foretold 109 = .ok (.iadd, 1) := by decide +kernel
theorem dX6_foretold_110 : decode cX6_foretold 110 = .ok (.istore_n 3, 1) := by decide +kernel
theorem dX6_foretold_111 : decode cX6_foretold 111 = .ok (.iinc 4 1, 3) := by decide +kernel
theorem dX6_foretold_114 : decode cX6_foretold 114 = .ok (.goto (-28), 3) := by decide +kernel
theorem dX6_foretold_117 : decode cX6_foretold 117 = .ok (.iload_n 3, 1) := by decide +kernel
theorem dX6_foretold_118 : decode cX6_foretold 118 = .ok (.ireturn, 1) := by decide +kernel
theorem dX6_pack_0 : decode cX6_pack 0 = .ok (.iload_n 1, 1) := by decide +kernel
theorem dX6_pack_1 : decode cX6_pack 1 = .ok (.invokestatic 71, 3) := by decide +kernel
theorem dX6_pack_4 : decode cX6_pack 4 = .ok (.ifCond .ne 5, 3) := by decide +kernel
theorem dX6_pack_7 : decode cX6_pack 7 = .ok (.iconst (-1), 1) := by decide +kernel
theorem dX6_pack_8 : decode cX6_pack 8 = .ok (.ireturn, 1) := by decide +kernel
theorem dX6_pack_9 : decode cX6_pack 9 = .ok (.aload_n 0, 1) := by decide +kernel
theorem dX6_pack_10 : decode cX6_pack 10 = .ok (.iconst 0, 1) := by decide +kernel
theorem dX6_pack_11 : decode cX6_pack 11 = .ok (.iload_n 1, 1) := by decide +kernel
theorem dX6_pack_12 : decode cX6_pack 12 = .ok (.invokevirtual 320, 3) := by decide +kernel
theorem dX6_pack_15 : decode cX6_pack 15 = .ok (.istore_n 3, 1) := by decide +kernel
theorem dX6_pack_16 : decode cX6_pack 16 = .ok (.iload_n 2, 1) := by decide +kernel
theorem dX6_pack_17 : decode cX6_pack 17 = .ok (.ifCond .eq 7, 3) := by decide +kernel
theorem dX6_pack_20 : decode cX6_pack 20 = .ok (.iload_n 3, 1) := by decide +kernel
theorem dX6_pack_21 : decode cX6_pack 21 = .ok (.goto 8, 3) := by decide +kernel
theorem dX6_pack_24 : decode cX6_pack 24 = .ok (.aload_n 0, 1) := by decide +kernel
theorem dX6_pack_25 : decode cX6_pack 25 = .ok (.iload_n 3, 1) := by decide +kernel
theorem dX6_pack_26 : decode cX6_pack 26 = .ok (.invokevirtual 323, 3) := by decide +kernel
theorem dX6_pack_29 : decode cX6_pack 29 = .ok (.ireturn, 1) := by decide +kernel
theorem dX6_see_0 : decode cX6_see 0 = .ok (.iload_n 2, 1) := by decide +kernel
theorem dX6_see_1 : decode cX6_see 1 = .ok (.invokestatic 71, 3) := by decide +kernel
theorem dX6_see_4 : decode cX6_see 4 = .ok (.ifCond .eq 22, 3) := by decide +kernel
theorem dX6_see_7 : decode cX6_see 7 = .ok (.iload_n 1, 1) := by decide +kernel
theorem dX6_see_8 : decode cX6_see 8 = .ok (.iconst 0, 1) := by decide +kernel
theorem dX6_see_9 : decode cX6_see 9 = .ok (.iconst 1, 1) := by decide +kernel
theorem dX6_see_10 : decode cX6_see 10 = .ok (.aload_n 0, 1) := by decide +kernel
theorem dX6_see_11 : decode cX6_see 11 = .ok (.getfield 12, 3) := by decide +kernel
theorem dX6_see_14 : decode cX6_see 14 = .ok (.getfield 89, 3) := by decide +kernel
theorem dX6_see_17 : decode cX6_see 17 = .ok (.ishl, 1) := by decide +kernel
theorem dX6_see_18 : decode cX6_see 18 = .ok (.iconst 1, 1) := by decide +kernel
theorem dX6_see_19 : decode cX6_see 19 = .ok (.isub, 1) := by decide +kernel
theorem dX6_see_20 : decode cX6_see 20 = .ok (.invokestatic 75, 3) := by decide +kernel
theorem dX6_see_23 : decode cX6_see 23 = .ok (.ifCond .ne 5, 3) := by decide +kernel
theorem dX6_see_26 : decode cX6_see 26 = .ok (.iconst (-1), 1) := by decide +kernel
theorem dX6_see_27 : decode cX6_see 27 = .ok (.ireturn, 1) := by decide +kernel
theorem dX6_see_28 : decode cX6_see 28 = .ok (.aload_n 0, 1) := by decide +kernel
theorem dX6_see_29 : decode cX6_see 29 = .ok (.iload_n 1, 1) := by decide +kernel
theorem dX6_see_30 : decode cX6_see 30 = .ok (.iload_n 2, 1) := by decide +kernel
theorem dX6_see_31 : decode cX6_see 31 = .ok (.invokevirtual 320, 3) := by decide +kernel
theorem dX6_see_34 : decode cX6_see 34 = .ok (.istore_n 3, 1) := by decide +kernel
theorem dX6_see_35 : decode cX6_see 35 = .ok (.iload_n 3, 1) := by decide +kernel
theorem dX6_see_36 : decode cX6_see 36 = .ok (.iconst (-1), 1) := by decide +kernel
theorem dX6_see_37 : decode cX6_see 37 = .ok (.if_icmp .ne 7, 3) := by decide +kernel
theorem dX6_see_40 : decode cX6_see 40 = .ok (.iconst (-1), 1) := by decide +kernel
theorem dX6_see_41 : decode cX6_see 41 = .ok (.goto 8, 3) := by decide +kernel
theorem dX6_see_44 : decode cX6_see 44 = .ok (.aload_n 0, 1) := by decide +kernel
theorem dX6_see_45 : decode cX6_see 45 = .ok (.iload_n 3, 1) := by decide +kernel
theorem dX6_see_46 : decode cX6_see 46 = .ok (.invokevirtual 323, 3) := by decide +kernel
theorem dX6_see_49 : decode cX6_see 49 = .ok (.ireturn, 1) := by decide +kernel
theorem dX6_month_0 : decode cX6_month 0 = .ok (.iload_n 1, 1) := by decide +kernel
theorem dX6_month_1 : decode cX6_month 1 = .ok (.iconst 1, 1) := by decide +kernel
theorem dX6_month_2 : decode cX6_month 2 = .ok (.bipush 60, 2) := by decide +kernel
theorem dX6_month_4 : decode cX6_month 4 = .ok (.invokestatic 75, 3) := by decide +kernel
theorem dX6_month_7 : decode cX6_month 7 = .ok (.ifCond .ne 7, 3) := by decide +kernel
theorem dX6_month_10 : decode cX6_month 10 = .ok (.ldc2_w 326, 3) := by decide +kernel
theorem dX6_month_13 : decode cX6_month 13 = .ok (.lreturn, 1) := by decide +kernel
theorem dX6_month_14 : decode cX6_month 14 = .ok (.lconst 0, 1) := by decide +kernel
theorem dX6_month_15 : decode cX6_month 15 = .ok (.lstore_n 3, 1) := by decide +kernel
theorem dX6_month_16 : decode cX6_month 16 = .ok (.iconst 0, 1) := by decide +kernel
theorem dX6_month_17 : decode cX6_month 17 = .ok (.istore 5, 2) := by decide +kernel
theorem dX6_month_19 : decode cX6_month 19 = .ok (.iload 5, 2) := by decide +kernel
theorem dX6_month_21 : decode cX6_month 21 = .ok (.iconst 5, 1) := by decide +kernel
theorem dX6_month_22 : decode cX6_month 22 = .ok (.if_icmp .ge 36, 3) := by decide +kernel
theorem dX6_month_25 : decode cX6_month 25 = .ok (.aload_n 0, 1) := by decide +kernel
theorem dX6_month_26 : decode cX6_month 26 = .ok (.iconst 0, 1) := by decide +kernel
theorem dX6_month_27 : decode cX6_month 27 = .ok (.iload 5, 2) := by decide +kernel
theorem dX6_month_29 : decode cX6_month 29 = .ok (.invokevirtual 320, 3) := by decide +kernel
theorem dX6_month_32 : decode cX6_month 32 = .ok (.istore 6, 2) := by decide +kernel
theorem dX6_month_34 : decode cX6_month 34 = .ok (.lload_n 3, 1) := by decide +kernel
theorem dX6_month_35 : decode cX6_month 35 = .ok (.aload_n 0, 1) := by decide +kernel
theorem dX6_month_36 : decode cX6_month 36 = .ok (.iload 5, 2) := by decide +kernel
theorem dX6_month_38 : decode cX6_month 38 = .ok (.invokevirtual 328, 3) := by decide +kernel
theorem dX6_month_41 : decode cX6_month 41 = .ok (.i2l, 1) := by decide +kernel
theorem dX6_month_42 : decode cX6_month 42 = .ok (.aload_n 0, 1) := by decide +kernel
theorem dX6_month_43 : decode cX6_month 43 = .ok (.iload 6, 2) := by decide +kernel
theorem dX6_month_45 : decode cX6_month 45 = .ok (.invokevirtual 323, 3) := by decide +kernel
theorem dX6_month_48 : decode cX6_month 48 = .ok (.i2l, 1) := by decide +kernel
theorem dX6_month_49 : decode cX6_month 49 = .ok (.lmul, 1) := by decide +kernel
theorem dX6_month_50 : decode cX6_month 50 = .ok (.ladd, 1) := by decide +kernel
theorem dX6_month_51 : decode cX6_month 51 = .ok (.lstore_n 3, 1) := by decide +kernel
theorem dX6_month_52 : decode cX6_month 52 = .ok (.iinc 5 1, 3) := by decide +kernel
theorem dX6_month_55 : decode cX6_month 55 = .ok (.goto (-36), 3) := by decide +kernel
theorem dX6_month_58 : decode cX6_month 58 = .ok (.iload_n 1, 1) := by decide +kernel
theorem dX6_month_59 : decode cX6_month 59 = .ok (.i2l, 1) := by decide +kernel
theorem dX6_month_60 : decode cX6_month 60 = .ok (.lload_n 3, 1) := by decide +kernel
theorem dX6_month_61 : decode cX6_month 61 = .ok (.lmul, 1) := by decide +kernel
theorem dX6_month_62 : decode cX6_month 62 = .ok (.aload_n 0, 1) := by decide +kernel
theorem dX6_month_63 : decode cX6_month 63 = .ok (.invokevirtual 331, 3) := by decide +kernel
theorem dX6_month_66 : decode cX6_month 66 = .ok (.i2l, 1) := by decide +kernel
theorem dX6_month_67 : decode cX6_month 67 = .ok (.iload_n 2, 1) := by decide +kernel
theorem dX6_month_68 : decode cX6_month 68 = .ok (.invokestatic 334, 3) := by decide +kernel
theorem dX6_month_71 : decode cX6_month 71 = .ok (.lreturn, 1) := by decide +kernel
theorem dX6_bestSet_0 : decode cX6_bestSet 0 = .ok (.iconst 0, 1) := by decide +kernel
theorem dX6_bestSet_1 : decode cX6_bestSet 1 = .ok (.istore_n 3, 1) := by decide +kernel
theorem dX6_bestSet_2 : decode cX6_bestSet 2 = .ok (.iload_n 3, 1) := by decide +kernel
theorem dX6_bestSet_3 : decode cX6_bestSet 3 = .ok (.aload_n 0, 1) := by decide +kernel
theorem dX6_bestSet_4 : decode cX6_bestSet 4 = .ok (.getfield 12, 3) := by decide +kernel
theorem dX6_bestSet_7 : decode cX6_bestSet 7 = .ok (.getfield 89, 3) := by decide +kernel
theorem dX6_bestSet_10 : decode cX6_bestSet 10 = .ok (.if_icmp .ge 28, 3) := by decide +kernel
theorem dX6_bestSet_13 : decode cX6_bestSet 13 = .ok (.aload_n 0, 1) := by decide +kernel
theorem dX6_bestSet_14 : decode cX6_bestSet 14 = .ok (.getfield 50, 3) := by decide +kernel
theorem dX6_bestSet_17 : decode cX6_bestSet 17 = .ok (.iload_n 3, 1) := by decide +kernel
theorem dX6_bestSet_18 : decode cX6_bestSet 18 = .ok (.aload_n 0, 1) := by decide +kernel
theorem dX6_bestSet_19 : decode cX6_bestSet 19 = .ok (.aload_n 0, 1) := by decide +kernel
theorem dX6_bestSet_20 : decode cX6_bestSet 20 = .ok (.getfield 12, 3) := by decide +kernel
theorem dX6_bestSet_23 : decode cX6_bestSet 23 = .ok (.getfield 162, 3) := by decide +kernel
theorem dX6_bestSet_26 : decode cX6_bestSet 26 = .ok (.iload_n 3, 1) := by decide +kernel
theorem dX6_bestSet_27 : decode cX6_bestSet 27 = .ok (.iload_n 2, 1) := by decide +kernel
theorem dX6_bestSet_28 : decode cX6_bestSet 28 = .ok (.invokevirtual 338, 3) := by decide +kernel
theorem dX6_bestSet_31 : decode cX6_bestSet 31 = .ok (.iastore, 1) := by decide +kernel
theorem dX6_bestSet_32 : decode cX6_bestSet 32 = .ok (.iinc 3 1, 3) := by decide +kernel
theorem dX6_bestSet_35 : decode cX6_bestSet 35 = .ok (.goto (-33), 3) := by decide +kernel
theorem dX6_bestSet_38 : decode cX6_bestSet 38 = .ok (.iconst (-1), 1) := by decide +kernel
theorem dX6_bestSet_39 : decode cX6_bestSet 39 = .ok (.istore_n 3, 1) := by decide +kernel
theorem dX6_bestSet_40 : decode cX6_bestSet 40 = .ok (.iconst (-1), 1) := by decide +kernel
theorem dX6_bestSet_41 : decode cX6_bestSet 41 = .ok (.istore 4, 2) := by decide +kernel
theorem dX6_bestSet_43 : decode cX6_bestSet 43 = .ok (.iconst 0, 1) := by decide +kernel
theorem dX6_bestSet_44 : decode cX6_bestSet 44 = .ok (.istore 5, 2) := by decide +kernel
theorem dX6_bestSet_46 : decode cX6_bestSet 46 = .ok (.iload 5, 2) := by decide +kernel
theorem dX6_bestSet_48 : decode cX6_bestSet 48 = .ok (.iconst 1, 1) := by decide +kernel
theorem dX6_bestSet_49 : decode cX6_bestSet 49 = .ok (.aload_n 0, 1) := by decide +kernel
theorem dX6_bestSet_50 : decode cX6_bestSet 50 = .ok (.getfield 12, 3) := by decide +kernel
theorem dX6_bestSet_53 : decode cX6_bestSet 53 = .ok (.getfield 89, 3) := by decide +kernel
theorem dX6_bestSet_56 : decode cX6_bestSet 56 = .ok (.ishl, 1) := by decide +kernel
theorem dX6_bestSet_57 : decode cX6_bestSet 57 = .ok (.if_icmp .ge 49, 3) := by decide +kernel
theorem dX6_bestSet_60 : decode cX6_bestSet 60 = .ok (.iload 5, 2) := by decide +kernel
theorem dX6_bestSet_62 : decode cX6_bestSet 62 = .ok (.iload_n 1, 1) := by decide +kernel
theorem dX6_bestSet_63 : decode cX6_bestSet 63 = .ok (.iand, 1) := by decide +kernel
theorem dX6_bestSet_64 : decode cX6_bestSet 64 = .ok (.iload_n 1, 1) := by decide +kernel
theorem dX6_bestSet_65 : decode cX6_bestSet 65 = .ok (.if_icmp .ne 35, 3) := by decide +kernel
theorem dX6_bestSet_68 : decode cX6_bestSet 68 = .ok (.aload_n 0, 1) := by decide +kernel
theorem dX6_bestSet_69 : decode cX6_bestSet 69 = .ok (.iload 5, 2) := by decide +kernel
theorem dX6_bestSet_71 : decode cX6_bestSet 71 = .ok (.iload_n 2, 1) := by decide +kernel
theorem dX6_bestSet_72 : decode cX6_bestSet 72 = .ok (.invokevirtual 341, 3) := by decide +kernel
theorem dX6_bestSet_75 : decode cX6_bestSet 75 = .ok (.ifCond .eq 25, 3) := by decide +kernel
theorem dX6_bestSet_78 : decode cX6_bestSet 78 = .ok (.aload_n 0, 1) := by decide +kernel
theorem dX6_bestSet_79 : decode cX6_bestSet 79 = .ok (.iload 5, 2) := by decide +kernel
theorem dX6_bestSet_81 : decode cX6_bestSet 81 = .ok (.invokevirtual 323, 3) := by decide +kernel
theorem dX6_bestSet_84 : decode cX6_bestSet 84 = .ok (.istore 6, 2) := by decide +kernel
theorem dX6_bestSet_86 : decode cX6_bestSet 86 = .ok (.iload 6, 2) := by decide +kernel
theorem dX6_bestSet_88 : decode cX6_bestSet 88 = .ok (.iload 4, 2) := by decide +kernel
theorem dX6_bestSet_90 : decode cX6_bestSet 90 = .ok (.if_icmp .le 10, 3) := by decide +kernel
theorem dX6_bestSet_93 : decode cX6_bestSet 93 = .ok (.iload 6, 2) := by decide +kernel
theorem dX6_bestSet_95 : decode cX6_bestSet 95 = .ok (.istore 4, 2) := by decide +kernel
theorem dX6_bestSet_97 : decode cX6_bestSet 97 = .ok (.iload 5, 2) := by decide +kernel
theorem dX6_bestSet_99 : decode cX6_bestSet 99 = .ok (.istore_n 3, 1) := by decide +kernel
theorem dX6_bestSet_100 : decode cX6_bestSet 100 = .ok (.iinc 5 1, 3) := by decide +kernel
theorem dX6_bestSet_103 : decode cX6_bestSet 103 = .ok (.goto (-57), 3) := by decide +kernel
theorem dX6_bestSet_106 : decode cX6_bestSet 106 = .ok (.iload_n 3, 1) := by decide +kernel
theorem dX6_bestSet_107 : decode cX6_bestSet 107 = .ok (.ireturn, 1) := by decide +kernel
theorem dX6_fitTogether_0 : decode cX6_fitTogether 0 = .ok (.iconst 0, 1) := by decide +kernel
theorem dX6_fitTogether_1 : decode cX6_fitTogether 1 = .ok (.istore_n 3, 1) := by decide +kernel
theorem dX6_fitTogether_2 : decode cX6_fitTogether 2 = .ok (.iconst 0, 1) := by decide +kernel
theorem dX6_fitTogether_3 : decode cX6_fitTogether 3 = .ok (.istore 4, 2) := by decide +kernel
theorem dX6_fitTogether_5 : decode cX6_fitTogether 5 = .ok (.iload 4, 2) := by decide +kernel
theorem dX6_fitTogether_7 : decode cX6_fitTogether 7 = .ok (.aload_n 0, 1) := by decide +kernel
theorem dX6_fitTogether_8 : decode cX6_fitTogether 8 = .ok (.getfield 12, 3) := by decide +kernel
theorem dX6_fitTogether_11 : decode cX6_fitTogether 11 = .ok (.getfield 89, 3) := by decide +kernel
theorem dX6_fitTogether_14 : decode cX6_fitTogether 14 = .ok (.if_icmp .ge 54, 3) := by decide +kernel
theorem dX6_fitTogether_17 : decode cX6_fitTogether 17 = .ok (.iload_n 1, 1) := by decide +kernel
theorem dX6_fitTogether_18 : decode cX6_fitTogether 18 = .ok (.iload 4, 2) := by decide +kernel
theorem dX6_fitTogether_20 : decode cX6_fitTogether 20 = .ok (.ishr, 1) := by decide +kernel
theorem dX6_fitTogether_21 : decode cX6_fitTogether 21 = .ok (.iconst 1, 1) := by decide +kernel
theorem dX6_fitTogether_22 : decode cX6_fitTogether 22 = .ok (.iand, 1) := by decide +kernel
theorem dX6_fitTogether_23 : decode cX6_fitTogether 23 = .ok (.iconst 1, 1) := by decide +kernel
theorem dX6_fitTogether_24 : decode cX6_fitTogether 24 = .ok (.if_icmp .ne 38, 3) := by decide +kernel
theorem dX6_fitTogether_27 : decode cX6_fitTogether 27 = .ok (.aload_n 0, 1) := by decide +kernel
theorem dX6_fitTogether_28 : decode cX6_fitTogether 28 = .ok (.getfield 12, 3) := by decide +kernel
theorem dX6_fitTogether_31 : decode cX6_fitTogether 31 = .ok (.iload 4, 2) := by decide +kernel
theorem dX6_fitTogether_33 : decode cX6_fitTogether 33 = .ok (.invokevirtual 193, 3) := by decide +kernel
theorem dX6_fitTogether_36 : decode cX6_fitTogether 36 = .ok (.istore 5, 2) := by decide +kernel
theorem dX6_fitTogether_38 : decode cX6_fitTogether 38 = .ok (.aload_n 0, 1) := by decide +kernel
theorem dX6_fitTogether_39 : decode cX6_fitTogether 39 = .ok (.iload 4, 2) := by decide +kernel
theorem dX6_fitTogether_41 : decode cX6_fitTogether 41 = .ok (.iload_n 2, 1) := by decide +kernel
theorem dX6_fitTogether_42 : decode cX6_fitTogether 42 = .ok (.invokevirtual 190, 3) := by decide +kernel
theorem dX6_fitTogether_45 : decode cX6_fitTogether 45 = .ok (.ifCond .eq 10, 3) := by decide +kernel
theorem dX6_fitTogether_48 : decode cX6_fitTogether 48 = .ok (.iload_n 3, 1) := by decide +kernel
theorem dX6_fitTogether_49 : decode cX6_fitTogether 49 = .ok (.iload 5, 2) := by decide +kernel
theorem dX6_fitTogether_51 : decode cX6_fitTogether 51 = .ok (.iand, 1) := by decide +kernel
theorem dX6_fitTogether_52 : decode cX6_fitTogether 52 = .ok (.ifCond .eq 5, 3) := by decide +kernel
theorem dX6_fitTogether_55 : decode cX6_fitTogether 55 = .ok (.iconst 0, 1) := by decide +kernel
theorem dX6_fitTogether_56 : decode cX6_fitTogether 56 = .ok (.ireturn, 1) := by decide +kernel
theorem dX6_fitTogether_57 : decode cX6_fitTogether 57 = .ok (.iload_n 3, 1) := by decide +kernel
theorem dX6_fitTogether_58 : decode cX6_fitTogether 58 = .ok (.iload 5, 2) := by decide +kernel
theorem dX6_fitTogether_60 : decode cX6_fitTogether 60 = .ok (.ior, 1) := by decide +kernel
theorem dX6_fitTogether_61 : decode cX6_fitTogether 61 = .ok (.istore_n 3, 1) := by decide +kernel
theorem dX6_fitTogether_62 : decode cX6_fitTogether 62 = .ok (.iinc 4 1, 3) := by decide +kernel
theorem dX6_fitTogether_65 : decode cX6_fitTogether 65 = .ok (.goto (-60), 3) := by decide +kernel
theorem dX6_fitTogether_68 : decode cX6_fitTogether 68 = .ok (.iconst 1, 1) := by decide +kernel
theorem dX6_fitTogether_69 : decode cX6_fitTogether 69 = .ok (.ireturn, 1) := by decide +kernel
theorem dX6_bidTogether_0 : decode cX6_bidTogether 0 = .ok (.iconst 0, 1) := by decide +kernel
theorem dX6_bidTogether_1 : decode cX6_bidTogether 1 = .ok (.istore_n 2, 1) := by decide +kernel
theorem dX6_bidTogether_2 : decode cX6_bidTogether 2 = .ok (.iconst 0, 1) := by decide +kernel
theorem dX6_bidTogether_3 : decode cX6_bidTogether 3 = .ok (.istore_n 3, 1) := by decide +kernel
theorem dX6_bidTogether_4 : decode cX6_bidTogether 4 = .ok (.iload_n 3, 1) := by decide +kernel
theorem dX6_bidTogether_5 : decode cX6_bidTogether 5 = .ok (.bipush 6, 2) := by decide +kernel
theorem dX6_bidTogether_7 : decode cX6_bidTogether 7 = .ok (.if_icmp .ge 27, 3) := by decide +kernel
theorem dX6_bidTogether_10 : decode cX6_bidTogether 10 = .ok (.iload_n 1, 1) := by decide +kernel
theorem dX6_bidTogether_11 : decode cX6_bidTogether 11 = .ok (.iload_n 3, 1) := by decide +kernel
theorem dX6_bidTogether_12 : decode cX6_bidTogether 12 = .ok (.ishr, 1) := by decide +kernel
theorem dX6_bidTogether_13 : decode cX6_bidTogether 13 = .ok (.iconst 1, 1) := by decide +kernel
theorem dX6_bidTogether_14 : decode cX6_bidTogether 14 = .ok (.iand, 1) := by decide +kernel
theorem dX6_bidTogether_15 : decode cX6_bidTogether 15 = .ok (.iconst 1, 1) := by decide +kernel
theorem dX6_bidTogether_16 : decode cX6_bidTogether 16 = .ok (.if_icmp .ne 12, 3) := by decide +kernel
theorem dX6_bidTogether_19 : decode cX6_bidTogether 19 = .ok (.iload_n 2, 1) := by decide +kernel
theorem dX6_bidTogether_20 : decode cX6_bidTogether 20 = .ok (.aload_n 0, 1) := by decide +kernel
theorem dX6_bidTogether_21 : decode cX6_bidTogether 21 = .ok (.getfield 50, 3) := by decide +kernel
theorem dX6_bidTogether_24 : decode cX6_bidTogether 24 = .ok (.iload_n 3, 1) := by decide +kernel
theorem dX6_bidTogether_25 : decode cX6_bidTogether 25 = .ok (.iaload, 1) := by decide +kernel
theorem dX6_bidTogether_26 : decode cX6_bidTogether 26 = .ok (.iadd, 1) := by decide +kernel
theorem dX6_bidTogether_27 : decode cX6_bidTogether 27 = .ok (.istore_n 2, 1) := by decide +kernel
theorem dX6_bidTogether_28 : decode cX6_bidTogether 28 = .ok (.iinc 3 1, 3) := by decide +kernel
theorem dX6_bidTogether_31 : decode cX6_bidTogether 31 = .ok (.goto (-27), 3) := by decide +kernel
theorem dX6_bidTogether_34 : decode cX6_bidTogether 34 = .ok (.iload_n 2, 1) := by decide +kernel
theorem dX6_bidTogether_35 : decode cX6_bidTogether 35 = .ok (.ireturn, 1) := by decide +kernel
theorem dX6_hope_0 : decode cX6_hope 0 = .ok (.iload_n 1, 1) := by decide +kernel
theorem dX6_hope_1 : decode cX6_hope 1 = .ok (.iconst 0, 1) := by decide +kernel
theorem dX6_hope_2 : decode cX6_hope 2 = .ok (.bipush 6, 2) := by decide +kernel
theorem dX6_hope_4 : decode cX6_hope 4 = .ok (.invokestatic 75, 3) := by decide +kernel
theorem dX6_hope_7 : decode cX6_hope 7 = .ok (.ifCond .eq 12, 3) := by decide +kernel
theorem dX6_hope_10 : decode cX6_hope 10 = .ok (.aload_n 0, 1) := by decide +kernel
theorem dX6_hope_11 : decode cX6_hope 11 = .ok (.iload_n 1, 1) := by decide +kernel
theorem dX6_hope_12 : decode cX6_hope 12 = .ok (.iload_n 2, 1) := by decide +kernel
theorem dX6_hope_13 : decode cX6_hope 13 = .ok (.invokevirtual 344, 3) := by decide +kernel
theorem dX6_hope_16 : decode cX6_hope 16 = .ok (.goto 6, 3) := by decide +kernel
theorem dX6_hope_19 : decode cX6_hope 19 = .ok (.ldc2_w 326, 3) := by decide +kernel
theorem dX6_hope_22 : decode cX6_hope 22 = .ok (.lreturn, 1) := by decide +kernel
theorem dX6_keep_0 : decode cX6_keep 0 = .ok (.iload_n 1, 1) := by decide +kernel
theorem dX6_keep_1 : decode cX6_keep 1 = .ok (.iconst 0, 1) := by decide +kernel
theorem dX6_keep_2 : decode cX6_keep 2 = .ok (.bipush 6, 2) := by decide +kernel
theorem dX6_keep_4 : decode cX6_keep 4 = .ok (.invokestatic 75, 3) := by decide +kernel
theorem dX6_keep_7 : decode cX6_keep 7 = .ok (.ifCond .ne 5, 3) := by decide +kernel
theorem dX6_keep_10 : decode cX6_keep 10 = .ok (.iconst 0, 1) := by decide +kernel
theorem dX6_keep_11 : decode cX6_keep 11 = .ok (.ireturn, 1) := by decide +kernel
theorem dX6_keep_12 : decode cX6_keep 12 = .ok (.aload_n 0, 1) := by decide +kernel
theorem dX6_keep_13 : decode cX6_keep 13 = .ok (.iload_n 1, 1) := by decide +kernel
theorem dX6_keep_14 : decode cX6_keep 14 = .ok (.iconst 0, 1) := by decide +kernel
theorem dX6_keep_15 : decode cX6_keep 15 = .ok (.invokevirtual 344, 3) := by decide +kernel
theorem dX6_keep_18 : decode cX6_keep 18 = .ok (.aload_n 0, 1) := by decide +kernel
theorem dX6_keep_19 : decode cX6_keep 19 = .ok (.getfield 12, 3) := by decide +kernel
theorem dX6_keep_22 : decode cX6_keep 22 = .ok (.getfield 82, 3) := by decide +kernel
theorem dX6_keep_25 : decode cX6_keep 25 = .ok (.aload_n 0, 1) := by decide +kernel
theorem dX6_keep_26 : decode cX6_keep 26 = .ok (.getfield 12, 3) := by decide +kernel
theorem dX6_keep_29 : decode cX6_keep 29 = .ok (.getfield 104, 3) := by decide +kernel
theorem dX6_keep_32 : decode cX6_keep 32 = .ok (.getfield 187, 3) := by decide +kernel
theorem dX6_keep_35 : decode cX6_keep 35 = .ok (.iaload, 1) := by decide +kernel
theorem dX6_keep_36 : decode cX6_keep 36 = .ok (.i2l, 1) := by decide +kernel
theorem dX6_keep_37 : decode cX6_keep 37 = .ok (.aload_n 0, 1) := by decide +kernel
theorem dX6_keep_38 : decode cX6_keep 38 = .ok (.iload_n 1, 1) := by decide +kernel
theorem dX6_keep_39 : decode cX6_keep 39 = .ok (.iconst 1, 1) := by decide +kernel
theorem dX6_keep_40 : decode cX6_keep 40 = .ok (.invokevirtual 344, 3) := by decide +kernel
theorem dX6_keep_43 : decode cX6_keep 43 = .ok (.lmul, 1) := by decide +kernel
theorem dX6_keep_44 : decode cX6_keep 44 = .ok (.lcmp, 1) := by decide +kernel
theorem dX6_keep_45 : decode cX6_keep 45 = .ok (.ifCond .le 7, 3) := by decide +kernel
theorem dX6_keep_48 : decode cX6_keep 48 = .ok (.iconst 1, 1) := by decide +kernel
theorem dX6_keep_49 : decode cX6_keep 49 = .ok (.goto 4, 3) := by decide +kernel
theorem dX6_keep_52 : decode cX6_keep 52 = .ok (.iconst 0, 1) := by decide +kernel
theorem dX6_keep_53 : decode cX6_keep 53 = .ok (.ireturn, 1) := by decide +kernel
theorem dX6_hoped_0 : decode cX6_hoped 0 = .ok (.lconst 0, 1) := by decide +kernel
theorem dX6_hoped_1 : decode cX6_hoped 1 = .ok (.lstore_n 3, 1) := by decide +kernel
theorem dX6_hoped_2 : decode cX6_hoped 2 = .ok (.lconst 1, 1) := by decide +kernel
theorem dX6_hoped_3 : decode cX6_hoped 3 = .ok (.lstore 5, 2) := by decide +kernel
theorem dX6_hoped_5 : decode cX6_hoped 5 = .ok (.iconst 0, 1) := by decide +kernel
theorem dX6_hoped_6 : decode cX6_hoped 6 = .ok (.istore 7, 2) := by decide +kernel
theorem dX6_hoped_8 : decode cX6_hoped 8 = .ok (.iload 7, 2) := by decide +kernel
theorem dX6_hoped_10 : decode cX6_hoped 10 = .ok (.iload_n 1, 1) := by decide +kernel
theorem dX6_hoped_11 : decode cX6_hoped 11 = .ok (.if_icmp .ge 71, 3) := by decide +kernel
theorem dX6_hoped_14 : decode cX6_hoped 14 = .ok (.lconst 0, 1) := by decide +kernel
theorem dX6_hoped_15 : decode cX6_hoped 15 = .ok (.lstore 8, 2) := by decide +kernel
theorem dX6_hoped_17 : decode cX6_hoped 17 = .ok (.iconst 0, 1) := by decide +kernel
theorem dX6_hoped_18 : decode cX6_hoped 18 = .ok (.istore 10, 2) := by decide +kernel
theorem dX6_hoped_20 : decode cX6_hoped 20 = .ok (.iload 10, 2) := by decide +kernel
theorem dX6_hoped_22 : decode cX6_hoped 22 = .ok (.iconst 5, 1) := by decide +kernel
theorem dX6_hoped_23 : decode cX6_hoped 23 = .ok (.if_icmp .ge 40, 3) := by decide +kernel
theorem dX6_hoped_26 : decode cX6_hoped 26 = .ok (.lload 8, 2) := by decide +kernel
theorem dX6_hoped_28 : decode cX6_hoped 28 = .ok (.aload_n 0, 1) := by decide +kernel
theorem dX6_hoped_29 : decode cX6_hoped 29 = .ok (.iload 10, 2) := by decide +kernel
theorem dX6_hoped_31 : decode cX6_hoped 31 = .ok (.invokevirtual 328, 3) := by decide +kernel
theorem dX6_hoped_34 : decode cX6_hoped 34 = .ok (.i2l, 1) := by decide +kernel
theorem dX6_hoped_35 : decode cX6_hoped 35 = .ok (.aload_n 0, 1) := by decide +kernel
theorem dX6_hoped_36 : decode cX6_hoped 36 = .ok (.getfield 12, 3) := by decide +kernel
theorem dX6_hoped_39 : decode cX6_hoped 39 = .ok (.getfield 82, 3) := by decide +kernel
theorem dX6_hoped_42 : decode cX6_hoped 42 = .ok (.iload 10, 2) := by decide +kernel
theorem dX6_hoped_44 : decode cX6_hoped 44 = .ok (.iaload, 1) := by decide +kernel
theorem dX6_hoped_45 : decode cX6_hoped 45 = .ok (.i2l, 1) := by decide +kernel
theorem dX6_hoped_46 : decode cX6_hoped 46 = .ok (.lload 5, 2) := by decide +kernel
theorem dX6_hoped_48 : decode cX6_hoped 48 = .ok (.lmul, 1) := by decide +kernel
theorem dX6_hoped_49 : decode cX6_hoped 49 = .ok (.lload_n 3, 1) := by decide +kernel
theorem dX6_hoped_50 : decode cX6_hoped 50 = .ok (.invokestatic 348, 3) := by decide +kernel
theorem dX6_hoped_53 : decode cX6_hoped 53 = .ok (.lmul, 1) := by decide +kernel
theorem dX6_hoped_54 : decode cX6_hoped 54 = .ok (.ladd, 1) := by decide +kernel
theorem dX6_hoped_55 : decode cX6_hoped 55 = .ok (.lstore 8, 2) := by decide +kernel
theorem dX6_hoped_57 : decode cX6_hoped 57 = .ok (.iinc 10 1, 3) := by decide +kernel
theorem dX6_hoped_60 : decode cX6_hoped 60 = .ok (.goto (-40), 3) := by decide +kernel
theorem dX6_hoped_63 : decode cX6_hoped 63 = .ok (.lload 8, 2) := by decide +kernel
theorem dX6_hoped_65 : decode cX6_hoped 65 = .ok (.lstore_n 3, 1) := by decide +kernel
theorem dX6_hoped_66 : decode cX6_hoped 66 = .ok (.lload 5, 2) := by decide +kernel
theorem dX6_hoped_68 : decode cX6_hoped 68 = .ok (.aload_n 0, 1) := by decide +kernel
theorem dX6_hoped_69 : decode cX6_hoped 69 = .ok (.invokevirtual 331, 3) := by decide +kernel
theorem dX6_hoped_72 : decode cX6_hoped 72 = .ok (.i2l, 1) := by decide +kernel
theorem dX6_hoped_73 : decode cX6_hoped 73 = .ok (.lmul, 1) := by decide +kernel
theorem dX6_hoped_74 : decode cX6_hoped 74 = .ok (.lstore 5, 2) := by decide +kernel
theorem dX6_hoped_76 : decode cX6_hoped 76 = .ok (.iinc 7 1, 3) := by decide +kernel
theorem dX6_hoped_79 : decode cX6_hoped 79 = .ok (.goto (-71), 3) := by decide +kernel
theorem dX6_hoped_82 : decode cX6_hoped 82 = .ok (.lload_n 3, 1) := by decide +kernel
theorem dX6_hoped_83 : decode cX6_hoped 83 = .ok (.lload 5, 2) := by decide +kernel
theorem dX6_hoped_85 : decode cX6_hoped 85 = .ok (.iload_n 2, 1) := by decide +kernel
theorem dX6_hoped_86 : decode cX6_hoped 86 = .ok (.invokestatic 334, 3) := by decide +kernel
theorem dX6_hoped_89 : decode cX6_hoped 89 = .ok (.lreturn, 1) := by decide +kernel
theorem dX6_chance_0 : decode cX6_chance 0 = .ok (.iload_n 1, 1) := by decide +kernel
theorem dX6_chance_1 : decode cX6_chance 1 = .ok (.invokestatic 71, 3) := by decide +kernel
theorem dX6_chance_4 : decode cX6_chance 4 = .ok (.ifCond .eq 21, 3) := by decide +kernel
theorem dX6_chance_7 : decode cX6_chance 7 = .ok (.aload_n 0, 1) := by decide +kernel
theorem dX6_chance_8 : decode cX6_chance 8 = .ok (.iload_n 1, 1) := by decide +kernel
theorem dX6_chance_9 : decode cX6_chance 9 = .ok (.invokevirtual 328, 3) := by decide +kernel
theorem dX6_chance_12 : decode cX6_chance 12 = .ok (.i2l, 1) := by decide +kernel
theorem dX6_chance_13 : decode cX6_chance 13 = .ok (.aload_n 0, 1) := by decide +kernel
theorem dX6_chance_14 : decode cX6_chance 14 = .ok (.invokevirtual 331, 3) := by decide +kernel
theorem dX6_chance_17 : decode cX6_chance 17 = .ok (.i2l, 1) := by decide +kernel
theorem dX6_chance_18 : decode cX6_chance 18 = .ok (.iload_n 2, 1) := by decide +kernel
theorem dX6_chance_19 : decode cX6_chance 19 = .ok (.invokestatic 334, 3) := by decide +kernel
theorem dX6_chance_22 : decode cX6_chance 22 = .ok (.goto 6, 3) := by decide +kernel
theorem dX6_chance_25 : decode cX6_chance 25 = .ok (.ldc2_w 326, 3) := by decide +kernel
theorem dX6_chance_28 : decode cX6_chance 28 = .ok (.lreturn, 1) := by decide +kernel
theorem dX6_first_0 : decode cX6_first 0 = .ok (.iload_n 1, 1) := by decide +kernel
theorem dX6_first_1 : decode cX6_first 1 = .ok (.invokestatic 71, 3) := by decide +kernel
theorem dX6_first_4 : decode cX6_first 4 = .ok (.ifCond .ne 5, 3) := by decide +kernel
theorem dX6_first_7 : decode cX6_first 7 = .ok (.iconst (-1), 1) := by decide +kernel
theorem dX6_first_8 : decode cX6_first 8 = .ok (.ireturn, 1) := by decide +kernel
theorem dX6_first_9 : decode cX6_first 9 = .ok (.aload_n 0, 1) := by decide +kernel
theorem dX6_first_10 : decode cX6_first 10 = .ok (.invokevirtual 331, 3) := by decide +kernel
theorem dX6_first_13 : decode cX6_first 13 = .ok (.istore_n 2, 1) := by decide +kernel
theorem dX6_first_14 : decode cX6_first 14 = .ok (.lconst 1, 1) := by decide +kernel
theorem dX6_first_15 : decode cX6_first 15 = .ok (.lstore_n 3, 1) := by decide +kernel
theorem dX6_first_16 : decode cX6_first 16 = .ok (.lconst 1, 1) := by decide +kernel
theorem dX6_first_17 : decode cX6_first 17 = .ok (.lstore 5, 2) := by decide +kernel
theorem dX6_first_19 : decode cX6_first 19 = .ok (.iconst 1, 1) := by decide +kernel
theorem dX6_first_20 : decode cX6_first 20 = .ok (.istore 7, 2) := by decide +kernel
theorem dX6_first_22 : decode cX6_first 22 = .ok (.iload 7, 2) := by decide +kernel
theorem dX6_first_24 : decode cX6_first 24 = .ok (.bipush 10, 2) := by decide +kernel
theorem dX6_first_26 : decode cX6_first 26 = .ok (.if_icmp .gt 41, 3) := by decide +kernel
theorem dX6_first_29 : decode cX6_first 29 = .ok (.lload_n 3, 1) := by decide +kernel
theorem dX6_first_30 : decode cX6_first 30 = .ok (.iload_n 2, 1) := by decide +kernel
theorem dX6_first_31 : decode cX6_first 31 = .ok (.aload_n 0, 1) := by decide +kernel
theorem dX6_first_32 : decode cX6_first 32 = .ok (.iload_n 1, 1) := by decide +kernel
theorem dX6_first_33 : decode cX6_first 33 = .ok (.invokevirtual 328, 3) := by decide +kernel
theorem dX6_first_36 : decode cX6_first 36 = .ok (.isub, 1) := by decide +kernel
theorem dX6_first_37 : decode cX6_first 37 = .ok (.i2l, 1) := by decide +kernel
theorem dX6_first_38 : decode cX6_first 38 = .ok (.lmul, 1) := by decide +kernel
theorem dX6_first_39 : decode cX6_first 39 = .ok (.lstore_n 3, 1) := by decide +kernel
theorem dX6_first_40 : decode cX6_first 40 = .ok (.lload 5, 2) := by decide +kernel
theorem dX6_first_42 : decode cX6_first 42 = .ok (.iload_n 2, 1) := by decide +kernel
theorem dX6_first_43 : decode cX6_first 43 = .ok (.i2l, 1) := by decide +kernel
theorem dX6_first_44 : decode cX6_first 44 = .ok (.lmul, 1) := by decide +kernel
theorem dX6_first_45 : decode cX6_first 45 = .ok (.lstore 5, 2) := by decide +kernel
theorem dX6_first_47 : decode cX6_first 47 = .ok (.ldc2_w 352, 3) := by decide +kernel
theorem dX6_first_50 : decode cX6_first 50 = .ok (.lload_n 3, 1) := by decide +kernel
theorem dX6_first_51 : decode cX6_first 51 = .ok (.lmul, 1) := by decide +kernel
theorem dX6_first_52 : decode cX6_first 52 = .ok (.lload 5, 2) := by decide +kernel
theorem dX6_first_54 : decode cX6_first 54 = .ok (.lcmp, 1) := by decide +kernel
theorem dX6_first_55 : decode cX6_first 55 = .ok (.ifCond .gt 6, 3) := by decide +kernel
theorem dX6_first_58 : decode cX6_first 58 = .ok (.iload 7, 2) := by decide +kernel
theorem dX6_first_60 : decode cX6_first 60 = .ok (.ireturn, 1) := by decide +kernel
theorem dX6_first_61 : decode cX6_first 61 = .ok (.iinc 7 1, 3) := by decide +kernel
theorem dX6_first_64 : decode cX6_first 64 = .ok (.goto (-42), 3) := by decide +kernel
theorem dX6_first_67 : decode cX6_first 67 = .ok (.iconst (-1), 1) := by decide +kernel
theorem dX6_first_68 : decode cX6_first 68 = .ok (.ireturn, 1) := by decide +kernel
theorem dX6_was_0 : decode cX6_was 0 = .ok (.iconst 0, 1) := by decide +kernel
theorem dX6_was_1 : decode cX6_was 1 = .ok (.istore_n 1, 1) := by decide +kernel
theorem dX6_was_2 : decode cX6_was 2 = .ok (.iconst 0, 1) := by decide +kernel
theorem dX6_was_3 : decode cX6_was 3 = .ok (.istore_n 2, 1) := by decide +kernel
theorem dX6_was_4 : decode cX6_was 4 = .ok (.iload_n 2, 1) := by decide +kernel
theorem dX6_was_5 : decode cX6_was 5 = .ok (.iconst 5, 1) := by decide +kernel
theorem dX6_was_6 : decode cX6_was 6 = .ok (.if_icmp .ge 23, 3) := by decide +kernel
theorem dX6_was_9 : decode cX6_was 9 = .ok (.aload_n 0, 1) := by decide +kernel
theorem dX6_was_10 : decode cX6_was 10 = .ok (.iload_n 2, 1) := by decide +kernel
theorem dX6_was_11 : decode cX6_was 11 = .ok (.invokevirtual 328, 3) := by decide +kernel
theorem dX6_was_14 : decode cX6_was 14 = .ok (.ifCond .le 9, 3) := by decide +kernel
theorem dX6_was_17 : decode cX6_was 17 = .ok (.iload_n 1, 1) := by decide +kernel
theorem dX6_was_18 : decode cX6_was 18 = .ok (.iconst 1, 1) := by decide +kernel
theorem dX6_was_19 : decode cX6_was 19 = .ok (.iload_n 2, 1) := by decide +kernel
theorem dX6_was_20 : decode cX6_was 20 = .ok (.ishl, 1) := by decide +kernel
theorem dX6_was_21 : decode cX6_was 21 = .ok (.ior, 1) := by decide +kernel
theorem dX6_was_22 : decode cX6_was 22 = .ok (.istore_n 1, 1) := by decide +kernel
theorem dX6_was_23 : decode cX6_was 23 = .ok (.iinc 2 1, 3) := by decide +kernel
theorem dX6_was_26 : decode cX6_was 26 = .ok (.goto (-22), 3) := by decide +kernel
theorem dX6_was_29 : decode cX6_was 29 = .ok (.iconst 0, 1) := by decide +kernel
theorem dX6_was_30 : decode cX6_was 30 = .ok (.istore_n 2, 1) := by decide +kernel
theorem dX6_was_31 : decode cX6_was 31 = .ok (.iload_n 2, 1) := by decide +kernel
theorem dX6_was_32 : decode cX6_was 32 = .ok (.aload_n 0, 1) := by decide +kernel
theorem dX6_was_33 : decode cX6_was 33 = .ok (.getfield 12, 3) := by decide +kernel
theorem dX6_was_36 : decode cX6_was 36 = .ok (.getfield 89, 3) := by decide +kernel
theorem dX6_was_39 : decode cX6_was 39 = .ok (.if_icmp .ge 75, 3) := by decide +kernel
theorem dX6_was_42 : decode cX6_was 42 = .ok (.aload_n 0, 1) := by decide +kernel
theorem dX6_was_43 : decode cX6_was 43 = .ok (.getfield 12, 3) := by decide +kernel
theorem dX6_was_46 : decode cX6_was 46 = .ok (.getfield 119, 3) := by decide +kernel
theorem dX6_was_49 : decode cX6_was 49 = .ok (.iload_n 2, 1) := by decide +kernel
theorem dX6_was_50 : decode cX6_was 50 = .ok (.ishr, 1) := by decide +kernel
theorem dX6_was_51 : decode cX6_was 51 = .ok (.iconst 1, 1) := by decide +kernel
theorem dX6_was_52 : decode cX6_was 52 = .ok (.iand, 1) := by decide +kernel
theorem dX6_was_53 : decode cX6_was 53 = .ok (.iconst 1, 1) := by decide +kernel
theorem dX6_was_54 : decode cX6_was 54 = .ok (.if_icmp .ne 54, 3) := by decide +kernel
theorem dX6_was_57 : decode cX6_was 57 = .ok (.aload_n 0, 1) := by decide +kernel
theorem dX6_was_58 : decode cX6_was 58 = .ok (.getfield 12, 3) := by decide +kernel
theorem dX6_was_61 : decode cX6_was 61 = .ok (.getfield 122, 3) := by decide +kernel
theorem dX6_was_64 : decode cX6_was 64 = .ok (.iload_n 2, 1) := by decide +kernel
theorem dX6_was_65 : decode cX6_was 65 = .ok (.ishr, 1) := by decide +kernel
theorem dX6_was_66 : decode cX6_was 66 = .ok (.iconst 1, 1) := by decide +kernel
theorem dX6_was_67 : decode cX6_was 67 = .ok (.iand, 1) := by decide +kernel
theorem dX6_was_68 : decode cX6_was 68 = .ok (.iconst 1, 1) := by decide +kernel
theorem dX6_was_69 : decode cX6_was 69 = .ok (.if_icmp .ne 7, 3) := by decide +kernel
theorem dX6_was_72 : decode cX6_was 72 = .ok (.iconst 1, 1) := by decide +kernel
theorem dX6_was_73 : decode cX6_was 73 = .ok (.goto 4, 3) := by decide +kernel
theorem dX6_was_76 : decode cX6_was 76 = .ok (.iconst 0, 1) := by decide +kernel
theorem dX6_was_77 : decode cX6_was 77 = .ok (.istore_n 3, 1) := by decide +kernel
theorem dX6_was_78 : decode cX6_was 78 = .ok (.iload_n 1, 1) := by decide +kernel
theorem dX6_was_79 : decode cX6_was 79 = .ok (.iload_n 3, 1) := by decide +kernel
theorem dX6_was_80 : decode cX6_was 80 = .ok (.ifCond .eq 15, 3) := by decide +kernel
theorem dX6_was_83 : decode cX6_was 83 = .ok (.aload_n 0, 1) := by decide +kernel
theorem dX6_was_84 : decode cX6_was 84 = .ok (.getfield 12, 3) := by decide +kernel
theorem dX6_was_87 : decode cX6_was 87 = .ok (.getfield 92, 3) := by decide +kernel
theorem dX6_was_90 : decode cX6_was 90 = .ok (.iload_n 2, 1) := by decide +kernel
theorem dX6_was_91 : decode cX6_was 91 = .ok (.iaload, 1) := by decide +kernel
theorem dX6_was_92 : decode cX6_was 92 = .ok (.goto 14, 3) := by decide +kernel
theorem dX6_was_95 : decode cX6_was 95 = .ok (.aload_n 0, 1) := by decide +kernel
theorem dX6_was_96 : decode cX6_was 96 = .ok (.getfield 12, 3) := by decide +kernel
theorem dX6_was_99 : decode cX6_was 99 = .ok (.getfield 92, 3) := by decide +kernel
theorem dX6_was_102 : decode cX6_was 102 = .ok (.iload_n 2, 1) := by decide +kernel
theorem dX6_was_103 : decode cX6_was 103 = .ok (.iaload, 1) := by decide +kernel
theorem dX6_was_104 : decode cX6_was 104 = .ok (.iconst (-1), 1) := by decide +kernel
theorem dX6_was_105 : decode cX6_was 105 = .ok (.ixor, 1) := by decide +kernel
theorem dX6_was_106 : decode cX6_was 106 = .ok (.iand, 1) := by decide +kernel
theorem dX6_was_107 : decode cX6_was 107 = .ok (.istore_n 1, 1) := by decide +kernel
theorem dX6_was_108 : decode cX6_was 108 = .ok (.iinc 2 1, 3) := by decide +kernel
theorem dX6_was_111 : decode cX6_was 111 = .ok (.goto (-80), 3) := by decide +kernel
theorem dX6_was_114 : decode cX6_was 114 = .ok (.iload_n 1, 1) := by decide +kernel
theorem dX6_was_115 : decode cX6_was 115 = .ok (.ireturn, 1) := by decide +kernel
theorem dX6_likeliest_0 : decode cX6_likeliest 0 = .ok (.aload_n 0, 1) := by decide +kernel
theorem dX6_likeliest_1 : decode cX6_likeliest 1 = .ok (.invokevirtual 354, 3) := by decide +kernel
theorem dX6_likeliest_4 : decode cX6_likeliest 4 = .ok (.istore_n 1, 1) := by decide +kernel
theorem dX6_likeliest_5 : decode cX6_likeliest 5 = .ok (.iconst (-1), 1) := by decide +kernel
theorem dX6_likeliest_6 : decode cX6_likeliest 6 = .ok (.istore_n 2, 1) := by decide +kernel
theorem dX6_likeliest_7 : decode cX6_likeliest 7 = .ok (.iconst 0, 1) := by decide +kernel
theorem dX6_likeliest_8 : decode cX6_likeliest 8 = .ok (.istore_n 3, 1) := by decide +kernel
theorem dX6_likeliest_9 : decode cX6_likeliest 9 = .ok (.iload_n 3, 1) := by decide +kernel
theorem dX6_likeliest_10 : decode cX6_likeliest 10 = .ok (.iconst 5, 1) := by decide +kernel
theorem dX6_likeliest_11 : decode cX6_likeliest 11 = .ok (.if_icmp .ge 50, 3) := by decide +kernel
theorem dX6_likeliest_14 : decode cX6_likeliest 14 = .ok (.iload_n 1, 1) := by decide +kernel
theorem dX6_likeliest_15 : decode cX6_likeliest 15 = .ok (.iload_n 3, 1) := by decide +kernel
theorem dX6_likeliest_16 : decode cX6_likeliest 16 = .ok (.ishr, 1) := by decide +kernel
theorem dX6_likeliest_17 : decode cX6_likeliest 17 = .ok (.iconst 1, 1) := by decide +kernel
theorem dX6_likeliest_18 : decode cX6_likeliest 18 = .ok (.iand, 1) := by decide +kernel
theorem dX6_likeliest_19 : decode cX6_likeliest 19 = .ok (.iconst 1, 1) := by decide +kernel
theorem dX6_likeliest_20 : decode cX6_likeliest 20 = .ok (.if_icmp .ne 7, 3) := by decide +kernel
theorem dX6_likeliest_23 : decode cX6_likeliest 23 = .ok (.iconst 1, 1) := by decide +kernel
theorem dX6_likeliest_24 : decode cX6_likeliest 24 = .ok (.goto 4, 3) := by decide +kernel
theorem dX6_likeliest_27 : decode cX6_likeliest 27 = .ok (.iconst 0, 1) := by decide +kernel
theorem dX6_likeliest_28 : decode cX6_likeliest 28 = .ok (.istore 4, 2) := by decide +kernel
theorem dX6_likeliest_30 : decode cX6_likeliest 30 = .ok (.iload 4, 2) := by decide +kernel
theorem dX6_likeliest_32 : decode cX6_likeliest 32 = .ok (.ifCond .eq 23, 3) := by decide +kernel
theorem dX6_likeliest_35 : decode cX6_likeliest 35 = .ok (.iload_n 2, 1) := by decide +kernel
theorem dX6_likeliest_36 : decode cX6_likeliest 36 = .ok (.iconst (-1), 1) := by decide +kernel
theorem dX6_likeliest_37 : decode cX6_likeliest 37 = .ok (.if_icmp .eq 16, 3) := by decide +kernel
theorem dX6_likeliest_40 : decode cX6_likeliest 40 = .ok (.aload_n 0, 1) := by decide +kernel
theorem dX6_likeliest_41 : decode cX6_likeliest 41 = .ok (.iload_n 3, 1) := by decide +kernel
theorem dX6_likeliest_42 : decode cX6_likeliest 42 = .ok (.invokevirtual 328, 3) := by decide +kernel
theorem dX6_likeliest_45 : decode cX6_likeliest 45 = .ok (.aload_n 0, 1) := by decide +kernel
theorem dX6_likeliest_46 : decode cX6_likeliest 46 = .ok (.iload_n 2, 1) := by decide +kernel
theorem dX6_likeliest_47 : decode cX6_likeliest 47 = .ok (.invokevirtual 328, 3) := by decide +kernel
theorem dX6_likeliest_50 : decode cX6_likeliest 50 = .ok (.if_icmp .le 5, 3) := by decide +kernel
theorem dX6_likeliest_53 : decode cX6_likeliest 53 = .ok (.iload_n 3, 1) := by decide +kernel
theorem dX6_likeliest_54 : decode cX6_likeliest 54 = .ok (.istore_n 2, 1) := by decide +kernel
theorem dX6_likeliest_55 : decode cX6_likeliest 55 = .ok (.iinc 3 1, 3) := by decide +kernel
theorem dX6_likeliest_58 : decode cX6_likeliest 58 = .ok (.goto (-49), 3) := by decide +kernel
theorem dX6_likeliest_61 : decode cX6_likeliest 61 = .ok (.iload_n 2, 1) := by decide +kernel
theorem dX6_likeliest_62 : decode cX6_likeliest 62 = .ok (.ireturn, 1) := by decide +kernel
theorem dX6_surest_0 : decode cX6_surest 0 = .ok (.aload_n 0, 1) := by decide +kernel
theorem dX6_surest_1 : decode cX6_surest 1 = .ok (.invokevirtual 357, 3) := by decide +kernel
theorem dX6_surest_4 : decode cX6_surest 4 = .ok (.istore_n 2, 1) := by decide +kernel
theorem dX6_surest_5 : decode cX6_surest 5 = .ok (.iload_n 2, 1) := by decide +kernel
theorem dX6_surest_6 : decode cX6_surest 6 = .ok (.iconst (-1), 1) := by decide +kernel
theorem dX6_surest_7 : decode cX6_surest 7 = .ok (.if_icmp .ne 12, 3) := by decide +kernel
theorem dX6_surest_10 : decode cX6_surest 10 = .ok (.lconst 0, 1) := by decide +kernel
theorem dX6_surest_11 : decode cX6_surest 11 = .ok (.lconst 1, 1) := by decide +kernel
theorem dX6_surest_12 : decode cX6_surest 12 = .ok (.iload_n 1, 1) := by decide +kernel
theorem dX6_surest_13 : decode cX6_surest 13 = .ok (.invokestatic 334, 3) := by decide +kernel
theorem dX6_surest_16 : decode cX6_surest 16 = .ok (.goto 22, 3) := by decide +kernel
theorem dX6_surest_19 : decode cX6_surest 19 = .ok (.aload_n 0, 1) := by decide +kernel
theorem dX6_surest_20 : decode cX6_surest 20 = .ok (.iload_n 2, 1) := by decide +kernel
theorem dX6_surest_21 : decode cX6_surest 21 = .ok (.invokevirtual 328, 3) := by decide +kernel
theorem dX6_surest_24 : decode cX6_surest 24 = .ok (.i2l, 1) := by decide +kernel
theorem dX6_surest_25 : decode cX6_surest 25 = .ok (.aload_n 0, 1) := by decide +kernel
theorem dX6_surest_26 : decode cX6_surest 26 = .ok (.aload_n 0, 1) := by decide +kernel
theorem dX6_surest_27 : decode cX6_surest 27 = .ok (.invokevirtual 354, 3) := by decide +kernel
theorem dX6_surest_30 : decode cX6_surest 30 = .ok (.invokevirtual 360, 3) := by decide +kernel
theorem dX6_surest_33 : decode cX6_surest 33 = .ok (.i2l, 1) := by decide +kernel
theorem dX6_surest_34 : decode cX6_surest 34 = .ok (.iload_n 1, 1) := by decide +kernel
theorem dX6_surest_35 : decode cX6_surest 35 = .ok (.invokestatic 334, 3) := by decide +kernel
theorem dX6_surest_38 : decode cX6_surest 38 = .ok (.lreturn, 1) := by decide +kernel
theorem dX6_ask_0 : decode cX6_ask 0 = .ok (.aload_n 0, 1) := by decide +kernel
theorem dX6_ask_1 : decode cX6_ask 1 = .ok (.invokevirtual 354, 3) := by decide +kernel
theorem dX6_ask_4 : decode cX6_ask 4 = .ok (.istore_n 1, 1) := by decide +kernel
theorem dX6_ask_5 : decode cX6_ask 5 = .ok (.iload_n 1, 1) := by decide +kernel
theorem dX6_ask_6 : decode cX6_ask 6 = .ok (.invokestatic 128, 3) := by decide +kernel
theorem dX6_ask_9 : decode cX6_ask 9 = .ok (.iconst 2, 1) := by decide +kernel
theorem dX6_ask_10 : decode cX6_ask 10 = .ok (.if_icmp .ge 5, 3) := by decide +kernel
theorem dX6_ask_13 : decode cX6_ask 13 = .ok (.iconst (-1), 1) := by decide +kernel
theorem dX6_ask_14 : decode cX6_ask 14 = .ok (.ireturn, 1) := by decide +kernel
theorem dX6_ask_15 : decode cX6_ask 15 = .ok (.iconst (-1), 1) := by decide +kernel
theorem dX6_ask_16 : decode cX6_ask 16 = .ok (.istore_n 2, 1) := by decide +kernel
theorem dX6_ask_17 : decode cX6_ask 17 = .ok (.aload_n 0, 1) := by decide +kernel
theorem dX6_ask_18 : decode cX6_ask 18 = .ok (.iload_n 1, 1) := by decide +kernel
theorem dX6_ask_19 : decode cX6_ask 19 = .ok (.invokevirtual 360, 3) := by decide +kernel
theorem dX6_ask_22 : decode cX6_ask 22 = .ok (.iconst 1, 1) := by decide +kernel
theorem dX6_ask_23 : decode cX6_ask 23 = .ok (.iadd, 1) := by decide +kernel
theorem dX6_ask_24 : decode cX6_ask 24 = .ok (.istore_n 3, 1) := by decide +kernel
theorem dX6_ask_25 : decode cX6_ask 25 = .ok (.iconst 0, 1) := by decide +kernel
theorem dX6_ask_26 : decode cX6_ask 26 = .ok (.istore 4, 2) := by decide +kernel
theorem dX6_ask_28 : decode cX6_ask 28 = .ok (.iload 4, 2) := by decide +kernel
theorem dX6_ask_30 : decode cX6_ask 30 = .ok (.aload_n 0, 1) := by decide +kernel
theorem dX6_ask_31 : decode cX6_ask 31 = .ok (.getfield 12, 3) := by decide +kernel
theorem dX6_ask_34 : decode cX6_ask 34 = .ok (.getfield 89, 3) := by decide +kernel
theorem dX6_ask_37 : decode cX6_ask 37 = .ok (.if_icmp .ge 83, 3) := by decide +kernel
theorem dX6_ask_40 : decode cX6_ask 40 = .ok (.aload_n 0, 1) := by decide +kernel
theorem dX6_ask_41 : decode cX6_ask 41 = .ok (.iload_n 1, 1) := by decide +kernel
theorem dX6_ask_42 : decode cX6_ask 42 = .ok (.aload_n 0, 1) := by decide +kernel
theorem dX6_ask_43 : decode cX6_ask 43 = .ok (.getfield 12, 3) := by decide +kernel
theorem dX6_ask_46 : decode cX6_ask 46 = .ok (.getfield 92, 3) := by decide +kernel
theorem dX6_ask_49 : decode cX6_ask 49 = .ok (.iload 4, 2) := by decide +kernel
theorem dX6_ask_51 : decode cX6_ask 51 = .ok (.iaload, 1) := by decide +kernel
theorem dX6_ask_52 : decode cX6_ask 52 = .ok (.iand, 1) := by decide +kernel
theorem dX6_ask_53 : decode cX6_ask 53 = .ok (.invokevirtual 360, 3) := by decide +kernel
theorem dX6_ask_56 : decode cX6_ask 56 = .ok (.istore 5, 2) := by decide +kernel
theorem dX6_ask_58 : decode cX6_ask 58 = .ok (.aload_n 0, 1) := by decide +kernel
theorem dX6_ask_59 : decode cX6_ask 59 = .ok (.iload_n 1, 1) := by decide +kernel
theorem dX6_ask_60 : decode cX6_ask 60 = .ok (.aload_n 0, 1) := by decide +kernel
theorem dX6_ask_61 : decode cX6_ask 61 = .ok (.getfield 12, 3) := by decide +kernel
theorem dX6_ask_64 : decode cX6_ask 64 = .ok (.getfield 92, 3) := by decide +kernel
theorem dX6_ask_67 : decode cX6_ask 67 = .ok (.iload 4, 2) := by decide +kernel
theorem dX6_ask_69 : decode cX6_ask 69 = .ok (.iaload, 1) := by decide +kernel
theorem dX6_ask_70 : decode cX6_ask 70 = .ok (.iconst (-1), 1) := by decide +kernel
theorem dX6_ask_71 : decode cX6_ask 71 = .ok (.ixor, 1) := by decide +kernel
theorem dX6_ask_72 : decode cX6_ask 72 = .ok (.iand, 1) := by decide +kernel
theorem dX6_ask_73 : decode cX6_ask 73 = .ok (.invokevirtual 360, 3) := by decide +kernel
theorem dX6_ask_76 : decode cX6_ask 76 = .ok (.istore 6, 2) := by decide +kernel
theorem dX6_ask_78 : decode cX6_ask 78 = .ok (.iload 5, 2) := by decide +kernel
theorem dX6_ask_80 : decode cX6_ask 80 = .ok (.iload 6, 2) := by decide +kernel
theorem dX6_ask_82 : decode cX6_ask 82 = .ok (.invokestatic 363, 3) := by decide +kernel
theorem dX6_ask_85 : decode cX6_ask 85 = .ok (.istore 7, 2) := by decide +kernel
theorem dX6_ask_87 : decode cX6_ask 87 = .ok (.aload_n 0, 1) := by decide +kernel
theorem dX6_ask_88 : decode cX6_ask 88 = .ok (.getfield 12, 3) := by decide +kernel
theorem dX6_ask_91 : decode cX6_ask 91 = .ok (.getfield 119, 3) := by decide +kernel
theorem dX6_ask_94 : decode cX6_ask 94 = .ok (.iload 4, 2) := by decide +kernel
theorem dX6_ask_96 : decode cX6_ask 96 = .ok (.ishr, 1) := by decide +kernel
theorem dX6_ask_97 : decode cX6_ask 97 = .ok (.iconst 1, 1) := by decide +kernel
theorem dX6_ask_98 : decode cX6_ask 98 = .ok (.iand, 1) := by decide +kernel
theorem dX6_ask_99 : decode cX6_ask 99 = .ok (.ifCond .ne 15, 3) := by decide +kernel
theorem dX6_ask_102 : decode cX6_ask 102 = .ok (.iload 7, 2) := by decide +kernel
theorem dX6_ask_104 : decode cX6_ask 104 = .ok (.iload_n 3, 1) := by decide +kernel
theorem dX6_ask_105 : decode cX6_ask 105 = .ok (.if_icmp .ge 9, 3) := by decide +kernel
theorem dX6_ask_108 : decode cX6_ask 108 = .ok (.iload 7, 2) := by decide +kernel
theorem dX6_ask_110 : decode cX6_ask 110 = .ok (.istore_n 3, 1) := by decide +kernel
theorem dX6_ask_111 : decode cX6_ask 111 = .ok (.iload 4, 2) := by decide +kernel
theorem dX6_ask_113 : decode cX6_ask 113 = .ok (.istore_n 2, 1) := by decide +kernel
theorem dX6_ask_114 : decode cX6_ask 114 = .ok (.iinc 4 1, 3) := by decide +kernel
theorem dX6_ask_117 : decode cX6_ask 117 = .ok (.goto (-89), 3) := by decide +kernel
theorem dX6_ask_120 : decode cX6_ask 120 = .ok (.iload_n 2, 1) := by decide +kernel
theorem dX6_ask_121 : decode cX6_ask 121 = .ok (.ireturn, 1) := by decide +kernel
theorem dX6_auction_0 : decode cX6_auction 0 = .ok (.iload_n 1, 1) := by decide +kernel
theorem dX6_auction_1 : decode cX6_auction 1 = .ok (.invokestatic 113, 3) := by decide +kernel
theorem dX6_auction_4 : decode cX6_auction 4 = .ok (.ifCond .eq 12, 3) := by decide +kernel
theorem dX6_auction_7 : decode cX6_auction 7 = .ok (.iload_n 2, 1) := by decide +kernel
theorem dX6_auction_8 : decode cX6_auction 8 = .ok (.iconst 0, 1) := by decide +kernel
theorem dX6_auction_9 : decode cX6_auction 9 = .ok (.iconst 2, 1) := by decide +kernel
theorem dX6_auction_10 : decode cX6_auction 10 = .ok (.invokestatic 75, 3) := by decide +kernel
theorem dX6_auction_13 : decode cX6_auction 13 = .ok (.ifCond .ne 5, 3) := by decide +kernel
theorem dX6_auction_16 : decode cX6_auction 16 = .ok (.iconst (-1), 1) := by decide +kernel
theorem dX6_auction_17 : decode cX6_auction 17 = .ok (.ireturn, 1) := by decide +kernel
theorem dX6_auction_18 : decode cX6_auction 18 = .ok (.iconst (-1), 1) := by decide +kernel
theorem dX6_auction_19 : decode cX6_auction 19 = .ok (.istore_n 3, 1) := by decide +kernel
theorem dX6_auction_20 : decode cX6_auction 20 = .ok (.iconst (-1), 1) := by decide +kernel
theorem dX6_auction_21 : decode cX6_auction 21 = .ok (.istore 4, 2) := by decide +kernel
theorem dX6_auction_23 : decode cX6_auction 23 = .ok (.iconst 0, 1) := by decide +kernel
theorem dX6_auction_24 : decode cX6_auction 24 = .ok (.istore 5, 2) := by decide +kernel
theorem dX6_auction_26 : decode cX6_auction 26 = .ok (.iconst 0, 1) := by decide +kernel
theorem dX6_auction_27 : decode cX6_auction 27 = .ok (.istore 6, 2) := by decide +kernel
theorem dX6_auction_29 : decode cX6_auction 29 = .ok (.iconst 0, 1) := by decide +kernel
theorem dX6_auction_30 : decode cX6_auction 30 = .ok (.istore 7, 2) := by decide +kernel
theorem dX6_auction_32 : decode cX6_auction 32 = .ok (.iload 7, 2) := by decide +kernel
theorem dX6_auction_34 : decode cX6_auction 34 = .ok (.aload_n 0, 1) := by decide +kernel
theorem dX6_auction_35 : decode cX6_auction 35 = .ok (.getfield 12, 3) := by decide +kernel
theorem dX6_auction_38 : decode cX6_auction 38 = .ok (.getfield 89, 3) := by decide +kernel
theorem dX6_auction_41 : decode cX6_auction 41 = .ok (.if_icmp .ge 106, 3) := by decide +kernel
theorem dX6_auction_44 : decode cX6_auction 44 = .ok (.aload_n 0, 1) := by decide +kernel
theorem dX6_auction_45 : decode cX6_auction 45 = .ok (.iload 7, 2) := by decide +kernel
theorem dX6_auction_47 : decode cX6_auction 47 = .ok (.aload_n 0, 1) := by decide +kernel
theorem dX6_auction_48 : decode cX6_auction 48 = .ok (.getfield 12, 3) := by decide +kernel
theorem dX6_auction_51 : decode cX6_auction 51 = .ok (.getfield 104, 3) := by decide +kernel
theorem dX6_auction_54 : decode cX6_auction 54 = .ok (.getfield 187, 3) := by decide +kernel
theorem dX6_auction_57 : decode cX6_auction 57 = .ok (.invokevirtual 190, 3) := by decide +kernel
theorem dX6_auction_60 : decode cX6_auction 60 = .ok (.ifCond .eq 81, 3) := by decide +kernel
theorem dX6_auction_63 : decode cX6_auction 63 = .ok (.aload_n 0, 1) := by decide +kernel
theorem dX6_auction_64 : decode cX6_auction 64 = .ok (.iload 7, 2) := by decide +kernel
theorem dX6_auction_66 : decode cX6_auction 66 = .ok (.iload_n 1, 1) := by decide +kernel
theorem dX6_auction_67 : decode cX6_auction 67 = .ok (.invokevirtual 365, 3) := by decide +kernel
theorem dX6_auction_70 : decode cX6_auction 70 = .ok (.ifCond .eq 71, 3) := by decide +kernel
theorem dX6_auction_73 : decode cX6_auction 73 = .ok (.aload_n 0, 1) := by decide +kernel
theorem dX6_auction_74 : decode cX6_auction 74 = .ok (.getfield 12, 3) := by decide +kernel
theorem dX6_auction_77 : decode cX6_auction 77 = .ok (.iload 7, 2) := by decide +kernel
theorem dX6_auction_79 : decode cX6_auction 79 = .ok (.invokevirtual 368, 3) := by decide +kernel
theorem dX6_auction_82 : decode cX6_auction 82 = .ok (.istore 8, 2) := by decide +kernel
theorem dX6_auction_84 : decode cX6_auction 84 = .ok (.iload 8, 2) := by decide +kernel
theorem dX6_auction_86 : decode cX6_auction 86 = .ok (.ifCond .le 15, 3) := by decide +kernel
theorem dX6_auction_89 : decode cX6_auction 89 = .ok (.aload_n 0, 1) := by decide +kernel
theorem dX6_auction_90 : decode cX6_auction 90 = .ok (.iload 7, 2) := by decide +kernel
theorem dX6_auction_92 : decode cX6_auction 92 = .ok (.invokevirtual 196, 3) := by decide +kernel
theorem dX6_auction_95 : decode cX6_auction 95 = .ok (.iload 8, 2) := by decide +kernel
theorem dX6_auction_97 : decode cX6_auction 97 = .ok (.idiv, 1) := by decide +kernel
theorem dX6_auction_98 : decode cX6_auction 98 = .ok (.goto 4, 3) := by decide +kernel
theorem dX6_auction_101 : decode cX6_auction 101 = .ok (.iconst 0, 1) := by decide +kernel
theorem dX6_auction_102 : decode cX6_auction 102 = .ok (.istore 9, 2) := by decide +kernel
theorem dX6_auction_104 : decode cX6_auction 104 = .ok (.iload 9, 2) := by decide +kernel
theorem dX6_auction_106 : decode cX6_auction 106 = .ok (.iload 4, 2) := by decide +kernel
theorem dX6_auction_108 : decode cX6_auction 108 = .ok (.if_icmp .le 21, 3) := by decide +kernel
theorem dX6_auction_111 : decode cX6_auction 111 = .ok (.iload 4, 2) := by decide +kernel
theorem dX6_auction_113 : decode cX6_auction 113 = .ok (.iconst 0, 1) := by decide +kernel
theorem dX6_auction_114 : decode cX6_auction 114 = .ok (.invokestatic 363, 3) := by decide +kernel
theorem dX6_auction_117 : decode cX6_auction 117 = .ok (.istore 5, 2) := by decide +kernel
theorem dX6_auction_119 : decode cX6_auction 119 = .ok (.iload 9, 2) := by decide +kernel
theorem dX6_auction_121 : decode cX6_auction 121 = .ok (.istore 4, 2) := by decide +kernel
theorem dX6_auction_123 : decode cX6_auction 123 = .ok (.iload 7, 2) := by decide +kernel
theorem dX6_auction_125 : decode cX6_auction 125 = .ok (.istore_n 3, 1) := by decide +kernel
theorem dX6_auction_126 : decode cX6_auction 126 = .ok (.goto 12, 3) := by decide +kernel
theorem dX6_auction_129 : decode cX6_auction 129 = .ok (.iload 5, 2) := by decide +kernel
theorem dX6_auction_131 : decode cX6_auction 131 = .ok (.iload 9, 2) := by decide +kernel
theorem dX6_auction_133 : decode cX6_auction 133 = .ok (.invokestatic 363, 3) := by decide +kernel
theorem dX6_auction_136 : decode cX6_auction 136 = .ok (.istore 5, 2) := by decide +kernel
theorem dX6_auction_138 : decode cX6_auction 138 = .ok (.iinc 6 1, 3) := by decide +kernel
theorem dX6_auction_141 : decode cX6_auction 141 = .ok (.iinc 7 1, 3) := by decide +kernel
theorem dX6_auction_144 : decode cX6_auction 144 = .ok (.goto (-112), 3) := by decide +kernel
theorem dX6_auction_147 : decode cX6_auction 147 = .ok (.iload_n 3, 1) := by decide +kernel
theorem dX6_auction_148 : decode cX6_auction 148 = .ok (.iconst (-1), 1) := by decide +kernel
theorem dX6_auction_149 : decode cX6_auction 149 = .ok (.if_icmp .eq 7, 3) := by decide +kernel
theorem dX6_auction_152 : decode cX6_auction 152 = .ok (.iload_n 2, 1) := by decide +kernel
theorem dX6_auction_153 : decode cX6_auction 153 = .ok (.ifCond .ne 5, 3) := by decide +kernel
theorem dX6_auction_156 : decode cX6_auction 156 = .ok (.iload_n 3, 1) := by decide +kernel
theorem dX6_auction_157 : decode cX6_auction 157 = .ok (.ireturn, 1) := by decide +kernel
theorem dX6_auction_158 : decode cX6_auction 158 = .ok (.iload_n 2, 1) := by decide +kernel
theorem dX6_auction_159 : decode cX6_auction 159 = .ok (.iconst 1, 1) := by decide +kernel
theorem dX6_auction_160 : decode cX6_auction 160 = .ok (.if_icmp .ne 8, 3) := by decide +kernel
theorem dX6_auction_163 : decode cX6_auction 163 = .ok (.iload 5, 2) := by decide +kernel
theorem dX6_auction_165 : decode cX6_auction 165 = .ok (.goto 5, 3) := by decide +kernel
theorem dX6_auction_168 : decode cX6_auction 168 = .ok (.iload 6, 2) := by decide +kernel
theorem dX6_auction_170 : decode cX6_auction 170 = .ok (.ireturn, 1) := by decide +kernel
theorem dX6_stab_0 : decode cX6_stab 0 = .ok (.iconst 0, 1) := by decide +kernel
theorem dX6_stab_1 : decode cX6_stab 1 = .ok (.istore_n 2, 1) := by decide +kernel
theorem dX6_stab_2 : decode cX6_stab 2 = .ok (.bipush 12, 2) := by decide +kernel
theorem dX6_stab_4 : decode cX6_stab 4 = .ok (.istore_n 3, 1) := by decide +kernel
theorem dX6_stab_5 : decode cX6_stab 5 = .ok (.bipush 11, 2) := by decide +kernel
theorem dX6_stab_7 : decode cX6_stab 7 = .ok (.istore 4, 2) := by decide +kernel
theorem dX6_stab_9 : decode cX6_stab 9 = .ok (.iload 4, 2) := by decide +kernel
theorem dX6_stab_11 : decode cX6_stab 11 = .ok (.ifCond .lt 87, 3) := by decide +kernel
theorem dX6_stab_14 : decode cX6_stab 14 = .ok (.iconst 0, 1) := by decide +kernel
theorem dX6_stab_15 : decode cX6_stab 15 = .ok (.istore 5, 2) := by decide +kernel
theorem dX6_stab_17 : decode cX6_stab 17 = .ok (.iconst 0, 1) := by decide +kernel
theorem dX6_stab_18 : decode cX6_stab 18 = .ok (.istore 6, 2) := by decide +kernel
theorem dX6_stab_20 : decode cX6_stab 20 = .ok (.iload 6, 2) := by decide +kernel
theorem dX6_stab_22 : decode cX6_stab 22 = .ok (.aload_n 0, 1) := by decide +kernel
theorem dX6_stab_23 : decode cX6_stab 23 = .ok (.getfield 12, 3) := by decide +kernel
theorem dX6_stab_26 : decode cX6_stab 26 = .ok (.getfield 89, 3) := by decide +kernel
theorem dX6_stab_29 : decode cX6_stab 29 = .ok (.if_icmp .ge 48, 3) := by decide +kernel
theorem dX6_stab_32 : decode cX6_stab 32 = .ok (.iload 5, 2) := by decide +kernel
theorem dX6_stab_34 : decode cX6_stab 34 = .ok (.aload_n 0, 1) := by decide +kernel
theorem dX6_stab_35 : decode cX6_stab 35 = .ok (.getfield 12, 3) := by decide +kernel
theorem dX6_stab_38 : decode cX6_stab 38 = .ok (.getfield 95, 3) := by decide +kernel
theorem dX6_stab_41 : decode cX6_stab 41 = .ok (.iload 6, 2) := by decide +kernel
theorem dX6_stab_43 : decode cX6_stab 43 = .ok (.iaload, 1) := by decide +kernel
theorem dX6_stab_44 : decode cX6_stab 44 = .ok (.iload 4, 2) := by decide +kernel
theorem dX6_stab_46 : decode cX6_stab 46 = .ok (.if_icmp .ne 21, 3) := by decide +kernel
theorem dX6_stab_49 : decode cX6_stab 49 = .ok (.aload_n 0, 1) := by decide +kernel
theorem dX6_stab_50 : decode cX6_stab 50 = .ok (.getfield 12, 3) := by decide +kernel
theorem dX6_stab_53 : decode cX6_stab 53 = .ok (.getfield 98, 3) := by decide +kernel
theorem dX6_stab_56 : decode cX6_stab 56 = .ok (.iload 6, 2) := by decide +kernel
theorem dX6_stab_58 : decode cX6_stab 58 = .ok (.iaload, 1) := by decide +kernel
theorem dX6_stab_59 : decode cX6_stab 59 = .ok (.iload_n 3, 1) := by decide +kernel
theorem dX6_stab_60 : decode cX6_stab 60 = .ok (.if_icmp .ge 7, 3) := by decide +kernel
theorem dX6_stab_63 : decode cX6_stab 63 = .ok (.iconst 1, 1) := by decide +kernel
theorem dX6_stab_64 : decode cX6_stab 64 = .ok (.goto 4, 3) := by decide +kernel
theorem dX6_stab_67 : decode cX6_stab 67 = .ok (.iconst 0, 1) := by decide +kernel
theorem dX6_stab_68 : decode cX6_stab 68 = .ok (.ior, 1) := by decide +kernel
theorem dX6_stab_69 : decode cX6_stab 69 = .ok (.istore 5, 2) := by decide +kernel
theorem dX6_stab_71 : decode cX6_stab 71 = .ok (.iinc 6 1, 3) := by decide +kernel
theorem dX6_stab_74 : decode cX6_stab 74 = .ok (.goto (-54), 3) := by decide +kernel
theorem dX6_stab_77 : decode cX6_stab 77 = .ok (.iload 5, 2) := by decide +kernel
theorem dX6_stab_79 : decode cX6_stab 79 = .ok (.ifCond .eq 13, 3) := by decide +kernel
theorem dX6_stab_82 : decode cX6_stab 82 = .ok (.iload_n 2, 1) := by decide +kernel
theorem dX6_stab_83 : decode cX6_stab 83 = .ok (.iconst 1, 1) := by decide +kernel
theorem dX6_stab_84 : decode cX6_stab 84 = .ok (.iload 4, 2) := by decide +kernel
theorem dX6_stab_86 : decode cX6_stab 86 = .ok (.ishl, 1) := by decide +kernel
theorem dX6_stab_87 : decode cX6_stab 87 = .ok (.ior, 1) := by decide +kernel
theorem dX6_stab_88 : decode cX6_stab 88 = .ok (.istore_n 2, 1) := by decide +kernel
theorem dX6_stab_89 : decode cX6_stab 89 = .ok (.iload 4, 2) := by decide +kernel
theorem dX6_stab_91 : decode cX6_stab 91 = .ok (.istore_n 3, 1) := by decide +kernel
theorem dX6_stab_92 : decode cX6_stab 92 = .ok (.iinc 4 (-1), 3) := by decide +kernel
theorem dX6_stab_95 : decode cX6_stab 95 = .ok (.goto (-86), 3) := by decide +kernel
theorem dX6_stab_98 : decode cX6_stab 98 = .ok (.iload_n 1, 1) := by decide +kernel
theorem dX6_stab_99 : decode cX6_stab 99 = .ok (.ifCond .eq 10, 3) := by decide +kernel
theorem dX6_stab_102 : decode cX6_stab 102 = .ok (.iload_n 2, 1) := by decide +kernel
theorem dX6_stab_103 : decode cX6_stab 103 = .ok (.invokestatic 128, 3) := by decide +kernel
theorem dX6_stab_106 : decode cX6_stab 106 = .ok (.goto 4, 3) := by decide +kernel
theorem dX6_stab_109 : decode cX6_stab 109 = .ok (.iload_n 2, 1) := by decide +kernel
theorem dX6_stab_110 : decode cX6_stab 110 = .ok (.ireturn, 1) := by decide +kernel
theorem dX6_crowd_0 : decode cX6_crowd 0 = .ok (.iconst 0, 1) := by decide +kernel
theorem dX6_crowd_1 : decode cX6_crowd 1 = .ok (.istore_n 2, 1) := by decide +kernel
theorem dX6_crowd_2 : decode cX6_crowd 2 = .ok (.iconst 0, 1) := by decide +kernel
theorem dX6_crowd_3 : decode cX6_crowd 3 = .ok (.istore_n 3, 1) := by decide +kernel
theorem dX6_crowd_4 : decode cX6_crowd 4 = .ok (.iconst 0, 1) := by decide +kernel
theorem dX6_crowd_5 : decode cX6_crowd 5 = .ok (.istore 4, 2) := by decide +kernel
theorem dX6_crowd_7 : decode cX6_crowd 7 = .ok (.iload 4, 2) := by decide +kernel
theorem dX6_crowd_9 : decode cX6_crowd 9 = .ok (.bipush 12, 2) := by decide +kernel
theorem dX6_crowd_11 : decode cX6_crowd 11 = .ok (.if_icmp .ge 59, 3) := by decide +kernel
theorem dX6_crowd_14 : decode cX6_crowd 14 = .ok (.iconst 0, 1) := by decide +kernel
theorem dX6_crowd_15 : decode cX6_crowd 15 = .ok (.istore 5, 2) := by decide +kernel
theorem dX6_crowd_17 : decode cX6_crowd 17 = .ok (.iconst 0, 1) := by decide +kernel
theorem dX6_crowd_18 : decode cX6_crowd 18 = .ok (.istore 6, 2) := by decide +kernel
theorem dX6_crowd_20 : decode cX6_crowd 20 = .ok (.iload 6, 2) := by decide +kernel
theorem dX6_crowd_22 : decode cX6_crowd 22 = .ok (.aload_n 0, 1) := by decide +kernel
theorem dX6_crowd_23 : decode cX6_crowd 23 = .ok (.getfield 12, 3) := by decide +kernel
theorem dX6_crowd_26 : decode cX6_crowd 26 = .ok (.getfield 89, 3) := by decide +kernel
theorem dX6_crowd_29 : decode cX6_crowd 29 = .ok (.if_icmp .ge 23, 3) := by decide +kernel
theorem dX6_crowd_32 : decode cX6_crowd 32 = .ok (.aload_n 0, 1) := by decide +kernel
theorem dX6_crowd_33 : decode cX6_crowd 33 = .ok (.iload 6, 2) := by decide +kernel
theorem dX6_crowd_35 : decode cX6_crowd 35 = .ok (.iload 4, 2) := by decide +kernel
theorem dX6_crowd_37 : decode cX6_crowd 37 = .ok (.invokevirtual 365, 3) := by decide +kernel
theorem dX6_crowd_40 : decode cX6_crowd 40 = .ok (.ifCond .eq 6, 3) := by decide +kernel
theorem dX6_crowd_43 : decode cX6_crowd 43 = .ok (.iinc 5 1, 3) := by decide +kernel
theorem dX6_crowd_46 : decode cX6_crowd 46 = .ok (.iinc 6 1, 3) := by decide +kernel
theorem dX6_crowd_49 : decode cX6_crowd 49 = .ok (.goto (-29), 3) := by decide +kernel
theorem dX6_crowd_52 : decode cX6_crowd 52 = .ok (.iload 5, 2) := by decide +kernel
theorem dX6_crowd_54 : decode cX6_crowd 54 = .ok (.iload_n 2, 1) := by decide +kernel
theorem dX6_crowd_55 : decode cX6_crowd 55 = .ok (.if_icmp .le 9, 3) := by decide +kernel
theorem dX6_crowd_58 : decode cX6_crowd 58 = .ok (.iload 5, 2) := by decide +kernel
theorem dX6_crowd_60 : decode cX6_crowd 60 = .ok (.istore_n 2, 1) := by decide +kernel
theorem dX6_crowd_61 : decode cX6_crowd 61 = .ok (.iload 4, 2) := by decide +kernel
theorem dX6_crowd_63 : decode cX6_crowd 63 = .ok (.istore_n 3, 1) := by decide +kernel
theorem dX6_crowd_64 : decode cX6_crowd 64 = .ok (.iinc 4 1, 3) := by decide +kernel
theorem dX6_crowd_67 : decode cX6_crowd 67 = .ok (.goto (-60), 3) := by decide +kernel
theorem dX6_crowd_70 : decode cX6_crowd 70 = .ok (.iload_n 1, 1) := by decide +kernel
theorem dX6_crowd_71 : decode cX6_crowd 71 = .ok (.ifCond .eq 7, 3) := by decide +kernel
theorem dX6_crowd_74 : decode cX6_crowd 74 = .ok (.iload_n 3, 1) := by decide +kernel
theorem dX6_crowd_75 : decode cX6_crowd 75 = .ok (.goto 4, 3) := by decide +kernel
theorem dX6_crowd_78 : decode cX6_crowd 78 = .ok (.iload_n 2, 1) := by decide +kernel
theorem dX6_crowd_79 : decode cX6_crowd 79 = .ok (.ireturn, 1) := by decide +kernel
theorem dX6_dawns_0 : decode cX6_dawns 0 = .ok (.aload_n 0, 1) := by decide +kernel
theorem dX6_dawns_1 : decode cX6_dawns 1 = .ok (.iload_n 1, 1) := by decide +kernel
theorem dX6_dawns_2 : decode cX6_dawns 2 = .ok (.invokevirtual 125, 3) := by decide +kernel
theorem dX6_dawns_5 : decode cX6_dawns 5 = .ok (.ifCond .ne 5, 3) := by decide +kernel
theorem dX6_dawns_8 : decode cX6_dawns 8 = .ok (.iconst (-1), 1) := by decide +kernel
theorem dX6_dawns_9 : decode cX6_dawns 9 = .ok (.ireturn, 1) := by decide +kernel
theorem dX6_dawns_10 : decode cX6_dawns 10 = .ok (.iconst 0, 1) := by decide +kernel
theorem dX6_dawns_11 : decode cX6_dawns 11 = .ok (.istore_n 2, 1) := by decide +kernel
theorem dX6_dawns_12 : decode cX6_dawns 12 = .ok (.iload_n 2, 1) := by decide +kernel
theorem dX6_dawns_13 : decode cX6_dawns 13 = .ok (.bipush 6, 2) := by decide +kernel
theorem dX6_dawns_15 : decode cX6_dawns 15 = .ok (.if_icmp .ge 16, 3) := by decide +kernel
theorem dX6_dawns_18 : decode cX6_dawns 18 = .ok (.aload_n 0, 1) := by decide +kernel
theorem dX6_dawns_19 : decode cX6_dawns 19 = .ok (.getfield 54, 3) := by decide +kernel
theorem dX6_dawns_22 : decode cX6_dawns 22 = .ok (.iload_n 2, 1) := by decide +kernel
theorem dX6_dawns_23 : decode cX6_dawns 23 = .ok (.iconst 0, 1) := by decide +kernel
theorem dX6_dawns_24 : decode cX6_dawns 24 = .ok (.iastore, 1) := by decide +kernel
theorem dX6_dawns_25 : decode cX6_dawns 25 = .ok (.iinc 2 1, 3) := by decide +kernel
theorem dX6_dawns_28 : decode cX6_dawns 28 = .ok (.goto (-16), 3) := by decide +kernel
theorem dX6_dawns_31 : decode cX6_dawns 31 = .ok (.iconst 0, 1) := by decide +kernel
theorem dX6_dawns_32 : decode cX6_dawns 32 = .ok (.istore_n 2, 1) := by decide +kernel
theorem dX6_dawns_33 : decode cX6_dawns 33 = .ok (.iload_n 2, 1) := by decide +kernel
theorem dX6_dawns_34 : decode cX6_dawns 34 = .ok (.bipush 12, 2) := by decide +kernel
theorem dX6_dawns_36 : decode cX6_dawns 36 = .ok (.if_icmp .ge 63, 3) := by decide +kernel
theorem dX6_dawns_39 : decode cX6_dawns 39 = .ok (.iconst 0, 1) := by decide +kernel
theorem dX6_dawns_40 : decode cX6_dawns 40 = .ok (.istore_n 3, 1) := by decide +kernel
theorem dX6_dawns_41 : decode cX6_dawns 41 = .ok (.iload_n 3, 1) := by decide +kernel
theorem dX6_dawns_42 : decode cX6_dawns 42 = .ok (.aload_n 0, 1) := by decide +kernel
theorem dX6_dawns_43 : decode cX6_dawns 43 = .ok (.getfield 12, 3) := by decide +kernel
theorem dX6_dawns_46 : decode cX6_dawns 46 = .ok (.getfield 89, 3) := by decide +kernel
theorem dX6_dawns_49 : decode cX6_dawns 49 = .ok (.if_icmp .ge 44, 3) := by decide +kernel
theorem dX6_dawns_52 : decode cX6_dawns 52 = .ok (.aload_n 0, 1) := by decide +kernel
theorem dX6_dawns_53 : decode cX6_dawns 53 = .ok (.getfield 12, 3) := by decide +kernel
theorem dX6_dawns_56 : decode cX6_dawns 56 = .ok (.getfield 95, 3) := by decide +kernel
theorem dX6_dawns_59 : decode cX6_dawns 59 = .ok (.iload_n 3, 1) := by decide +kernel
theorem dX6_dawns_60 : decode cX6_dawns 60 = .ok (.iaload, 1) := by decide +kernel
theorem dX6_dawns_61 : decode cX6_dawns 61 = .ok (.iload_n 2, 1) := by decide +kernel
theorem dX6_dawns_62 : decode cX6_dawns 62 = .ok (.if_icmp .ne 25, 3) := by decide +kernel
theorem dX6_dawns_65 : decode cX6_dawns 65 = .ok (.aload_n 0, 1) := by decide +kernel
theorem dX6_dawns_66 : decode cX6_dawns 66 = .ok (.aload_n 0, 1) := by decide +kernel
theorem dX6_dawns_67 : decode cX6_dawns 67 = .ok (.getfield 12, 3) := by decide +kernel
theorem dX6_dawns_70 : decode cX6_dawns 70 = .ok (.iload_n 3, 1) := by decide +kernel
theorem dX6_dawns_71 : decode cX6_dawns 71 = .ok (.invokevirtual 193, 3) := by decide +kernel
theorem dX6_dawns_74 : decode cX6_dawns 74 = .ok (.invokevirtual 371, 3) := by decide +kernel
theorem dX6_dawns_77 : decode cX6_dawns 77 = .ok (.istore 4, 2) := by decide +kernel
theorem dX6_dawns_79 : decode cX6_dawns 79 = .ok (.iload_n 3, 1) := by decide +kernel
theorem dX6_dawns_80 : decode cX6_dawns 80 = .ok (.iload_n 1, 1) := by decide +kernel
theorem dX6_dawns_81 : decode cX6_dawns 81 = .ok (.if_icmp .ne 6, 3) := by decide +kernel
theorem dX6_dawns_84 : decode cX6_dawns 84 = .ok (.iload 4, 2) := by decide +kernel
theorem dX6_dawns_86 : decode cX6_dawns 86 = .ok (.ireturn, 1) := by decide +kernel
theorem dX6_dawns_87 : decode cX6_dawns 87 = .ok (.iinc 3 1, 3) := by decide +kernel
theorem dX6_dawns_90 : decode cX6_dawns 90 = .ok (.goto (-49), 3) := by decide +kernel
theorem dX6_dawns_93 : decode cX6_dawns 93 = .ok (.iinc 2 1, 3) := by decide +kernel
theorem dX6_dawns_96 : decode cX6_dawns 96 = .ok (.goto (-63), 3) := by decide +kernel
theorem dX6_dawns_99 : decode cX6_dawns 99 = .ok (.iconst (-1), 1) := by decide +kernel
theorem dX6_dawns_100 : decode cX6_dawns 100 = .ok (.ireturn, 1) := by decide +kernel
theorem dX6_lowestDawn_0 : decode cX6_lowestDawn 0 = .ok (.iconst 0, 1) := by decide +kernel
theorem dX6_lowestDawn_1 : decode cX6_lowestDawn 1 = .ok (.istore_n 2, 1) := by decide +kernel
theorem dX6_lowestDawn_2 : decode cX6_lowestDawn 2 = .ok (.iload_n 2, 1) := by decide +kernel
theorem dX6_lowestDawn_3 : decode cX6_lowestDawn 3 = .ok (.bipush 6, 2) := by decide +kernel
theorem dX6_lowestDawn_5 : decode cX6_lowestDawn 5 = .ok (.if_icmp .ge 32, 3) := by decide +kernel
theorem dX6_lowestDawn_8 : decode cX6_lowestDawn 8 = .ok (.aload_n 0, 1) := by decide +kernel
theorem dX6_lowestDawn_9 : decode cX6_lowestDawn 9 = .ok (.getfield 54, 3) := by decide +kernel
theorem dX6_lowestDawn_12 : decode cX6_lowestDawn 12 = .ok (.iload_n 2, 1) := by decide +kernel
theorem dX6_lowestDawn_13 : decode cX6_lowestDawn 13 = .ok (.iaload, 1) := by decide +kernel
theorem dX6_lowestDawn_14 : decode cX6_lowestDawn 14 = .ok (.iload_n 1, 1) := by decide +kernel
theorem dX6_lowestDawn_15 : decode cX6_lowestDawn 15 = .ok (.iand, 1) := by decide +kernel
theorem dX6_lowestDawn_16 : decode cX6_lowestDawn 16 = .ok (.ifCond .ne 15, 3) := by decide +kernel
theorem dX6_lowestDawn_19 : decode cX6_lowestDawn 19 = .ok (.aload_n 0, 1) := by decide +kernel
theorem dX6_lowestDawn_20 : decode cX6_lowestDawn 20 = .ok (.getfield 54, 3) := by decide +kernel
theorem dX6_lowestDawn_23 : decode cX6_lowestDawn 23 = .ok (.iload_n 2, 1) := by decide +kernel
theorem dX6_lowestDawn_24 : decode cX6_lowestDawn 24 = .ok (.dup2, 1) := by decide +kernel
theorem dX6_lowestDawn_25 : decode cX6_lowestDawn 25 = .ok (.iaload, 1) := by decide +kernel
theorem dX6_lowestDawn_26 : decode cX6_lowestDawn 26 = .ok (.iload_n 1, 1) := by decide +kernel
theorem dX6_lowestDawn_27 : decode cX6_lowestDawn 27 = .ok (.ior, 1) := by decide +kernel
theorem dX6_lowestDawn_28 : decode cX6_lowestDawn 28 = .ok (.iastore, 1) := by decide +kernel
theorem dX6_lowestDawn_29 : decode cX6_lowestDawn 29 = .ok (.iload_n 2, 1) := by decide +kernel
theorem dX6_lowestDawn_30 : decode cX6_lowestDawn 30 = .ok (.ireturn, 1) := by decide +kernel
theorem dX6_lowestDawn_31 : decode cX6_lowestDawn 31 = .ok (.iinc 2 1, 3) := by decide +kernel
theorem dX6_lowestDawn_34 : decode cX6_lowestDawn 34 = .ok (.goto (-32), 3) := by decide +kernel
theorem dX6_lowestDawn_37 : decode cX6_lowestDawn 37 = .ok (.iconst (-1), 1) := by decide +kernel
theorem dX6_lowestDawn_38 : decode cX6_lowestDawn 38 = .ok (.ireturn, 1) := by decide +kernel
theorem dX6_ends_0 : decode cX6_ends 0 = .ok (.iload_n 1, 1) := by decide +kernel
theorem dX6_ends_1 : decode cX6_ends 1 = .ok (.iload_n 2, 1) := by decide +kernel
theorem dX6_ends_2 : decode cX6_ends 2 = .ok (.invokestatic 85, 3) := by decide +kernel
theorem dX6_ends_5 : decode cX6_ends 5 = .ok (.ifCond .eq 12, 3) := by decide +kernel
theorem dX6_ends_8 : decode cX6_ends 8 = .ok (.aload_n 0, 1) := by decide +kernel
theorem dX6_ends_9 : decode cX6_ends 9 = .ok (.iload_n 1, 1) := by decide +kernel
theorem dX6_ends_10 : decode cX6_ends 10 = .ok (.iload_n 2, 1) := by decide +kernel
theorem dX6_ends_11 : decode cX6_ends 11 = .ok (.invokevirtual 374, 3) := by decide +kernel
theorem dX6_ends_14 : decode cX6_ends 14 = .ok (.goto 6, 3) := by decide +kernel
theorem dX6_ends_17 : decode cX6_ends 17 = .ok (.sipush (-1000), 3) := by decide +kernel
theorem dX6_ends_20 : decode cX6_ends 20 = .ok (.ireturn, 1) := by decide +kernel
theorem dX6_take_0 : decode cX6_take 0 = .ok (.iload_n 1, 1) := by decide +kernel
theorem dX6_take_1 : decode cX6_take 1 = .ok (.iload_n 2, 1) := by decide +kernel
theorem dX6_take_2 : decode cX6_take 2 = .ok (.invokestatic 85, 3) := by decide +kernel
theorem dX6_take_5 : decode cX6_take 5 = .ok (.ifCond .ne 5, 3) := by decide +kernel
theorem dX6_take_8 : decode cX6_take 8 = .ok (.iconst (-1), 1) := by decide +kernel
theorem dX6_take_9 : decode cX6_take 9 = .ok (.ireturn, 1) := by decide +kernel
theorem dX6_take_10 : decode cX6_take 10 = .ok (.aload_n 0, 1) := by decide +kernel
theorem dX6_take_11 : decode cX6_take 11 = .ok (.getfield 12, 3) := by decide +kernel
theorem dX6_take_14 : decode cX6_take 14 = .ok (.getfield 116, 3) := by decide +kernel
theorem dX6_take_17 : decode cX6_take 17 = .ok (.iload_n 1, 1) := by decide +kernel
theorem dX6_take_18 : decode cX6_take 18 = .ok (.iaload, 1) := by decide +kernel
theorem dX6_take_19 : decode cX6_take 19 = .ok (.aload_n 0, 1) := by decide +kernel
theorem dX6_take_20 : decode cX6_take 20 = .ok (.iload_n 1, 1) := by decide +kernel
theorem dX6_take_21 : decode cX6_take 21 = .ok (.iconst 1, 1) := by decide +kernel
theorem dX6_take_22 : decode cX6_take 22 = .ok (.iadd, 1) := by decide +kernel
theorem dX6_take_23 : decode cX6_take 23 = .ok (.iload_n 2, 1) := by decide +kernel
theorem dX6_take_24 : decode cX6_take 24 = .ok (.invokevirtual 374, 3) := by decide +kernel
theorem dX6_take_27 : decode cX6_take 27 = .ok (.isub, 1) := by decide +kernel
theorem dX6_take_28 : decode cX6_take 28 = .ok (.istore_n 3, 1) := by decide +kernel
theorem dX6_take_29 : decode cX6_take 29 = .ok (.aload_n 0, 1) := by decide +kernel
theorem dX6_take_30 : decode cX6_take 30 = .ok (.getfield 12, 3) := by decide +kernel
theorem dX6_take_33 : decode cX6_take 33 = .ok (.getfield 116, 3) := by decide +kernel
theorem dX6_take_36 : decode cX6_take 36 = .ok (.iload_n 2, 1) := by decide +kernel
theorem dX6_take_37 : decode cX6_take 37 = .ok (.iaload, 1) := by decide +kernel
theorem dX6_take_38 : decode cX6_take 38 = .ok (.aload_n 0, 1) := by decide +kernel
theorem dX6_take_39 : decode cX6_take 39 = .ok (.iload_n 1, 1) := by decide +kernel
theorem dX6_take_40 : decode cX6_take 40 = .ok (.iload_n 2, 1) := by decide +kernel
theorem dX6_take_41 : decode cX6_take 41 = .ok (.iconst 1, 1) := by decide +kernel
theorem dX6_take_42 : decode cX6_take 42 = .ok (.isub, 1) := by decide +kernel
theorem dX6_take_43 : decode cX6_take 43 = .ok (.invokevirtual 374, 3) := by decide +kernel
theorem dX6_take_46 : decode cX6_take 46 = .ok (.isub, 1) := by decide +kernel
theorem dX6_take_47 : decode cX6_take 47 = .ok (.istore 4, 2) := by decide +kernel
theorem dX6_take_49 : decode cX6_take 49 = .ok (.iload_n 3, 1) := by decide +kernel
theorem dX6_take_50 : decode cX6_take 50 = .ok (.iload 4, 2) := by decide +kernel
theorem dX6_take_52 : decode cX6_take 52 = .ok (.if_icmp .lt 7, 3) := by decide +kernel
theorem dX6_take_55 : decode cX6_take 55 = .ok (.iconst 0, 1) := by decide +kernel
theorem dX6_take_56 : decode cX6_take 56 = .ok (.goto 4, 3) := by decide +kernel
theorem dX6_take_59 : decode cX6_take 59 = .ok (.iconst 1, 1) := by decide +kernel
theorem dX6_take_60 : decode cX6_take 60 = .ok (.ireturn, 1) := by decide +kernel
theorem dX6_lead_0 : decode cX6_lead 0 = .ok (.iload_n 1, 1) := by decide +kernel
theorem dX6_lead_1 : decode cX6_lead 1 = .ok (.iload_n 2, 1) := by decide +kernel
theorem dX6_lead_2 : decode cX6_lead 2 = .ok (.if_icmp .le 5, 3) := by decide +kernel
theorem dX6_lead_5 : decode cX6_lead 5 = .ok (.iconst 0, 1) := by decide +kernel
theorem dX6_lead_6 : decode cX6_lead 6 = .ok (.ireturn, 1) := by decide +kernel
theorem dX6_lead_7 : decode cX6_lead 7 = .ok (.iload_n 1, 1) := by decide +kernel
theorem dX6_lead_8 : decode cX6_lead 8 = .ok (.istore_n 3, 1) := by decide +kernel
theorem dX6_lead_9 : decode cX6_lead 9 = .ok (.iload_n 3, 1) := by decide +kernel
theorem dX6_lead_10 : decode cX6_lead 10 = .ok (.iload_n 2, 1) := by decide +kernel
theorem dX6_lead_11 : decode cX6_lead 11 = .ok (.if_icmp .gt 24, 3) := by decide +kernel
theorem dX6_lead_14 : decode cX6_lead 14 = .ok (.aload_n 0, 1) := by decide +kernel
theorem dX6_lead_15 : decode cX6_lead 15 = .ok (.getfield 57, 3) := by decide +kernel
theorem dX6_lead_18 : decode cX6_lead 18 = .ok (.iload_n 3, 1) := by decide +kernel
theorem dX6_lead_19 : decode cX6_lead 19 = .ok (.aload_n 0, 1) := by decide +kernel
theorem dX6_lead_20 : decode cX6_lead 20 = .ok (.getfield 12, 3) := by decide +kernel
theorem dX6_lead_23 : decode cX6_lead 23 = .ok (.getfield 116, 3) := by decide +kernel
theorem dX6_lead_26 : decode cX6_lead 26 = .ok (.iload_n 3, 1) := by decide +kernel
theorem dX6_lead_27 : decode cX6_lead 27 = .ok (.iaload, 1) := by decide +kernel
theorem dX6_lead_28 : decode cX6_lead 28 = .ok (.iastore, 1) := by decide +kernel
theorem dX6_lead_29 : decode cX6_lead 29 = .ok (.iinc 3 1, 3) := by decide +kernel
theorem dX6_lead_32 : decode cX6_lead 32 = .ok (.goto (-23), 3) := by decide +kernel
theorem dX6_lead_35 : decode cX6_lead 35 = .ok (.iconst 1, 1) := by decide +kernel
theorem dX6_lead_36 : decode cX6_lead 36 = .ok (.istore_n 3, 1) := by decide +kernel
theorem dX6_lead_37 : decode cX6_lead 37 = .ok (.iload_n 3, 1) := by decide +kernel
theorem dX6_lead_38 : decode cX6_lead 38 = .ok (.iload_n 2, 1) := by decide +kernel
theorem dX6_lead_39 : decode cX6_lead 39 = .ok (.iload_n 1, 1) := by decide +kernel
theorem dX6_lead_40 : decode cX6_lead 40 = .ok (.isub, 1) := by decide +kernel
theorem dX6_lead_41 : decode cX6_lead 41 = .ok (.if_icmp .gt 76, 3) := by decide +kernel
theorem dX6_lead_44 : decode cX6_lead 44 = .ok (.iload_n 1, 1) := by decide +kernel
theorem dX6_lead_45 : decode cX6_lead 45 = .ok (.istore 4, 2) := by decide +kernel
theorem dX6_lead_47 : decode cX6_lead 47 = .ok (.iload 4, 2) := by decide +kernel
theorem dX6_lead_49 : decode cX6_lead 49 = .ok (.iload_n 3, 1) := by decide +kernel
theorem dX6_lead_50 : decode cX6_lead 50 = .ok (.iadd, 1) := by decide +kernel
theorem dX6_lead_51 : decode cX6_lead 51 = .ok (.iload_n 2, 1) := by decide +kernel
theorem dX6_lead_52 : decode cX6_lead 52 = .ok (.if_icmp .gt 59, 3) := by decide +kernel
theorem dX6_lead_55 : decode cX6_lead 55 = .ok (.aload_n 0, 1) := by decide +kernel
theorem dX6_lead_56 : decode cX6_lead 56 = .ok (.getfield 57, 3) := by decide +kernel
theorem dX6_lead_59 : decode cX6_lead 59 = .ok (.iload 4, 2) := by decide +kernel
theorem dX6_lead_61 : decode cX6_lead 61 = .ok (.aload_n 0, 1) := by decide +kernel
theorem dX6_lead_62 : decode cX6_lead 62 = .ok (.getfield 12, 3) := by decide +kernel
theorem dX6_lead_65 : decode cX6_lead 65 = .ok (.getfield 116, 3) := by decide +kernel
theorem dX6_lead_68 : decode cX6_lead 68 = .ok (.iload 4, 2) := by decide +kernel
theorem dX6_lead_70 : decode cX6_lead 70 = .ok (.iaload, 1) := by decide +kernel
theorem dX6_lead_71 : decode cX6_lead 71 = .ok (.aload_n 0, 1) := by decide +kernel
theorem dX6_lead_72 : decode cX6_lead 72 = .ok (.getfield 57, 3) := by decide +kernel
theorem dX6_lead_75 : decode cX6_lead 75 = .ok (.iload 4, 2) := by decide +kernel
theorem dX6_lead_77 : decode cX6_lead 77 = .ok (.iconst 1, 1) := by decide +kernel
theorem dX6_lead_78 : decode cX6_lead 78 = .ok (.iadd, 1) := by decide +kernel
theorem dX6_lead_79 : decode cX6_lead 79 = .ok (.iaload, 1) := by decide +kernel
theorem dX6_lead_80 : decode cX6_lead 80 = .ok (.isub, 1) := by decide +kernel
theorem dX6_lead_81 : decode cX6_lead 81 = .ok (.aload_n 0, 1) := by decide +kernel
theorem dX6_lead_82 : decode cX6_lead 82 = .ok (.getfield 12, 3) := by decide +kernel
theorem dX6_lead_85 : decode cX6_lead 85 = .ok (.getfield 116, 3) := by decide +kernel
theorem dX6_lead_88 : decode cX6_lead 88 = .ok (.iload 4, 2) := by decide +kernel
theorem dX6_lead_90 : decode cX6_lead 90 = .ok (.iload_n 3, 1) := by decide +kernel
theorem dX6_lead_91 : decode cX6_lead 91 = .ok (.iadd, 1) := by decide +kernel
theorem dX6_lead_92 : decode cX6_lead 92 = .ok (.iaload, 1) := by decide +kernel
theorem dX6_lead_93 : decode cX6_lead 93 = .ok (.aload_n 0, 1) := by decide +kernel
theorem dX6_lead_94 : decode cX6_lead 94 = .ok (.getfield 57, 3) := by decide +kernel
theorem dX6_lead_97 : decode cX6_lead 97 = .ok (.iload 4, 2) := by decide +kernel
theorem dX6_lead_99 : decode cX6_lead 99 = .ok (.iaload, 1) := by decide +kernel
theorem dX6_lead_100 : decode cX6_lead 100 = .ok (.isub, 1) := by decide +kernel
theorem dX6_lead_101 : decode cX6_lead 101 = .ok (.invokestatic 363, 3) := by decide +kernel
theorem dX6_lead_104 : decode cX6_lead 104 = .ok (.iastore, 1) := by decide +kernel
theorem dX6_lead_105 : decode cX6_lead 105 = .ok (.iinc 4 1, 3) := by decide +kernel
theorem dX6_lead_108 : decode cX6_lead 108 = .ok (.goto (-61), 3) := by decide +kernel
theorem dX6_lead_111 : decode cX6_lead 111 = .ok (.iinc 3 1, 3) := by decide +kernel
theorem dX6_lead_114 : decode cX6_lead 114 = .ok (.goto (-77), 3) := by decide +kernel
theorem dX6_lead_117 : decode cX6_lead 117 = .ok (.aload_n 0, 1) := by decide +kernel
theorem dX6_lead_118 : decode cX6_lead 118 = .ok (.getfield 57, 3) := by decide +kernel
theorem dX6_lead_121 : decode cX6_lead 121 = .ok (.iload_n 1, 1) := by decide +kernel
theorem dX6_lead_122 : decode cX6_lead 122 = .ok (.iaload, 1) := by decide +kernel
theorem dX6_lead_123 : decode cX6_lead 123 = .ok (.ireturn, 1) := by decide +kernel
theorem dX6_best_0 : decode cX6_best 0 = .ok (.iload_n 1, 1) := by decide +kernel
theorem dX6_best_1 : decode cX6_best 1 = .ok (.iload_n 2, 1) := by decide +kernel
theorem dX6_best_2 : decode cX6_best 2 = .ok (.invokestatic 85, 3) := by decide +kernel
theorem dX6_best_5 : decode cX6_best 5 = .ok (.ifCond .eq 12, 3) := by decide +kernel
theorem dX6_best_8 : decode cX6_best 8 = .ok (.iload_n 3, 1) := by decide +kernel
theorem dX6_best_9 : decode cX6_best 9 = .ok (.iconst 0, 1) := by decide +kernel
theorem dX6_best_10 : decode cX6_best 10 = .ok (.iconst 2, 1) := by decide +kernel
theorem dX6_best_11 : decode cX6_best 11 = .ok (.invokestatic 75, 3) := by decide +kernel
theorem dX6_best_14 : decode cX6_best 14 = .ok (.ifCond .ne 7, 3) := by decide +kernel
theorem dX6_best_17 : decode cX6_best 17 = .ok (.sipush (-1000), 3) := by decide +kernel
theorem dX6_best_20 : decode cX6_best 20 = .ok (.ireturn, 1) := by decide +kernel
theorem dX6_best_21 : decode cX6_best 21 = .ok (.aload_n 0, 1) := by decide +kernel
theorem dX6_best_22 : decode cX6_best 22 = .ok (.getfield 12, 3) := by decide +kernel
theorem dX6_best_25 : decode cX6_best 25 = .ok (.getfield 116, 3) := by decide +kernel
theorem dX6_best_28 : decode cX6_best 28 = .ok (.iload_n 1, 1) := by decide +kernel
theorem dX6_best_29 : decode cX6_best 29 = .ok (.iaload, 1) := by decide +kernel
theorem dX6_best_30 : decode cX6_best 30 = .ok (.bipush 50, 2) := by decide +kernel
theorem dX6_best_32 : decode cX6_best 32 = .ok (.isub, 1) := by decide +kernel
theorem dX6_best_33 : decode cX6_best 33 = .ok (.istore 4, 2) := by decide +kernel
theorem dX6_best_35 : decode cX6_best 35 = .ok (.iload_n 1, 1) := by decide +kernel
theorem dX6_best_36 : decode cX6_best 36 = .ok (.istore 5, 2) := by decide +kernel
theorem dX6_best_38 : decode cX6_best 38 = .ok (.iload_n 1, 1) := by decide +kernel
theorem dX6_best_39 : decode cX6_best 39 = .ok (.istore 6, 2) := by decide +kernel
theorem dX6_best_41 : decode cX6_best 41 = .ok (.iload_n 1, 1) := by decide +kernel
theorem dX6_best_42 : decode cX6_best 42 = .ok (.istore 7, 2) := by decide +kernel
theorem dX6_best_44 : decode cX6_best 44 = .ok (.iload 7, 2) := by decide +kernel
theorem dX6_best_46 : decode cX6_best 46 = .ok (.iload_n 2, 1) := by decide +kernel
theorem dX6_best_47 : decode cX6_best 47 = .ok (.if_icmp .gt 65, 3) := by decide +kernel
theorem dX6_best_50 : decode cX6_best 50 = .ok (.iconst 0, 1) := by decide +kernel
theorem dX6_best_51 : decode cX6_best 51 = .ok (.istore 8, 2) := by decide +kernel
theorem dX6_best_53 : decode cX6_best 53 = .ok (.iload 7, 2) := by decide +kernel
theorem dX6_best_55 : decode cX6_best 55 = .ok (.istore 9, 2) := by decide +kernel
theorem dX6_best_57 : decode cX6_best 57 = .ok (.iload 9, 2) := by decide +kernel
theorem dX6_best_59 : decode cX6_best 59 = .ok (.iload_n 2, 1) := by decide +kernel
theorem dX6_best_60 : decode cX6_best 60 = .ok (.if_icmp .gt 46, 3) := by decide +kernel
theorem dX6_best_63 : decode cX6_best 63 = .ok (.iload 8, 2) := by decide +kernel
theorem dX6_best_65 : decode cX6_best 65 = .ok (.aload_n 0, 1) := by decide +kernel
theorem dX6_best_66 : decode cX6_best 66 = .ok (.getfield 12, 3) := by decide +kernel
theorem dX6_best_69 : decode cX6_best 69 = .ok (.getfield 116, 3) := by decide +kernel
theorem dX6_best_72 : decode cX6_best 72 = .ok (.iload 9, 2) := by decide +kernel
theorem dX6_best_74 : decode cX6_best 74 = .ok (.iaload, 1) := by decide +kernel
theorem dX6_best_75 : decode cX6_best 75 = .ok (.bipush 50, 2) := by decide +kernel
theorem dX6_best_77 : decode cX6_best 77 = .ok (.isub, 1) := by decide +kernel
theorem dX6_best_78 : decode cX6_best 78 = .ok (.iadd, 1) := by decide +kernel
theorem dX6_best_79 : decode cX6_best 79 = .ok (.istore 8, 2) := by decide +kernel
theorem dX6_best_81 : decode cX6_best 81 = .ok (.iload 8, 2) := by decide +kernel
theorem dX6_best_83 : decode cX6_best 83 = .ok (.iload 4, 2) := by decide +kernel
theorem dX6_best_85 : decode cX6_best 85 = .ok (.if_icmp .le 15, 3) := by decide +kernel
theorem dX6_best_88 : decode cX6_best 88 = .ok (.iload 8, 2) := by decide +kernel
theorem dX6_best_90 : decode cX6_best 90 = .ok (.istore 4, 2) := by decide +kernel
theorem dX6_best_92 : decode cX6_best 92 = .ok (.iload 7, 2) := by decide +kernel
theorem dX6_best_94 : decode cX6_best 94 = .ok (.istore 5, 2) := by decide +kernel
theorem dX6_best_96 : decode cX6_best 96 = .ok (.iload 9, 2) := by decide +kernel
theorem dX6_best_98 : decode cX6_best 98 = .ok (.istore 6, 2) := by decide +kernel
theorem dX6_best_100 : decode cX6_best 100 = .ok (.iinc 9 1, 3) := by decide +kernel
theorem dX6_best_103 : decode cX6_best 103 = .ok (.goto (-46), 3) := by decide +kernel
theorem dX6_best_106 : decode cX6_best 106 = .ok (.iinc 7 1, 3) := by decide +kernel
theorem dX6_best_109 : decode cX6_best 109 = .ok (.goto (-65), 3) := by decide +kernel
theorem dX6_best_112 : decode cX6_best 112 = .ok (.iload_n 3, 1) := by decide +kernel
theorem dX6_best_113 : decode cX6_best 113 = .ok (.ifCond .ne 6, 3) := by decide +kernel
theorem dX6_best_116 : decode cX6_best 116 = .ok (.iload 4, 2) := by decide +kernel
theorem dX6_best_118 : decode cX6_best 118 = .ok (.ireturn, 1) := by decide +kernel
theorem dX6_best_119 : decode cX6_best 119 = .ok (.iload_n 3, 1) := by decide +kernel
theorem dX6_best_120 : decode cX6_best 120 = .ok (.iconst 1, 1) := by decide +kernel
theorem dX6_best_121 : decode cX6_best 121 = .ok (.if_icmp .ne 8, 3) := by decide +kernel
theorem dX6_best_124 : decode cX6_best 124 = .ok (.iload 5, 2) := by decide +kernel
theorem dX6_best_126 : decode cX6_best 126 = .ok (.goto 5, 3) := by decide +kernel
theorem dX6_best_129 : decode cX6_best 129 = .ok (.iload 6, 2) := by decide +kernel
theorem dX6_best_131 : decode cX6_best 131 = .ok (.ireturn, 1) := by decide +kernel
theorem dX6_whose_0 : decode cX6_whose 0 = .ok (.iconst 0, 1) := by decide +kernel
theorem dX6_whose_1 : decode cX6_whose 1 = .ok (.istore_n 1, 1) := by decide +kernel
theorem dX6_whose_2 : decode cX6_whose 2 = .ok (.iconst 0, 1) := by decide +kernel
theorem dX6_whose_3 : decode cX6_whose 3 = .ok (.istore_n 2, 1) := by decide +kernel
theorem dX6_whose_4 : decode cX6_whose 4 = .ok (.iload_n 2, 1) := by decide +kernel
theorem dX6_whose_5 : decode cX6_whose 5 = .ok (.aload_n 0, 1) := by decide +kernel
theorem dX6_whose_6 : decode cX6_whose 6 = .ok (.getfield 12, 3) := by decide +kernel
theorem dX6_whose_9 : decode cX6_whose 9 = .ok (.getfield 147, 3) := by decide +kernel
theorem dX6_whose_12 : decode cX6_whose 12 = .ok (.if_icmp .ge 95, 3) := by decide +kernel
theorem dX6_whose_15 : decode cX6_whose 15 = .ok (.iconst 1, 1) := by decide +kernel
theorem dX6_whose_16 : decode cX6_whose 16 = .ok (.istore_n 3, 1) := by decide +kernel
theorem dX6_whose_17 : decode cX6_whose 17 = .ok (.iconst 0, 1) := by decide +kernel
theorem dX6_whose_18 : decode cX6_whose 18 = .ok (.istore 4, 2) := by decide +kernel
theorem dX6_whose_20 : decode cX6_whose 20 = .ok (.iload 4, 2) := by decide +kernel
theorem dX6_whose_22 : decode cX6_whose 22 = .ok (.aload_n 0, 1) := by decide +kernel
theorem dX6_whose_23 : decode cX6_whose 23 = .ok (.getfield 12, 3) := by decide +kernel
theorem dX6_whose_26 : decode cX6_whose 26 = .ok (.getfield 134, 3) := by decide +kernel
theorem dX6_whose_29 : decode cX6_whose 29 = .ok (.if_icmp .ge 62, 3) := by decide +kernel
theorem dX6_whose_32 : decode cX6_whose 32 = .ok (.iload 4, 2) := by decide +kernel
theorem dX6_whose_34 : decode cX6_whose 34 = .ok (.bipush 8, 2) := by decide +kernel
theorem dX6_whose_36 : decode cX6_whose 36 = .ok (.if_icmp .ge 55, 3) := by decide +kernel
theorem dX6_whose_39 : decode cX6_whose 39 = .ok (.iload_n 3, 1) := by decide +kernel
theorem dX6_whose_40 : decode cX6_whose 40 = .ok (.aload_n 0, 1) := by decide +kernel
theorem dX6_whose_41 : decode cX6_whose 41 = .ok (.iload_n 2, 1) := by decide +kernel
theorem dX6_whose_42 : decode cX6_whose 42 = .ok (.aload_n 0, 1) := by decide +kernel
theorem dX6_whose_43 : decode cX6_whose 43 = .ok (.getfield 12, 3) := by decide +kernel
theorem dX6_whose_46 : decode cX6_whose 46 = .ok (.getfield 137, 3) := by decide +kernel
theorem dX6_whose_49 : decode cX6_whose 49 = .ok (.iload 4, 2) := by decide +kernel
theorem dX6_whose_51 : decode cX6_whose 51 = .ok (.iaload, 1) := by decide +kernel
theorem dX6_whose_52 : decode cX6_whose 52 = .ok (.aload_n 0, 1) := by decide +kernel
theorem dX6_whose_53 : decode cX6_whose 53 = .ok (.getfield 12, 3) := by decide +kernel
theorem dX6_whose_56 : decode cX6_whose 56 = .ok (.getfield 104, 3) := by decide +kernel
theorem dX6_whose_59 : decode cX6_whose 59 = .ok (.getfield 187, 3) := by decide +kernel
theorem dX6_whose_62 : decode cX6_whose 62 = .ok (.invokevirtual 338, 3) := by decide +kernel
theorem dX6_whose_65 : decode cX6_whose 65 = .ok (.aload_n 0, 1) := by decide +kernel
theorem dX6_whose_66 : decode cX6_whose 66 = .ok (.getfield 12, 3) := by decide +kernel
theorem dX6_whose_69 : decode cX6_whose 69 = .ok (.getfield 140, 3) := by decide +kernel
theorem dX6_whose_72 : decode cX6_whose 72 = .ok (.iload 4, 2) := by decide +kernel
theorem dX6_whose_74 : decode cX6_whose 74 = .ok (.iaload, 1) := by decide +kernel
theorem dX6_whose_75 : decode cX6_whose 75 = .ok (.if_icmp .ne 7, 3) := by decide +kernel
theorem dX6_whose_78 : decode cX6_whose 78 = .ok (.iconst 1, 1) := by decide +kernel
theorem dX6_whose_79 : decode cX6_whose 79 = .ok (.goto 4, 3) := by decide +kernel
theorem dX6_whose_82 : decode cX6_whose 82 = .ok (.iconst 0, 1) := by decide +kernel
theorem dX6_whose_83 : decode cX6_whose 83 = .ok (.iand, 1) := by decide +kernel
theorem dX6_whose_84 : decode cX6_whose 84 = .ok (.istore_n 3, 1) := by decide +kernel
theorem dX6_whose_85 : decode cX6_whose 85 = .ok (.iinc 4 1, 3) := by decide +kernel
theorem dX6_whose_88 : decode cX6_whose 88 = .ok (.goto (-68), 3) := by decide +kernel
theorem dX6_whose_91 : decode cX6_whose 91 = .ok (.iload_n 3, 1) := by decide +kernel
theorem dX6_whose_92 : decode cX6_whose 92 = .ok (.ifCond .eq 9, 3) := by decide +kernel
theorem dX6_whose_95 : decode cX6_whose 95 = .ok (.iload_n 1, 1) := by decide +kernel
theorem dX6_whose_96 : decode cX6_whose 96 = .ok (.iconst 1, 1) := by decide +kernel
theorem dX6_whose_97 : decode cX6_whose 97 = .ok (.iload_n 2, 1) := by decide +kernel
theorem dX6_whose_98 : decode cX6_whose 98 = .ok (.ishl, 1) := by decide +kernel
theorem dX6_whose_99 : decode cX6_whose 99 = .ok (.ior, 1) := by decide +kernel
theorem dX6_whose_100 : decode cX6_whose 100 = .ok (.istore_n 1, 1) := by decide +kernel
theorem dX6_whose_101 : decode cX6_whose 101 = .ok (.iinc 2 1, 3) := by decide +kernel
theorem dX6_whose_104 : decode cX6_whose 104 = .ok (.goto (-100), 3) := by decide +kernel
theorem dX6_whose_107 : decode cX6_whose 107 = .ok (.iload_n 1, 1) := by decide +kernel
theorem dX6_whose_108 : decode cX6_whose 108 = .ok (.ireturn, 1) := by decide +kernel
theorem dX6_richest_0 : decode cX6_richest 0 = .ok (.iconst (-1), 1) := by decide +kernel
theorem dX6_richest_1 : decode cX6_richest 1 = .ok (.istore_n 1, 1) := by decide +kernel
theorem dX6_richest_2 : decode cX6_richest 2 = .ok (.iconst 0, 1) := by decide +kernel
theorem dX6_richest_3 : decode cX6_richest 3 = .ok (.istore_n 2, 1) := by decide +kernel
theorem dX6_richest_4 : decode cX6_richest 4 = .ok (.iconst 0, 1) := by decide +kernel
theorem dX6_richest_5 : decode cX6_richest 5 = .ok (.istore_n 3, 1) := by decide +kernel
theorem dX6_richest_6 : decode cX6_richest 6 = .ok (.iload_n 3, 1) := by decide +kernel
theorem dX6_richest_7 : decode cX6_richest 7 = .ok (.aload_n 0, 1) := by decide +kernel
theorem dX6_richest_8 : decode cX6_richest 8 = .ok (.getfield 12, 3) := by decide +kernel
theorem dX6_richest_11 : decode cX6_richest 11 = .ok (.getfield 89, 3) := by decide +kernel
theorem dX6_richest_14 : decode cX6_richest 14 = .ok (.if_icmp .ge 40, 3) := by decide +kernel
theorem dX6_richest_17 : decode cX6_richest 17 = .ok (.aload_n 0, 1) := by decide +kernel
theorem dX6_richest_18 : decode cX6_richest 18 = .ok (.getfield 12, 3) := by decide +kernel
theorem dX6_richest_21 : decode cX6_richest 21 = .ok (.getfield 104, 3) := by decide +kernel
theorem dX6_richest_24 : decode cX6_richest 24 = .ok (.getfield 107, 3) := by decide +kernel
theorem dX6_richest_27 : decode cX6_richest 27 = .ok (.iload_n 3, 1) := by decide +kernel
theorem dX6_richest_28 : decode cX6_richest 28 = .ok (.iaload, 1) := by decide +kernel
theorem dX6_richest_29 : decode cX6_richest 29 = .ok (.iload_n 2, 1) := by decide +kernel
theorem dX6_richest_30 : decode cX6_richest 30 = .ok (.if_icmp .le 18, 3) := by decide +kernel
theorem dX6_richest_33 : decode cX6_richest 33 = .ok (.aload_n 0, 1) := by decide +kernel
theorem dX6_richest_34 : decode cX6_richest 34 = .ok (.getfield 12, 3) := by decide +kernel
theorem dX6_richest_37 : decode cX6_richest 37 = .ok (.getfield 104, 3) := by decide +kernel
theorem dX6_richest_40 : decode cX6_richest 40 = .ok (.getfield 107, 3) := by decide +kernel
theorem dX6_richest_43 : decode cX6_richest 43 = .ok (.iload_n 3, 1) := by decide +kernel
theorem dX6_richest_44 : decode cX6_richest 44 = .ok (.iaload, 1) := by decide +kernel
theorem dX6_richest_45 : decode cX6_richest 45 = .ok (.istore_n 2, 1) := by decide +kernel
theorem dX6_richest_46 : decode cX6_richest 46 = .ok (.iload_n 3, 1) := by decide +kernel
theorem dX6_richest_47 : decode cX6_richest 47 = .ok (.istore_n 1, 1) := by decide +kernel
theorem dX6_richest_48 : decode cX6_richest 48 = .ok (.iinc 3 1, 3) := by decide +kernel
theorem dX6_richest_51 : decode cX6_richest 51 = .ok (.goto (-45), 3) := by decide +kernel
theorem dX6_richest_54 : decode cX6_richest 54 = .ok (.iload_n 1, 1) := by decide +kernel
theorem dX6_richest_55 : decode cX6_richest 55 = .ok (.ireturn, 1) := by decide +kernel
theorem dX6_rival_0 : decode cX6_rival 0 = .ok (.aload_n 0, 1) := by decide +kernel
theorem dX6_rival_1 : decode cX6_rival 1 = .ok (.iload_n 1, 1) := by decide +kernel
theorem dX6_rival_2 : decode cX6_rival 2 = .ok (.invokevirtual 125, 3) := by decide +kernel
theorem dX6_rival_5 : decode cX6_rival 5 = .ok (.ifCond .ne 5, 3) := by decide +kernel
theorem dX6_rival_8 : decode cX6_rival 8 = .ok (.iconst (-1), 1) := by decide +kernel
theorem dX6_rival_9 : decode cX6_rival 9 = .ok (.ireturn, 1) := by decide +kernel
theorem dX6_rival_10 : decode cX6_rival 10 = .ok (.iconst 0, 1) := by decide +kernel
theorem dX6_rival_11 : decode cX6_rival 11 = .ok (.istore_n 2, 1) := by decide +kernel
theorem dX6_rival_12 : decode cX6_rival 12 = .ok (.iconst 0, 1) := by decide +kernel
theorem dX6_rival_13 : decode cX6_rival 13 = .ok (.istore_n 3, 1) := by decide +kernel
theorem dX6_rival_14 : decode cX6_rival 14 = .ok (.iload_n 3, 1) := by decide +kernel
theorem dX6_rival_15 : decode cX6_rival 15 = .ok (.aload_n 0, 1) := by decide +kernel
theorem dX6_rival_16 : decode cX6_rival 16 = .ok (.getfield 12, 3) := by decide +kernel
theorem dX6_rival_19 : decode cX6_rival 19 = .ok (.getfield 89, 3) := by decide +kernel
theorem dX6_rival_22 : decode cX6_rival 22 = .ok (.if_icmp .ge 86, 3) := by decide +kernel
theorem dX6_rival_25 : decode cX6_rival 25 = .ok (.aload_n 0, 1) := by decide +kernel
theorem dX6_rival_26 : decode cX6_rival 26 = .ok (.getfield 12, 3) := by decide +kernel
theorem dX6_rival_29 : decode cX6_rival 29 = .ok (.getfield 92, 3) := by decide +kernel
theorem dX6_rival_32 : decode cX6_rival 32 = .ok (.iload_n 3, 1) := by decide +kernel
theorem dX6_rival_33 : decode cX6_rival 33 = .ok (.iaload, 1) := by decide +kernel
theorem dX6_rival_34 : decode cX6_rival 34 = .ok (.aload_n 0, 1) := by decide +kernel
theorem dX6_rival_35 : decode cX6_rival 35 = .ok (.getfield 12, 3) := by decide +kernel
theorem dX6_rival_38 : decode cX6_rival 38 = .ok (.getfield 92, 3) := by decide +kernel
theorem dX6_rival_41 : decode cX6_rival 41 = .ok (.iload_n 1, 1) := by decide +kernel
theorem dX6_rival_42 : decode cX6_rival 42 = .ok (.iaload, 1) := by decide +kernel
theorem dX6_rival_43 : decode cX6_rival 43 = .ok (.iand, 1) := by decide +kernel
theorem dX6_rival_44 : decode cX6_rival 44 = .ok (.ifCond .eq 7, 3) := by decide +kernel
theorem dX6_rival_47 : decode cX6_rival 47 = .ok (.iconst 1, 1) := by decide +kernel
theorem dX6_rival_48 : decode cX6_rival 48 = .ok (.goto 4, 3) := by decide +kernel
theorem dX6_rival_51 : decode cX6_rival 51 = .ok (.iconst 0, 1) := by decide +kernel
theorem dX6_rival_52 : decode cX6_rival 52 = .ok (.istore 4, 2) := by decide +kernel
theorem dX6_rival_54 : decode cX6_rival 54 = .ok (.aload_n 0, 1) := by decide +kernel
theorem dX6_rival_55 : decode cX6_rival 55 = .ok (.getfield 12, 3) := by decide +kernel
theorem dX6_rival_58 : decode cX6_rival 58 = .ok (.iload_n 3, 1) := by decide +kernel
theorem dX6_rival_59 : decode cX6_rival 59 = .ok (.invokevirtual 193, 3) := by decide +kernel
theorem dX6_rival_62 : decode cX6_rival 62 = .ok (.aload_n 0, 1) := by decide +kernel
theorem dX6_rival_63 : decode cX6_rival 63 = .ok (.getfield 12, 3) := by decide +kernel
theorem dX6_rival_66 : decode cX6_rival 66 = .ok (.iload_n 1, 1) := by decide +kernel
theorem dX6_rival_67 : decode cX6_rival 67 = .ok (.invokevirtual 193, 3) := by decide +kernel
theorem dX6_rival_70 : decode cX6_rival 70 = .ok (.iand, 1) := by decide +kernel
theorem dX6_rival_71 : decode cX6_rival 71 = .ok (.ifCond .eq 7, 3) := by decide +kernel
theorem dX6_rival_74 : decode cX6_rival 74 = .ok (.iconst 1, 1) := by decide +kernel
theorem dX6_rival_75 : decode cX6_rival 75 = .ok (.goto 4, 3) := by decide +kernel
theorem dX6_rival_78 : decode cX6_rival 78 = .ok (.iconst 0, 1) := by decide +kernel
theorem dX6_rival_79 : decode cX6_rival 79 = .ok (.istore 5, 2) := by decide +kernel
theorem dX6_rival_81 : decode cX6_rival 81 = .ok (.iload_n 3, 1) := by decide +kernel
theorem dX6_rival_82 : decode cX6_rival 82 = .ok (.iload_n 1, 1) := by decide +kernel
theorem dX6_rival_83 : decode cX6_rival 83 = .ok (.if_icmp .eq 19, 3) := by decide +kernel
theorem dX6_rival_86 : decode cX6_rival 86 = .ok (.iload 4, 2) := by decide +kernel
theorem dX6_rival_88 : decode cX6_rival 88 = .ok (.ifCond .eq 14, 3) := by decide +kernel
theorem dX6_rival_91 : decode cX6_rival 91 = .ok (.iload 5, 2) := by decide +kernel
theorem dX6_rival_93 : decode cX6_rival 93 = .ok (.ifCond .eq 9, 3) := by decide +kernel
theorem dX6_rival_96 : decode cX6_rival 96 = .ok (.iload_n 2, 1) := by decide +kernel
theorem dX6_rival_97 : decode cX6_rival 97 = .ok (.iconst 1, 1) := by decide +kernel
theorem dX6_rival_98 : decode cX6_rival 98 = .ok (.iload_n 3, 1) := by decide +kernel
theorem dX6_rival_99 : decode cX6_rival 99 = .ok (.ishl, 1) := by decide +kernel
theorem dX6_rival_100 : decode cX6_rival 100 = .ok (.ior, 1) := by decide +kernel
theorem dX6_rival_101 : decode cX6_rival 101 = .ok (.istore_n 2, 1) := by decide +kernel
theorem dX6_rival_102 : decode cX6_rival 102 = .ok (.iinc 3 1, 3) := by decide +kernel
theorem dX6_rival_105 : decode cX6_rival 105 = .ok (.goto (-91), 3) := by decide +kernel
theorem dX6_rival_108 : decode cX6_rival 108 = .ok (.iload_n 2, 1) := by decide +kernel
theorem dX6_rival_109 : decode cX6_rival 109 = .ok (.ireturn, 1) := by decide +kernel
theorem dX6_learnt_0 : decode cX6_learnt 0 = .ok (.iload_n 1, 1) := by decide +kernel
theorem dX6_learnt_1 : decode cX6_learnt 1 = .ok (.invokestatic 71, 3) := by decide +kernel
theorem dX6_learnt_4 : decode cX6_learnt 4 = .ok (.ifCond .ne 7, 3) := by decide +kernel
theorem dX6_learnt_7 : decode cX6_learnt 7 = .ok (.ldc2_w 326, 3) := by decide +kernel
theorem dX6_learnt_10 : decode cX6_learnt 10 = .ok (.lreturn, 1) := by decide +kernel
theorem dX6_learnt_11 : decode cX6_learnt 11 = .ok (.iconst 0, 1) := by decide +kernel
theorem dX6_learnt_12 : decode cX6_learnt 12 = .ok (.istore_n 3, 1) := by decide +kernel
theorem dX6_learnt_13 : decode cX6_learnt 13 = .ok (.iconst 0, 1) := by decide +kernel
theorem dX6_learnt_14 : decode cX6_learnt 14 = .ok (.istore 4, 2) := by decide +kernel
theorem dX6_learnt_16 : decode cX6_learnt 16 = .ok (.iload 4, 2) := by decide +kernel
theorem dX6_learnt_18 : decode cX6_learnt 18 = .ok (.aload_n 0, 1) := by decide +kernel
theorem dX6_learnt_19 : decode cX6_learnt 19 = .ok (.getfield 12, 3) := by decide +kernel
theorem dX6_learnt_22 : decode cX6_learnt 22 = .ok (.getfield 104, 3) := by decide +kernel
theorem dX6_learnt_25 : decode cX6_learnt 25 = .ok (.getfield 299, 3) := by decide +kernel
theorem dX6_learnt_28 : decode cX6_learnt 28 = .ok (.if_icmp .ge 39, 3) := by decide +kernel
theorem dX6_learnt_31 : decode cX6_learnt 31 = .ok (.iload 4, 2) := by decide +kernel
theorem dX6_learnt_33 : decode cX6_learnt 33 = .ok (.bipush 25, 2) := by decide +kernel
theorem dX6_learnt_35 : decode cX6_learnt 35 = .ok (.if_icmp .ge 32, 3) := by decide +kernel
theorem dX6_learnt_38 : decode cX6_learnt 38 = .ok (.aload_n 0, 1) := by decide +kernel
theorem dX6_learnt_39 : decode cX6_learnt 39 = .ok (.getfield 12, 3) := by decide +kernel
theorem dX6_learnt_42 : decode cX6_learnt 42 = .ok (.getfield 104, 3) := by decide +kernel
theorem dX6_learnt_45 : decode cX6_learnt 45 = .ok (.getfield 302, 3) := by decide +kernel
theorem dX6_learnt_48 : decode cX6_learnt 48 = .ok (.iload 4, 2) := by decide +kernel
theorem dX6_learnt_50 : decode cX6_learnt 50 = .ok (.iaload, 1) := by decide +kernel
theorem dX6_learnt_51 : decode cX6_learnt 51 = .ok (.iload_n 1, 1) := by decide +kernel
theorem dX6_learnt_52 : decode cX6_learnt 52 = .ok (.invokestatic 377, 3) := by decide +kernel
theorem dX6_learnt_55 : decode cX6_learnt 55 = .ok (.ifCond .eq 6, 3) := by decide +kernel
theorem dX6_learnt_58 : decode cX6_learnt 58 = .ok (.iinc 3 1, 3) := by decide +kernel
theorem dX6_learnt_61 : decode cX6_learnt 61 = .ok (.iinc 4 1, 3) := by decide +kernel
theorem dX6_learnt_64 : decode cX6_learnt 64 = .ok (.goto (-48), 3) := by decide +kernel
theorem dX6_learnt_67 : decode cX6_learnt 67 = .ok (.iload_n 3, 1) := by decide +kernel
theorem dX6_learnt_68 : decode cX6_learnt 68 = .ok (.iconst 1, 1) := by decide +kernel
theorem dX6_learnt_69 : decode cX6_learnt 69 = .ok (.iadd, 1) := by decide +kernel
theorem dX6_learnt_70 : decode cX6_learnt 70 = .ok (.i2l, 1) := by decide +kernel
theorem dX6_learnt_71 : decode cX6_learnt 71 = .ok (.aload_n 0, 1) := by decide +kernel
theorem dX6_learnt_72 : decode cX6_learnt 72 = .ok (.iconst 3, 1) := by decide +kernel
theorem dX6_learnt_73 : decode cX6_learnt 73 = .ok (.invokevirtual 317, 3) := by decide +kernel
theorem dX6_learnt_76 : decode cX6_learnt 76 = .ok (.iconst 5, 1) := by decide +kernel
theorem dX6_learnt_77 : decode cX6_learnt 77 = .ok (.iadd, 1) := by decide +kernel
theorem dX6_learnt_78 : decode cX6_learnt 78 = .ok (.i2l, 1) := by decide +kernel
theorem dX6_learnt_79 : decode cX6_learnt 79 = .ok (.iload_n 2, 1) := by decide +kernel
theorem dX6_learnt_80 : decode cX6_learnt 80 = .ok (.invokestatic 334, 3) := by decide +kernel
theorem dX6_learnt_83 : decode cX6_learnt 83 = .ok (.lreturn, 1) := by decide +kernel
theorem dX6_since_0 : decode cX6_since 0 = .ok (.iload_n 1, 1) := by decide +kernel
theorem dX6_since_1 : decode cX6_since 1 = .ok (.invokestatic 71, 3) := by decide +kernel
theorem dX6_since_4 : decode cX6_since 4 = .ok (.ifCond .ne 5, 3) := by decide +kernel
theorem dX6_since_7 : decode cX6_since 7 = .ok (.iconst (-1), 1) := by decide +kernel
theorem dX6_since_8 : decode cX6_since 8 = .ok (.ireturn, 1) := by decide +kernel
theorem dX6_since_9 : decode cX6_since 9 = .ok (.aload_n 0, 1) := by decide +kernel
theorem dX6_since_10 : decode cX6_since 10 = .ok (.getfield 12, 3) := by decide +kernel
theorem dX6_since_13 : decode cX6_since 13 = .ok (.getfield 104, 3) := by decide +kernel
theorem dX6_since_16 : decode cX6_since 16 = .ok (.getfield 299, 3) := by decide +kernel
theorem dX6_since_19 : decode cX6_since 19 = .ok (.iconst 1, 1) := by decide +kernel
theorem dX6_since_20 : decode cX6_since 20 = .ok (.isub, 1) := by decide +kernel
theorem dX6_since_21 : decode cX6_since 21 = .ok (.istore_n 2, 1) := by decide +kernel
theorem dX6_since_22 : decode cX6_since 22 = .ok (.iload_n 2, 1) := by decide +kernel
theorem dX6_since_23 : decode cX6_since 23 = .ok (.ifCond .lt 46, 3) := by decide +kernel
theorem dX6_since_26 : decode cX6_since 26 = .ok (.aload_n 0, 1) := by decide +kernel
theorem dX6_since_27 : decode cX6_since 27 = .ok (.getfield 12, 3) := by decide +kernel
theorem dX6_since_30 : decode cX6_since 30 = .ok (.getfield 104, 3) := by decide +kernel
theorem dX6_since_33 : decode cX6_since 33 = .ok (.getfield 302, 3) := by decide +kernel
theorem dX6_since_36 : decode cX6_since 36 = .ok (.iload_n 2, 1) := by decide +kernel
theorem dX6_since_37 : decode cX6_since 37 = .ok (.iaload, 1) := by decide +kernel
theorem dX6_since_38 : decode cX6_since 38 = .ok (.istore_n 3, 1) := by decide +kernel
theorem dX6_since_39 : decode cX6_since 39 = .ok (.iload_n 3, 1) := by decide +kernel
theorem dX6_since_40 : decode cX6_since 40 = .ok (.iload_n 1, 1) := by decide +kernel
theorem dX6_since_41 : decode cX6_since 41 = .ok (.invokestatic 377, 3) := by decide +kernel
theorem dX6_since_44 : decode cX6_since 44 = .ok (.ifCond .eq 19, 3) := by decide +kernel
theorem dX6_since_47 : decode cX6_since 47 = .ok (.aload_n 0, 1) := by decide +kernel
theorem dX6_since_48 : decode cX6_since 48 = .ok (.getfield 12, 3) := by decide +kernel
theorem dX6_since_51 : decode cX6_since 51 = .ok (.getfield 104, 3) := by decide +kernel
theorem dX6_since_54 : decode cX6_since 54 = .ok (.getfield 209, 3) := by decide +kernel
theorem dX6_since_57 : decode cX6_since 57 = .ok (.iload_n 3, 1) := by decide +kernel
theorem dX6_since_58 : decode cX6_since 58 = .ok (.invokestatic 305, 3) := by decide +kernel
theorem dX6_since_61 : decode cX6_since 61 = .ok (.isub, 1) := by decide +kernel
theorem dX6_since_62 : decode cX6_since 62 = .ok (.ireturn, 1) := by decide +kernel
theorem dX6_since_63 : decode cX6_since 63 = .ok (.iinc 2 (-1), 3) := by decide +kernel
theorem dX6_since_66 : decode cX6_since 66 = .ok (.goto (-44), 3) := by decide +kernel
theorem dX6_since_69 : decode cX6_since 69 = .ok (.iconst (-1), 1) := by decide +kernel
theorem dX6_since_70 : decode cX6_since 70 = .ok (.ireturn, 1) := by decide +kernel
theorem dX6_wanted_0 : decode cX6_wanted 0 = .ok (.iload_n 1, 1) := by decide +kernel
theorem dX6_wanted_1 : decode cX6_wanted 1 = .ok (.invokestatic 71, 3) := by decide +kernel
theorem dX6_wanted_4 : decode cX6_wanted 4 = .ok (.ifCond .ne 5, 3) := by decide +kernel
theorem dX6_wanted_7 : decode cX6_wanted 7 = .ok (.iconst (-1), 1) := by decide +kernel
theorem dX6_wanted_8 : decode cX6_wanted 8 = .ok (.ireturn, 1) := by decide +kernel
theorem dX6_wanted_9 : decode cX6_wanted 9 = .ok (.iconst 0, 1) := by decide +kernel
theorem dX6_wanted_10 : decode cX6_wanted 10 = .ok (.istore_n 2, 1) := by decide +kernel
theorem dX6_wanted_11 : decode cX6_wanted 11 = .ok (.iconst 0, 1) := by decide +kernel
theorem dX6_wanted_12 : decode cX6_wanted 12 = .ok (.istore_n 3, 1) := by decide +kernel
theorem dX6_wanted_13 : decode cX6_wanted 13 = .ok (.iload_n 3, 1) := by decide +kernel
theorem dX6_wanted_14 : decode cX6_wanted 14 = .ok (.aload_n 0, 1) := by decide +kernel
theorem dX6_wanted_15 : decode cX6_wanted 15 = .ok (.getfield 12, 3) := by decide +kernel
theorem dX6_wanted_18 : decode cX6_wanted 18 = .ok (.getfield 89, 3) := by decide +kernel
theorem dX6_wanted_21 : decode cX6_wanted 21 = .ok (.if_icmp .ge 25, 3) := by decide +kernel
theorem dX6_wanted_24 : decode cX6_wanted 24 = .ok (.iload_n 2, 1) := by decide +kernel
theorem dX6_wanted_25 : decode cX6_wanted 25 = .ok (.aload_n 0, 1) := by decide +kernel
theorem dX6_wanted_26 : decode cX6_wanted 26 = .ok (.getfield 12, 3) := by decide +kernel
theorem dX6_wanted_29 : decode cX6_wanted 29 = .ok (.getfield 92, 3) := by decide +kernel
theorem dX6_wanted_32 : decode cX6_wanted 32 = .ok (.iload_n 3, 1) := by decide +kernel
theorem dX6_wanted_33 : decode cX6_wanted 33 = .ok (.iaload, 1) := by decide +kernel
theorem dX6_wanted_34 : decode cX6_wanted 34 = .ok (.iload_n 1, 1) := by decide +kernel
theorem dX6_wanted_35 : decode cX6_wanted 35 = .ok (.ishr, 1) := by decide +kernel
theorem dX6_wanted_36 : decode cX6_wanted 36 = .ok (.iconst 1, 1) := by decide +kernel
theorem dX6_wanted_37 : decode cX6_wanted 37 = .ok (.iand, 1) := by decide +kernel
theorem dX6_wanted_38 : decode cX6_wanted 38 = .ok (.iadd, 1) := by decide +kernel
theorem dX6_wanted_39 : decode cX6_wanted 39 = .ok (.istore_n 2, 1) := by decide +kernel
theorem dX6_wanted_40 : decode cX6_wanted 40 = .ok (.iinc 3 1, 3) := by decide +kernel
theorem dX6_wanted_43 : decode cX6_wanted 43 = .ok (.goto (-30), 3) := by decide +kernel
theorem dX6_wanted_46 : decode cX6_wanted 46 = .ok (.iload_n 2, 1) := by decide +kernel
theorem dX6_wanted_47 : decode cX6_wanted 47 = .ok (.ireturn, 1) := by decide +kernel
theorem dX6_alone_0 : decode cX6_alone 0 = .ok (.aload_n 0, 1) := by decide +kernel
theorem dX6_alone_1 : decode cX6_alone 1 = .ok (.iload_n 1, 1) := by decide +kernel
theorem dX6_alone_2 : decode cX6_alone 2 = .ok (.invokevirtual 125, 3) := by decide +kernel
theorem dX6_alone_5 : decode cX6_alone 5 = .ok (.ifCond .ne 5, 3) := by decide +kernel
theorem dX6_alone_8 : decode cX6_alone 8 = .ok (.iconst (-1), 1) := by decide +kernel
theorem dX6_alone_9 : decode cX6_alone 9 = .ok (.ireturn, 1) := by decide +kernel
theorem dX6_alone_10 : decode cX6_alone 10 = .ok (.aload_n 0, 1) := by decide +kernel
theorem dX6_alone_11 : decode cX6_alone 11 = .ok (.getfield 12, 3) := by decide +kernel
theorem dX6_alone_14 : decode cX6_alone 14 = .ok (.iload_n 1, 1) := by decide +kernel
theorem dX6_alone_15 : decode cX6_alone 15 = .ok (.invokevirtual 193, 3) := by decide +kernel
theorem dX6_alone_18 : decode cX6_alone 18 = .ok (.istore_n 2, 1) := by decide +kernel
theorem dX6_alone_19 : decode cX6_alone 19 = .ok (.iconst 0, 1) := by decide +kernel
theorem dX6_alone_20 : decode cX6_alone 20 = .ok (.istore_n 3, 1) := by decide +kernel
theorem dX6_alone_21 : decode cX6_alone 21 = .ok (.iload_n 3, 1) := by decide +kernel
theorem dX6_alone_22 : decode cX6_alone 22 = .ok (.aload_n 0, 1) := by decide +kernel
theorem dX6_alone_23 : decode cX6_alone 23 = .ok (.getfield 12, 3) := by decide +kernel
theorem dX6_alone_26 : decode cX6_alone 26 = .ok (.getfield 89, 3) := by decide +kernel
theorem dX6_alone_29 : decode cX6_alone 29 = .ok (.if_icmp .ge 27, 3) := by decide +kernel
theorem dX6_alone_32 : decode cX6_alone 32 = .ok (.iload_n 3, 1) := by decide +kernel
theorem dX6_alone_33 : decode cX6_alone 33 = .ok (.iload_n 1, 1) := by decide +kernel
theorem dX6_alone_34 : decode cX6_alone 34 = .ok (.if_icmp .eq 16, 3) := by decide +kernel
theorem dX6_alone_37 : decode cX6_alone 37 = .ok (.iload_n 2, 1) := by decide +kernel
theorem dX6_alone_38 : decode cX6_alone 38 = .ok (.aload_n 0, 1) := by decide +kernel
theorem dX6_alone_39 : decode cX6_alone 39 = .ok (.getfield 12, 3) := by decide +kernel
theorem dX6_alone_42 : decode cX6_alone 42 = .ok (.iload_n 3, 1) := by decide +kernel
theorem dX6_alone_43 : decode cX6_alone 43 = .ok (.invokevirtual 193, 3) := by decide +kernel
theorem dX6_alone_46 : decode cX6_alone 46 = .ok (.iconst (-1), 1) := by decide +kernel
theorem dX6_alone_47 : decode cX6_alone 47 = .ok (.ixor, 1) := by decide +kernel
theorem dX6_alone_48 : decode cX6_alone 48 = .ok (.iand, 1) := by decide +kernel
theorem dX6_alone_49 : decode cX6_alone 49 = .ok (.istore_n 2, 1) := by decide +kernel
theorem dX6_alone_50 : decode cX6_alone 50 = .ok (.iinc 3 1, 3) := by decide +kernel
theorem dX6_alone_53 : decode cX6_alone 53 = .ok (.goto (-32), 3) := by decide +kernel
theorem dX6_alone_56 : decode cX6_alone 56 = .ok (.iload_n 2, 1) := by decide +kernel
theorem dX6_alone_57 : decode cX6_alone 57 = .ok (.ireturn, 1) := by decide +kernel
theorem dX6_idle_0 : decode cX6_idle 0 = .ok (.aload_n 0, 1) := by decide +kernel
theorem dX6_idle_1 : decode cX6_idle 1 = .ok (.getfield 12, 3) := by decide +kernel
theorem dX6_idle_4 : decode cX6_idle 4 = .ok (.getfield 104, 3) := by decide +kernel
theorem dX6_idle_7 : decode cX6_idle 7 = .ok (.getfield 258, 3) := by decide +kernel
theorem dX6_idle_10 : decode cX6_idle 10 = .ok (.istore_n 1, 1) := by decide +kernel
theorem dX6_idle_11 : decode cX6_idle 11 = .ok (.iconst 0, 1) := by decide +kernel
theorem dX6_idle_12 : decode cX6_idle 12 = .ok (.istore_n 2, 1) := by decide +kernel
theorem dX6_idle_13 : decode cX6_idle 13 = .ok (.iload_n 2, 1) := by decide +kernel
theorem dX6_idle_14 : decode cX6_idle 14 = .ok (.aload_n 0, 1) := by decide +kernel
theorem dX6_idle_15 : decode cX6_idle 15 = .ok (.getfield 12, 3) := by decide +kernel
theorem dX6_idle_18 : decode cX6_idle 18 = .ok (.getfield 89, 3) := by decide +kernel
theorem dX6_idle_21 : decode cX6_idle 21 = .ok (.if_icmp .ge 40, 3) := by decide +kernel
theorem dX6_idle_24 : decode cX6_idle 24 = .ok (.aload_n 0, 1) := by decide +kernel
theorem dX6_idle_25 : decode cX6_idle 25 = .ok (.iload_n 2, 1) := by decide +kernel
theorem dX6_idle_26 : decode cX6_idle 26 = .ok (.aload_n 0, 1) := by decide +kernel
theorem dX6_idle_27 : decode cX6_idle 27 = .ok (.getfield 12, 3) := by decide +kernel
theorem dX6_idle_30 : decode cX6_idle 30 = .ok (.getfield 104, 3) := by decide +kernel
theorem dX6_idle_33 : decode cX6_idle 33 = .ok (.getfield 187, 3) := by decide +kernel
theorem dX6_idle_36 : decode cX6_idle 36 = .ok (.invokevirtual 190, 3) := by decide +kernel
theorem dX6_idle_39 : decode cX6_idle 39 = .ok (.ifCond .eq 16, 3) := by decide +kernel
theorem dX6_idle_42 : decode cX6_idle 42 = .ok (.iload_n 1, 1) := by decide +kernel
theorem dX6_idle_43 : decode cX6_idle 43 = .ok (.aload_n 0, 1) := by decide +kernel
theorem dX6_idle_44 : decode cX6_idle 44 = .ok (.getfield 12, 3) := by decide +kernel
theorem dX6_idle_47 : decode cX6_idle 47 = .ok (.iload_n 2, 1) := by decide +kernel
theorem dX6_idle_48 : decode cX6_idle 48 = .ok (.invokevirtual 193, 3) := by decide +kernel
theorem dX6_idle_51 : decode cX6_idle 51 = .ok (.iconst (-1), 1) := by decide +kernel
theorem dX6_idle_52 : decode cX6_idle 52 = .ok (.ixor, 1) := by decide +kernel
theorem dX6_idle_53 : decode cX6_idle 53 = .ok (.iand, 1) := by decide +kernel
theorem dX6_idle_54 : decode cX6_idle 54 = .ok (.istore_n 1, 1) := by decide +kernel
theorem dX6_idle_55 : decode cX6_idle 55 = .ok (.iinc 2 1, 3) := by decide +kernel
theorem dX6_idle_58 : decode cX6_idle 58 = .ok (.goto (-45), 3) := by decide +kernel
theorem dX6_idle_61 : decode cX6_idle 61 = .ok (.iload_n 1, 1) := by decide +kernel
theorem dX6_idle_62 : decode cX6_idle 62 = .ok (.ireturn, 1) := by decide +kernel
theorem dX6_poor_0 : decode cX6_poor 0 = .ok (.iconst 0, 1) := by decide +kernel
theorem dX6_poor_1 : decode cX6_poor 1 = .ok (.istore_n 1, 1) := by decide +kernel
theorem dX6_poor_2 : decode cX6_poor 2 = .ok (.iconst 0, 1) := by decide +kernel
theorem dX6_poor_3 : decode cX6_poor 3 = .ok (.istore_n 2, 1) := by decide +kernel
theorem dX6_poor_4 : decode cX6_poor 4 = .ok (.iload_n 2, 1) := by decide +kernel
theorem dX6_poor_5 : decode cX6_poor 5 = .ok (.aload_n 0, 1) := by decide +kernel
theorem dX6_poor_6 : decode cX6_poor 6 = .ok (.getfield 12, 3) := by decide +kernel
theorem dX6_poor_9 : decode cX6_poor 9 = .ok (.getfield 89, 3) := by decide +kernel
theorem dX6_poor_12 : decode cX6_poor 12 = .ok (.if_icmp .ge 35, 3) := by decide +kernel
theorem dX6_poor_15 : decode cX6_poor 15 = .ok (.aload_n 0, 1) := by decide +kernel
theorem dX6_poor_16 : decode cX6_poor 16 = .ok (.getfield 12, 3) := by decide +kernel
theorem dX6_poor_19 : decode cX6_poor 19 = .ok (.getfield 104, 3) := by decide +kernel
theorem dX6_poor_22 : decode cX6_poor 22 = .ok (.getfield 107, 3) := by decide +kernel
theorem dX6_poor_25 : decode cX6_poor 25 = .ok (.iload_n 2, 1) := by decide +kernel
theorem dX6_poor_26 : decode cX6_poor 26 = .ok (.iaload, 1) := by decide +kernel
theorem dX6_poor_27 : decode cX6_poor 27 = .ok (.aload_n 0, 1) := by decide +kernel
theorem dX6_poor_28 : decode cX6_poor 28 = .ok (.iload_n 2, 1) := by decide +kernel
theorem dX6_poor_29 : decode cX6_poor 29 = .ok (.invokevirtual 196, 3) := by decide +kernel
theorem dX6_poor_32 : decode cX6_poor 32 = .ok (.if_icmp .ge 9, 3) := by decide +kernel
theorem dX6_poor_35 : decode cX6_poor 35 = .ok (.iload_n 1, 1) := by decide +kernel
theorem dX6_poor_36 : decode cX6_poor 36 = .ok (.iconst 1, 1) := by decide +kernel
theorem dX6_poor_37 : decode cX6_poor 37 = .ok (.iload_n 2, 1) := by decide +kernel
theorem dX6_poor_38 : decode cX6_poor 38 = .ok (.ishl, 1) := by decide +kernel
theorem dX6_poor_39 : decode cX6_poor 39 = .ok (.ior, 1) := by decide +kernel
theorem dX6_poor_40 : decode cX6_poor 40 = .ok (.istore_n 1, 1) := by decide +kernel
theorem dX6_poor_41 : decode cX6_poor 41 = .ok (.iinc 2 1, 3) := by decide +kernel
theorem dX6_poor_44 : decode cX6_poor 44 = .ok (.goto (-40), 3) := by decide +kernel
theorem dX6_poor_47 : decode cX6_poor 47 = .ok (.iload_n 1, 1) := by decide +kernel
theorem dX6_poor_48 : decode cX6_poor 48 = .ok (.ireturn, 1) := by decide +kernel
theorem dX6_room_0 : decode cX6_room 0 = .ok (.iload_n 1, 1) := by decide +kernel
theorem dX6_room_1 : decode cX6_room 1 = .ok (.iconst 1, 1) := by decide +kernel
theorem dX6_room_2 : decode cX6_room 2 = .ok (.bipush 12, 2) := by decide +kernel
theorem dX6_room_4 : decode cX6_room 4 = .ok (.invokestatic 75, 3) := by decide +kernel
theorem dX6_room_7 : decode cX6_room 7 = .ok (.ifCond .ne 5, 3) := by decide +kernel
theorem dX6_room_10 : decode cX6_room 10 = .ok (.iconst (-1), 1) := by decide +kernel
theorem dX6_room_11 : decode cX6_room 11 = .ok (.ireturn, 1) := by decide +kernel
theorem dX6_room_12 : decode cX6_room 12 = .ok (.iconst 0, 1) := by decide +kernel
theorem dX6_room_13 : decode cX6_room 13 = .ok (.istore_n 2, 1) := by decide +kernel
theorem dX6_room_14 : decode cX6_room 14 = .ok (.iload_n 2, 1) := by decide +kernel
theorem dX6_room_15 : decode cX6_room 15 = .ok (.iload_n 1, 1) := by decide +kernel
theorem dX6_room_16 : decode cX6_room 16 = .ok (.iadd, 1) := by decide +kernel
theorem dX6_room_17 : decode cX6_room 17 = .ok (.bipush 12, 2) := by decide +kernel
theorem dX6_room_19 : decode cX6_room 19 = .ok (.if_icmp .gt 35, 3) := by decide +kernel
theorem dX6_room_22 : decode cX6_room 22 = .ok (.iconst 1, 1) := by decide +kernel
theorem dX6_room_23 : decode cX6_room 23 = .ok (.iload_n 1, 1) := by decide +kernel
theorem dX6_room_24 : decode cX6_room 24 = .ok (.ishl, 1) := by decide +kernel
theorem dX6_room_25 : decode cX6_room 25 = .ok (.iconst 1, 1) := by decide +kernel
theorem dX6_room_26 : decode cX6_room 26 = .ok (.isub, 1) := by decide +kernel
theorem dX6_room_27 : decode cX6_room 27 = .ok (.iload_n 2, 1) := by decide +kernel
theorem dX6_room_28 : decode cX6_room 28 = .ok (.ishl, 1) := by decide +kernel
theorem dX6_room_29 : decode cX6_room 29 = .ok (.istore_n 3, 1) := by decide +kernel
theorem dX6_room_30 : decode cX6_room 30 = .ok (.aload_n 0, 1) := by decide +kernel
theorem dX6_room_31 : decode cX6_room 31 = .ok (.getfield 12, 3) := by decide +kernel
theorem dX6_room_34 : decode cX6_room 34 = .ok (.getfield 104, 3) := by decide +kernel
theorem dX6_room_37 : decode cX6_room 37 = .ok (.getfield 258, 3) := by decide +kernel
theorem dX6_room_40 : decode cX6_room 40 = .ok (.iload_n 3, 1) := by decide +kernel
theorem dX6_room_41 : decode cX6_room 41 = .ok (.iand, 1) := by decide +kernel
theorem dX6_room_42 : decode cX6_room 42 = .ok (.iload_n 3, 1) := by decide +kernel
theorem dX6_room_43 : decode cX6_room 43 = .ok (.if_icmp .ne 5, 3) := by decide +kernel
theorem dX6_room_46 : decode cX6_room 46 = .ok (.iload_n 2, 1) := by decide +kernel
theorem dX6_room_47 : decode cX6_room 47 = .ok (.ireturn, 1) := by decide +kernel
theorem dX6_room_48 : decode cX6_room 48 = .ok (.iinc 2 1, 3) := by decide +kernel
theorem dX6_room_51 : decode cX6_room 51 = .ok (.goto (-37), 3) := by decide +kernel
theorem dX6_room_54 : decode cX6_room 54 = .ok (.iconst (-1), 1) := by decide +kernel
theorem dX6_room_55 : decode cX6_room 55 = .ok (.ireturn, 1) := by decide +kernel
theorem dX6_can_0 : decode cX6_can 0 = .ok (.aload_n 0, 1) := by decide +kernel
theorem dX6_can_1 : decode cX6_can 1 = .ok (.iload_n 1, 1) := by decide +kernel
theorem dX6_can_2 : decode cX6_can 2 = .ok (.invokevirtual 165, 3) := by decide +kernel
theorem dX6_can_5 : decode cX6_can 5 = .ok (.iconst (-1), 1) := by decide +kernel
theorem dX6_can_6 : decode cX6_can 6 = .ok (.if_icmp .eq 7, 3) := by decide +kernel
theorem dX6_can_9 : decode cX6_can 9 = .ok (.iconst 1, 1) := by decide +kernel
theorem dX6_can_10 : decode cX6_can 10 = .ok (.goto 4, 3) := by decide +kernel
theorem dX6_can_13 : decode cX6_can 13 = .ok (.iconst 0, 1) := by decide +kernel
theorem dX6_can_14 : decode cX6_can 14 = .ok (.ireturn, 1) := by decide +kernel
theorem dX6_priceFor_0 : decode cX6_priceFor 0 = .ok (.aload_n 0, 1) := by decide +kernel
theorem dX6_priceFor_1 : decode cX6_priceFor 1 = .ok (.iload_n 1, 1) := by decide +kernel
theorem dX6_priceFor_2 : decode cX6_priceFor 2 = .ok (.invokevirtual 125, 3) := by decide +kernel
theorem dX6_priceFor_5 : decode cX6_priceFor 5 = .ok (.ifCond .eq 21, 3) := by decide +kernel
theorem dX6_priceFor_8 : decode cX6_priceFor 8 = .ok (.aload_n 0, 1) := by decide +kernel
theorem dX6_priceFor_9 : decode cX6_priceFor 9 = .ok (.iload_n 1, 1) := by decide +kernel
theorem dX6_priceFor_10 : decode cX6_priceFor 10 = .ok (.aload_n 0, 1) := by decide +kernel
theorem dX6_priceFor_11 : decode cX6_priceFor 11 = .ok (.getfield 12, 3) := by decide +kernel
theorem dX6_priceFor_14 : decode cX6_priceFor 14 = .ok (.getfield 104, 3) := by decide +kernel
theorem dX6_priceFor_17 : decode cX6_priceFor 17 = .ok (.getfield 187, 3) := by decide +kernel
theorem dX6_priceFor_20 : decode cX6_priceFor 20 = .ok (.invokevirtual 190, 3) := by decide +kernel
theorem dX6_priceFor_23 : decode cX6_priceFor 23 = .ok (.ifCond .ne 5, 3) := by decide +kernel
theorem dX6_priceFor_26 : decode cX6_priceFor 26 = .ok (.iconst (-1), 1) := by decide +kernel
theorem dX6_priceFor_27 : decode cX6_priceFor 27 = .ok (.ireturn, 1) := by decide +kernel
theorem dX6_priceFor_28 : decode cX6_priceFor 28 = .ok (.aload_n 0, 1) := by decide +kernel
theorem dX6_priceFor_29 : decode cX6_priceFor 29 = .ok (.getfield 12, 3) := by decide +kernel
theorem dX6_priceFor_32 : decode cX6_priceFor 32 = .ok (.iload_n 1, 1) := by decide +kernel
theorem dX6_priceFor_33 : decode cX6_priceFor 33 = .ok (.invokevirtual 193, 3) := by decide +kernel
theorem dX6_priceFor_36 : decode cX6_priceFor 36 = .ok (.aload_n 0, 1) := by decide +kernel
theorem dX6_priceFor_37 : decode cX6_priceFor 37 = .ok (.getfield 12, 3) := by decide +kernel
theorem dX6_priceFor_40 : decode cX6_priceFor 40 = .ok (.getfield 104, 3) := by decide +kernel
theorem dX6_priceFor_43 : decode cX6_priceFor 43 = .ok (.getfield 258, 3) := by decide +kernel
theorem dX6_priceFor_46 : decode cX6_priceFor 46 = .ok (.iconst (-1), 1) := by decide +kernel
theorem dX6_priceFor_47 : decode cX6_priceFor 47 = .ok (.ixor, 1) := by decide +kernel
theorem dX6_priceFor_48 : decode cX6_priceFor 48 = .ok (.iand, 1) := by decide +kernel
theorem dX6_priceFor_49 : decode cX6_priceFor 49 = .ok (.ifCond .eq 5, 3) := by decide +kernel
theorem dX6_priceFor_52 : decode cX6_priceFor 52 = .ok (.iconst (-1), 1) := by decide +kernel
theorem dX6_priceFor_53 : decode cX6_priceFor 53 = .ok (.ireturn, 1) := by decide +kernel
theorem dX6_priceFor_54 : decode cX6_priceFor 54 = .ok (.aload_n 0, 1) := by decide +kernel
theorem dX6_priceFor_55 : decode cX6_priceFor 55 = .ok (.aload_n 0, 1) := by decide +kernel
theorem dX6_priceFor_56 : decode cX6_priceFor 56 = .ok (.getfield 12, 3) := by decide +kernel
theorem dX6_priceFor_59 : decode cX6_priceFor 59 = .ok (.getfield 162, 3) := by decide +kernel
theorem dX6_priceFor_62 : decode cX6_priceFor 62 = .ok (.iload_n 1, 1) := by decide +kernel
theorem dX6_priceFor_63 : decode cX6_priceFor 63 = .ok (.aload_n 0, 1) := by decide +kernel
theorem dX6_priceFor_64 : decode cX6_priceFor 64 = .ok (.getfield 12, 3) := by decide +kernel
theorem dX6_priceFor_67 : decode cX6_priceFor 67 = .ok (.getfield 104, 3) := by decide +kernel
theorem dX6_priceFor_70 : decode cX6_priceFor 70 = .ok (.getfield 187, 3) := by decide +kernel
theorem dX6_priceFor_73 : decode cX6_priceFor 73 = .ok (.invokevirtual 338, 3) := by decide +kernel
theorem dX6_priceFor_76 : decode cX6_priceFor 76 = .ok (.istore_n 2, 1) := by decide +kernel
theorem dX6_priceFor_77 : decode cX6_priceFor 77 = .ok (.aload_n 0, 1) := by decide +kernel
theorem dX6_priceFor_78 : decode cX6_priceFor 78 = .ok (.getfield 12, 3) := by decide +kernel
theorem dX6_priceFor_81 : decode cX6_priceFor 81 = .ok (.getfield 104, 3) := by decide +kernel
theorem dX6_priceFor_84 : decode cX6_priceFor 84 = .ok (.getfield 107, 3) := by decide +kernel
theorem dX6_priceFor_87 : decode cX6_priceFor 87 = .ok (.iload_n 1, 1) := by decide +kernel
theorem dX6_priceFor_88 : decode cX6_priceFor 88 = .ok (.iaload, 1) := by decide +kernel
theorem dX6_priceFor_89 : decode cX6_priceFor 89 = .ok (.iload_n 2, 1) := by decide +kernel
theorem dX6_priceFor_90 : decode cX6_priceFor 90 = .ok (.if_icmp .lt 7, 3) := by decide +kernel
theorem dX6_priceFor_93 : decode cX6_priceFor 93 = .ok (.iload_n 2, 1) := by decide +kernel
theorem dX6_priceFor_94 : decode cX6_priceFor 94 = .ok (.goto 4, 3) := by decide +kernel
theorem dX6_priceFor_97 : decode cX6_priceFor 97 = .ok (.iconst (-1), 1) := by decide +kernel
theorem dX6_priceFor_98 : decode cX6_priceFor 98 = .ok (.ireturn, 1) := by decide +kernel
theorem dX6_bidsNow_0 : decode cX6_bidsNow 0 = .ok (.aload_n 0, 1) := by decide +kernel
theorem dX6_bidsNow_1 : decode cX6_bidsNow 1 = .ok (.aload_n 0, 1) := by decide +kernel
theorem dX6_bidsNow_2 : decode cX6_bidsNow 2 = .ok (.getfield 12, 3) := by decide +kernel
theorem dX6_bidsNow_5 : decode cX6_bidsNow 5 = .ok (.getfield 162, 3) := by decide +kernel
theorem dX6_bidsNow_8 : decode cX6_bidsNow 8 = .ok (.iload_n 1, 1) := by decide +kernel
theorem dX6_bidsNow_9 : decode cX6_bidsNow 9 = .ok (.aload_n 0, 1) := by decide +kernel
theorem dX6_bidsNow_10 : decode cX6_bidsNow 10 = .ok (.getfield 12, 3) := by decide +kernel
theorem dX6_bidsNow_13 : decode cX6_bidsNow 13 = .ok (.getfield 104, 3) := by decide +kernel
theorem dX6_bidsNow_16 : decode cX6_bidsNow 16 = .ok (.getfield 187, 3) := by decide +kernel
theorem dX6_bidsNow_19 : decode cX6_bidsNow 19 = .ok (.invokevirtual 338, 3) := by decide +kernel
theorem dX6_bidsNow_22 : decode cX6_bidsNow 22 = .ok (.ireturn, 1) := by decide +kernel
theorem dX6_bidsBy_0 : decode cX6_bidsBy 0 = .ok (.aload_n 0, 1) := by decide +kernel
theorem dX6_bidsBy_1 : decode cX6_bidsBy 1 = .ok (.iload_n 1, 1) := by decide +kernel
theorem dX6_bidsBy_2 : decode cX6_bidsBy 2 = .ok (.invokevirtual 159, 3) := by decide +kernel
theorem dX6_bidsBy_5 : decode cX6_bidsBy 5 = .ok (.ifCond .eq 16, 3) := by decide +kernel
theorem dX6_bidsBy_8 : decode cX6_bidsBy 8 = .ok (.aload_n 0, 1) := by decide +kernel
theorem dX6_bidsBy_9 : decode cX6_bidsBy 9 = .ok (.getfield 21, 3) := by decide +kernel
theorem dX6_bidsBy_12 : decode cX6_bidsBy 12 = .ok (.iload_n 1, 1) := by decide +kernel
theorem dX6_bidsBy_13 : decode cX6_bidsBy 13 = .ok (.aaload, 1) := by decide +kernel
theorem dX6_bidsBy_14 : decode cX6_bidsBy 14 = .ok (.iconst 0, 1) := by decide +kernel
theorem dX6_bidsBy_15 : decode cX6_bidsBy 15 = .ok (.invokevirtual 380, 3) := by decide +kernel
theorem dX6_bidsBy_18 : decode cX6_bidsBy 18 = .ok (.ifCond .ne 25, 3) := by decide +kernel
theorem dX6_bidsBy_21 : decode cX6_bidsBy 21 = .ok (.aload_n 0, 1) := by decide +kernel
theorem dX6_bidsBy_22 : decode cX6_bidsBy 22 = .ok (.getfield 12, 3) := by decide +kernel
theorem dX6_bidsBy_25 : decode cX6_bidsBy 25 = .ok (.getfield 82, 3) := by decide +kernel
theorem dX6_bidsBy_28 : decode cX6_bidsBy 28 = .ok (.iload_n 3, 1) := by decide +kernel
theorem dX6_bidsBy_29 : decode cX6_bidsBy 29 = .ok (.iaload, 1) := by decide +kernel
theorem dX6_bidsBy_30 : decode cX6_bidsBy 30 = .ok (.aload_n 0, 1) := by decide +kernel
theorem dX6_bidsBy_31 : decode cX6_bidsBy 31 = .ok (.getfield 12, 3) := by decide +kernel
theorem dX6_bidsBy_34 : decode cX6_bidsBy 34 = .ok (.iload_n 2, 1) := by decide +kernel
theorem dX6_bidsBy_35 : decode cX6_bidsBy 35 = .ok (.invokevirtual 368, 3) := by decide +kernel
theorem dX6_bidsBy_38 : decode cX6_bidsBy 38 = .ok (.imul, 1) := by decide +kernel
theorem dX6_bidsBy_39 : decode cX6_bidsBy 39 = .ok (.bipush 12, 2) := by decide +kernel
theorem dX6_bidsBy_41 : decode cX6_bidsBy 41 = .ok (.idiv, 1) := by decide +kernel
theorem dX6_bidsBy_42 : decode cX6_bidsBy 42 = .ok (.ireturn, 1) := by decide +kernel
theorem dX6_bidsBy_43 : decode cX6_bidsBy 43 = .ok (.aload_n 0, 1) := by decide +kernel
theorem dX6_bidsBy_44 : decode cX6_bidsBy 44 = .ok (.getfield 39, 3) := by decide +kernel
theorem dX6_bidsBy_47 : decode cX6_bidsBy 47 = .ok (.aload_n 0, 1) := by decide +kernel
theorem dX6_bidsBy_48 : decode cX6_bidsBy 48 = .ok (.getfield 21, 3) := by decide +kernel
theorem dX6_bidsBy_51 : decode cX6_bidsBy 51 = .ok (.iload_n 1, 1) := by decide +kernel
theorem dX6_bidsBy_52 : decode cX6_bidsBy 52 = .ok (.aaload, 1) := by decide +kernel
theorem dX6_bidsBy_53 : decode cX6_bidsBy 53 = .ok (.iconst 0, 1) := by decide +kernel
theorem dX6_bidsBy_54 : decode cX6_bidsBy 54 = .ok (.aload_n 0, 1) := by decide +kernel
theorem dX6_bidsBy_55 : decode cX6_bidsBy 55 = .ok (.getfield 12, 3) := by decide +kernel
theorem dX6_bidsBy_58 : decode cX6_bidsBy 58 = .ok (.aload_n 0, 1) := by decide +kernel
theorem dX6_bidsBy_59 : decode cX6_bidsBy 59 = .ok (.getfield 12, 3) := by decide +kernel
theorem dX6_bidsBy_62 : decode cX6_bidsBy 62 = .ok (.getfield 104, 3) := by decide +kernel
theorem dX6_bidsBy_65 : decode cX6_bidsBy 65 = .ok (.iload_n 2, 1) := by decide +kernel
theorem dX6_bidsBy_66 : decode cX6_bidsBy 66 = .ok (.iload_n 3, 1) := by decide +kernel
theorem dX6_bidsBy_67 : decode cX6_bidsBy 67 = .ok (.invokevirtual 383, 3) := by decide +kernel
theorem dX6_bidsBy_70 : decode cX6_bidsBy 70 = .ok (.iconst 0, 1) := by decide +kernel
theorem dX6_bidsBy_71 : decode cX6_bidsBy 71 = .ok (.bipush 99, 2) := by decide +kernel
theorem dX6_bidsBy_73 : decode cX6_bidsBy 73 = .ok (.invokestatic 269, 3) := by decide +kernel
theorem dX6_bidsBy_76 : decode cX6_bidsBy 76 = .ok (.ireturn, 1) := by decide +kernel
theorem dX6_earns_0 : decode cX6_earns 0 = .ok (.aload_n 0, 1) := by decide +kernel
theorem dX6_earns_1 : decode cX6_earns 1 = .ok (.aload_n 0, 1) := by decide +kernel
theorem dX6_earns_2 : decode cX6_earns 2 = .ok (.getfield 12, 3) := by decide +kernel
theorem dX6_earns_5 : decode cX6_earns 5 = .ok (.getfield 162, 3) := by decide +kernel
theorem dX6_earns_8 : decode cX6_earns 8 = .ok (.invokevirtual 159, 3) := by decide +kernel
theorem dX6_earns_11 : decode cX6_earns 11 = .ok (.ifCond .eq 22, 3) := by decide +kernel
theorem dX6_earns_14 : decode cX6_earns 14 = .ok (.aload_n 0, 1) := by decide +kernel
theorem dX6_earns_15 : decode cX6_earns 15 = .ok (.getfield 21, 3) := by decide +kernel
theorem dX6_earns_18 : decode cX6_earns 18 = .ok (.aload_n 0, 1) := by decide +kernel
theorem dX6_earns_19 : decode cX6_earns 19 = .ok (.getfield 12, 3) := by decide +kernel
theorem dX6_earns_22 : decode cX6_earns 22 = .ok (.getfield 162, 3) := by decide +kernel
theorem dX6_earns_25 : decode cX6_earns 25 = .ok (.aaload, 1) := by decide +kernel
theorem dX6_earns_26 : decode cX6_earns 26 = .ok (.iconst 1, 1) := by decide +kernel
theorem dX6_earns_27 : decode cX6_earns 27 = .ok (.invokevirtual 380, 3) := by decide +kernel
theorem dX6_earns_30 : decode cX6_earns 30 = .ok (.ifCond .ne 5, 3) := by decide +kernel
theorem dX6_earns_33 : decode cX6_earns 33 = .ok (.iconst 1, 1) := by decide +kernel
theorem dX6_earns_34 : decode cX6_earns 34 = .ok (.ireturn, 1) := by decide +kernel
theorem dX6_earns_35 : decode cX6_earns 35 = .ok (.aload_n 0, 1) := by decide +kernel
theorem dX6_earns_36 : decode cX6_earns 36 = .ok (.getfield 39, 3) := by decide +kernel
theorem dX6_earns_39 : decode cX6_earns 39 = .ok (.aload_n 0, 1) := by decide +kernel
theorem dX6_earns_40 : decode cX6_earns 40 = .ok (.getfield 21, 3) := by decide +kernel
theorem dX6_earns_43 : decode cX6_earns 43 = .ok (.aload_n 0, 1) := by decide +kernel
theorem dX6_earns_44 : decode cX6_earns 44 = .ok (.getfield 12, 3) := by decide +kernel
theorem dX6_earns_47 : decode cX6_earns 47 = .ok (.getfield 162, 3) := by decide +kernel
theorem dX6_earns_50 : decode cX6_earns 50 = .ok (.aaload, 1) := by decide +kernel
theorem dX6_earns_51 : decode cX6_earns 51 = .ok (.iconst 1, 1) := by decide +kernel
theorem dX6_earns_52 : decode cX6_earns 52 = .ok (.aload_n 0, 1) := by decide +kernel
theorem dX6_earns_53 : decode cX6_earns 53 = .ok (.getfield 12, 3) := by decide +kernel
theorem dX6_earns_56 : decode cX6_earns 56 = .ok (.aload_n 1, 1) := by decide +kernel
theorem dX6_earns_57 : decode cX6_earns 57 = .ok (.iload_n 2, 1) := by decide +kernel
theorem dX6_earns_58 : decode cX6_earns 58 = .ok (.aload_n 1, 1) := by decide +kernel
theorem dX6_earns_59 : decode cX6_earns 59 = .ok (.getfield 187, 3) := by decide +kernel
theorem dX6_earns_62 : decode cX6_earns 62 = .ok (.invokevirtual 383, 3) := by decide +kernel
theorem dX6_earns_65 : decode cX6_earns 65 = .ok (.istore_n 3, 1) := by decide +kernel
theorem dX6_earns_66 : decode cX6_earns 66 = .ok (.iload_n 3, 1) := by decide +kernel
theorem dX6_earns_67 : decode cX6_earns 67 = .ok (.bipush (-9), 2) := by decide +kernel
theorem dX6_earns_69 : decode cX6_earns 69 = .ok (.bipush 9, 2) := by decide +kernel
theorem dX6_earns_71 : decode cX6_earns 71 = .ok (.invokestatic 269, 3) := by decide +kernel
theorem dX6_earns_74 : decode cX6_earns 74 = .ok (.ireturn, 1) := by decide +kernel
theorem dX6_linesOf_0 : decode cX6_linesOf 0 = .ok (.iconst 0, 1) := by decide +kernel
theorem dX6_linesOf_1 : decode cX6_linesOf 1 = .ok (.istore_n 2, 1) := by decide +kernel
theorem dX6_linesOf_2 : decode cX6_linesOf 2 = .ok (.iconst 0, 1) := by decide +kernel
theorem dX6_linesOf_3 : decode cX6_linesOf 3 = .ok (.istore_n 3, 1) := by decide +kernel
theorem dX6_linesOf_4 : decode cX6_linesOf 4 = .ok (.iload_n 3, 1) := by decide +kernel
theorem dX6_linesOf_5 : decode cX6_linesOf 5 = .ok (.aload_n 0, 1) := by decide +kernel
theorem dX6_linesOf_6 : decode cX6_linesOf 6 = .ok (.getfield 12, 3) := by decide +kernel
theorem dX6_linesOf_9 : decode cX6_linesOf 9 = .ok (.getfield 104, 3) := by decide +kernel
theorem dX6_linesOf_12 : decode cX6_linesOf 12 = .ok (.getfield 299, 3) := by decide +kernel
theorem dX6_linesOf_15 : decode cX6_linesOf 15 = .ok (.if_icmp .ge 37, 3) := by decide +kernel
theorem dX6_linesOf_18 : decode cX6_linesOf 18 = .ok (.iload_n 3, 1) := by decide +kernel
theorem dX6_linesOf_19 : decode cX6_linesOf 19 = .ok (.bipush 25, 2) := by decide +kernel
theorem dX6_linesOf_21 : decode cX6_linesOf 21 = .ok (.if_icmp .ge 31, 3) := by decide +kernel
theorem dX6_linesOf_24 : decode cX6_linesOf 24 = .ok (.aload_n 0, 1) := by decide +kernel
theorem dX6_linesOf_25 : decode cX6_linesOf 25 = .ok (.getfield 12, 3) := by decide +kernel
theorem dX6_linesOf_28 : decode cX6_linesOf 28 = .ok (.getfield 104, 3) := by decide +kernel
theorem dX6_linesOf_31 : decode cX6_linesOf 31 = .ok (.getfield 302, 3) := by decide +kernel
theorem dX6_linesOf_34 : decode cX6_linesOf 34 = .ok (.iload_n 3, 1) := by decide +kernel
theorem dX6_linesOf_35 : decode cX6_linesOf 35 = .ok (.iaload, 1) := by decide +kernel
theorem dX6_linesOf_36 : decode cX6_linesOf 36 = .ok (.invokestatic 308, 3) := by decide +kernel
theorem dX6_linesOf_39 : decode cX6_linesOf 39 = .ok (.iload_n 1, 1) := by decide +kernel
theorem dX6_linesOf_40 : decode cX6_linesOf 40 = .ok (.if_icmp .ne 6, 3) := by decide +kernel
theorem dX6_linesOf_43 : decode cX6_linesOf 43 = .ok (.iinc 2 1, 3) := by decide +kernel
theorem dX6_linesOf_46 : decode cX6_linesOf 46 = .ok (.iinc 3 1, 3) := by decide +kernel
theorem dX6_linesOf_49 : decode cX6_linesOf 49 = .ok (.goto (-45), 3) := by decide +kernel
theorem dX6_linesOf_52 : decode cX6_linesOf 52 = .ok (.iload_n 2, 1) := by decide +kernel
theorem dX6_linesOf_53 : decode cX6_linesOf 53 = .ok (.ireturn, 1) := by decide +kernel
theorem dX6_isDawnOf_0 : decode cX6_isDawnOf 0 = .ok (.iload_n 0, 1) := by decide +kernel
theorem dX6_isDawnOf_1 : decode cX6_isDawnOf 1 = .ok (.invokestatic 308, 3) := by decide +kernel
theorem dX6_isDawnOf_4 : decode cX6_isDawnOf 4 = .ok (.iconst 3, 1) := by decide +kernel
theorem dX6_isDawnOf_5 : decode cX6_isDawnOf 5 = .ok (.if_icmp .ne 15, 3) := by decide +kernel
theorem dX6_isDawnOf_8 : decode cX6_isDawnOf 8 = .ok (.iload_n 0, 1) := by decide +kernel
theorem dX6_isDawnOf_9 : decode cX6_isDawnOf 9 = .ok (.invokestatic 311, 3) := by decide +kernel
theorem dX6_isDawnOf_12 : decode cX6_isDawnOf 12 = .ok (.iload_n 1, 1) := by decide +kernel
theorem dX6_isDawnOf_13 : decode cX6_isDawnOf 13 = .ok (.if_icmp .ne 7, 3) := by decide +kernel
theorem dX6_isDawnOf_16 : decode cX6_isDawnOf 16 = .ok (.iconst 1, 1) := by decide +kernel
theorem dX6_isDawnOf_17 : decode cX6_isDawnOf 17 = .ok (.goto 4, 3) := by decide +kernel
theorem dX6_isDawnOf_20 : decode cX6_isDawnOf 20 = .ok (.iconst 0, 1) := by decide +kernel
theorem dX6_isDawnOf_21 : decode cX6_isDawnOf 21 = .ok (.ireturn, 1) := by decide +kernel
theorem dX6_oddsTogether_0 : decode cX6_oddsTogether 0 = .ok (.iconst 0, 1) := by decide +kernel
theorem dX6_oddsTogether_1 : decode cX6_oddsTogether 1 = .ok (.istore_n 1, 1) := by decide +kernel
theorem dX6_oddsTogether_2 : decode cX6_oddsTogether 2 = .ok (.iconst 0, 1) := by decide +kernel
theorem dX6_oddsTogether_3 : decode cX6_oddsTogether 3 = .ok (.istore_n 2, 1) := by decide +kernel
theorem dX6_oddsTogether_4 : decode cX6_oddsTogether 4 = .ok (.iload_n 2, 1) := by decide +kernel
theorem dX6_oddsTogether_5 : decode cX6_oddsTogether 5 = .ok (.iconst 5, 1) := by decide +kernel
theorem dX6_oddsTogether_6 : decode cX6_oddsTogether 6 = .ok (.if_icmp .ge 21, 3) := by decide +kernel
theorem dX6_oddsTogether_9 : decode cX6_oddsTogether 9 = .ok (.iload_n 1, 1) := by decide +kernel
theorem dX6_oddsTogether_10 : decode cX6_oddsTogether 10 = .ok (.aload_n 0, 1) := by decide +kernel
theorem dX6_oddsTogether_11 : decode cX6_oddsTogether 11 = .ok (.getfield 12, 3) := by decide +kernel
theorem dX6_oddsTogether_14 : decode cX6_oddsTogether 14 = .ok (.getfield 79, 3) := by decide +kernel
theorem dX6_oddsTogether_17 : decode cX6_oddsTogether 17 = .ok (.iload_n 2, 1) := by decide +kernel
theorem dX6_oddsTogether_18 : decode cX6_oddsTogether 18 = .ok (.iaload, 1) := by decide +kernel
theorem dX6_oddsTogether_19 : decode cX6_oddsTogether 19 = .ok (.iadd, 1) := by decide +kernel
theorem dX6_oddsTogether_20 : decode cX6_oddsTogether 20 = .ok (.istore_n 1, 1) := by decide +kernel
theorem dX6_oddsTogether_21 : decode cX6_oddsTogether 21 = .ok (.iinc 2 1, 3) := by decide +kernel
theorem dX6_oddsTogether_24 : decode cX6_oddsTogether 24 = .ok (.goto (-20), 3) := by decide +kernel
theorem dX6_oddsTogether_27 : decode cX6_oddsTogether 27 = .ok (.iload_n 1, 1) := by decide +kernel
theorem dX6_oddsTogether_28 : decode cX6_oddsTogether 28 = .ok (.ireturn, 1) := by decide +kernel
theorem dX6_likelihood_0 : decode cX6_likelihood 0 = .ok (.iload_n 1, 1) := by decide +kernel
theorem dX6_likelihood_1 : decode cX6_likelihood 1 = .ok (.ifCond .ne 14, 3) := by decide +kernel
theorem dX6_likelihood_4 : decode cX6_likelihood 4 = .ok (.aload_n 0, 1) := by decide +kernel
theorem dX6_likelihood_5 : decode cX6_likelihood 5 = .ok (.invokevirtual 276, 3) := by decide +kernel
theorem dX6_likelihood_8 : decode cX6_likelihood 8 = .ok (.ifCond .ne 7, 3) := by decide +kernel
theorem dX6_likelihood_11 : decode cX6_likelihood 11 = .ok (.iconst 1, 1) := by decide +kernel
theorem dX6_likelihood_12 : decode cX6_likelihood 12 = .ok (.goto 12, 3) := by decide +kernel
theorem dX6_likelihood_15 : decode cX6_likelihood 15 = .ok (.aload_n 0, 1) := by decide +kernel
theorem dX6_likelihood_16 : decode cX6_likelihood 16 = .ok (.getfield 12, 3) := by decide +kernel
theorem dX6_likelihood_19 : decode cX6_likelihood 19 = .ok (.getfield 79, 3) := by decide +kernel
theorem dX6_likelihood_22 : decode cX6_likelihood 22 = .ok (.iload_n 1, 1) := by decide +kernel
theorem dX6_likelihood_23 : decode cX6_likelihood 23 = .ok (.iaload, 1) := by decide +kernel
theorem dX6_likelihood_24 : decode cX6_likelihood 24 = .ok (.ireturn, 1) := by decide +kernel
theorem dX6_likelihoodOf_0 : decode cX6_likelihoodOf 0 = .ok (.iconst 0, 1) := by decide +kernel
theorem dX6_likelihoodOf_1 : decode cX6_likelihoodOf 1 = .ok (.istore_n 2, 1) := by decide +kernel
theorem dX6_likelihoodOf_2 : decode cX6_likelihoodOf 2 = .ok (.iconst 0, 1) := by decide +kernel
theorem dX6_likelihoodOf_3 : decode cX6_likelihoodOf 3 = .ok (.istore_n 3, 1) := by decide +kernel
theorem dX6_likelihoodOf_4 : decode cX6_likelihoodOf 4 = .ok (.iload_n 3, 1) := by decide +kernel
theorem dX6_likelihoodOf_5 : decode cX6_likelihoodOf 5 = .ok (.iconst 5, 1) := by decide +kernel
theorem dX6_likelihoodOf_6 : decode cX6_likelihoodOf 6 = .ok (.if_icmp .ge 26, 3) := by decide +kernel
theorem dX6_likelihoodOf_9 : decode cX6_likelihoodOf 9 = .ok (.iload_n 1, 1) := by decide +kernel
theorem dX6_likelihoodOf_10 : decode cX6_likelihoodOf 10 = .ok (.iload_n 3, 1) := by decide +kernel
theorem dX6_likelihoodOf_11 : decode cX6_likelihoodOf 11 = .ok (.ishr, 1) := by decide +kernel
theorem dX6_likelihoodOf_12 : decode cX6_likelihoodOf 12 = .ok (.iconst 1, 1) := by decide +kernel
theorem dX6_likelihoodOf_13 : decode cX6_likelihoodOf 13 = .ok (.iand, 1) := by decide +kernel
theorem dX6_likelihoodOf_14 : decode cX6_likelihoodOf 14 = .ok (.iconst 1, 1) := by decide +kernel
theorem dX6_likelihoodOf_15 : decode cX6_likelihoodOf 15 = .ok (.if_icmp .ne 11, 3) := by decide +kernel
theorem dX6_likelihoodOf_18 : decode cX6_likelihoodOf 18 = .ok (.iload_n 2, 1) := by decide +kernel
theorem dX6_likelihoodOf_19 : decode cX6_likelihoodOf 19 = .ok (.aload_n 0, 1) := by decide +kernel
theorem dX6_likelihoodOf_20 : decode cX6_likelihoodOf 20 = .ok (.iload_n 3, 1) := by decide +kernel
theorem dX6_likelihoodOf_21 : decode cX6_likelihoodOf 21 = .ok (.invokevirtual 328, 3) := by decide +kernel
theorem dX6_likelihoodOf_24 : decode cX6_likelihoodOf 24 = .ok (.iadd, 1) := by decide +kernel
theorem dX6_likelihoodOf_25 : decode cX6_likelihoodOf 25 = .ok (.istore_n 2, 1) := by decide +kernel
theorem dX6_likelihoodOf_26 : decode cX6_likelihoodOf 26 = .ok (.iinc 3 1, 3) := by decide +kernel
theorem dX6_likelihoodOf_29 : decode cX6_likelihoodOf 29 = .ok (.goto (-25), 3) := by decide +kernel
theorem dX6_likelihoodOf_32 : decode cX6_likelihoodOf 32 = .ok (.iload_n 2, 1) := by decide +kernel
theorem dX6_likelihoodOf_33 : decode cX6_likelihoodOf 33 = .ok (.ireturn, 1) := by decide +kernel
theorem dX6_allLikelihood_0 : decode cX6_allLikelihood 0 = .ok (.iconst 1, 1) := by decide +kernel
theorem dX6_allLikelihood_1 : decode cX6_allLikelihood 1 = .ok (.aload_n 0, 1) := by decide +kernel
theorem dX6_allLikelihood_2 : decode cX6_allLikelihood 2 = .ok (.invokevirtual 276, 3) := by decide +kernel
theorem dX6_allLikelihood_5 : decode cX6_allLikelihood 5 = .ok (.invokestatic 363, 3) := by decide +kernel
theorem dX6_allLikelihood_8 : decode cX6_allLikelihood 8 = .ok (.ireturn, 1) := by decide +kernel
theorem dX6_lowest_0 : decode cX6_lowest 0 = .ok (.lload_n 2, 1) := by decide +kernel
theorem dX6_lowest_1 : decode cX6_lowest 1 = .ok (.lstore 5, 2) := by decide +kernel
theorem dX6_lowest_3 : decode cX6_lowest 3 = .ok (.lload_n 0, 1) := by decide +kernel
theorem dX6_lowest_4 : decode cX6_lowest 4 = .ok (.lstore 7, 2) := by decide +kernel
theorem dX6_lowest_6 : decode cX6_lowest 6 = .ok (.iconst 0, 1) := by decide +kernel
theorem dX6_lowest_7 : decode cX6_lowest 7 = .ok (.istore 9, 2) := by decide +kernel
theorem dX6_lowest_9 : decode cX6_lowest 9 = .ok (.iload 9, 2) := by decide +kernel
theorem dX6_lowest_11 : decode cX6_lowest 11 = .ok (.sipush 200, 3) := by decide +kernel
theorem dX6_lowest_14 : decode cX6_lowest 14 = .ok (.if_icmp .ge 31, 3) := by decide +kernel
theorem dX6_lowest_17 : decode cX6_lowest 17 = .ok (.lload 7, 2) := by decide +kernel
theorem dX6_lowest_19 : decode cX6_lowest 19 = .ok (.lconst 0, 1) := by decide +kernel
theorem dX6_lowest_20 : decode cX6_lowest 20 = .ok (.lcmp, 1) := by decide +kernel
theorem dX6_lowest_21 : decode cX6_lowest 21 = .ok (.ifCond .eq 24, 3) := by decide +kernel
theorem dX6_lowest_24 : decode cX6_lowest 24 = .ok (.lload 5, 2) := by decide +kernel
theorem dX6_lowest_26 : decode cX6_lowest 26 = .ok (.lload 7, 2) := by decide +kernel
theorem dX6_lowest_28 : decode cX6_lowest 28 = .ok (.lrem, 1) := by decide +kernel
theorem dX6_lowest_29 : decode cX6_lowest 29 = .ok (.lstore 10, 2) := by decide +kernel
theorem dX6_lowest_31 : decode cX6_lowest 31 = .ok (.lload 7, 2) := by decide +kernel
theorem dX6_lowest_33 : decode cX6_lowest 33 = .ok (.lstore 5, 2) := by decide +kernel
theorem dX6_lowest_35 : decode cX6_lowest 35 = .ok (.lload 10, 2) := by decide +kernel
theorem dX6_lowest_37 : decode cX6_lowest 37 = .ok (.lstore 7, 2) := by decide +kernel
theorem dX6_lowest_39 : decode cX6_lowest 39 = .ok (.iinc 9 1, 3) := by decide +kernel
theorem dX6_lowest_42 : decode cX6_lowest 42 = .ok (.goto (-33), 3) := by decide +kernel
theorem dX6_lowest_45 : decode cX6_lowest 45 = .ok (.lload 5, 2) := by decide +kernel
theorem dX6_lowest_47 : decode cX6_lowest 47 = .ok (.lconst 0, 1) := by decide +kernel
theorem dX6_lowest_48 : decode cX6_lowest 48 = .ok (.lcmp, 1) := by decide +kernel
theorem dX6_lowest_49 : decode cX6_lowest 49 = .ok (.ifCond .ne 14, 3) := by decide +kernel
theorem dX6_lowest_52 : decode cX6_lowest 52 = .ok (.iload 4, 2) := by decide +kernel
theorem dX6_lowest_54 : decode cX6_lowest 54 = .ok (.ifCond .eq 7, 3) := by decide +kernel
theorem dX6_lowest_57 : decode cX6_lowest 57 = .ok (.lconst 1, 1) := by decide +kernel
theorem dX6_lowest_58 : decode cX6_lowest 58 = .ok (.goto 4, 3) := by decide +kernel
theorem dX6_lowest_61 : decode cX6_lowest 61 = .ok (.lconst 0, 1) := by decide +kernel
theorem dX6_lowest_62 : decode cX6_lowest 62 = .ok (.lreturn, 1) := by decide +kernel
theorem dX6_lowest_63 : decode cX6_lowest 63 = .ok (.iload 4, 2) := by decide +kernel
theorem dX6_lowest_65 : decode cX6_lowest 65 = .ok (.ifCond .eq 10, 3) := by decide +kernel
theorem dX6_lowest_68 : decode cX6_lowest 68 = .ok (.lload_n 2, 1) := by decide +kernel
theorem dX6_lowest_69 : decode cX6_lowest 69 = .ok (.lload 5, 2) := by decide +kernel
theorem dX6_lowest_71 : decode cX6_lowest 71 = .ok (.ldiv, 1) := by decide +kernel
theorem dX6_lowest_72 : decode cX6_lowest 72 = .ok (.goto 7, 3) := by decide +kernel
theorem dX6_lowest_75 : decode cX6_lowest 75 = .ok (.lload_n 0, 1) := by decide +kernel
theorem dX6_lowest_76 : decode cX6_lowest 76 = .ok (.lload 5, 2) := by decide +kernel
theorem dX6_lowest_78 : decode cX6_lowest 78 = .ok (.ldiv, 1) := by decide +kernel
theorem dX6_lowest_79 : decode cX6_lowest 79 = .ok (.lreturn, 1) := by decide +kernel
theorem dX6_hasSlices_0 : decode cX6_hasSlices 0 = .ok (.aload_n 0, 1) := by decide +kernel
theorem dX6_hasSlices_1 : decode cX6_hasSlices 1 = .ok (.iload_n 1, 1) := by decide +kernel
theorem dX6_hasSlices_2 : decode cX6_hasSlices 2 = .ok (.invokevirtual 125, 3) := by decide +kernel
theorem dX6_hasSlices_5 : decode cX6_hasSlices 5 = .ok (.ifCond .eq 22, 3) := by decide +kernel
theorem dX6_hasSlices_8 : decode cX6_hasSlices 8 = .ok (.aload_n 0, 1) := by decide +kernel
theorem dX6_hasSlices_9 : decode cX6_hasSlices 9 = .ok (.getfield 12, 3) := by decide +kernel
theorem dX6_hasSlices_12 : decode cX6_hasSlices 12 = .ok (.getfield 104, 3) := by decide +kernel
theorem dX6_hasSlices_15 : decode cX6_hasSlices 15 = .ok (.getfield 110, 3) := by decide +kernel
theorem dX6_hasSlices_18 : decode cX6_hasSlices 18 = .ok (.iload_n 1, 1) := by decide +kernel
theorem dX6_hasSlices_19 : decode cX6_hasSlices 19 = .ok (.iaload, 1) := by decide +kernel
theorem dX6_hasSlices_20 : decode cX6_hasSlices 20 = .ok (.ifCond .eq 7, 3) := by decide +kernel
theorem dX6_hasSlices_23 : decode cX6_hasSlices 23 = .ok (.iconst 1, 1) := by decide +kernel
theorem dX6_hasSlices_24 : decode cX6_hasSlices 24 = .ok (.goto 4, 3) := by decide +kernel
theorem dX6_hasSlices_27 : decode cX6_hasSlices 27 = .ok (.iconst 0, 1) := by decide +kernel
theorem dX6_hasSlices_28 : decode cX6_hasSlices 28 = .ok (.ireturn, 1) := by decide +kernel
theorem dX6_isFree_0 : decode cX6_isFree 0 = .ok (.iload_n 1, 1) := by decide +kernel
theorem dX6_isFree_1 : decode cX6_isFree 1 = .ok (.invokestatic 113, 3) := by decide +kernel
theorem dX6_isFree_4 : decode cX6_isFree 4 = .ok (.ifCond .eq 25, 3) := by decide +kernel
theorem dX6_isFree_7 : decode cX6_isFree 7 = .ok (.aload_n 0, 1) := by decide +kernel
theorem dX6_isFree_8 : decode cX6_isFree 8 = .ok (.getfield 12, 3) := by decide +kernel
theorem dX6_isFree_11 : decode cX6_isFree 11 = .ok (.getfield 104, 3) := by decide +kernel
theorem dX6_isFree_14 : decode cX6_isFree 14 = .ok (.getfield 258, 3) := by decide +kernel
theorem dX6_isFree_17 : decode cX6_isFree 17 = .ok (.iload_n 1, 1) := by decide +kernel
theorem dX6_isFree_18 : decode cX6_isFree 18 = .ok (.ishr, 1) := by decide +kernel
theorem dX6_isFree_19 : decode cX6_isFree 19 = .ok (.iconst 1, 1) := by decide +kernel
theorem dX6_isFree_20 : decode cX6_isFree 20 = .ok (.iand, 1) := by decide +kernel
theorem dX6_isFree_21 : decode cX6_isFree 21 = .ok (.iconst 1, 1) := by decide +kernel
theorem dX6_isFree_22 : decode cX6_isFree 22 = .ok (.if_icmp .ne 7, 3) := by decide +kernel
theorem dX6_isFree_25 : decode cX6_isFree 25 = .ok (.iconst 1, 1) := by decide +kernel
theorem dX6_isFree_26 : decode cX6_isFree 26 = .ok (.goto 4, 3) := by decide +kernel
theorem dX6_isFree_29 : decode cX6_isFree 29 = .ok (.iconst 0, 1) := by decide +kernel
theorem dX6_isFree_30 : decode cX6_isFree 30 = .ok (.ireturn, 1) := by decide +kernel
theorem dX6_wantsSort_0 : decode cX6_wantsSort 0 = .ok (.aload_n 0, 1) := by decide +kernel
theorem dX6_wantsSort_1 : decode cX6_wantsSort 1 = .ok (.getfield 12, 3) := by decide +kernel
theorem dX6_wantsSort_4 : decode cX6_wantsSort 4 = .ok (.getfield 92, 3) := by decide +kernel
theorem dX6_wantsSort_7 : decode cX6_wantsSort 7 = .ok (.iload_n 1, 1) := by decide +kernel
theorem dX6_wantsSort_8 : decode cX6_wantsSort 8 = .ok (.iaload, 1) := by decide +kernel
theorem dX6_wantsSort_9 : decode cX6_wantsSort 9 = .ok (.iload_n 2, 1) := by decide +kernel
theorem dX6_wantsSort_10 : decode cX6_wantsSort 10 = .ok (.ishr, 1) := by decide +kernel
theorem dX6_wantsSort_11 : decode cX6_wantsSort 11 = .ok (.iconst 1, 1) := by decide +kernel
theorem dX6_wantsSort_12 : decode cX6_wantsSort 12 = .ok (.iand, 1) := by decide +kernel
theorem dX6_wantsSort_13 : decode cX6_wantsSort 13 = .ok (.iconst 1, 1) := by decide +kernel
theorem dX6_wantsSort_14 : decode cX6_wantsSort 14 = .ok (.if_icmp .ne 7, 3) := by decide +kernel
theorem dX6_wantsSort_17 : decode cX6_wantsSort 17 = .ok (.iconst 1, 1) := by decide +kernel
theorem dX6_wantsSort_18 : decode cX6_wantsSort 18 = .ok (.goto 4, 3) := by decide +kernel
theorem dX6_wantsSort_21 : decode cX6_wantsSort 21 = .ok (.iconst 0, 1) := by decide +kernel
theorem dX6_wantsSort_22 : decode cX6_wantsSort 22 = .ok (.ireturn, 1) := by decide +kernel
theorem dX6_wantsSlice_0 : decode cX6_wantsSlice 0 = .ok (.iload_n 2, 1) := by decide +kernel
theorem dX6_wantsSlice_1 : decode cX6_wantsSlice 1 = .ok (.aload_n 0, 1) := by decide +kernel
theorem dX6_wantsSlice_2 : decode cX6_wantsSlice 2 = .ok (.getfield 12, 3) := by decide +kernel
theorem dX6_wantsSlice_5 : decode cX6_wantsSlice 5 = .ok (.getfield 95, 3) := by decide +kernel
theorem dX6_wantsSlice_8 : decode cX6_wantsSlice 8 = .ok (.iload_n 1, 1) := by decide +kernel
theorem dX6_wantsSlice_9 : decode cX6_wantsSlice 9 = .ok (.iaload, 1) := by decide +kernel
theorem dX6_wantsSlice_10 : decode cX6_wantsSlice 10 = .ok (.aload_n 0, 1) := by decide +kernel
theorem dX6_wantsSlice_11 : decode cX6_wantsSlice 11 = .ok (.getfield 12, 3) := by decide +kernel
theorem dX6_wantsSlice_14 : decode cX6_wantsSlice 14 = .ok (.getfield 98, 3) := by decide +kernel
theorem dX6_wantsSlice_17 : decode cX6_wantsSlice 17 = .ok (.iload_n 1, 1) := by decide +kernel
theorem dX6_wantsSlice_18 : decode cX6_wantsSlice 18 = .ok (.iaload, 1) := by decide +kernel
theorem dX6_wantsSlice_19 : decode cX6_wantsSlice 19 = .ok (.invokestatic 75, 3) := by decide +kernel
theorem dX6_wantsSlice_22 : decode cX6_wantsSlice 22 = .ok (.ireturn, 1) := by decide +kernel
theorem dX6_isBuyer_0 : decode cX6_isBuyer 0 = .ok (.iload_n 1, 1) := by decide +kernel
theorem dX6_isBuyer_1 : decode cX6_isBuyer 1 = .ok (.ifCond .lt 18, 3) := by decide +kernel
theorem dX6_isBuyer_4 : decode cX6_isBuyer 4 = .ok (.iload_n 1, 1) := by decide +kernel
theorem dX6_isBuyer_5 : decode cX6_isBuyer 5 = .ok (.aload_n 0, 1) := by decide +kernel
theorem dX6_isBuyer_6 : decode cX6_isBuyer 6 = .ok (.getfield 12, 3) := by decide +kernel
theorem dX6_isBuyer_9 : decode cX6_isBuyer 9 = .ok (.getfield 89, 3) := by decide +kernel
theorem dX6_isBuyer_12 : decode cX6_isBuyer 12 = .ok (.if_icmp .ge 7, 3) := by decide +kernel
theorem dX6_isBuyer_15 : decode cX6_isBuyer 15 = .ok (.iconst 1, 1) := by decide +kernel
theorem dX6_isBuyer_16 : decode cX6_isBuyer 16 = .ok (.goto 4, 3) := by decide +kernel
theorem dX6_isBuyer_19 : decode cX6_isBuyer 19 = .ok (.iconst 0, 1) := by decide +kernel
theorem dX6_isBuyer_20 : decode cX6_isBuyer 20 = .ok (.ireturn, 1) := by decide +kernel
theorem dX6_isText_0 : decode cX6_isText 0 = .ok (.iload_n 1, 1) := by decide +kernel
theorem dX6_isText_1 : decode cX6_isText 1 = .ok (.ifCond .lt 18, 3) := by decide +kernel
theorem dX6_isText_4 : decode cX6_isText 4 = .ok (.iload_n 1, 1) := by decide +kernel
theorem dX6_isText_5 : decode cX6_isText 5 = .ok (.aload_n 0, 1) := by decide +kernel
theorem dX6_isText_6 : decode cX6_isText 6 = .ok (.getfield 12, 3) := by decide +kernel
theorem dX6_isText_9 : decode cX6_isText 9 = .ok (.getfield 147, 3) := by decide +kernel
theorem dX6_isText_12 : decode cX6_isText 12 = .ok (.if_icmp .ge 7, 3) := by decide +kernel
theorem dX6_isText_15 : decode cX6_isText 15 = .ok (.iconst 1, 1) := by decide +kernel
theorem dX6_isText_16 : decode cX6_isText 16 = .ok (.goto 4, 3) := by decide +kernel
theorem dX6_isText_19 : decode cX6_isText 19 = .ok (.iconst 0, 1) := by decide +kernel
theorem dX6_isText_20 : decode cX6_isText 20 = .ok (.ireturn, 1) := by decide +kernel
theorem dX6_isSort_0 : decode cX6_isSort 0 = .ok (.iload_n 0, 1) := by decide +kernel
theorem dX6_isSort_1 : decode cX6_isSort 1 = .ok (.ifCond .lt 12, 3) := by decide +kernel
theorem dX6_isSort_4 : decode cX6_isSort 4 = .ok (.iload_n 0, 1) := by decide +kernel
theorem dX6_isSort_5 : decode cX6_isSort 5 = .ok (.iconst 5, 1) := by decide +kernel
theorem dX6_isSort_6 : decode cX6_isSort 6 = .ok (.if_icmp .ge 7, 3) := by decide +kernel
theorem dX6_isSort_9 : decode cX6_isSort 9 = .ok (.iconst 1, 1) := by decide +kernel
theorem dX6_isSort_10 : decode cX6_isSort 10 = .ok (.goto 4, 3) := by decide +kernel
theorem dX6_isSort_13 : decode cX6_isSort 13 = .ok (.iconst 0, 1) := by decide +kernel
theorem dX6_isSort_14 : decode cX6_isSort 14 = .ok (.ireturn, 1) := by decide +kernel
theorem dX6_isSlice_0 : decode cX6_isSlice 0 = .ok (.iload_n 0, 1) := by decide +kernel
theorem dX6_isSlice_1 : decode cX6_isSlice 1 = .ok (.ifCond .lt 13, 3) := by decide +kernel
theorem dX6_isSlice_4 : decode cX6_isSlice 4 = .ok (.iload_n 0, 1) := by decide +kernel
theorem dX6_isSlice_5 : decode cX6_isSlice 5 = .ok (.bipush 12, 2) := by decide +kernel
theorem dX6_isSlice_7 : decode cX6_isSlice 7 = .ok (.if_icmp .ge 7, 3) := by decide +kernel
theorem dX6_isSlice_10 : decode cX6_isSlice 10 = .ok (.iconst 1, 1) := by decide +kernel
theorem dX6_isSlice_11 : decode cX6_isSlice 11 = .ok (.goto 4, 3) := by decide +kernel
theorem dX6_isSlice_14 : decode cX6_isSlice 14 = .ok (.iconst 0, 1) := by decide +kernel
theorem dX6_isSlice_15 : decode cX6_isSlice 15 = .ok (.ireturn, 1) := by decide +kernel
theorem dX6_isRun_0 : decode cX6_isRun 0 = .ok (.iload_n 0, 1) := by decide +kernel
theorem dX6_isRun_1 : decode cX6_isRun 1 = .ok (.ifCond .lt 18, 3) := by decide +kernel
theorem dX6_isRun_4 : decode cX6_isRun 4 = .ok (.iload_n 0, 1) := by decide +kernel
theorem dX6_isRun_5 : decode cX6_isRun 5 = .ok (.iload_n 1, 1) := by decide +kernel
theorem dX6_isRun_6 : decode cX6_isRun 6 = .ok (.if_icmp .gt 13, 3) := by decide +kernel
theorem dX6_isRun_9 : decode cX6_isRun 9 = .ok (.iload_n 1, 1) := by decide +kernel
theorem dX6_isRun_10 : decode cX6_isRun 10 = .ok (.bipush 12, 2) := by decide +kernel
theorem dX6_isRun_12 : decode cX6_isRun 12 = .ok (.if_icmp .ge 7, 3) := by decide +kernel
theorem dX6_isRun_15 : decode cX6_isRun 15 = .ok (.iconst 1, 1) := by decide +kernel
theorem dX6_isRun_16 : decode cX6_isRun 16 = .ok (.goto 4, 3) := by decide +kernel
theorem dX6_isRun_19 : decode cX6_isRun 19 = .ok (.iconst 0, 1) := by decide +kernel
theorem dX6_isRun_20 : decode cX6_isRun 20 = .ok (.ireturn, 1) := by decide +kernel
theorem dX6_within_0 : decode cX6_within 0 = .ok (.iload_n 0, 1) := by decide +kernel
theorem dX6_within_1 : decode cX6_within 1 = .ok (.iload_n 1, 1) := by decide +kernel
theorem dX6_within_2 : decode cX6_within 2 = .ok (.if_icmp .lt 12, 3) := by decide +kernel
theorem dX6_within_5 : decode cX6_within 5 = .ok (.iload_n 0, 1) := by decide +kernel
theorem dX6_within_6 : decode cX6_within 6 = .ok (.iload_n 2, 1) := by decide +kernel
theorem dX6_within_7 : decode cX6_within 7 = .ok (.if_icmp .gt 7, 3) := by decide +kernel
theorem dX6_within_10 : decode cX6_within 10 = .ok (.iconst 1, 1) := by decide +kernel
theorem dX6_within_11 : decode cX6_within 11 = .ok (.goto 4, 3) := by decide +kernel
theorem dX6_within_14 : decode cX6_within 14 = .ok (.iconst 0, 1) := by decide +kernel
theorem dX6_within_15 : decode cX6_within 15 = .ok (.ireturn, 1) := by decide +kernel
theorem dX6_held_0 : decode cX6_held 0 = .ok (.iload_n 0, 1) := by decide +kernel
theorem dX6_held_1 : decode cX6_held 1 = .ok (.iload_n 1, 1) := by decide +kernel
theorem dX6_held_2 : decode cX6_held 2 = .ok (.if_icmp .ge 7, 3) := by decide +kernel
theorem dX6_held_5 : decode cX6_held 5 = .ok (.iload_n 1, 1) := by decide +kernel
theorem dX6_held_6 : decode cX6_held 6 = .ok (.goto 13, 3) := by decide +kernel
theorem dX6_held_9 : decode cX6_held 9 = .ok (.iload_n 0, 1) := by decide +kernel
theorem dX6_held_10 : decode cX6_held 10 = .ok (.iload_n 2, 1) := by decide +kernel
theorem dX6_held_11 : decode cX6_held 11 = .ok (.if_icmp .le 7, 3) := by decide +kernel
theorem dX6_held_14 : decode cX6_held 14 = .ok (.iload_n 2, 1) := by decide +kernel
theorem dX6_held_15 : decode cX6_held 15 = .ok (.goto 4, 3) := by decide +kernel
theorem dX6_held_18 : decode cX6_held 18 = .ok (.iload_n 0, 1) := by decide +kernel
theorem dX6_held_19 : decode cX6_held 19 = .ok (.ireturn, 1) := by decide +kernel
