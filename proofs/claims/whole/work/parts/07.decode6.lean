theorem dX6_init_0 : decode cX6_init 0 = .ok (.aload_n 0, 1) := by decide +kernel
theorem dX6_init_1 : decode cX6_init 1 = .ok (.invokespecial 1, 3) := by decide +kernel
theorem dX6_init_4 : decode cX6_init 4 = .ok (.aload_n 0, 1) := by decide +kernel
theorem dX6_init_5 : decode cX6_init 5 = .ok (.bipush 49, 2) := by decide +kernel
theorem dX6_init_7 : decode cX6_init 7 = .ok (.newarray .int, 2) := by decide +kernel
theorem dX6_init_9 : decode cX6_init 9 = .ok (.putfield 7, 3) := by decide +kernel
theorem dX6_init_12 : decode cX6_init 12 = .ok (.aload_n 0, 1) := by decide +kernel
theorem dX6_init_13 : decode cX6_init 13 = .ok (.bipush 49, 2) := by decide +kernel
theorem dX6_init_15 : decode cX6_init 15 = .ok (.newarray .int, 2) := by decide +kernel
theorem dX6_init_17 : decode cX6_init 17 = .ok (.putfield 13, 3) := by decide +kernel
theorem dX6_init_20 : decode cX6_init 20 = .ok (.aload_n 0, 1) := by decide +kernel
theorem dX6_init_21 : decode cX6_init 21 = .ok (.sipush 294, 3) := by decide +kernel
theorem dX6_init_24 : decode cX6_init 24 = .ok (.newarray .int, 2) := by decide +kernel
theorem dX6_init_26 : decode cX6_init 26 = .ok (.putfield 16, 3) := by decide +kernel
theorem dX6_init_29 : decode cX6_init 29 = .ok (.aload_n 0, 1) := by decide +kernel
theorem dX6_init_30 : decode cX6_init 30 = .ok (.bipush 49, 2) := by decide +kernel
theorem dX6_init_32 : decode cX6_init 32 = .ok (.newarray .int, 2) := by decide +kernel
theorem dX6_init_34 : decode cX6_init 34 = .ok (.putfield 19, 3) := by decide +kernel
theorem dX6_init_37 : decode cX6_init 37 = .ok (.aload_n 0, 1) := by decide +kernel
theorem dX6_init_38 : decode cX6_init 38 = .ok (.bipush 60, 2) := by decide +kernel
theorem dX6_init_40 : decode cX6_init 40 = .ok (.newarray .int, 2) := by decide +kernel
theorem dX6_init_42 : decode cX6_init 42 = .ok (.putfield 22, 3) := by decide +kernel
theorem dX6_init_45 : decode cX6_init 45 = .ok (.aload_n 0, 1) := by decide +kernel
theorem dX6_init_46 : decode cX6_init 46 = .ok (.bipush 12, 2) := by decide +kernel
theorem dX6_init_48 : decode cX6_init 48 = .ok (.newarray .int, 2) := by decide +kernel
theorem dX6_init_50 : decode cX6_init 50 = .ok (.putfield 25, 3) := by decide +kernel
theorem dX6_init_53 : decode cX6_init 53 = .ok (.aload_n 0, 1) := by decide +kernel
theorem dX6_init_54 : decode cX6_init 54 = .ok (.sipush 500, 3) := by decide +kernel
theorem dX6_init_57 : decode cX6_init 57 = .ok (.newarray .int, 2) := by decide +kernel
theorem dX6_init_59 : decode cX6_init 59 = .ok (.putfield 28, 3) := by decide +kernel
theorem dX6_init_62 : decode cX6_init 62 = .ok (.aload_n 0, 1) := by decide +kernel
theorem dX6_init_63 : decode cX6_init 63 = .ok (.iconst 4, 1) := by decide +kernel
theorem dX6_init_64 : decode cX6_init 64 = .ok (.newarray .int, 2) := by decide +kernel
theorem dX6_init_66 : decode cX6_init 66 = .ok (.putfield 31, 3) := by decide +kernel
theorem dX6_init_69 : decode cX6_init 69 = .ok (.aload_n 0, 1) := by decide +kernel
theorem dX6_init_70 : decode cX6_init 70 = .ok (.iconst 4, 1) := by decide +kernel
theorem dX6_init_71 : decode cX6_init 71 = .ok (.newarray .int, 2) := by decide +kernel
theorem dX6_init_73 : decode cX6_init 73 = .ok (.putfield 34, 3) := by decide +kernel
theorem dX6_init_76 : decode cX6_init 76 = .ok (.aload_n 0, 1) := by decide +kernel
theorem dX6_init_77 : decode cX6_init 77 = .ok (.iconst 4, 1) := by decide +kernel
theorem dX6_init_78 : decode cX6_init 78 = .ok (.newarray .int, 2) := by decide +kernel
theorem dX6_init_80 : decode cX6_init 80 = .ok (.putfield 37, 3) := by decide +kernel
theorem dX6_init_83 : decode cX6_init 83 = .ok (.aload_n 0, 1) := by decide +kernel
theorem dX6_init_84 : decode cX6_init 84 = .ok (.iconst 4, 1) := by decide +kernel
theorem dX6_init_85 : decode cX6_init 85 = .ok (.newarray .int, 2) := by decide +kernel
theorem dX6_init_87 : decode cX6_init 87 = .ok (.putfield 40, 3) := by decide +kernel
theorem dX6_init_90 : decode cX6_init 90 = .ok (.aload_n 0, 1) := by decide +kernel
theorem dX6_init_91 : decode cX6_init 91 = .ok (.iconst 4, 1) := by decide +kernel
theorem dX6_init_92 : decode cX6_init 92 = .ok (.newarray .int, 2) := by decide +kernel
theorem dX6_init_94 : decode cX6_init 94 = .ok (.putfield 43, 3) := by decide +kernel
theorem dX6_init_97 : decode cX6_init 97 = .ok (.iconst 0, 1) := by decide +kernel
theorem dX6_init_98 : decode cX6_init 98 = .ok (.istore_n 1, 1) := by decide +kernel
theorem dX6_init_99 : decode cX6_init 99 = .ok (.iload_n 1, 1) := by decide +kernel
theorem dX6_init_100 : decode cX6_init 100 = .ok (.bipush 6, 2) := by decide +kernel
theorem dX6_init_102 : decode cX6_init 102 = .ok (.if_icmp .ge 18, 3) := by decide +kernel
theorem dX6_init_105 : decode cX6_init 105 = .ok (.aload_n 0, 1) := by decide +kernel
theorem dX6_init_106 : decode cX6_init 106 = .ok (.getfield 7, 3) := by decide +kernel
theorem dX6_init_109 : decode cX6_init 109 = .ok (.iconst 0, 1) := by decide +kernel
theorem dX6_init_110 : decode cX6_init 110 = .ok (.iload_n 1, 1) := by decide +kernel
theorem dX6_init_111 : decode cX6_init 111 = .ok (.iadd, 1) := by decide +kernel
theorem dX6_init_112 : decode cX6_init 112 = .ok (.iload_n 1, 1) := by decide +kernel
theorem dX6_init_113 : decode cX6_init 113 = .ok (.iastore, 1) := by decide +kernel
theorem dX6_init_114 : decode cX6_init 114 = .ok (.iinc 1 1, 3) := by decide +kernel
theorem dX6_init_117 : decode cX6_init 117 = .ok (.goto (-18), 3) := by decide +kernel
theorem dX6_init_120 : decode cX6_init 120 = .ok (.iconst 0, 1) := by decide +kernel
theorem dX6_init_121 : decode cX6_init 121 = .ok (.istore_n 1, 1) := by decide +kernel
theorem dX6_init_122 : decode cX6_init 122 = .ok (.iload_n 1, 1) := by decide +kernel
theorem dX6_init_123 : decode cX6_init 123 = .ok (.iconst 5, 1) := by decide +kernel
theorem dX6_init_124 : decode cX6_init 124 = .ok (.if_icmp .ge 53, 3) := by decide +kernel
theorem dX6_init_127 : decode cX6_init 127 = .ok (.aload_n 0, 1) := by decide +kernel
theorem dX6_init_128 : decode cX6_init 128 = .ok (.getfield 7, 3) := by decide +kernel
theorem dX6_init_131 : decode cX6_init 131 = .ok (.bipush 18, 2) := by decide +kernel
theorem dX6_init_133 : decode cX6_init 133 = .ok (.iload_n 1, 1) := by decide +kernel
theorem dX6_init_134 : decode cX6_init 134 = .ok (.iadd, 1) := by decide +kernel
theorem dX6_init_135 : decode cX6_init 135 = .ok (.iconst 1, 1) := by decide +kernel
theorem dX6_init_136 : decode cX6_init 136 = .ok (.iload_n 1, 1) := by decide +kernel
theorem dX6_init_137 : decode cX6_init 137 = .ok (.ishl, 1) := by decide +kernel
theorem dX6_init_138 : decode cX6_init 138 = .ok (.iconst 1, 1) := by decide +kernel
theorem dX6_init_139 : decode cX6_init 139 = .ok (.iload_n 1, 1) := by decide +kernel
theorem dX6_init_140 : decode cX6_init 140 = .ok (.iconst 1, 1) := by decide +kernel
theorem dX6_init_141 : decode cX6_init 141 = .ok (.iadd, 1) := by decide +kernel
theorem dX6_init_142 : decode cX6_init 142 = .ok (.bipush 6, 2) := by decide +kernel
theorem dX6_init_144 : decode cX6_init 144 = .ok (.irem, 1) := by decide +kernel
theorem dX6_init_145 : decode cX6_init 145 = .ok (.ishl, 1) := by decide +kernel
theorem dX6_init_146 : decode cX6_init 146 = .ok (.ior, 1) := by decide +kernel
theorem dX6_init_147 : decode cX6_init 147 = .ok (.iconst 1, 1) := by decide +kernel
theorem dX6_init_148 : decode cX6_init 148 = .ok (.iload_n 1, 1) := by decide +kernel
theorem dX6_init_149 : decode cX6_init 149 = .ok (.iconst 3, 1) := by decide +kernel
theorem dX6_init_150 : decode cX6_init 150 = .ok (.iadd, 1) := by decide +kernel
theorem dX6_init_151 : decode cX6_init 151 = .ok (.bipush 6, 2) := by decide +kernel
theorem dX6_init_153 : decode cX6_init 153 = .ok (.irem, 1) := by decide +kernel
theorem dX6_init_154 : decode cX6_init 154 = .ok (.ishl, 1) := by decide +kernel
theorem dX6_init_155 : decode cX6_init 155 = .ok (.ior, 1) := by decide +kernel
theorem dX6_init_156 : decode cX6_init 156 = .ok (.iastore, 1) := by decide +kernel
theorem dX6_init_157 : decode cX6_init 157 = .ok (.aload_n 0, 1) := by decide +kernel
theorem dX6_init_158 : decode cX6_init 158 = .ok (.getfield 7, 3) := by decide +kernel
theorem dX6_init_161 : decode cX6_init 161 = .ok (.bipush 23, 2) := by decide +kernel
theorem dX6_init_163 : decode cX6_init 163 = .ok (.iload_n 1, 1) := by decide +kernel
theorem dX6_init_164 : decode cX6_init 164 = .ok (.iadd, 1) := by decide +kernel
theorem dX6_init_165 : decode cX6_init 165 = .ok (.iconst 1, 1) := by decide +kernel
theorem dX6_init_166 : decode cX6_init 166 = .ok (.iload_n 1, 1) := by decide +kernel
theorem dX6_init_167 : decode cX6_init 167 = .ok (.iconst 4, 1) := by decide +kernel
theorem dX6_init_168 : decode cX6_init 168 = .ok (.irem, 1) := by decide +kernel
theorem dX6_init_169 : decode cX6_init 169 = .ok (.iadd, 1) := by decide +kernel
theorem dX6_init_170 : decode cX6_init 170 = .ok (.iastore, 1) := by decide +kernel
theorem dX6_init_171 : decode cX6_init 171 = .ok (.iinc 1 1, 3) := by decide +kernel
theorem dX6_init_174 : decode cX6_init 174 = .ok (.goto (-52), 3) := by decide +kernel
theorem dX6_init_177 : decode cX6_init 177 = .ok (.return_, 1) := by decide +kernel
theorem dX6_thrown_0 : decode cX6_thrown 0 = .ok (.aload_n 0, 1) := by decide +kernel
theorem dX6_thrown_1 : decode cX6_thrown 1 = .ok (.getfield 46, 3) := by decide +kernel
theorem dX6_thrown_4 : decode cX6_thrown 4 = .ok (.ireturn, 1) := by decide +kernel
theorem dX6_in_0 : decode cX6_in 0 = .ok (.iload_n 0, 1) := by decide +kernel
theorem dX6_in_1 : decode cX6_in 1 = .ok (.iload_n 1, 1) := by decide +kernel
theorem dX6_in_2 : decode cX6_in 2 = .ok (.if_icmp .lt 12, 3) := by decide +kernel
theorem dX6_in_5 : decode cX6_in 5 = .ok (.iload_n 0, 1) := by decide +kernel
theorem dX6_in_6 : decode cX6_in 6 = .ok (.iload_n 2, 1) := by decide +kernel
theorem dX6_in_7 : decode cX6_in 7 = .ok (.if_icmp .gt 7, 3) := by decide +kernel
theorem dX6_in_10 : decode cX6_in 10 = .ok (.iconst 1, 1) := by decide +kernel
theorem dX6_in_11 : decode cX6_in 11 = .ok (.goto 4, 3) := by decide +kernel
theorem dX6_in_14 : decode cX6_in 14 = .ok (.iconst 0, 1) := by decide +kernel
theorem dX6_in_15 : decode cX6_in 15 = .ok (.ireturn, 1) := by decide +kernel
theorem dX6_isKey_0 : decode cX6_isKey 0 = .ok (.iload_n 0, 1) := by decide +kernel
theorem dX6_isKey_1 : decode cX6_isKey 1 = .ok (.iconst 0, 1) := by decide +kernel
theorem dX6_isKey_2 : decode cX6_isKey 2 = .ok (.iconst 4, 1) := by decide +kernel
theorem dX6_isKey_3 : decode cX6_isKey 3 = .ok (.invokestatic 50, 3) := by decide +kernel
theorem dX6_isKey_6 : decode cX6_isKey 6 = .ok (.ireturn, 1) := by decide +kernel
theorem dX6_isPlace_0 : decode cX6_isPlace 0 = .ok (.iload_n 0, 1) := by decide +kernel
theorem dX6_isPlace_1 : decode cX6_isPlace 1 = .ok (.iconst 0, 1) := by decide +kernel
theorem dX6_isPlace_2 : decode cX6_isPlace 2 = .ok (.iconst 5, 1) := by decide +kernel
theorem dX6_isPlace_3 : decode cX6_isPlace 3 = .ok (.invokestatic 50, 3) := by decide +kernel
theorem dX6_isPlace_6 : decode cX6_isPlace 6 = .ok (.ireturn, 1) := by decide +kernel
theorem dX6_has_0 : decode cX6_has 0 = .ok (.aload_n 0, 1) := by decide +kernel
theorem dX6_has_1 : decode cX6_has 1 = .ok (.getfield 7, 3) := by decide +kernel
theorem dX6_has_4 : decode cX6_has 4 = .ok (.bipush 18, 2) := by decide +kernel
theorem dX6_has_6 : decode cX6_has 6 = .ok (.iload_n 1, 1) := by decide +kernel
theorem dX6_has_7 : decode cX6_has 7 = .ok (.iadd, 1) := by decide +kernel
theorem dX6_has_8 : decode cX6_has 8 = .ok (.iaload, 1) := by decide +kernel
theorem dX6_has_9 : decode cX6_has 9 = .ok (.iload_n 2, 1) := by decide +kernel
theorem dX6_has_10 : decode cX6_has 10 = .ok (.ishr, 1) := by decide +kernel
theorem dX6_has_11 : decode cX6_has 11 = .ok (.iconst 1, 1) := by decide +kernel
theorem dX6_has_12 : decode cX6_has 12 = .ok (.iand, 1) := by decide +kernel
theorem dX6_has_13 : decode cX6_has 13 = .ok (.iconst 1, 1) := by decide +kernel
theorem dX6_has_14 : decode cX6_has 14 = .ok (.if_icmp .ne 7, 3) := by decide +kernel
theorem dX6_has_17 : decode cX6_has 17 = .ok (.iconst 1, 1) := by decide +kernel
theorem dX6_has_18 : decode cX6_has 18 = .ok (.goto 4, 3) := by decide +kernel
theorem dX6_has_21 : decode cX6_has 21 = .ok (.iconst 0, 1) := by decide +kernel
theorem dX6_has_22 : decode cX6_has 22 = .ok (.ireturn, 1) := by decide +kernel
theorem dX6_ones_0 : decode cX6_ones 0 = .ok (.iconst 0, 1) := by decide +kernel
theorem dX6_ones_1 : decode cX6_ones 1 = .ok (.istore_n 1, 1) := by decide +kernel
theorem dX6_ones_2 : decode cX6_ones 2 = .ok (.iconst 0, 1) := by decide +kernel
theorem dX6_ones_3 : decode cX6_ones 3 = .ok (.istore_n 2, 1) := by decide +kernel
theorem dX6_ones_4 : decode cX6_ones 4 = .ok (.iload_n 2, 1) := by decide +kernel
theorem dX6_ones_5 : decode cX6_ones 5 = .ok (.bipush 6, 2) := by decide +kernel
theorem dX6_ones_7 : decode cX6_ones 7 = .ok (.if_icmp .ge 17, 3) := by decide +kernel
theorem dX6_ones_10 : decode cX6_ones 10 = .ok (.iload_n 1, 1) := by decide +kernel
theorem dX6_ones_11 : decode cX6_ones 11 = .ok (.iload_n 0, 1) := by decide +kernel
theorem dX6_ones_12 : decode cX6_ones 12 = .ok (.iload_n 2, 1) := by decide +kernel
theorem dX6_ones_13 : decode cX6_ones 13 = .ok (.ishr, 1) := by decide +kernel
theorem dX6_ones_14 : decode cX6_ones 14 = .ok (.iconst 1, 1) := by decide +kernel
theorem dX6_ones_15 : decode cX6_ones 15 = .ok (.iand, 1) := by decide +kernel
theorem dX6_ones_16 : decode cX6_ones 16 = .ok (.iadd, 1) := by decide +kernel
theorem dX6_ones_17 : decode cX6_ones 17 = .ok (.istore_n 1, 1) := by decide +kernel
theorem dX6_ones_18 : decode cX6_ones 18 = .ok (.iinc 2 1, 3) := by decide +kernel
theorem dX6_ones_21 : decode cX6_ones 21 = .ok (.goto (-17), 3) := by decide +kernel
theorem dX6_ones_24 : decode cX6_ones 24 = .ok (.iload_n 1, 1) := by decide +kernel
theorem dX6_ones_25 : decode cX6_ones 25 = .ok (.ireturn, 1) := by decide +kernel
theorem dX6_record_0 : decode cX6_record 0 = .ok (.aload_n 0, 1) := by decide +kernel
theorem dX6_record_1 : decode cX6_record 1 = .ok (.getfield 54, 3) := by decide +kernel
theorem dX6_record_4 : decode cX6_record 4 = .ok (.bipush 6, 2) := by decide +kernel
theorem dX6_record_6 : decode cX6_record 6 = .ok (.if_icmp .ne 43, 3) := by decide +kernel
theorem dX6_record_9 : decode cX6_record 9 = .ok (.iconst 0, 1) := by decide +kernel
theorem dX6_record_10 : decode cX6_record 10 = .ok (.istore_n 1, 1) := by decide +kernel
theorem dX6_record_11 : decode cX6_record 11 = .ok (.iload_n 1, 1) := by decide +kernel
theorem dX6_record_12 : decode cX6_record 12 = .ok (.sipush 245, 3) := by decide +kernel
theorem dX6_record_15 : decode cX6_record 15 = .ok (.if_icmp .ge 24, 3) := by decide +kernel
theorem dX6_record_18 : decode cX6_record 18 = .ok (.aload_n 0, 1) := by decide +kernel
theorem dX6_record_19 : decode cX6_record 19 = .ok (.getfield 16, 3) := by decide +kernel
theorem dX6_record_22 : decode cX6_record 22 = .ok (.iload_n 1, 1) := by decide +kernel
theorem dX6_record_23 : decode cX6_record 23 = .ok (.aload_n 0, 1) := by decide +kernel
theorem dX6_record_24 : decode cX6_record 24 = .ok (.getfield 16, 3) := by decide +kernel
theorem dX6_record_27 : decode cX6_record 27 = .ok (.bipush 49, 2) := by decide +kernel
theorem dX6_record_29 : decode cX6_record 29 = .ok (.iload_n 1, 1) := by decide +kernel
theorem dX6_record_30 : decode cX6_record 30 = .ok (.iadd, 1) := by decide +kernel
theorem dX6_record_31 : decode cX6_record 31 = .ok (.iaload, 1) := by decide +kernel
theorem dX6_record_32 : decode cX6_record 32 = .ok (.iastore, 1) := by decide +kernel
theorem dX6_record_33 : decode cX6_record 33 = .ok (.iinc 1 1, 3) := by decide +kernel
theorem dX6_record_36 : decode cX6_record 36 = .ok (.goto (-25), 3) := by decide +kernel
theorem dX6_record_39 : decode cX6_record 39 = .ok (.aload_n 0, 1) := by decide +kernel
theorem dX6_record_40 : decode cX6_record 40 = .ok (.dup, 1) := by decide +kernel
theorem dX6_record_41 : decode cX6_record 41 = .ok (.getfield 54, 3) := by decide +kernel
theorem dX6_record_44 : decode cX6_record 44 = .ok (.iconst 1, 1) := by decide +kernel
theorem dX6_record_45 : decode cX6_record 45 = .ok (.isub, 1) := by decide +kernel
theorem dX6_record_46 : decode cX6_record 46 = .ok (.putfield 54, 3) := by decide +kernel
theorem dX6_record_49 : decode cX6_record 49 = .ok (.iconst 0, 1) := by decide +kernel
theorem dX6_record_50 : decode cX6_record 50 = .ok (.istore_n 1, 1) := by decide +kernel
theorem dX6_record_51 : decode cX6_record 51 = .ok (.iload_n 1, 1) := by decide +kernel
theorem dX6_record_52 : decode cX6_record 52 = .ok (.bipush 49, 2) := by decide +kernel
theorem dX6_record_54 : decode cX6_record 54 = .ok (.if_icmp .ge 29, 3) := by decide +kernel
theorem dX6_record_57 : decode cX6_record 57 = .ok (.aload_n 0, 1) := by decide +kernel
theorem dX6_record_58 : decode cX6_record 58 = .ok (.getfield 16, 3) := by decide +kernel
theorem dX6_record_61 : decode cX6_record 61 = .ok (.bipush 49, 2) := by decide +kernel
theorem dX6_record_63 : decode cX6_record 63 = .ok (.aload_n 0, 1) := by decide +kernel
theorem dX6_record_64 : decode cX6_record 64 = .ok (.getfield 54, 3) := by decide +kernel
theorem dX6_record_67 : decode cX6_record 67 = .ok (.imul, 1) := by decide +kernel
theorem dX6_record_68 : decode cX6_record 68 = .ok (.iload_n 1, 1) := by decide +kernel
theorem dX6_record_69 : decode cX6_record 69 = .ok (.iadd, 1) := by decide +kernel
theorem dX6_record_70 : decode cX6_record 70 = .ok (.aload_n 0, 1) := by decide +kernel
theorem dX6_record_71 : decode cX6_record 71 = .ok (.getfield 7, 3) := by decide +kernel
theorem dX6_record_74 : decode cX6_record 74 = .ok (.iload_n 1, 1) := by decide +kernel
theorem dX6_record_75 : decode cX6_record 75 = .ok (.iaload, 1) := by decide +kernel
theorem dX6_record_76 : decode cX6_record 76 = .ok (.iastore, 1) := by decide +kernel
theorem dX6_record_77 : decode cX6_record 77 = .ok (.iinc 1 1, 3) := by decide +kernel
theorem dX6_record_80 : decode cX6_record 80 = .ok (.goto (-29), 3) := by decide +kernel
theorem dX6_record_83 : decode cX6_record 83 = .ok (.aload_n 0, 1) := by decide +kernel
theorem dX6_record_84 : decode cX6_record 84 = .ok (.dup, 1) := by decide +kernel
theorem dX6_record_85 : decode cX6_record 85 = .ok (.getfield 54, 3) := by decide +kernel
theorem dX6_record_88 : decode cX6_record 88 = .ok (.iconst 1, 1) := by decide +kernel
theorem dX6_record_89 : decode cX6_record 89 = .ok (.iadd, 1) := by decide +kernel
theorem dX6_record_90 : decode cX6_record 90 = .ok (.putfield 54, 3) := by decide +kernel
theorem dX6_record_93 : decode cX6_record 93 = .ok (.return_, 1) := by decide +kernel
theorem dX6_undo_0 : decode cX6_undo 0 = .ok (.aload_n 0, 1) := by decide +kernel
theorem dX6_undo_1 : decode cX6_undo 1 = .ok (.aload_n 0, 1) := by decide +kernel
theorem dX6_undo_2 : decode cX6_undo 2 = .ok (.getfield 54, 3) := by decide +kernel
theorem dX6_undo_5 : decode cX6_undo 5 = .ok (.ifCond .ne 7, 3) := by decide +kernel
theorem dX6_undo_8 : decode cX6_undo 8 = .ok (.iconst 1, 1) := by decide +kernel
theorem dX6_undo_9 : decode cX6_undo 9 = .ok (.goto 4, 3) := by decide +kernel
theorem dX6_undo_12 : decode cX6_undo 12 = .ok (.iconst 0, 1) := by decide +kernel
theorem dX6_undo_13 : decode cX6_undo 13 = .ok (.putfield 46, 3) := by decide +kernel
theorem dX6_undo_16 : decode cX6_undo 16 = .ok (.aload_n 0, 1) := by decide +kernel
theorem dX6_undo_17 : decode cX6_undo 17 = .ok (.getfield 46, 3) := by decide +kernel
theorem dX6_undo_20 : decode cX6_undo 20 = .ok (.ifCond .le 5, 3) := by decide +kernel
theorem dX6_undo_23 : decode cX6_undo 23 = .ok (.iconst 0, 1) := by decide +kernel
theorem dX6_undo_24 : decode cX6_undo 24 = .ok (.ireturn, 1) := by decide +kernel
theorem dX6_undo_25 : decode cX6_undo 25 = .ok (.aload_n 0, 1) := by decide +kernel
theorem dX6_undo_26 : decode cX6_undo 26 = .ok (.dup, 1) := by decide +kernel
theorem dX6_undo_27 : decode cX6_undo 27 = .ok (.getfield 54, 3) := by decide +kernel
theorem dX6_undo_30 : decode cX6_undo 30 = .ok (.iconst 1, 1) := by decide +kernel
theorem dX6_undo_31 : decode cX6_undo 31 = .ok (.isub, 1) := by decide +kernel
theorem dX6_undo_32 : decode cX6_undo 32 = .ok (.putfield 54, 3) := by decide +kernel
theorem dX6_undo_35 : decode cX6_undo 35 = .ok (.iconst 0, 1) := by decide +kernel
theorem dX6_undo_36 : decode cX6_undo 36 = .ok (.istore_n 1, 1) := by decide +kernel
theorem dX6_undo_37 : decode cX6_undo 37 = .ok (.iload_n 1, 1) := by decide +kernel
theorem dX6_undo_38 : decode cX6_undo 38 = .ok (.bipush 49, 2) := by decide +kernel
theorem dX6_undo_40 : decode cX6_undo 40 = .ok (.if_icmp .ge 29, 3) := by decide +kernel
theorem dX6_undo_43 : decode cX6_undo 43 = .ok (.aload_n 0, 1) := by decide +kernel
theorem dX6_undo_44 : decode cX6_undo 44 = .ok (.getfield 7, 3) := by decide +kernel
theorem dX6_undo_47 : decode cX6_undo 47 = .ok (.iload_n 1, 1) := by decide +kernel
theorem dX6_undo_48 : decode cX6_undo 48 = .ok (.aload_n 0, 1) := by decide +kernel
theorem dX6_undo_49 : decode cX6_undo 49 = .ok (.getfield 16, 3) := by decide +kernel
theorem dX6_undo_52 : decode cX6_undo 52 = .ok (.bipush 49, 2) := by decide +kernel
theorem dX6_undo_54 : decode cX6_undo 54 = .ok (.aload_n 0, 1) := by decide +kernel
theorem dX6_undo_55 : decode cX6_undo 55 = .ok (.getfield 54, 3) := by decide +kernel
theorem dX6_undo_58 : decode cX6_undo 58 = .ok (.imul, 1) := by decide +kernel
theorem dX6_undo_59 : decode cX6_undo 59 = .ok (.iload_n 1, 1) := by decide +kernel
theorem dX6_undo_60 : decode cX6_undo 60 = .ok (.iadd, 1) := by decide +kernel
theorem dX6_undo_61 : decode cX6_undo 61 = .ok (.iaload, 1) := by decide +kernel
theorem dX6_undo_62 : decode cX6_undo 62 = .ok (.iastore, 1) := by decide +kernel
theorem dX6_undo_63 : decode cX6_undo 63 = .ok (.iinc 1 1, 3) := by decide +kernel
theorem dX6_undo_66 : decode cX6_undo 66 = .ok (.goto (-29), 3) := by decide +kernel
theorem dX6_undo_69 : decode cX6_undo 69 = .ok (.aload_n 0, 1) := by decide +kernel
theorem dX6_undo_70 : decode cX6_undo 70 = .ok (.getfield 54, 3) := by decide +kernel
theorem dX6_undo_73 : decode cX6_undo 73 = .ok (.ireturn, 1) := by decide +kernel
theorem dX6_keep_0 : decode cX6_keep 0 = .ok (.aload_n 0, 1) := by decide +kernel
theorem dX6_keep_1 : decode cX6_keep 1 = .ok (.iconst 0, 1) := by decide +kernel
theorem dX6_keep_2 : decode cX6_keep 2 = .ok (.putfield 46, 3) := by decide +kernel
theorem dX6_keep_5 : decode cX6_keep 5 = .ok (.iconst 0, 1) := by decide +kernel
theorem dX6_keep_6 : decode cX6_keep 6 = .ok (.istore_n 1, 1) := by decide +kernel
theorem dX6_keep_7 : decode cX6_keep 7 = .ok (.iload_n 1, 1) := by decide +kernel
theorem dX6_keep_8 : decode cX6_keep 8 = .ok (.bipush 49, 2) := by decide +kernel
theorem dX6_keep_10 : decode cX6_keep 10 = .ok (.if_icmp .ge 21, 3) := by decide +kernel
theorem dX6_keep_13 : decode cX6_keep 13 = .ok (.aload_n 0, 1) := by decide +kernel
theorem dX6_keep_14 : decode cX6_keep 14 = .ok (.getfield 19, 3) := by decide +kernel
theorem dX6_keep_17 : decode cX6_keep 17 = .ok (.iload_n 1, 1) := by decide +kernel
theorem dX6_keep_18 : decode cX6_keep 18 = .ok (.aload_n 0, 1) := by decide +kernel
theorem dX6_keep_19 : decode cX6_keep 19 = .ok (.getfield 7, 3) := by decide +kernel
theorem dX6_keep_22 : decode cX6_keep 22 = .ok (.iload_n 1, 1) := by decide +kernel
theorem dX6_keep_23 : decode cX6_keep 23 = .ok (.iaload, 1) := by decide +kernel
theorem dX6_keep_24 : decode cX6_keep 24 = .ok (.iastore, 1) := by decide +kernel
theorem dX6_keep_25 : decode cX6_keep 25 = .ok (.iinc 1 1, 3) := by decide +kernel
theorem dX6_keep_28 : decode cX6_keep 28 = .ok (.goto (-21), 3) := by decide +kernel
theorem dX6_keep_31 : decode cX6_keep 31 = .ok (.aload_n 0, 1) := by decide +kernel
theorem dX6_keep_32 : decode cX6_keep 32 = .ok (.iconst 1, 1) := by decide +kernel
theorem dX6_keep_33 : decode cX6_keep 33 = .ok (.putfield 57, 3) := by decide +kernel
theorem dX6_keep_36 : decode cX6_keep 36 = .ok (.aload_n 0, 1) := by decide +kernel
theorem dX6_keep_37 : decode cX6_keep 37 = .ok (.getfield 7, 3) := by decide +kernel
theorem dX6_keep_40 : decode cX6_keep 40 = .ok (.bipush 33, 2) := by decide +kernel
theorem dX6_keep_42 : decode cX6_keep 42 = .ok (.iaload, 1) := by decide +kernel
theorem dX6_keep_43 : decode cX6_keep 43 = .ok (.ireturn, 1) := by decide +kernel
theorem dX6_goBack_0 : decode cX6_goBack 0 = .ok (.aload_n 0, 1) := by decide +kernel
theorem dX6_goBack_1 : decode cX6_goBack 1 = .ok (.aload_n 0, 1) := by decide +kernel
theorem dX6_goBack_2 : decode cX6_goBack 2 = .ok (.getfield 57, 3) := by decide +kernel
theorem dX6_goBack_5 : decode cX6_goBack 5 = .ok (.ifCond .eq 7, 3) := by decide +kernel
theorem dX6_goBack_8 : decode cX6_goBack 8 = .ok (.iconst 0, 1) := by decide +kernel
theorem dX6_goBack_9 : decode cX6_goBack 9 = .ok (.goto 4, 3) := by decide +kernel
theorem dX6_goBack_12 : decode cX6_goBack 12 = .ok (.iconst 1, 1) := by decide +kernel
theorem dX6_goBack_13 : decode cX6_goBack 13 = .ok (.putfield 46, 3) := by decide +kernel
theorem dX6_goBack_16 : decode cX6_goBack 16 = .ok (.aload_n 0, 1) := by decide +kernel
theorem dX6_goBack_17 : decode cX6_goBack 17 = .ok (.getfield 46, 3) := by decide +kernel
theorem dX6_goBack_20 : decode cX6_goBack 20 = .ok (.ifCond .le 5, 3) := by decide +kernel
theorem dX6_goBack_23 : decode cX6_goBack 23 = .ok (.iconst 0, 1) := by decide +kernel
theorem dX6_goBack_24 : decode cX6_goBack 24 = .ok (.ireturn, 1) := by decide +kernel
theorem dX6_goBack_25 : decode cX6_goBack 25 = .ok (.aload_n 0, 1) := by decide +kernel
theorem dX6_goBack_26 : decode cX6_goBack 26 = .ok (.invokevirtual 61, 3) := by decide +kernel
theorem dX6_goBack_29 : decode cX6_goBack 29 = .ok (.iconst 0, 1) := by decide +kernel
theorem dX6_goBack_30 : decode cX6_goBack 30 = .ok (.istore_n 1, 1) := by decide +kernel
theorem dX6_goBack_31 : decode cX6_goBack 31 = .ok (.iload_n 1, 1) := by decide +kernel
theorem dX6_goBack_32 : decode cX6_goBack 32 = .ok (.bipush 49, 2) := by decide +kernel
theorem dX6_goBack_34 : decode cX6_goBack 34 = .ok (.if_icmp .ge 21, 3) := by decide +kernel
theorem dX6_goBack_37 : decode cX6_goBack 37 = .ok (.aload_n 0, 1) := by decide +kernel
theorem dX6_goBack_38 : decode cX6_goBack 38 = .ok (.getfield 7, 3) := by decide +kernel
theorem dX6_goBack_41 : decode cX6_goBack 41 = .ok (.iload_n 1, 1) := by decide +kernel
theorem dX6_goBack_42 : decode cX6_goBack 42 = .ok (.aload_n 0, 1) := by decide +kernel
theorem dX6_goBack_43 : decode cX6_goBack 43 = .ok (.getfield 19, 3) := by decide +kernel
theorem dX6_goBack_46 : decode cX6_goBack 46 = .ok (.iload_n 1, 1) := by decide +kernel
theorem dX6_goBack_47 : decode cX6_goBack 47 = .ok (.iaload, 1) := by decide +kernel
theorem dX6_goBack_48 : decode cX6_goBack 48 = .ok (.iastore, 1) := by decide +kernel
theorem dX6_goBack_49 : decode cX6_goBack 49 = .ok (.iinc 1 1, 3) := by decide +kernel
theorem dX6_goBack_52 : decode cX6_goBack 52 = .ok (.goto (-21), 3) := by decide +kernel
theorem dX6_goBack_55 : decode cX6_goBack 55 = .ok (.aload_n 0, 1) := by decide +kernel
theorem dX6_goBack_56 : decode cX6_goBack 56 = .ok (.getfield 7, 3) := by decide +kernel
theorem dX6_goBack_59 : decode cX6_goBack 59 = .ok (.bipush 33, 2) := by decide +kernel
theorem dX6_goBack_61 : decode cX6_goBack 61 = .ok (.iaload, 1) := by decide +kernel
theorem dX6_goBack_62 : decode cX6_goBack 62 = .ok (.ireturn, 1) := by decide +kernel
theorem dX6_putAside_0 : decode cX6_putAside 0 = .ok (.iconst 0, 1) := by decide +kernel
theorem dX6_putAside_1 : decode cX6_putAside 1 = .ok (.istore_n 1, 1) := by decide +kernel
theorem dX6_putAside_2 : decode cX6_putAside 2 = .ok (.iload_n 1, 1) := by decide +kernel
theorem dX6_putAside_3 : decode cX6_putAside 3 = .ok (.bipush 49, 2) := by decide +kernel
theorem dX6_putAside_5 : decode cX6_putAside 5 = .ok (.if_icmp .ge 21, 3) := by decide +kernel
theorem dX6_putAside_8 : decode cX6_putAside 8 = .ok (.aload_n 0, 1) := by decide +kernel
theorem dX6_putAside_9 : decode cX6_putAside 9 = .ok (.getfield 13, 3) := by decide +kernel
theorem dX6_putAside_12 : decode cX6_putAside 12 = .ok (.iload_n 1, 1) := by decide +kernel
theorem dX6_putAside_13 : decode cX6_putAside 13 = .ok (.aload_n 0, 1) := by decide +kernel
theorem dX6_putAside_14 : decode cX6_putAside 14 = .ok (.getfield 7, 3) := by decide +kernel
theorem dX6_putAside_17 : decode cX6_putAside 17 = .ok (.iload_n 1, 1) := by decide +kernel
theorem dX6_putAside_18 : decode cX6_putAside 18 = .ok (.iaload, 1) := by decide +kernel
theorem dX6_putAside_19 : decode cX6_putAside 19 = .ok (.iastore, 1) := by decide +kernel
theorem dX6_putAside_20 : decode cX6_putAside 20 = .ok (.iinc 1 1, 3) := by decide +kernel
theorem dX6_putAside_23 : decode cX6_putAside 23 = .ok (.goto (-21), 3) := by decide +kernel
theorem dX6_putAside_26 : decode cX6_putAside 26 = .ok (.return_, 1) := by decide +kernel
theorem dX6_putBack_0 : decode cX6_putBack 0 = .ok (.iconst 0, 1) := by decide +kernel
theorem dX6_putBack_1 : decode cX6_putBack 1 = .ok (.istore_n 1, 1) := by decide +kernel
theorem dX6_putBack_2 : decode cX6_putBack 2 = .ok (.iload_n 1, 1) := by decide +kernel
theorem dX6_putBack_3 : decode cX6_putBack 3 = .ok (.bipush 49, 2) := by decide +kernel
theorem dX6_putBack_5 : decode cX6_putBack 5 = .ok (.if_icmp .ge 21, 3) := by decide +kernel
theorem dX6_putBack_8 : decode cX6_putBack 8 = .ok (.aload_n 0, 1) := by decide +kernel
theorem dX6_putBack_9 : decode cX6_putBack 9 = .ok (.getfield 7, 3) := by decide +kernel
theorem dX6_putBack_12 : decode cX6_putBack 12 = .ok (.iload_n 1, 1) := by decide +kernel
theorem dX6_putBack_13 : decode cX6_putBack 13 = .ok (.aload_n 0, 1) := by decide +kernel
theorem dX6_putBack_14 : decode cX6_putBack 14 = .ok (.getfield 13, 3) := by decide +kernel
theorem dX6_putBack_17 : decode cX6_putBack 17 = .ok (.iload_n 1, 1) := by decide +kernel
theorem dX6_putBack_18 : decode cX6_putBack 18 = .ok (.iaload, 1) := by decide +kernel
theorem dX6_putBack_19 : decode cX6_putBack 19 = .ok (.iastore, 1) := by decide +kernel
theorem dX6_putBack_20 : decode cX6_putBack 20 = .ok (.iinc 1 1, 3) := by decide +kernel
theorem dX6_putBack_23 : decode cX6_putBack 23 = .ok (.goto (-21), 3) := by decide +kernel
theorem dX6_putBack_26 : decode cX6_putBack 26 = .ok (.return_, 1) := by decide +kernel
theorem dX6_toFirst_0 : decode cX6_toFirst 0 = .ok (.iconst 0, 1) := by decide +kernel
theorem dX6_toFirst_1 : decode cX6_toFirst 1 = .ok (.istore_n 1, 1) := by decide +kernel
theorem dX6_toFirst_2 : decode cX6_toFirst 2 = .ok (.iload_n 1, 1) := by decide +kernel
theorem dX6_toFirst_3 : decode cX6_toFirst 3 = .ok (.bipush 6, 2) := by decide +kernel
theorem dX6_toFirst_5 : decode cX6_toFirst 5 = .ok (.if_icmp .ge 28, 3) := by decide +kernel
theorem dX6_toFirst_8 : decode cX6_toFirst 8 = .ok (.aload_n 0, 1) := by decide +kernel
theorem dX6_toFirst_9 : decode cX6_toFirst 9 = .ok (.getfield 7, 3) := by decide +kernel
theorem dX6_toFirst_12 : decode cX6_toFirst 12 = .ok (.iconst 0, 1) := by decide +kernel
theorem dX6_toFirst_13 : decode cX6_toFirst 13 = .ok (.iload_n 1, 1) := by decide +kernel
theorem dX6_toFirst_14 : decode cX6_toFirst 14 = .ok (.iadd, 1) := by decide +kernel
theorem dX6_toFirst_15 : decode cX6_toFirst 15 = .ok (.iload_n 1, 1) := by decide +kernel
theorem dX6_toFirst_16 : decode cX6_toFirst 16 = .ok (.iastore, 1) := by decide +kernel
theorem dX6_toFirst_17 : decode cX6_toFirst 17 = .ok (.aload_n 0, 1) := by decide +kernel
theorem dX6_toFirst_18 : decode cX6_toFirst 18 = .ok (.getfield 7, 3) := by decide +kernel
theorem dX6_toFirst_21 : decode cX6_toFirst 21 = .ok (.bipush 6, 2) := by decide +kernel
theorem dX6_toFirst_23 : decode cX6_toFirst 23 = .ok (.iload_n 1, 1) := by decide +kernel
theorem dX6_toFirst_24 : decode cX6_toFirst 24 = .ok (.iadd, 1) := by decide +kernel
theorem dX6_toFirst_25 : decode cX6_toFirst 25 = .ok (.iconst 0, 1) := by decide +kernel
theorem dX6_toFirst_26 : decode cX6_toFirst 26 = .ok (.iastore, 1) := by decide +kernel
theorem dX6_toFirst_27 : decode cX6_toFirst 27 = .ok (.iinc 1 1, 3) := by decide +kernel
theorem dX6_toFirst_30 : decode cX6_toFirst 30 = .ok (.goto (-28), 3) := by decide +kernel
theorem dX6_toFirst_33 : decode cX6_toFirst 33 = .ok (.return_, 1) := by decide +kernel
theorem dX6_next_0 : decode cX6_next 0 = .ok (.iload_n 2, 1) := by decide +kernel
theorem dX6_next_1 : decode cX6_next 1 = .ok (.iconst 1, 1) := by decide +kernel
theorem dX6_next_2 : decode cX6_next 2 = .ok (.iadd, 1) := by decide +kernel
theorem dX6_next_3 : decode cX6_next 3 = .ok (.bipush 6, 2) := by decide +kernel
theorem dX6_next_5 : decode cX6_next 5 = .ok (.irem, 1) := by decide +kernel
theorem dX6_next_6 : decode cX6_next 6 = .ok (.istore_n 3, 1) := by decide +kernel
theorem dX6_next_7 : decode cX6_next 7 = .ok (.aload_n 0, 1) := by decide +kernel
theorem dX6_next_8 : decode cX6_next 8 = .ok (.iload_n 1, 1) := by decide +kernel
theorem dX6_next_9 : decode cX6_next 9 = .ok (.iload_n 3, 1) := by decide +kernel
theorem dX6_next_10 : decode cX6_next 10 = .ok (.invokevirtual 64, 3) := by decide +kernel
theorem dX6_next_13 : decode cX6_next 13 = .ok (.ifCond .ne 13, 3) := by decide +kernel
theorem dX6_next_16 : decode cX6_next 16 = .ok (.iload_n 3, 1) := by decide +kernel
theorem dX6_next_17 : decode cX6_next 17 = .ok (.iconst 1, 1) := by decide +kernel
theorem dX6_next_18 : decode cX6_next 18 = .ok (.iadd, 1) := by decide +kernel
theorem dX6_next_19 : decode cX6_next 19 = .ok (.bipush 6, 2) := by decide +kernel
theorem dX6_next_21 : decode cX6_next 21 = .ok (.irem, 1) := by decide +kernel
theorem dX6_next_22 : decode cX6_next 22 = .ok (.istore_n 3, 1) := by decide +kernel
theorem dX6_next_23 : decode cX6_next 23 = .ok (.goto (-16), 3) := by decide +kernel
theorem dX6_next_26 : decode cX6_next 26 = .ok (.iload_n 3, 1) := by decide +kernel
theorem dX6_next_27 : decode cX6_next 27 = .ok (.ireturn, 1) := by decide +kernel
theorem dX6_doTurn_0 : decode cX6_doTurn 0 = .ok (.iload_n 1, 1) := by decide +kernel
theorem dX6_doTurn_1 : decode cX6_doTurn 1 = .ok (.iconst 5, 1) := by decide +kernel
theorem dX6_doTurn_2 : decode cX6_doTurn 2 = .ok (.irem, 1) := by decide +kernel
theorem dX6_doTurn_3 : decode cX6_doTurn 3 = .ok (.istore_n 2, 1) := by decide +kernel
theorem dX6_doTurn_4 : decode cX6_doTurn 4 = .ok (.iconst 0, 1) := by decide +kernel
theorem dX6_doTurn_5 : decode cX6_doTurn 5 = .ok (.istore_n 3, 1) := by decide +kernel
theorem dX6_doTurn_6 : decode cX6_doTurn 6 = .ok (.iload_n 3, 1) := by decide +kernel
theorem dX6_doTurn_7 : decode cX6_doTurn 7 = .ok (.bipush 12, 2) := by decide +kernel
theorem dX6_doTurn_9 : decode cX6_doTurn 9 = .ok (.if_icmp .ge 21, 3) := by decide +kernel
theorem dX6_doTurn_12 : decode cX6_doTurn 12 = .ok (.aload_n 0, 1) := by decide +kernel
theorem dX6_doTurn_13 : decode cX6_doTurn 13 = .ok (.getfield 25, 3) := by decide +kernel
theorem dX6_doTurn_16 : decode cX6_doTurn 16 = .ok (.iload_n 3, 1) := by decide +kernel
theorem dX6_doTurn_17 : decode cX6_doTurn 17 = .ok (.aload_n 0, 1) := by decide +kernel
theorem dX6_doTurn_18 : decode cX6_doTurn 18 = .ok (.getfield 7, 3) := by decide +kernel
theorem dX6_doTurn_21 : decode cX6_doTurn 21 = .ok (.iload_n 3, 1) := by decide +kernel
theorem dX6_doTurn_22 : decode cX6_doTurn 22 = .ok (.iaload, 1) := by decide +kernel
theorem dX6_doTurn_23 : decode cX6_doTurn 23 = .ok (.iastore, 1) := by decide +kernel
theorem dX6_doTurn_24 : decode cX6_doTurn 24 = .ok (.iinc 3 1, 3) := by decide +kernel
theorem dX6_doTurn_27 : decode cX6_doTurn 27 = .ok (.goto (-21), 3) := by decide +kernel
theorem dX6_doTurn_30 : decode cX6_doTurn 30 = .ok (.iconst 0, 1) := by decide +kernel
theorem dX6_doTurn_31 : decode cX6_doTurn 31 = .ok (.istore_n 3, 1) := by decide +kernel
theorem dX6_doTurn_32 : decode cX6_doTurn 32 = .ok (.iload_n 3, 1) := by decide +kernel
theorem dX6_doTurn_33 : decode cX6_doTurn 33 = .ok (.bipush 6, 2) := by decide +kernel
theorem dX6_doTurn_35 : decode cX6_doTurn 35 = .ok (.if_icmp .ge 125, 3) := by decide +kernel
theorem dX6_doTurn_38 : decode cX6_doTurn 38 = .ok (.aload_n 0, 1) := by decide +kernel
theorem dX6_doTurn_39 : decode cX6_doTurn 39 = .ok (.iload_n 2, 1) := by decide +kernel
theorem dX6_doTurn_40 : decode cX6_doTurn 40 = .ok (.iload_n 3, 1) := by decide +kernel
theorem dX6_doTurn_41 : decode cX6_doTurn 41 = .ok (.invokevirtual 64, 3) := by decide +kernel
theorem dX6_doTurn_44 : decode cX6_doTurn 44 = .ok (.ifCond .eq 110, 3) := by decide +kernel
theorem dX6_doTurn_47 : decode cX6_doTurn 47 = .ok (.aload_n 0, 1) := by decide +kernel
theorem dX6_doTurn_48 : decode cX6_doTurn 48 = .ok (.iload_n 2, 1) := by decide +kernel
theorem dX6_doTurn_49 : decode cX6_doTurn 49 = .ok (.iload_n 3, 1) := by decide +kernel
theorem dX6_doTurn_50 : decode cX6_doTurn 50 = .ok (.invokevirtual 68, 3) := by decide +kernel
theorem dX6_doTurn_53 : decode cX6_doTurn 53 = .ok (.istore 4, 2) := by decide +kernel
theorem dX6_doTurn_55 : decode cX6_doTurn 55 = .ok (.iload_n 1, 1) := by decide +kernel
theorem dX6_doTurn_56 : decode cX6_doTurn 56 = .ok (.iconst 5, 1) := by decide +kernel
theorem dX6_doTurn_57 : decode cX6_doTurn 57 = .ok (.if_icmp .ge 7, 3) := by decide +kernel
theorem dX6_doTurn_60 : decode cX6_doTurn 60 = .ok (.iload_n 3, 1) := by decide +kernel
theorem dX6_doTurn_61 : decode cX6_doTurn 61 = .ok (.goto 5, 3) := by decide +kernel
theorem dX6_doTurn_64 : decode cX6_doTurn 64 = .ok (.iload 4, 2) := by decide +kernel
theorem dX6_doTurn_66 : decode cX6_doTurn 66 = .ok (.istore 5, 2) := by decide +kernel
theorem dX6_doTurn_68 : decode cX6_doTurn 68 = .ok (.iload_n 1, 1) := by decide +kernel
theorem dX6_doTurn_69 : decode cX6_doTurn 69 = .ok (.iconst 5, 1) := by decide +kernel
theorem dX6_doTurn_70 : decode cX6_doTurn 70 = .ok (.if_icmp .ge 8, 3) := by decide +kernel
theorem dX6_doTurn_73 : decode cX6_doTurn 73 = .ok (.iload 4, 2) := by decide +kernel
theorem dX6_doTurn_75 : decode cX6_doTurn 75 = .ok (.goto 4, 3) := by decide +kernel
theorem dX6_doTurn_78 : decode cX6_doTurn 78 = .ok (.iload_n 3, 1) := by decide +kernel
theorem dX6_doTurn_79 : decode cX6_doTurn 79 = .ok (.istore 6, 2) := by decide +kernel
theorem dX6_doTurn_81 : decode cX6_doTurn 81 = .ok (.iload_n 1, 1) := by decide +kernel
theorem dX6_doTurn_82 : decode cX6_doTurn 82 = .ok (.iconst 5, 1) := by decide +kernel
theorem dX6_doTurn_83 : decode cX6_doTurn 83 = .ok (.if_icmp .ge 15, 3) := by decide +kernel
theorem dX6_doTurn_86 : decode cX6_doTurn 86 = .ok (.aload_n 0, 1) := by decide +kernel
theorem dX6_doTurn_87 : decode cX6_doTurn 87 = .ok (.getfield 7, 3) := by decide +kernel
theorem dX6_doTurn_90 : decode cX6_doTurn 90 = .ok (.bipush 23, 2) := by decide +kernel
theorem dX6_doTurn_92 : decode cX6_doTurn 92 = .ok (.iload_n 2, 1) := by decide +kernel
theorem dX6_doTurn_93 : decode cX6_doTurn 93 = .ok (.iadd, 1) := by decide +kernel
theorem dX6_doTurn_94 : decode cX6_doTurn 94 = .ok (.iaload, 1) := by decide +kernel
theorem dX6_doTurn_95 : decode cX6_doTurn 95 = .ok (.goto 14, 3) := by decide +kernel
theorem dX6_doTurn_98 : decode cX6_doTurn 98 = .ok (.iconst 5, 1) := by decide +kernel
theorem dX6_doTurn_99 : decode cX6_doTurn 99 = .ok (.aload_n 0, 1) := by decide +kernel
theorem dX6_doTurn_100 : decode cX6_doTurn 100 = .ok (.getfield 7, 3) := by decide +kernel
theorem dX6_doTurn_103 : decode cX6_doTurn 103 = .ok (.bipush 23, 2) := by decide +kernel
theorem dX6_doTurn_105 : decode cX6_doTurn 105 = .ok (.iload_n 2, 1) := by decide +kernel
theorem dX6_doTurn_106 : decode cX6_doTurn 106 = .ok (.iadd, 1) := by decide +kernel
theorem dX6_doTurn_107 : decode cX6_doTurn 107 = .ok (.iaload, 1) := by decide +kernel
theorem dX6_doTurn_108 : decode cX6_doTurn 108 = .ok (.isub, 1) := by decide +kernel
theorem dX6_doTurn_109 : decode cX6_doTurn 109 = .ok (.istore 7, 2) := by decide +kernel
theorem dX6_doTurn_111 : decode cX6_doTurn 111 = .ok (.aload_n 0, 1) := by decide +kernel
theorem dX6_doTurn_112 : decode cX6_doTurn 112 = .ok (.getfield 7, 3) := by decide +kernel
theorem dX6_doTurn_115 : decode cX6_doTurn 115 = .ok (.iconst 0, 1) := by decide +kernel
theorem dX6_doTurn_116 : decode cX6_doTurn 116 = .ok (.iload 6, 2) := by decide +kernel
theorem dX6_doTurn_118 : decode cX6_doTurn 118 = .ok (.iadd, 1) := by decide +kernel
theorem dX6_doTurn_119 : decode cX6_doTurn 119 = .ok (.aload_n 0, 1) := by decide +kernel
theorem dX6_doTurn_120 : decode cX6_doTurn 120 = .ok (.getfield 25, 3) := by decide +kernel
theorem dX6_doTurn_123 : decode cX6_doTurn 123 = .ok (.iconst 0, 1) := by decide +kernel
theorem dX6_doTurn_124 : decode cX6_doTurn 124 = .ok (.iload 5, 2) := by decide +kernel
theorem dX6_doTurn_126 : decode cX6_doTurn 126 = .ok (.iadd, 1) := by decide +kernel
theorem dX6_doTurn_127 : decode cX6_doTurn 127 = .ok (.iaload, 1) := by decide +kernel
theorem dX6_doTurn_128 : decode cX6_doTurn 128 = .ok (.iastore, 1) := by decide +kernel
theorem dX6_doTurn_129 : decode cX6_doTurn 129 = .ok (.aload_n 0, 1) := by decide +kernel
theorem dX6_doTurn_130 : decode cX6_doTurn 130 = .ok (.getfield 7, 3) := by decide +kernel
theorem dX6_doTurn_133 : decode cX6_doTurn 133 = .ok (.bipush 6, 2) := by decide +kernel
theorem dX6_doTurn_135 : decode cX6_doTurn 135 = .ok (.iload 6, 2) := by decide +kernel
theorem dX6_doTurn_137 : decode cX6_doTurn 137 = .ok (.iadd, 1) := by decide +kernel
theorem dX6_doTurn_138 : decode cX6_doTurn 138 = .ok (.aload_n 0, 1) := by decide +kernel
theorem dX6_doTurn_139 : decode cX6_doTurn 139 = .ok (.getfield 25, 3) := by decide +kernel
theorem dX6_doTurn_142 : decode cX6_doTurn 142 = .ok (.bipush 6, 2) := by decide +kernel
theorem dX6_doTurn_144 : decode cX6_doTurn 144 = .ok (.iload 5, 2) := by decide +kernel
theorem dX6_doTurn_146 : decode cX6_doTurn 146 = .ok (.iadd, 1) := by decide +kernel
theorem dX6_doTurn_147 : decode cX6_doTurn 147 = .ok (.iaload, 1) := by decide +kernel
theorem dX6_doTurn_148 : decode cX6_doTurn 148 = .ok (.iload 7, 2) := by decide +kernel
theorem dX6_doTurn_150 : decode cX6_doTurn 150 = .ok (.iadd, 1) := by decide +kernel
theorem dX6_doTurn_151 : decode cX6_doTurn 151 = .ok (.iconst 5, 1) := by decide +kernel
theorem dX6_doTurn_152 : decode cX6_doTurn 152 = .ok (.irem, 1) := by decide +kernel
theorem dX6_doTurn_153 : decode cX6_doTurn 153 = .ok (.iastore, 1) := by decide +kernel
theorem dX6_doTurn_154 : decode cX6_doTurn 154 = .ok (.iinc 3 1, 3) := by decide +kernel
theorem dX6_doTurn_157 : decode cX6_doTurn 157 = .ok (.goto (-125), 3) := by decide +kernel
theorem dX6_doTurn_160 : decode cX6_doTurn 160 = .ok (.return_, 1) := by decide +kernel
theorem dX6_isStuck_0 : decode cX6_isStuck 0 = .ok (.iconst 0, 1) := by decide +kernel
theorem dX6_isStuck_1 : decode cX6_isStuck 1 = .ok (.istore_n 2, 1) := by decide +kernel
theorem dX6_isStuck_2 : decode cX6_isStuck 2 = .ok (.iconst 0, 1) := by decide +kernel
theorem dX6_isStuck_3 : decode cX6_isStuck 3 = .ok (.istore_n 3, 1) := by decide +kernel
theorem dX6_isStuck_4 : decode cX6_isStuck 4 = .ok (.iload_n 3, 1) := by decide +kernel
theorem dX6_isStuck_5 : decode cX6_isStuck 5 = .ok (.bipush 6, 2) := by decide +kernel
theorem dX6_isStuck_7 : decode cX6_isStuck 7 = .ok (.if_icmp .ge 41, 3) := by decide +kernel
theorem dX6_isStuck_10 : decode cX6_isStuck 10 = .ok (.iload_n 2, 1) := by decide +kernel
theorem dX6_isStuck_11 : decode cX6_isStuck 11 = .ok (.ifCond .ne 25, 3) := by decide +kernel
theorem dX6_isStuck_14 : decode cX6_isStuck 14 = .ok (.aload_n 0, 1) := by decide +kernel
theorem dX6_isStuck_15 : decode cX6_isStuck 15 = .ok (.iload_n 1, 1) := by decide +kernel
theorem dX6_isStuck_16 : decode cX6_isStuck 16 = .ok (.iload_n 3, 1) := by decide +kernel
theorem dX6_isStuck_17 : decode cX6_isStuck 17 = .ok (.invokevirtual 64, 3) := by decide +kernel
theorem dX6_isStuck_20 : decode cX6_isStuck 20 = .ok (.ifCond .eq 20, 3) := by decide +kernel
theorem dX6_isStuck_23 : decode cX6_isStuck 23 = .ok (.aload_n 0, 1) := by decide +kernel
theorem dX6_isStuck_24 : decode cX6_isStuck 24 = .ok (.getfield 7, 3) := by decide +kernel
theorem dX6_isStuck_27 : decode cX6_isStuck 27 = .ok (.bipush 12, 2) := by decide +kernel
theorem dX6_isStuck_29 : decode cX6_isStuck 29 = .ok (.iload_n 3, 1) := by decide +kernel
theorem dX6_isStuck_30 : decode cX6_isStuck 30 = .ok (.iadd, 1) := by decide +kernel
theorem dX6_isStuck_31 : decode cX6_isStuck 31 = .ok (.iaload, 1) := by decide +kernel
theorem dX6_isStuck_32 : decode cX6_isStuck 32 = .ok (.iconst 1, 1) := by decide +kernel
theorem dX6_isStuck_33 : decode cX6_isStuck 33 = .ok (.if_icmp .ne 7, 3) := by decide +kernel
theorem dX6_isStuck_36 : decode cX6_isStuck 36 = .ok (.iconst 1, 1) := by decide +kernel
theorem dX6_isStuck_37 : decode cX6_isStuck 37 = .ok (.goto 4, 3) := by decide +kernel
theorem dX6_isStuck_40 : decode cX6_isStuck 40 = .ok (.iconst 0, 1) := by decide +kernel
theorem dX6_isStuck_41 : decode cX6_isStuck 41 = .ok (.istore_n 2, 1) := by decide +kernel
theorem dX6_isStuck_42 : decode cX6_isStuck 42 = .ok (.iinc 3 1, 3) := by decide +kernel
theorem dX6_isStuck_45 : decode cX6_isStuck 45 = .ok (.goto (-41), 3) := by decide +kernel
theorem dX6_isStuck_48 : decode cX6_isStuck 48 = .ok (.iload_n 2, 1) := by decide +kernel
theorem dX6_isStuck_49 : decode cX6_isStuck 49 = .ok (.ireturn, 1) := by decide +kernel
theorem dX6_isRight_0 : decode cX6_isRight 0 = .ok (.aload_n 0, 1) := by decide +kernel
theorem dX6_isRight_1 : decode cX6_isRight 1 = .ok (.getfield 7, 3) := by decide +kernel
theorem dX6_isRight_4 : decode cX6_isRight 4 = .ok (.bipush 36, 2) := by decide +kernel
theorem dX6_isRight_6 : decode cX6_isRight 6 = .ok (.iaload, 1) := by decide +kernel
theorem dX6_isRight_7 : decode cX6_isRight 7 = .ok (.iconst 1, 1) := by decide +kernel
theorem dX6_isRight_8 : decode cX6_isRight 8 = .ok (.if_icmp .ne 48, 3) := by decide +kernel
theorem dX6_isRight_11 : decode cX6_isRight 11 = .ok (.aload_n 0, 1) := by decide +kernel
theorem dX6_isRight_12 : decode cX6_isRight 12 = .ok (.getfield 7, 3) := by decide +kernel
theorem dX6_isRight_15 : decode cX6_isRight 15 = .ok (.iconst 0, 1) := by decide +kernel
theorem dX6_isRight_16 : decode cX6_isRight 16 = .ok (.iload_n 1, 1) := by decide +kernel
theorem dX6_isRight_17 : decode cX6_isRight 17 = .ok (.iadd, 1) := by decide +kernel
theorem dX6_isRight_18 : decode cX6_isRight 18 = .ok (.iaload, 1) := by decide +kernel
theorem dX6_isRight_19 : decode cX6_isRight 19 = .ok (.aload_n 0, 1) := by decide +kernel
theorem dX6_isRight_20 : decode cX6_isRight 20 = .ok (.getfield 7, 3) := by decide +kernel
theorem dX6_isRight_23 : decode cX6_isRight 23 = .ok (.bipush 37, 2) := by decide +kernel
theorem dX6_isRight_25 : decode cX6_isRight 25 = .ok (.iload_n 1, 1) := by decide +kernel
theorem dX6_isRight_26 : decode cX6_isRight 26 = .ok (.iadd, 1) := by decide +kernel
theorem dX6_isRight_27 : decode cX6_isRight 27 = .ok (.iaload, 1) := by decide +kernel
theorem dX6_isRight_28 : decode cX6_isRight 28 = .ok (.if_icmp .ne 28, 3) := by decide +kernel
theorem dX6_isRight_31 : decode cX6_isRight 31 = .ok (.aload_n 0, 1) := by decide +kernel
theorem dX6_isRight_32 : decode cX6_isRight 32 = .ok (.getfield 7, 3) := by decide +kernel
theorem dX6_isRight_35 : decode cX6_isRight 35 = .ok (.bipush 6, 2) := by decide +kernel
theorem dX6_isRight_37 : decode cX6_isRight 37 = .ok (.iload_n 1, 1) := by decide +kernel
theorem dX6_isRight_38 : decode cX6_isRight 38 = .ok (.iadd, 1) := by decide +kernel
theorem dX6_isRight_39 : decode cX6_isRight 39 = .ok (.iaload, 1) := by decide +kernel
theorem dX6_isRight_40 : decode cX6_isRight 40 = .ok (.aload_n 0, 1) := by decide +kernel
theorem dX6_isRight_41 : decode cX6_isRight 41 = .ok (.getfield 7, 3) := by decide +kernel
theorem dX6_isRight_44 : decode cX6_isRight 44 = .ok (.bipush 43, 2) := by decide +kernel
theorem dX6_isRight_46 : decode cX6_isRight 46 = .ok (.iload_n 1, 1) := by decide +kernel
theorem dX6_isRight_47 : decode cX6_isRight 47 = .ok (.iadd, 1) := by decide +kernel
theorem dX6_isRight_48 : decode cX6_isRight 48 = .ok (.iaload, 1) := by decide +kernel
theorem dX6_isRight_49 : decode cX6_isRight 49 = .ok (.if_icmp .ne 7, 3) := by decide +kernel
theorem dX6_isRight_52 : decode cX6_isRight 52 = .ok (.iconst 1, 1) := by decide +kernel
theorem dX6_isRight_53 : decode cX6_isRight 53 = .ok (.goto 4, 3) := by decide +kernel
theorem dX6_isRight_56 : decode cX6_isRight 56 = .ok (.iconst 0, 1) := by decide +kernel
theorem dX6_isRight_57 : decode cX6_isRight 57 = .ok (.ireturn, 1) := by decide +kernel
theorem dX6_right_0 : decode cX6_right 0 = .ok (.iconst 0, 1) := by decide +kernel
theorem dX6_right_1 : decode cX6_right 1 = .ok (.istore_n 1, 1) := by decide +kernel
theorem dX6_right_2 : decode cX6_right 2 = .ok (.iconst 0, 1) := by decide +kernel
theorem dX6_right_3 : decode cX6_right 3 = .ok (.istore_n 2, 1) := by decide +kernel
theorem dX6_right_4 : decode cX6_right 4 = .ok (.iload_n 2, 1) := by decide +kernel
theorem dX6_right_5 : decode cX6_right 5 = .ok (.bipush 6, 2) := by decide +kernel
theorem dX6_right_7 : decode cX6_right 7 = .ok (.if_icmp .ge 25, 3) := by decide +kernel
theorem dX6_right_10 : decode cX6_right 10 = .ok (.iload_n 1, 1) := by decide +kernel
theorem dX6_right_11 : decode cX6_right 11 = .ok (.aload_n 0, 1) := by decide +kernel
theorem dX6_right_12 : decode cX6_right 12 = .ok (.iload_n 2, 1) := by decide +kernel
theorem dX6_right_13 : decode cX6_right 13 = .ok (.invokevirtual 72, 3) := by decide +kernel
theorem dX6_right_16 : decode cX6_right 16 = .ok (.ifCond .eq 7, 3) := by decide +kernel
theorem dX6_right_19 : decode cX6_right 19 = .ok (.iconst 1, 1) := by decide +kernel
theorem dX6_right_20 : decode cX6_right 20 = .ok (.goto 4, 3) := by decide +kernel
theorem dX6_right_23 : decode cX6_right 23 = .ok (.iconst 0, 1) := by decide +kernel
theorem dX6_right_24 : decode cX6_right 24 = .ok (.iadd, 1) := by decide +kernel
theorem dX6_right_25 : decode cX6_right 25 = .ok (.istore_n 1, 1) := by decide +kernel
theorem dX6_right_26 : decode cX6_right 26 = .ok (.iinc 2 1, 3) := by decide +kernel
theorem dX6_right_29 : decode cX6_right 29 = .ok (.goto (-25), 3) := by decide +kernel
theorem dX6_right_32 : decode cX6_right 32 = .ok (.iload_n 1, 1) := by decide +kernel
theorem dX6_right_33 : decode cX6_right 33 = .ok (.ireturn, 1) := by decide +kernel
theorem dX6_opens_0 : decode cX6_opens 0 = .ok (.aload_n 0, 1) := by decide +kernel
theorem dX6_opens_1 : decode cX6_opens 1 = .ok (.invokevirtual 76, 3) := by decide +kernel
theorem dX6_opens_4 : decode cX6_opens 4 = .ok (.bipush 6, 2) := by decide +kernel
theorem dX6_opens_6 : decode cX6_opens 6 = .ok (.if_icmp .ne 7, 3) := by decide +kernel
theorem dX6_opens_9 : decode cX6_opens 9 = .ok (.iconst 1, 1) := by decide +kernel
theorem dX6_opens_10 : decode cX6_opens 10 = .ok (.goto 4, 3) := by decide +kernel
theorem dX6_opens_13 : decode cX6_opens 13 = .ok (.iconst 0, 1) := by decide +kernel
theorem dX6_opens_14 : decode cX6_opens 14 = .ok (.ireturn, 1) := by decide +kernel
theorem dX6_countTurn_0 : decode cX6_countTurn 0 = .ok (.iload_n 1, 1) := by decide +kernel
theorem dX6_countTurn_1 : decode cX6_countTurn 1 = .ok (.iconst 5, 1) := by decide +kernel
theorem dX6_countTurn_2 : decode cX6_countTurn 2 = .ok (.irem, 1) := by decide +kernel
theorem dX6_countTurn_3 : decode cX6_countTurn 3 = .ok (.istore_n 2, 1) := by decide +kernel
theorem dX6_countTurn_4 : decode cX6_countTurn 4 = .ok (.aload_n 0, 1) := by decide +kernel
theorem dX6_countTurn_5 : decode cX6_countTurn 5 = .ok (.invokevirtual 80, 3) := by decide +kernel
theorem dX6_countTurn_8 : decode cX6_countTurn 8 = .ok (.istore_n 3, 1) := by decide +kernel
theorem dX6_countTurn_9 : decode cX6_countTurn 9 = .ok (.aload_n 0, 1) := by decide +kernel
theorem dX6_countTurn_10 : decode cX6_countTurn 10 = .ok (.iload_n 1, 1) := by decide +kernel
theorem dX6_countTurn_11 : decode cX6_countTurn 11 = .ok (.invokevirtual 84, 3) := by decide +kernel
theorem dX6_countTurn_14 : decode cX6_countTurn 14 = .ok (.aload_n 0, 1) := by decide +kernel
theorem dX6_countTurn_15 : decode cX6_countTurn 15 = .ok (.getfield 7, 3) := by decide +kernel
theorem dX6_countTurn_18 : decode cX6_countTurn 18 = .ok (.bipush 33, 2) := by decide +kernel
theorem dX6_countTurn_20 : decode cX6_countTurn 20 = .ok (.dup2, 1) := by decide +kernel
theorem dX6_countTurn_21 : decode cX6_countTurn 21 = .ok (.iaload, 1) := by decide +kernel
theorem dX6_countTurn_22 : decode cX6_countTurn 22 = .ok (.iconst 1, 1) := by decide +kernel
theorem dX6_countTurn_23 : decode cX6_countTurn 23 = .ok (.iadd, 1) := by decide +kernel
theorem dX6_countTurn_24 : decode cX6_countTurn 24 = .ok (.iastore, 1) := by decide +kernel
theorem dX6_countTurn_25 : decode cX6_countTurn 25 = .ok (.aload_n 0, 1) := by decide +kernel
theorem dX6_countTurn_26 : decode cX6_countTurn 26 = .ok (.getfield 7, 3) := by decide +kernel
theorem dX6_countTurn_29 : decode cX6_countTurn 29 = .ok (.bipush 28, 2) := by decide +kernel
theorem dX6_countTurn_31 : decode cX6_countTurn 31 = .ok (.iload_n 2, 1) := by decide +kernel
theorem dX6_countTurn_32 : decode cX6_countTurn 32 = .ok (.iadd, 1) := by decide +kernel
theorem dX6_countTurn_33 : decode cX6_countTurn 33 = .ok (.dup2, 1) := by decide +kernel
theorem dX6_countTurn_34 : decode cX6_countTurn 34 = .ok (.iaload, 1) := by decide +kernel
theorem dX6_countTurn_35 : decode cX6_countTurn 35 = .ok (.iconst 1, 1) := by decide +kernel
theorem dX6_countTurn_36 : decode cX6_countTurn 36 = .ok (.iadd, 1) := by decide +kernel
theorem dX6_countTurn_37 : decode cX6_countTurn 37 = .ok (.iastore, 1) := by decide +kernel
theorem dX6_countTurn_38 : decode cX6_countTurn 38 = .ok (.aload_n 0, 1) := by decide +kernel
theorem dX6_countTurn_39 : decode cX6_countTurn 39 = .ok (.getfield 7, 3) := by decide +kernel
theorem dX6_countTurn_42 : decode cX6_countTurn 42 = .ok (.bipush 23, 2) := by decide +kernel
theorem dX6_countTurn_44 : decode cX6_countTurn 44 = .ok (.iload_n 2, 1) := by decide +kernel
theorem dX6_countTurn_45 : decode cX6_countTurn 45 = .ok (.iadd, 1) := by decide +kernel
theorem dX6_countTurn_46 : decode cX6_countTurn 46 = .ok (.iaload, 1) := by decide +kernel
theorem dX6_countTurn_47 : decode cX6_countTurn 47 = .ok (.aload_n 0, 1) := by decide +kernel
theorem dX6_countTurn_48 : decode cX6_countTurn 48 = .ok (.getfield 7, 3) := by decide +kernel
theorem dX6_countTurn_51 : decode cX6_countTurn 51 = .ok (.bipush 18, 2) := by decide +kernel
theorem dX6_countTurn_53 : decode cX6_countTurn 53 = .ok (.iload_n 2, 1) := by decide +kernel
theorem dX6_countTurn_54 : decode cX6_countTurn 54 = .ok (.iadd, 1) := by decide +kernel
theorem dX6_countTurn_55 : decode cX6_countTurn 55 = .ok (.iaload, 1) := by decide +kernel
theorem dX6_countTurn_56 : decode cX6_countTurn 56 = .ok (.invokestatic 88, 3) := by decide +kernel
theorem dX6_countTurn_59 : decode cX6_countTurn 59 = .ok (.imul, 1) := by decide +kernel
theorem dX6_countTurn_60 : decode cX6_countTurn 60 = .ok (.istore 4, 2) := by decide +kernel
theorem dX6_countTurn_62 : decode cX6_countTurn 62 = .ok (.aload_n 0, 1) := by decide +kernel
theorem dX6_countTurn_63 : decode cX6_countTurn 63 = .ok (.getfield 7, 3) := by decide +kernel
theorem dX6_countTurn_66 : decode cX6_countTurn 66 = .ok (.bipush 34, 2) := by decide +kernel
theorem dX6_countTurn_68 : decode cX6_countTurn 68 = .ok (.aload_n 0, 1) := by decide +kernel
theorem dX6_countTurn_69 : decode cX6_countTurn 69 = .ok (.getfield 7, 3) := by decide +kernel
theorem dX6_countTurn_72 : decode cX6_countTurn 72 = .ok (.bipush 34, 2) := by decide +kernel
theorem dX6_countTurn_74 : decode cX6_countTurn 74 = .ok (.iaload, 1) := by decide +kernel
theorem dX6_countTurn_75 : decode cX6_countTurn 75 = .ok (.iload_n 1, 1) := by decide +kernel
theorem dX6_countTurn_76 : decode cX6_countTurn 76 = .ok (.iconst 5, 1) := by decide +kernel
theorem dX6_countTurn_77 : decode cX6_countTurn 77 = .ok (.if_icmp .ge 8, 3) := by decide +kernel
theorem dX6_countTurn_80 : decode cX6_countTurn 80 = .ok (.iload 4, 2) := by decide +kernel
theorem dX6_countTurn_82 : decode cX6_countTurn 82 = .ok (.goto 7, 3) := by decide +kernel
theorem dX6_countTurn_85 : decode cX6_countTurn 85 = .ok (.iconst 4, 1) := by decide +kernel
theorem dX6_countTurn_86 : decode cX6_countTurn 86 = .ok (.iload 4, 2) := by decide +kernel
theorem dX6_countTurn_88 : decode cX6_countTurn 88 = .ok (.imul, 1) := by decide +kernel
theorem dX6_countTurn_89 : decode cX6_countTurn 89 = .ok (.iadd, 1) := by decide +kernel
theorem dX6_countTurn_90 : decode cX6_countTurn 90 = .ok (.iconst 5, 1) := by decide +kernel
theorem dX6_countTurn_91 : decode cX6_countTurn 91 = .ok (.irem, 1) := by decide +kernel
theorem dX6_countTurn_92 : decode cX6_countTurn 92 = .ok (.iastore, 1) := by decide +kernel
theorem dX6_countTurn_93 : decode cX6_countTurn 93 = .ok (.aload_n 0, 1) := by decide +kernel
theorem dX6_countTurn_94 : decode cX6_countTurn 94 = .ok (.getfield 7, 3) := by decide +kernel
theorem dX6_countTurn_97 : decode cX6_countTurn 97 = .ok (.bipush 35, 2) := by decide +kernel
theorem dX6_countTurn_99 : decode cX6_countTurn 99 = .ok (.dup2, 1) := by decide +kernel
theorem dX6_countTurn_100 : decode cX6_countTurn 100 = .ok (.iaload, 1) := by decide +kernel
theorem dX6_countTurn_101 : decode cX6_countTurn 101 = .ok (.iload_n 3, 1) := by decide +kernel
theorem dX6_countTurn_102 : decode cX6_countTurn 102 = .ok (.ifCond .ne 14, 3) := by decide +kernel
theorem dX6_countTurn_105 : decode cX6_countTurn 105 = .ok (.aload_n 0, 1) := by decide +kernel
theorem dX6_countTurn_106 : decode cX6_countTurn 106 = .ok (.invokevirtual 80, 3) := by decide +kernel
theorem dX6_countTurn_109 : decode cX6_countTurn 109 = .ok (.ifCond .eq 7, 3) := by decide +kernel
theorem dX6_countTurn_112 : decode cX6_countTurn 112 = .ok (.iconst 1, 1) := by decide +kernel
theorem dX6_countTurn_113 : decode cX6_countTurn 113 = .ok (.goto 4, 3) := by decide +kernel
theorem dX6_countTurn_116 : decode cX6_countTurn 116 = .ok (.iconst 0, 1) := by decide +kernel
theorem dX6_countTurn_117 : decode cX6_countTurn 117 = .ok (.iadd, 1) := by decide +kernel
theorem dX6_countTurn_118 : decode cX6_countTurn 118 = .ok (.iastore, 1) := by decide +kernel
theorem dX6_countTurn_119 : decode cX6_countTurn 119 = .ok (.return_, 1) := by decide +kernel
theorem dX6_turnNow_0 : decode cX6_turnNow 0 = .ok (.aload_n 0, 1) := by decide +kernel
theorem dX6_turnNow_1 : decode cX6_turnNow 1 = .ok (.iload_n 1, 1) := by decide +kernel
theorem dX6_turnNow_2 : decode cX6_turnNow 2 = .ok (.invokestatic 92, 3) := by decide +kernel
theorem dX6_turnNow_5 : decode cX6_turnNow 5 = .ok (.ifCond .ne 7, 3) := by decide +kernel
theorem dX6_turnNow_8 : decode cX6_turnNow 8 = .ok (.iconst 1, 1) := by decide +kernel
theorem dX6_turnNow_9 : decode cX6_turnNow 9 = .ok (.goto 16, 3) := by decide +kernel
theorem dX6_turnNow_12 : decode cX6_turnNow 12 = .ok (.aload_n 0, 1) := by decide +kernel
theorem dX6_turnNow_13 : decode cX6_turnNow 13 = .ok (.iload_n 1, 1) := by decide +kernel
theorem dX6_turnNow_14 : decode cX6_turnNow 14 = .ok (.invokevirtual 95, 3) := by decide +kernel
theorem dX6_turnNow_17 : decode cX6_turnNow 17 = .ok (.ifCond .eq 7, 3) := by decide +kernel
theorem dX6_turnNow_20 : decode cX6_turnNow 20 = .ok (.iconst 2, 1) := by decide +kernel
theorem dX6_turnNow_21 : decode cX6_turnNow 21 = .ok (.goto 4, 3) := by decide +kernel
theorem dX6_turnNow_24 : decode cX6_turnNow 24 = .ok (.iconst 0, 1) := by decide +kernel
theorem dX6_turnNow_25 : decode cX6_turnNow 25 = .ok (.putfield 46, 3) := by decide +kernel
theorem dX6_turnNow_28 : decode cX6_turnNow 28 = .ok (.aload_n 0, 1) := by decide +kernel
theorem dX6_turnNow_29 : decode cX6_turnNow 29 = .ok (.getfield 46, 3) := by decide +kernel
theorem dX6_turnNow_32 : decode cX6_turnNow 32 = .ok (.ifCond .le 5, 3) := by decide +kernel
theorem dX6_turnNow_35 : decode cX6_turnNow 35 = .ok (.iconst 0, 1) := by decide +kernel
theorem dX6_turnNow_36 : decode cX6_turnNow 36 = .ok (.ireturn, 1) := by decide +kernel
theorem dX6_turnNow_37 : decode cX6_turnNow 37 = .ok (.aload_n 0, 1) := by decide +kernel
theorem dX6_turnNow_38 : decode cX6_turnNow 38 = .ok (.invokevirtual 61, 3) := by decide +kernel
theorem dX6_turnNow_41 : decode cX6_turnNow 41 = .ok (.aload_n 0, 1) := by decide +kernel
theorem dX6_turnNow_42 : decode cX6_turnNow 42 = .ok (.iload_n 2, 1) := by decide +kernel
theorem dX6_turnNow_43 : decode cX6_turnNow 43 = .ok (.invokevirtual 98, 3) := by decide +kernel
theorem dX6_turnNow_46 : decode cX6_turnNow 46 = .ok (.aload_n 0, 1) := by decide +kernel
theorem dX6_turnNow_47 : decode cX6_turnNow 47 = .ok (.invokevirtual 76, 3) := by decide +kernel
theorem dX6_turnNow_50 : decode cX6_turnNow 50 = .ok (.ireturn, 1) := by decide +kernel
theorem dX6_turn_0 : decode cX6_turn 0 = .ok (.aload_n 0, 1) := by decide +kernel
theorem dX6_turn_1 : decode cX6_turn 1 = .ok (.iload_n 1, 1) := by decide +kernel
theorem dX6_turn_2 : decode cX6_turn 2 = .ok (.iload_n 1, 1) := by decide +kernel
theorem dX6_turn_3 : decode cX6_turn 3 = .ok (.invokevirtual 101, 3) := by decide +kernel
theorem dX6_turn_6 : decode cX6_turn 6 = .ok (.ireturn, 1) := by decide +kernel
theorem dX6_back_0 : decode cX6_back 0 = .ok (.aload_n 0, 1) := by decide +kernel
theorem dX6_back_1 : decode cX6_back 1 = .ok (.iload_n 1, 1) := by decide +kernel
theorem dX6_back_2 : decode cX6_back 2 = .ok (.iconst 5, 1) := by decide +kernel
theorem dX6_back_3 : decode cX6_back 3 = .ok (.iload_n 1, 1) := by decide +kernel
theorem dX6_back_4 : decode cX6_back 4 = .ok (.iadd, 1) := by decide +kernel
theorem dX6_back_5 : decode cX6_back 5 = .ok (.invokevirtual 101, 3) := by decide +kernel
theorem dX6_back_8 : decode cX6_back 8 = .ok (.ireturn, 1) := by decide +kernel
theorem dX6_word_0 : decode cX6_word 0 = .ok (.aload_n 0, 1) := by decide +kernel
theorem dX6_word_1 : decode cX6_word 1 = .ok (.aload_n 0, 1) := by decide +kernel
theorem dX6_word_2 : decode cX6_word 2 = .ok (.invokevirtual 104, 3) := by decide +kernel
theorem dX6_word_5 : decode cX6_word 5 = .ok (.ifCond .ne 7, 3) := by decide +kernel
theorem dX6_word_8 : decode cX6_word 8 = .ok (.iconst 1, 1) := by decide +kernel
theorem dX6_word_9 : decode cX6_word 9 = .ok (.goto 18, 3) := by decide +kernel
theorem dX6_word_12 : decode cX6_word 12 = .ok (.aload_n 0, 1) := by decide +kernel
theorem dX6_word_13 : decode cX6_word 13 = .ok (.invokevirtual 107, 3) := by decide +kernel
theorem dX6_word_16 : decode cX6_word 16 = .ok (.sipush 500, 3) := by decide +kernel
theorem dX6_word_19 : decode cX6_word 19 = .ok (.if_icmp .le 7, 3) := by decide +kernel
theorem dX6_word_22 : decode cX6_word 22 = .ok (.iconst 2, 1) := by decide +kernel
theorem dX6_word_23 : decode cX6_word 23 = .ok (.goto 4, 3) := by decide +kernel
theorem dX6_word_26 : decode cX6_word 26 = .ok (.iconst 0, 1) := by decide +kernel
theorem dX6_word_27 : decode cX6_word 27 = .ok (.putfield 46, 3) := by decide +kernel
theorem dX6_word_30 : decode cX6_word 30 = .ok (.aload_n 0, 1) := by decide +kernel
theorem dX6_word_31 : decode cX6_word 31 = .ok (.getfield 46, 3) := by decide +kernel
theorem dX6_word_34 : decode cX6_word 34 = .ok (.ifCond .le 5, 3) := by decide +kernel
theorem dX6_word_37 : decode cX6_word 37 = .ok (.iconst 0, 1) := by decide +kernel
theorem dX6_word_38 : decode cX6_word 38 = .ok (.ireturn, 1) := by decide +kernel
theorem dX6_word_39 : decode cX6_word 39 = .ok (.aload_n 0, 1) := by decide +kernel
theorem dX6_word_40 : decode cX6_word 40 = .ok (.invokevirtual 61, 3) := by decide +kernel
theorem dX6_word_43 : decode cX6_word 43 = .ok (.iconst 0, 1) := by decide +kernel
theorem dX6_word_44 : decode cX6_word 44 = .ok (.istore_n 1, 1) := by decide +kernel
theorem dX6_word_45 : decode cX6_word 45 = .ok (.iload_n 1, 1) := by decide +kernel
theorem dX6_word_46 : decode cX6_word 46 = .ok (.aload_n 0, 1) := by decide +kernel
theorem dX6_word_47 : decode cX6_word 47 = .ok (.getfield 110, 3) := by decide +kernel
theorem dX6_word_50 : decode cX6_word 50 = .ok (.if_icmp .ge 34, 3) := by decide +kernel
theorem dX6_word_53 : decode cX6_word 53 = .ok (.aload_n 0, 1) := by decide +kernel
theorem dX6_word_54 : decode cX6_word 54 = .ok (.aload_n 0, 1) := by decide +kernel
theorem dX6_word_55 : decode cX6_word 55 = .ok (.getfield 28, 3) := by decide +kernel
theorem dX6_word_58 : decode cX6_word 58 = .ok (.iload_n 1, 1) := by decide +kernel
theorem dX6_word_59 : decode cX6_word 59 = .ok (.iaload, 1) := by decide +kernel
theorem dX6_word_60 : decode cX6_word 60 = .ok (.iconst 5, 1) := by decide +kernel
theorem dX6_word_61 : decode cX6_word 61 = .ok (.irem, 1) := by decide +kernel
theorem dX6_word_62 : decode cX6_word 62 = .ok (.invokevirtual 95, 3) := by decide +kernel
theorem dX6_word_65 : decode cX6_word 65 = .ok (.ifCond .ne 19, 3) := by decide +kernel
theorem dX6_word_68 : decode cX6_word 68 = .ok (.aload_n 0, 1) := by decide +kernel
theorem dX6_word_69 : decode cX6_word 69 = .ok (.aload_n 0, 1) := by decide +kernel
theorem dX6_word_70 : decode cX6_word 70 = .ok (.getfield 28, 3) := by decide +kernel
theorem dX6_word_73 : decode cX6_word 73 = .ok (.iload_n 1, 1) := by decide +kernel
theorem dX6_word_74 : decode cX6_word 74 = .ok (.iaload, 1) := by decide +kernel
theorem dX6_word_75 : decode cX6_word 75 = .ok (.invokevirtual 98, 3) := by decide +kernel
theorem dX6_word_78 : decode cX6_word 78 = .ok (.iinc 1 1, 3) := by decide +kernel
theorem dX6_word_81 : decode cX6_word 81 = .ok (.goto (-36), 3) := by decide +kernel
theorem dX6_word_84 : decode cX6_word 84 = .ok (.aload_n 0, 1) := by decide +kernel
theorem dX6_word_85 : decode cX6_word 85 = .ok (.iconst 0, 1) := by decide +kernel
theorem dX6_word_86 : decode cX6_word 86 = .ok (.putfield 113, 3) := by decide +kernel
theorem dX6_word_89 : decode cX6_word 89 = .ok (.iload_n 1, 1) := by decide +kernel
theorem dX6_word_90 : decode cX6_word 90 = .ok (.ireturn, 1) := by decide +kernel
theorem dX6_away_0 : decode cX6_away 0 = .ok (.iconst 0, 1) := by decide +kernel
theorem dX6_away_1 : decode cX6_away 1 = .ok (.istore_n 1, 1) := by decide +kernel
theorem dX6_away_2 : decode cX6_away 2 = .ok (.iconst 0, 1) := by decide +kernel
theorem dX6_away_3 : decode cX6_away 3 = .ok (.istore_n 2, 1) := by decide +kernel
theorem dX6_away_4 : decode cX6_away 4 = .ok (.iload_n 2, 1) := by decide +kernel
theorem dX6_away_5 : decode cX6_away 5 = .ok (.bipush 6, 2) := by decide +kernel
theorem dX6_away_7 : decode cX6_away 7 = .ok (.if_icmp .ge 41, 3) := by decide +kernel
theorem dX6_away_10 : decode cX6_away 10 = .ok (.iload_n 1, 1) := by decide +kernel
theorem dX6_away_11 : decode cX6_away 11 = .ok (.aload_n 0, 1) := by decide +kernel
theorem dX6_away_12 : decode cX6_away 12 = .ok (.getfield 7, 3) := by decide +kernel
theorem dX6_away_15 : decode cX6_away 15 = .ok (.iconst 0, 1) := by decide +kernel
theorem dX6_away_16 : decode cX6_away 16 = .ok (.iload_n 2, 1) := by decide +kernel
theorem dX6_away_17 : decode cX6_away 17 = .ok (.iadd, 1) := by decide +kernel
theorem dX6_away_18 : decode cX6_away 18 = .ok (.iaload, 1) := by decide +kernel
theorem dX6_away_19 : decode cX6_away 19 = .ok (.iload_n 2, 1) := by decide +kernel
theorem dX6_away_20 : decode cX6_away 20 = .ok (.if_icmp .ne 15, 3) := by decide +kernel
theorem dX6_away_23 : decode cX6_away 23 = .ok (.aload_n 0, 1) := by decide +kernel
theorem dX6_away_24 : decode cX6_away 24 = .ok (.getfield 7, 3) := by decide +kernel
theorem dX6_away_27 : decode cX6_away 27 = .ok (.bipush 6, 2) := by decide +kernel
theorem dX6_away_29 : decode cX6_away 29 = .ok (.iload_n 2, 1) := by decide +kernel
theorem dX6_away_30 : decode cX6_away 30 = .ok (.iadd, 1) := by decide +kernel
theorem dX6_away_31 : decode cX6_away 31 = .ok (.iaload, 1) := by decide +kernel
theorem dX6_away_32 : decode cX6_away 32 = .ok (.ifCond .eq 7, 3) := by decide +kernel
theorem dX6_away_35 : decode cX6_away 35 = .ok (.iconst 1, 1) := by decide +kernel
theorem dX6_away_36 : decode cX6_away 36 = .ok (.goto 4, 3) := by decide +kernel
theorem dX6_away_39 : decode cX6_away 39 = .ok (.iconst 0, 1) := by decide +kernel
theorem dX6_away_40 : decode cX6_away 40 = .ok (.iadd, 1) := by decide +kernel
theorem dX6_away_41 : decode cX6_away 41 = .ok (.istore_n 1, 1) := by decide +kernel
theorem dX6_away_42 : decode cX6_away 42 = .ok (.iinc 2 1, 3) := by decide +kernel
theorem dX6_away_45 : decode cX6_away 45 = .ok (.goto (-41), 3) := by decide +kernel
theorem dX6_away_48 : decode cX6_away 48 = .ok (.iload_n 1, 1) := by decide +kernel
theorem dX6_away_49 : decode cX6_away 49 = .ok (.ireturn, 1) := by decide +kernel
theorem dX6_home_0 : decode cX6_home 0 = .ok (.aload_n 0, 1) := by decide +kernel
theorem dX6_home_1 : decode cX6_home 1 = .ok (.iconst 0, 1) := by decide +kernel
theorem dX6_home_2 : decode cX6_home 2 = .ok (.putfield 46, 3) := by decide +kernel
theorem dX6_home_5 : decode cX6_home 5 = .ok (.aload_n 0, 1) := by decide +kernel
theorem dX6_home_6 : decode cX6_home 6 = .ok (.invokevirtual 61, 3) := by decide +kernel
theorem dX6_home_9 : decode cX6_home 9 = .ok (.aload_n 0, 1) := by decide +kernel
theorem dX6_home_10 : decode cX6_home 10 = .ok (.invokevirtual 116, 3) := by decide +kernel
theorem dX6_home_13 : decode cX6_home 13 = .ok (.istore_n 1, 1) := by decide +kernel
theorem dX6_home_14 : decode cX6_home 14 = .ok (.aload_n 0, 1) := by decide +kernel
theorem dX6_home_15 : decode cX6_home 15 = .ok (.invokevirtual 119, 3) := by decide +kernel
theorem dX6_home_18 : decode cX6_home 18 = .ok (.aload_n 0, 1) := by decide +kernel
theorem dX6_home_19 : decode cX6_home 19 = .ok (.getfield 7, 3) := by decide +kernel
theorem dX6_home_22 : decode cX6_home 22 = .ok (.bipush 34, 2) := by decide +kernel
theorem dX6_home_24 : decode cX6_home 24 = .ok (.iconst 0, 1) := by decide +kernel
theorem dX6_home_25 : decode cX6_home 25 = .ok (.iastore, 1) := by decide +kernel
theorem dX6_home_26 : decode cX6_home 26 = .ok (.iload_n 1, 1) := by decide +kernel
theorem dX6_home_27 : decode cX6_home 27 = .ok (.ireturn, 1) := by decide +kernel
theorem dX6_cut_0 : decode cX6_cut 0 = .ok (.iload_n 2, 1) := by decide +kernel
theorem dX6_cut_1 : decode cX6_cut 1 = .ok (.iconst 0, 1) := by decide +kernel
theorem dX6_cut_2 : decode cX6_cut 2 = .ok (.bipush 63, 2) := by decide +kernel
theorem dX6_cut_4 : decode cX6_cut 4 = .ok (.invokestatic 50, 3) := by decide +kernel
theorem dX6_cut_7 : decode cX6_cut 7 = .ok (.ifCond .eq 24, 3) := by decide +kernel
theorem dX6_cut_10 : decode cX6_cut 10 = .ok (.iload_n 2, 1) := by decide +kernel
theorem dX6_cut_11 : decode cX6_cut 11 = .ok (.invokestatic 88, 3) := by decide +kernel
theorem dX6_cut_14 : decode cX6_cut 14 = .ok (.iconst 1, 1) := by decide +kernel
theorem dX6_cut_15 : decode cX6_cut 15 = .ok (.if_icmp .le 16, 3) := by decide +kernel
theorem dX6_cut_18 : decode cX6_cut 18 = .ok (.iload_n 3, 1) := by decide +kernel
theorem dX6_cut_19 : decode cX6_cut 19 = .ok (.iconst 0, 1) := by decide +kernel
theorem dX6_cut_20 : decode cX6_cut 20 = .ok (.iconst 4, 1) := by decide +kernel
theorem dX6_cut_21 : decode cX6_cut 21 = .ok (.invokestatic 50, 3) := by decide +kernel
theorem dX6_cut_24 : decode cX6_cut 24 = .ok (.ifCond .eq 7, 3) := by decide +kernel
theorem dX6_cut_27 : decode cX6_cut 27 = .ok (.iconst 1, 1) := by decide +kernel
theorem dX6_cut_28 : decode cX6_cut 28 = .ok (.goto 4, 3) := by decide +kernel
theorem dX6_cut_31 : decode cX6_cut 31 = .ok (.iconst 0, 1) := by decide +kernel
theorem dX6_cut_32 : decode cX6_cut 32 = .ok (.istore 4, 2) := by decide +kernel
theorem dX6_cut_34 : decode cX6_cut 34 = .ok (.aload_n 0, 1) := by decide +kernel
theorem dX6_cut_35 : decode cX6_cut 35 = .ok (.iload_n 1, 1) := by decide +kernel
theorem dX6_cut_36 : decode cX6_cut 36 = .ok (.invokestatic 92, 3) := by decide +kernel
theorem dX6_cut_39 : decode cX6_cut 39 = .ok (.ifCond .ne 7, 3) := by decide +kernel
theorem dX6_cut_42 : decode cX6_cut 42 = .ok (.iconst 1, 1) := by decide +kernel
theorem dX6_cut_43 : decode cX6_cut 43 = .ok (.goto 13, 3) := by decide +kernel
theorem dX6_cut_46 : decode cX6_cut 46 = .ok (.iload 4, 2) := by decide +kernel
theorem dX6_cut_48 : decode cX6_cut 48 = .ok (.ifCond .eq 7, 3) := by decide +kernel
theorem dX6_cut_51 : decode cX6_cut 51 = .ok (.iconst 0, 1) := by decide +kernel
theorem dX6_cut_52 : decode cX6_cut 52 = .ok (.goto 4, 3) := by decide +kernel
theorem dX6_cut_55 : decode cX6_cut 55 = .ok (.iconst 2, 1) := by decide +kernel
theorem dX6_cut_56 : decode cX6_cut 56 = .ok (.putfield 46, 3) := by decide +kernel
theorem dX6_cut_59 : decode cX6_cut 59 = .ok (.aload_n 0, 1) := by decide +kernel
theorem dX6_cut_60 : decode cX6_cut 60 = .ok (.getfield 46, 3) := by decide +kernel
theorem dX6_cut_63 : decode cX6_cut 63 = .ok (.ifCond .le 5, 3) := by decide +kernel
theorem dX6_cut_66 : decode cX6_cut 66 = .ok (.iconst 0, 1) := by decide +kernel
theorem dX6_cut_67 : decode cX6_cut 67 = .ok (.ireturn, 1) := by decide +kernel
theorem dX6_cut_68 : decode cX6_cut 68 = .ok (.aload_n 0, 1) := by decide +kernel
theorem dX6_cut_69 : decode cX6_cut 69 = .ok (.invokevirtual 61, 3) := by decide +kernel
theorem dX6_cut_72 : decode cX6_cut 72 = .ok (.aload_n 0, 1) := by decide +kernel
theorem dX6_cut_73 : decode cX6_cut 73 = .ok (.getfield 7, 3) := by decide +kernel
theorem dX6_cut_76 : decode cX6_cut 76 = .ok (.bipush 18, 2) := by decide +kernel
theorem dX6_cut_78 : decode cX6_cut 78 = .ok (.iload_n 1, 1) := by decide +kernel
theorem dX6_cut_79 : decode cX6_cut 79 = .ok (.iadd, 1) := by decide +kernel
theorem dX6_cut_80 : decode cX6_cut 80 = .ok (.iaload, 1) := by decide +kernel
theorem dX6_cut_81 : decode cX6_cut 81 = .ok (.istore 5, 2) := by decide +kernel
theorem dX6_cut_83 : decode cX6_cut 83 = .ok (.aload_n 0, 1) := by decide +kernel
theorem dX6_cut_84 : decode cX6_cut 84 = .ok (.getfield 7, 3) := by decide +kernel
theorem dX6_cut_87 : decode cX6_cut 87 = .ok (.bipush 18, 2) := by decide +kernel
theorem dX6_cut_89 : decode cX6_cut 89 = .ok (.iload_n 1, 1) := by decide +kernel
theorem dX6_cut_90 : decode cX6_cut 90 = .ok (.iadd, 1) := by decide +kernel
theorem dX6_cut_91 : decode cX6_cut 91 = .ok (.iload_n 2, 1) := by decide +kernel
theorem dX6_cut_92 : decode cX6_cut 92 = .ok (.iastore, 1) := by decide +kernel
theorem dX6_cut_93 : decode cX6_cut 93 = .ok (.aload_n 0, 1) := by decide +kernel
theorem dX6_cut_94 : decode cX6_cut 94 = .ok (.getfield 7, 3) := by decide +kernel
theorem dX6_cut_97 : decode cX6_cut 97 = .ok (.bipush 23, 2) := by decide +kernel
theorem dX6_cut_99 : decode cX6_cut 99 = .ok (.iload_n 1, 1) := by decide +kernel
theorem dX6_cut_100 : decode cX6_cut 100 = .ok (.iadd, 1) := by decide +kernel
theorem dX6_cut_101 : decode cX6_cut 101 = .ok (.iload_n 3, 1) := by decide +kernel
theorem dX6_cut_102 : decode cX6_cut 102 = .ok (.iastore, 1) := by decide +kernel
theorem dX6_cut_103 : decode cX6_cut 103 = .ok (.iload 5, 2) := by decide +kernel
theorem dX6_cut_105 : decode cX6_cut 105 = .ok (.ireturn, 1) := by decide +kernel
theorem dX6_stuckKeys_0 : decode cX6_stuckKeys 0 = .ok (.iconst 0, 1) := by decide +kernel
theorem dX6_stuckKeys_1 : decode cX6_stuckKeys 1 = .ok (.istore_n 1, 1) := by decide +kernel
theorem dX6_stuckKeys_2 : decode cX6_stuckKeys 2 = .ok (.iconst 0, 1) := by decide +kernel
theorem dX6_stuckKeys_3 : decode cX6_stuckKeys 3 = .ok (.istore_n 2, 1) := by decide +kernel
theorem dX6_stuckKeys_4 : decode cX6_stuckKeys 4 = .ok (.iload_n 2, 1) := by decide +kernel
theorem dX6_stuckKeys_5 : decode cX6_stuckKeys 5 = .ok (.iconst 5, 1) := by decide +kernel
theorem dX6_stuckKeys_6 : decode cX6_stuckKeys 6 = .ok (.if_icmp .ge 25, 3) := by decide +kernel
theorem dX6_stuckKeys_9 : decode cX6_stuckKeys 9 = .ok (.iload_n 1, 1) := by decide +kernel
theorem dX6_stuckKeys_10 : decode cX6_stuckKeys 10 = .ok (.aload_n 0, 1) := by decide +kernel
theorem dX6_stuckKeys_11 : decode cX6_stuckKeys 11 = .ok (.iload_n 2, 1) := by decide +kernel
theorem dX6_stuckKeys_12 : decode cX6_stuckKeys 12 = .ok (.invokevirtual 95, 3) := by decide +kernel
theorem dX6_stuckKeys_15 : decode cX6_stuckKeys 15 = .ok (.ifCond .eq 7, 3) := by decide +kernel
theorem dX6_stuckKeys_18 : decode cX6_stuckKeys 18 = .ok (.iconst 1, 1) := by decide +kernel
theorem dX6_stuckKeys_19 : decode cX6_stuckKeys 19 = .ok (.goto 4, 3) := by decide +kernel
theorem dX6_stuckKeys_22 : decode cX6_stuckKeys 22 = .ok (.iconst 0, 1) := by decide +kernel
theorem dX6_stuckKeys_23 : decode cX6_stuckKeys 23 = .ok (.iadd, 1) := by decide +kernel
theorem dX6_stuckKeys_24 : decode cX6_stuckKeys 24 = .ok (.istore_n 1, 1) := by decide +kernel
theorem dX6_stuckKeys_25 : decode cX6_stuckKeys 25 = .ok (.iinc 2 1, 3) := by decide +kernel
theorem dX6_stuckKeys_28 : decode cX6_stuckKeys 28 = .ok (.goto (-24), 3) := by decide +kernel
theorem dX6_stuckKeys_31 : decode cX6_stuckKeys 31 = .ok (.iload_n 1, 1) := by decide +kernel
theorem dX6_stuckKeys_32 : decode cX6_stuckKeys 32 = .ok (.ireturn, 1) := by decide +kernel
theorem dX6_stick_0 : decode cX6_stick 0 = .ok (.aload_n 0, 1) := by decide +kernel
theorem dX6_stick_1 : decode cX6_stick 1 = .ok (.iload_n 1, 1) := by decide +kernel
theorem dX6_stick_2 : decode cX6_stick 2 = .ok (.invokestatic 122, 3) := by decide +kernel
theorem dX6_stick_5 : decode cX6_stick 5 = .ok (.ifCond .eq 7, 3) := by decide +kernel
theorem dX6_stick_8 : decode cX6_stick 8 = .ok (.iconst 0, 1) := by decide +kernel
theorem dX6_stick_9 : decode cX6_stick 9 = .ok (.goto 4, 3) := by decide +kernel
theorem dX6_stick_12 : decode cX6_stick 12 = .ok (.iconst 1, 1) := by decide +kernel
theorem dX6_stick_13 : decode cX6_stick 13 = .ok (.putfield 46, 3) := by decide +kernel
theorem dX6_stick_16 : decode cX6_stick 16 = .ok (.aload_n 0, 1) := by decide +kernel
theorem dX6_stick_17 : decode cX6_stick 17 = .ok (.getfield 46, 3) := by decide +kernel
theorem dX6_stick_20 : decode cX6_stick 20 = .ok (.ifCond .le 5, 3) := by decide +kernel
theorem dX6_stick_23 : decode cX6_stick 23 = .ok (.iconst 0, 1) := by decide +kernel
theorem dX6_stick_24 : decode cX6_stick 24 = .ok (.ireturn, 1) := by decide +kernel
theorem dX6_stick_25 : decode cX6_stick 25 = .ok (.aload_n 0, 1) := by decide +kernel
theorem dX6_stick_26 : decode cX6_stick 26 = .ok (.invokevirtual 61, 3) := by decide +kernel
theorem dX6_stick_29 : decode cX6_stick 29 = .ok (.aload_n 0, 1) := by decide +kernel
theorem dX6_stick_30 : decode cX6_stick 30 = .ok (.getfield 7, 3) := by decide +kernel
theorem dX6_stick_33 : decode cX6_stick 33 = .ok (.bipush 12, 2) := by decide +kernel
theorem dX6_stick_35 : decode cX6_stick 35 = .ok (.iload_n 1, 1) := by decide +kernel
theorem dX6_stick_36 : decode cX6_stick 36 = .ok (.iadd, 1) := by decide +kernel
theorem dX6_stick_37 : decode cX6_stick 37 = .ok (.iconst 1, 1) := by decide +kernel
theorem dX6_stick_38 : decode cX6_stick 38 = .ok (.aload_n 0, 1) := by decide +kernel
theorem dX6_stick_39 : decode cX6_stick 39 = .ok (.getfield 7, 3) := by decide +kernel
theorem dX6_stick_42 : decode cX6_stick 42 = .ok (.bipush 12, 2) := by decide +kernel
theorem dX6_stick_44 : decode cX6_stick 44 = .ok (.iload_n 1, 1) := by decide +kernel
theorem dX6_stick_45 : decode cX6_stick 45 = .ok (.iadd, 1) := by decide +kernel
theorem dX6_stick_46 : decode cX6_stick 46 = .ok (.iaload, 1) := by decide +kernel
theorem dX6_stick_47 : decode cX6_stick 47 = .ok (.isub, 1) := by decide +kernel
theorem dX6_stick_48 : decode cX6_stick 48 = .ok (.iastore, 1) := by decide +kernel
theorem dX6_stick_49 : decode cX6_stick 49 = .ok (.aload_n 0, 1) := by decide +kernel
theorem dX6_stick_50 : decode cX6_stick 50 = .ok (.invokevirtual 125, 3) := by decide +kernel
theorem dX6_stick_53 : decode cX6_stick 53 = .ok (.ireturn, 1) := by decide +kernel
theorem dX6_notches_0 : decode cX6_notches 0 = .ok (.iconst 0, 1) := by decide +kernel
theorem dX6_notches_1 : decode cX6_notches 1 = .ok (.istore_n 1, 1) := by decide +kernel
theorem dX6_notches_2 : decode cX6_notches 2 = .ok (.iconst 0, 1) := by decide +kernel
theorem dX6_notches_3 : decode cX6_notches 3 = .ok (.istore_n 2, 1) := by decide +kernel
theorem dX6_notches_4 : decode cX6_notches 4 = .ok (.iload_n 2, 1) := by decide +kernel
theorem dX6_notches_5 : decode cX6_notches 5 = .ok (.bipush 6, 2) := by decide +kernel
theorem dX6_notches_7 : decode cX6_notches 7 = .ok (.if_icmp .ge 21, 3) := by decide +kernel
theorem dX6_notches_10 : decode cX6_notches 10 = .ok (.iload_n 1, 1) := by decide +kernel
theorem dX6_notches_11 : decode cX6_notches 11 = .ok (.aload_n 0, 1) := by decide +kernel
theorem dX6_notches_12 : decode cX6_notches 12 = .ok (.getfield 7, 3) := by decide +kernel
theorem dX6_notches_15 : decode cX6_notches 15 = .ok (.bipush 6, 2) := by decide +kernel
theorem dX6_notches_17 : decode cX6_notches 17 = .ok (.iload_n 2, 1) := by decide +kernel
theorem dX6_notches_18 : decode cX6_notches 18 = .ok (.iadd, 1) := by decide +kernel
theorem dX6_notches_19 : decode cX6_notches 19 = .ok (.iaload, 1) := by decide +kernel
theorem dX6_notches_20 : decode cX6_notches 20 = .ok (.iadd, 1) := by decide +kernel
theorem dX6_notches_21 : decode cX6_notches 21 = .ok (.istore_n 1, 1) := by decide +kernel
theorem dX6_notches_22 : decode cX6_notches 22 = .ok (.iinc 2 1, 3) := by decide +kernel
theorem dX6_notches_25 : decode cX6_notches 25 = .ok (.goto (-21), 3) := by decide +kernel
theorem dX6_notches_28 : decode cX6_notches 28 = .ok (.iload_n 1, 1) := by decide +kernel
theorem dX6_notches_29 : decode cX6_notches 29 = .ok (.ireturn, 1) := by decide +kernel
theorem dX6_learn_0 : decode cX6_learn 0 = .ok (.aload_n 0, 1) := by decide +kernel
theorem dX6_learn_1 : decode cX6_learn 1 = .ok (.iconst 0, 1) := by decide +kernel
theorem dX6_learn_2 : decode cX6_learn 2 = .ok (.putfield 46, 3) := by decide +kernel
theorem dX6_learn_5 : decode cX6_learn 5 = .ok (.aload_n 0, 1) := by decide +kernel
theorem dX6_learn_6 : decode cX6_learn 6 = .ok (.invokevirtual 61, 3) := by decide +kernel
theorem dX6_learn_9 : decode cX6_learn 9 = .ok (.aload_n 0, 1) := by decide +kernel
theorem dX6_learn_10 : decode cX6_learn 10 = .ok (.getfield 7, 3) := by decide +kernel
theorem dX6_learn_13 : decode cX6_learn 13 = .ok (.bipush 36, 2) := by decide +kernel
theorem dX6_learn_15 : decode cX6_learn 15 = .ok (.iconst 1, 1) := by decide +kernel
theorem dX6_learn_16 : decode cX6_learn 16 = .ok (.iastore, 1) := by decide +kernel
theorem dX6_learn_17 : decode cX6_learn 17 = .ok (.iconst 0, 1) := by decide +kernel
theorem dX6_learn_18 : decode cX6_learn 18 = .ok (.istore_n 1, 1) := by decide +kernel
theorem dX6_learn_19 : decode cX6_learn 19 = .ok (.iload_n 1, 1) := by decide +kernel
theorem dX6_learn_20 : decode cX6_learn 20 = .ok (.bipush 6, 2) := by decide +kernel
theorem dX6_learn_22 : decode cX6_learn 22 = .ok (.if_icmp .ge 44, 3) := by decide +kernel
theorem dX6_learn_25 : decode cX6_learn 25 = .ok (.aload_n 0, 1) := by decide +kernel
theorem dX6_learn_26 : decode cX6_learn 26 = .ok (.getfield 7, 3) := by decide +kernel
theorem dX6_learn_29 : decode cX6_learn 29 = .ok (.bipush 37, 2) := by decide +kernel
theorem dX6_learn_31 : decode cX6_learn 31 = .ok (.iload_n 1, 1) := by decide +kernel
theorem dX6_learn_32 : decode cX6_learn 32 = .ok (.iadd, 1) := by decide +kernel
theorem dX6_learn_33 : decode cX6_learn 33 = .ok (.aload_n 0, 1) := by decide +kernel
theorem dX6_learn_34 : decode cX6_learn 34 = .ok (.getfield 7, 3) := by decide +kernel
theorem dX6_learn_37 : decode cX6_learn 37 = .ok (.iconst 0, 1) := by decide +kernel
theorem dX6_learn_38 : decode cX6_learn 38 = .ok (.iload_n 1, 1) := by decide +kernel
theorem dX6_learn_39 : decode cX6_learn 39 = .ok (.iadd, 1) := by decide +kernel
theorem dX6_learn_40 : decode cX6_learn 40 = .ok (.iaload, 1) := by decide +kernel
theorem dX6_learn_41 : decode cX6_learn 41 = .ok (.iastore, 1) := by decide +kernel
theorem dX6_learn_42 : decode cX6_learn 42 = .ok (.aload_n 0, 1) := by decide +kernel
theorem dX6_learn_43 : decode cX6_learn 43 = .ok (.getfield 7, 3) := by decide +kernel
theorem dX6_learn_46 : decode cX6_learn 46 = .ok (.bipush 43, 2) := by decide +kernel
theorem dX6_learn_48 : decode cX6_learn 48 = .ok (.iload_n 1, 1) := by decide +kernel
theorem dX6_learn_49 : decode cX6_learn 49 = .ok (.iadd, 1) := by decide +kernel
theorem dX6_learn_50 : decode cX6_learn 50 = .ok (.aload_n 0, 1) := by decide +kernel
theorem dX6_learn_51 : decode cX6_learn 51 = .ok (.getfield 7, 3) := by decide +kernel
theorem dX6_learn_54 : decode cX6_learn 54 = .ok (.bipush 6, 2) := by decide +kernel
theorem dX6_learn_56 : decode cX6_learn 56 = .ok (.iload_n 1, 1) := by decide +kernel
theorem dX6_learn_57 : decode cX6_learn 57 = .ok (.iadd, 1) := by decide +kernel
theorem dX6_learn_58 : decode cX6_learn 58 = .ok (.iaload, 1) := by decide +kernel
theorem dX6_learn_59 : decode cX6_learn 59 = .ok (.iastore, 1) := by decide +kernel
theorem dX6_learn_60 : decode cX6_learn 60 = .ok (.iinc 1 1, 3) := by decide +kernel
theorem dX6_learn_63 : decode cX6_learn 63 = .ok (.goto (-44), 3) := by decide +kernel
theorem dX6_learn_66 : decode cX6_learn 66 = .ok (.aload_n 0, 1) := by decide +kernel
theorem dX6_learn_67 : decode cX6_learn 67 = .ok (.invokevirtual 128, 3) := by decide +kernel
theorem dX6_learn_70 : decode cX6_learn 70 = .ok (.ireturn, 1) := by decide +kernel
theorem dX6_append_0 : decode cX6_append 0 = .ok (.aload_n 0, 1) := by decide +kernel
theorem dX6_append_1 : decode cX6_append 1 = .ok (.iload_n 1, 1) := by decide +kernel
theorem dX6_append_2 : decode cX6_append 2 = .ok (.bipush 33, 2) := by decide +kernel
theorem dX6_append_4 : decode cX6_append 4 = .ok (.bipush 126, 2) := by decide +kernel
theorem dX6_append_6 : decode cX6_append 6 = .ok (.invokestatic 50, 3) := by decide +kernel
theorem dX6_append_9 : decode cX6_append 9 = .ok (.ifCond .ne 7, 3) := by decide +kernel
theorem dX6_append_12 : decode cX6_append 12 = .ok (.iconst 1, 1) := by decide +kernel
theorem dX6_append_13 : decode cX6_append 13 = .ok (.goto 17, 3) := by decide +kernel
theorem dX6_append_16 : decode cX6_append 16 = .ok (.aload_n 0, 1) := by decide +kernel
theorem dX6_append_17 : decode cX6_append 17 = .ok (.getfield 113, 3) := by decide +kernel
theorem dX6_append_20 : decode cX6_append 20 = .ok (.bipush 60, 2) := by decide +kernel
theorem dX6_append_22 : decode cX6_append 22 = .ok (.if_icmp .ne 7, 3) := by decide +kernel
theorem dX6_append_25 : decode cX6_append 25 = .ok (.iconst 2, 1) := by decide +kernel
theorem dX6_append_26 : decode cX6_append 26 = .ok (.goto 4, 3) := by decide +kernel
theorem dX6_append_29 : decode cX6_append 29 = .ok (.iconst 0, 1) := by decide +kernel
theorem dX6_append_30 : decode cX6_append 30 = .ok (.putfield 46, 3) := by decide +kernel
theorem dX6_append_33 : decode cX6_append 33 = .ok (.aload_n 0, 1) := by decide +kernel
theorem dX6_append_34 : decode cX6_append 34 = .ok (.getfield 46, 3) := by decide +kernel
theorem dX6_append_37 : decode cX6_append 37 = .ok (.ifCond .le 5, 3) := by decide +kernel
theorem dX6_append_40 : decode cX6_append 40 = .ok (.iconst 0, 1) := by decide +kernel
theorem dX6_append_41 : decode cX6_append 41 = .ok (.ireturn, 1) := by decide +kernel
theorem dX6_append_42 : decode cX6_append 42 = .ok (.aload_n 0, 1) := by decide +kernel
theorem dX6_append_43 : decode cX6_append 43 = .ok (.getfield 22, 3) := by decide +kernel
theorem dX6_append_46 : decode cX6_append 46 = .ok (.aload_n 0, 1) := by decide +kernel
theorem dX6_append_47 : decode cX6_append 47 = .ok (.getfield 113, 3) := by decide +kernel
theorem dX6_append_50 : decode cX6_append 50 = .ok (.iload_n 1, 1) := by decide +kernel
theorem dX6_append_51 : decode cX6_append 51 = .ok (.iastore, 1) := by decide +kernel
theorem dX6_append_52 : decode cX6_append 52 = .ok (.aload_n 0, 1) := by decide +kernel
theorem dX6_append_53 : decode cX6_append 53 = .ok (.dup, 1) := by decide +kernel
theorem dX6_append_54 : decode cX6_append 54 = .ok (.getfield 113, 3) := by decide +kernel
theorem dX6_append_57 : decode cX6_append 57 = .ok (.iconst 1, 1) := by decide +kernel
theorem dX6_append_58 : decode cX6_append 58 = .ok (.iadd, 1) := by decide +kernel
theorem dX6_append_59 : decode cX6_append 59 = .ok (.putfield 113, 3) := by decide +kernel
theorem dX6_append_62 : decode cX6_append 62 = .ok (.aload_n 0, 1) := by decide +kernel
theorem dX6_append_63 : decode cX6_append 63 = .ok (.getfield 113, 3) := by decide +kernel
theorem dX6_append_66 : decode cX6_append 66 = .ok (.ireturn, 1) := by decide +kernel
theorem dX6_clearBuffer_0 : decode cX6_clearBuffer 0 = .ok (.aload_n 0, 1) := by decide +kernel
theorem dX6_clearBuffer_1 : decode cX6_clearBuffer 1 = .ok (.iconst 0, 1) := by decide +kernel
theorem dX6_clearBuffer_2 : decode cX6_clearBuffer 2 = .ok (.putfield 46, 3) := by decide +kernel
theorem dX6_clearBuffer_5 : decode cX6_clearBuffer 5 = .ok (.aload_n 0, 1) := by decide +kernel
theorem dX6_clearBuffer_6 : decode cX6_clearBuffer 6 = .ok (.getfield 113, 3) := by decide +kernel
theorem dX6_clearBuffer_9 : decode cX6_clearBuffer 9 = .ok (.istore_n 1, 1) := by decide +kernel
theorem dX6_clearBuffer_10 : decode cX6_clearBuffer 10 = .ok (.aload_n 0, 1) := by decide +kernel
theorem dX6_clearBuffer_11 : decode cX6_clearBuffer 11 = .ok (.iconst 0, 1) := by decide +kernel
theorem dX6_clearBuffer_12 : decode cX6_clearBuffer 12 = .ok (.putfield 113, 3) := by decide +kernel
theorem dX6_clearBuffer_15 : decode cX6_clearBuffer 15 = .ok (.iload_n 1, 1) := by decide +kernel
theorem dX6_clearBuffer_16 : decode cX6_clearBuffer 16 = .ok (.ireturn, 1) := by decide +kernel
theorem dX6_takeSign_0 : decode cX6_takeSign 0 = .ok (.aload_n 0, 1) := by decide +kernel
theorem dX6_takeSign_1 : decode cX6_takeSign 1 = .ok (.getfield 131, 3) := by decide +kernel
theorem dX6_takeSign_4 : decode cX6_takeSign 4 = .ok (.ifCond .eq 17, 3) := by decide +kernel
theorem dX6_takeSign_7 : decode cX6_takeSign 7 = .ok (.aload_n 0, 1) := by decide +kernel
theorem dX6_takeSign_8 : decode cX6_takeSign 8 = .ok (.iconst 0, 1) := by decide +kernel
theorem dX6_takeSign_9 : decode cX6_takeSign 9 = .ok (.putfield 131, 3) := by decide +kernel
theorem dX6_takeSign_12 : decode cX6_takeSign 12 = .ok (.iload_n 1, 1) := by decide +kernel
theorem dX6_takeSign_13 : decode cX6_takeSign 13 = .ok (.bipush 50, 2) := by decide +kernel
theorem dX6_takeSign_15 : decode cX6_takeSign 15 = .ok (.bipush 57, 2) := by decide +kernel
theorem dX6_takeSign_17 : decode cX6_takeSign 17 = .ok (.invokestatic 50, 3) := by decide +kernel
theorem dX6_takeSign_20 : decode cX6_takeSign 20 = .ok (.ireturn, 1) := by decide +kernel
theorem dX6_takeSign_21 : decode cX6_takeSign 21 = .ok (.iload_n 1, 1) := by decide +kernel
theorem dX6_takeSign_22 : decode cX6_takeSign 22 = .ok (.bipush 97, 2) := by decide +kernel
theorem dX6_takeSign_24 : decode cX6_takeSign 24 = .ok (.bipush 101, 2) := by decide +kernel
theorem dX6_takeSign_26 : decode cX6_takeSign 26 = .ok (.invokestatic 50, 3) := by decide +kernel
theorem dX6_takeSign_29 : decode cX6_takeSign 29 = .ok (.ifCond .ne 14, 3) := by decide +kernel
theorem dX6_takeSign_32 : decode cX6_takeSign 32 = .ok (.iload_n 1, 1) := by decide +kernel
theorem dX6_takeSign_33 : decode cX6_takeSign 33 = .ok (.bipush 65, 2) := by decide +kernel
theorem dX6_takeSign_35 : decode cX6_takeSign 35 = .ok (.bipush 69, 2) := by decide +kernel
theorem dX6_takeSign_37 : decode cX6_takeSign 37 = .ok (.invokestatic 50, 3) := by decide +kernel
theorem dX6_takeSign_40 : decode cX6_takeSign 40 = .ok (.ifCond .eq 10, 3) := by decide +kernel
theorem dX6_takeSign_43 : decode cX6_takeSign 43 = .ok (.aload_n 0, 1) := by decide +kernel
theorem dX6_takeSign_44 : decode cX6_takeSign 44 = .ok (.iconst 1, 1) := by decide +kernel
theorem dX6_takeSign_45 : decode cX6_takeSign 45 = .ok (.putfield 134, 3) := by decide +kernel
theorem dX6_takeSign_48 : decode cX6_takeSign 48 = .ok (.iconst 1, 1) := by decide +kernel
theorem dX6_takeSign_49 : decode cX6_takeSign 49 = .ok (.ireturn, 1) := by decide +kernel
theorem dX6_takeSign_50 : decode cX6_takeSign 50 = .ok (.iload_n 1, 1) := by decide +kernel
theorem dX6_takeSign_51 : decode cX6_takeSign 51 = .ok (.bipush 40, 2) := by decide +kernel
theorem dX6_takeSign_53 : decode cX6_takeSign 53 = .ok (.if_icmp .eq 9, 3) := by decide +kernel
theorem dX6_takeSign_56 : decode cX6_takeSign 56 = .ok (.iload_n 1, 1) := by decide +kernel
theorem dX6_takeSign_57 : decode cX6_takeSign 57 = .ok (.bipush 91, 2) := by decide +kernel
theorem dX6_takeSign_59 : decode cX6_takeSign 59 = .ok (.if_icmp .ne 54, 3) := by decide +kernel
theorem dX6_takeSign_62 : decode cX6_takeSign 62 = .ok (.aload_n 0, 1) := by decide +kernel
theorem dX6_takeSign_63 : decode cX6_takeSign 63 = .ok (.getfield 137, 3) := by decide +kernel
theorem dX6_takeSign_66 : decode cX6_takeSign 66 = .ok (.aload_n 0, 1) := by decide +kernel
theorem dX6_takeSign_67 : decode cX6_takeSign 67 = .ok (.getfield 31, 3) := by decide +kernel
theorem dX6_takeSign_70 : decode cX6_takeSign 70 = .ok (.arraylength, 1) := by decide +kernel
theorem dX6_takeSign_71 : decode cX6_takeSign 71 = .ok (.if_icmp .ne 5, 3) := by decide +kernel
theorem dX6_takeSign_74 : decode cX6_takeSign 74 = .ok (.iconst 0, 1) := by decide +kernel
theorem dX6_takeSign_75 : decode cX6_takeSign 75 = .ok (.ireturn, 1) := by decide +kernel
theorem dX6_takeSign_76 : decode cX6_takeSign 76 = .ok (.aload_n 0, 1) := by decide +kernel
theorem dX6_takeSign_77 : decode cX6_takeSign 77 = .ok (.getfield 31, 3) := by decide +kernel
theorem dX6_takeSign_80 : decode cX6_takeSign 80 = .ok (.aload_n 0, 1) := by decide +kernel
theorem dX6_takeSign_81 : decode cX6_takeSign 81 = .ok (.getfield 137, 3) := by decide +kernel
theorem dX6_takeSign_84 : decode cX6_takeSign 84 = .ok (.iload_n 1, 1) := by decide +kernel
theorem dX6_takeSign_85 : decode cX6_takeSign 85 = .ok (.bipush 40, 2) := by decide +kernel
theorem dX6_takeSign_87 : decode cX6_takeSign 87 = .ok (.if_icmp .ne 7, 3) := by decide +kernel
theorem dX6_takeSign_90 : decode cX6_takeSign 90 = .ok (.iconst 1, 1) := by decide +kernel
theorem dX6_takeSign_91 : decode cX6_takeSign 91 = .ok (.goto 4, 3) := by decide +kernel
theorem dX6_takeSign_94 : decode cX6_takeSign 94 = .ok (.iconst 2, 1) := by decide +kernel
theorem dX6_takeSign_95 : decode cX6_takeSign 95 = .ok (.iastore, 1) := by decide +kernel
theorem dX6_takeSign_96 : decode cX6_takeSign 96 = .ok (.aload_n 0, 1) := by decide +kernel
theorem dX6_takeSign_97 : decode cX6_takeSign 97 = .ok (.dup, 1) := by decide +kernel
theorem dX6_takeSign_98 : decode cX6_takeSign 98 = .ok (.getfield 137, 3) := by decide +kernel
theorem dX6_takeSign_101 : decode cX6_takeSign 101 = .ok (.iconst 1, 1) := by decide +kernel
theorem dX6_takeSign_102 : decode cX6_takeSign 102 = .ok (.iadd, 1) := by decide +kernel
theorem dX6_takeSign_103 : decode cX6_takeSign 103 = .ok (.putfield 137, 3) := by decide +kernel
theorem dX6_takeSign_106 : decode cX6_takeSign 106 = .ok (.aload_n 0, 1) := by decide +kernel
theorem dX6_takeSign_107 : decode cX6_takeSign 107 = .ok (.iconst 0, 1) := by decide +kernel
theorem dX6_takeSign_108 : decode cX6_takeSign 108 = .ok (.putfield 134, 3) := by decide +kernel
theorem dX6_takeSign_111 : decode cX6_takeSign 111 = .ok (.iconst 1, 1) := by decide +kernel
theorem dX6_takeSign_112 : decode cX6_takeSign 112 = .ok (.ireturn, 1) := by decide +kernel
theorem dX6_takeSign_113 : decode cX6_takeSign 113 = .ok (.aload_n 0, 1) := by decide +kernel
theorem dX6_takeSign_114 : decode cX6_takeSign 114 = .ok (.getfield 137, 3) := by decide +kernel
theorem dX6_takeSign_117 : decode cX6_takeSign 117 = .ok (.ifCond .eq 10, 3) := by decide +kernel
theorem dX6_takeSign_120 : decode cX6_takeSign 120 = .ok (.aload_n 0, 1) := by decide +kernel
theorem dX6_takeSign_121 : decode cX6_takeSign 121 = .ok (.getfield 134, 3) := by decide +kernel
theorem dX6_takeSign_124 : decode cX6_takeSign 124 = .ok (.ifCond .ne 5, 3) := by decide +kernel
theorem dX6_takeSign_127 : decode cX6_takeSign 127 = .ok (.iconst 0, 1) := by decide +kernel
theorem dX6_takeSign_128 : decode cX6_takeSign 128 = .ok (.ireturn, 1) := by decide +kernel
theorem dX6_takeSign_129 : decode cX6_takeSign 129 = .ok (.iload_n 1, 1) := by decide +kernel
theorem dX6_takeSign_130 : decode cX6_takeSign 130 = .ok (.bipush 44, 2) := by decide +kernel
theorem dX6_takeSign_132 : decode cX6_takeSign 132 = .ok (.if_icmp .ne 37, 3) := by decide +kernel
theorem dX6_takeSign_135 : decode cX6_takeSign 135 = .ok (.aload_n 0, 1) := by decide +kernel
theorem dX6_takeSign_136 : decode cX6_takeSign 136 = .ok (.getfield 31, 3) := by decide +kernel
theorem dX6_takeSign_139 : decode cX6_takeSign 139 = .ok (.aload_n 0, 1) := by decide +kernel
theorem dX6_takeSign_140 : decode cX6_takeSign 140 = .ok (.getfield 137, 3) := by decide +kernel
theorem dX6_takeSign_143 : decode cX6_takeSign 143 = .ok (.iconst 1, 1) := by decide +kernel
theorem dX6_takeSign_144 : decode cX6_takeSign 144 = .ok (.isub, 1) := by decide +kernel
theorem dX6_takeSign_145 : decode cX6_takeSign 145 = .ok (.iaload, 1) := by decide +kernel
theorem dX6_takeSign_146 : decode cX6_takeSign 146 = .ok (.iconst 2, 1) := by decide +kernel
theorem dX6_takeSign_147 : decode cX6_takeSign 147 = .ok (.if_icmp .ne 22, 3) := by decide +kernel
theorem dX6_takeSign_150 : decode cX6_takeSign 150 = .ok (.aload_n 0, 1) := by decide +kernel
theorem dX6_takeSign_151 : decode cX6_takeSign 151 = .ok (.getfield 31, 3) := by decide +kernel
theorem dX6_takeSign_154 : decode cX6_takeSign 154 = .ok (.aload_n 0, 1) := by decide +kernel
theorem dX6_takeSign_155 : decode cX6_takeSign 155 = .ok (.getfield 137, 3) := by decide +kernel
theorem dX6_takeSign_158 : decode cX6_takeSign 158 = .ok (.iconst 1, 1) := by decide +kernel
theorem dX6_takeSign_159 : decode cX6_takeSign 159 = .ok (.isub, 1) := by decide +kernel
theorem dX6_takeSign_160 : decode cX6_takeSign 160 = .ok (.iconst 3, 1) := by decide +kernel
theorem dX6_takeSign_161 : decode cX6_takeSign 161 = .ok (.iastore, 1) := by decide +kernel
theorem dX6_takeSign_162 : decode cX6_takeSign 162 = .ok (.aload_n 0, 1) := by decide +kernel
theorem dX6_takeSign_163 : decode cX6_takeSign 163 = .ok (.iconst 0, 1) := by decide +kernel
theorem dX6_takeSign_164 : decode cX6_takeSign 164 = .ok (.putfield 134, 3) := by decide +kernel
theorem dX6_takeSign_167 : decode cX6_takeSign 167 = .ok (.iconst 1, 1) := by decide +kernel
theorem dX6_takeSign_168 : decode cX6_takeSign 168 = .ok (.ireturn, 1) := by decide +kernel
theorem dX6_takeSign_169 : decode cX6_takeSign 169 = .ok (.aload_n 0, 1) := by decide +kernel
theorem dX6_takeSign_170 : decode cX6_takeSign 170 = .ok (.iload_n 1, 1) := by decide +kernel
theorem dX6_takeSign_171 : decode cX6_takeSign 171 = .ok (.bipush 41, 2) := by decide +kernel
theorem dX6_takeSign_173 : decode cX6_takeSign 173 = .ok (.if_icmp .ne 22, 3) := by decide +kernel
theorem dX6_takeSign_176 : decode cX6_takeSign 176 = .ok (.aload_n 0, 1) := by decide +kernel
theorem dX6_takeSign_177 : decode cX6_takeSign 177 = .ok (.getfield 31, 3) := by decide +kernel
theorem dX6_takeSign_180 : decode cX6_takeSign 180 = .ok (.aload_n 0, 1) := by decide +kernel
theorem dX6_takeSign_181 : decode cX6_takeSign 181 = .ok (.getfield 137, 3) := by decide +kernel
theorem dX6_takeSign_184 : decode cX6_takeSign 184 = .ok (.iconst 1, 1) := by decide +kernel
theorem dX6_takeSign_185 : decode cX6_takeSign 185 = .ok (.isub, 1) := by decide +kernel
theorem dX6_takeSign_186 : decode cX6_takeSign 186 = .ok (.iaload, 1) := by decide +kernel
theorem dX6_takeSign_187 : decode cX6_takeSign 187 = .ok (.iconst 1, 1) := by decide +kernel
theorem dX6_takeSign_188 : decode cX6_takeSign 188 = .ok (.if_icmp .ne 7, 3) := by decide +kernel
theorem dX6_takeSign_191 : decode cX6_takeSign 191 = .ok (.iconst 1, 1) := by decide +kernel
theorem dX6_takeSign_192 : decode cX6_takeSign 192 = .ok (.goto 4, 3) := by decide +kernel
theorem dX6_takeSign_195 : decode cX6_takeSign 195 = .ok (.iconst 0, 1) := by decide +kernel
theorem dX6_takeSign_196 : decode cX6_takeSign 196 = .ok (.putfield 131, 3) := by decide +kernel
theorem dX6_takeSign_199 : decode cX6_takeSign 199 = .ok (.aload_n 0, 1) := by decide +kernel
theorem dX6_takeSign_200 : decode cX6_takeSign 200 = .ok (.getfield 131, 3) := by decide +kernel
theorem dX6_takeSign_203 : decode cX6_takeSign 203 = .ok (.ifCond .ne 24, 3) := by decide +kernel
theorem dX6_takeSign_206 : decode cX6_takeSign 206 = .ok (.iload_n 1, 1) := by decide +kernel
theorem dX6_takeSign_207 : decode cX6_takeSign 207 = .ok (.bipush 93, 2) := by decide +kernel
theorem dX6_takeSign_209 : decode cX6_takeSign 209 = .ok (.if_icmp .ne 22, 3) := by decide +kernel
theorem dX6_takeSign_212 : decode cX6_takeSign 212 = .ok (.aload_n 0, 1) := by decide +kernel
theorem dX6_takeSign_213 : decode cX6_takeSign 213 = .ok (.getfield 31, 3) := by decide +kernel
theorem dX6_takeSign_216 : decode cX6_takeSign 216 = .ok (.aload_n 0, 1) := by decide +kernel
theorem dX6_takeSign_217 : decode cX6_takeSign 217 = .ok (.getfield 137, 3) := by decide +kernel
theorem dX6_takeSign_220 : decode cX6_takeSign 220 = .ok (.iconst 1, 1) := by decide +kernel
theorem dX6_takeSign_221 : decode cX6_takeSign 221 = .ok (.isub, 1) := by decide +kernel
theorem dX6_takeSign_222 : decode cX6_takeSign 222 = .ok (.iaload, 1) := by decide +kernel
theorem dX6_takeSign_223 : decode cX6_takeSign 223 = .ok (.iconst 3, 1) := by decide +kernel
theorem dX6_takeSign_224 : decode cX6_takeSign 224 = .ok (.if_icmp .ne 7, 3) := by decide +kernel
theorem dX6_takeSign_227 : decode cX6_takeSign 227 = .ok (.iconst 1, 1) := by decide +kernel
theorem dX6_takeSign_228 : decode cX6_takeSign 228 = .ok (.goto 4, 3) := by decide +kernel
theorem dX6_takeSign_231 : decode cX6_takeSign 231 = .ok (.iconst 0, 1) := by decide +kernel
theorem dX6_takeSign_232 : decode cX6_takeSign 232 = .ok (.istore_n 2, 1) := by decide +kernel
theorem dX6_takeSign_233 : decode cX6_takeSign 233 = .ok (.aload_n 0, 1) := by decide +kernel
theorem dX6_takeSign_234 : decode cX6_takeSign 234 = .ok (.dup, 1) := by decide +kernel
theorem dX6_takeSign_235 : decode cX6_takeSign 235 = .ok (.getfield 137, 3) := by decide +kernel
theorem dX6_takeSign_238 : decode cX6_takeSign 238 = .ok (.iload_n 2, 1) := by decide +kernel
theorem dX6_takeSign_239 : decode cX6_takeSign 239 = .ok (.ifCond .eq 7, 3) := by decide +kernel
theorem dX6_takeSign_242 : decode cX6_takeSign 242 = .ok (.iconst 1, 1) := by decide +kernel
theorem dX6_takeSign_243 : decode cX6_takeSign 243 = .ok (.goto 4, 3) := by decide +kernel
theorem dX6_takeSign_246 : decode cX6_takeSign 246 = .ok (.iconst 0, 1) := by decide +kernel
theorem dX6_takeSign_247 : decode cX6_takeSign 247 = .ok (.isub, 1) := by decide +kernel
theorem dX6_takeSign_248 : decode cX6_takeSign 248 = .ok (.putfield 137, 3) := by decide +kernel
theorem dX6_takeSign_251 : decode cX6_takeSign 251 = .ok (.iload_n 2, 1) := by decide +kernel
theorem dX6_takeSign_252 : decode cX6_takeSign 252 = .ok (.ireturn, 1) := by decide +kernel
theorem dX6_findError_0 : decode cX6_findError 0 = .ok (.aload_n 0, 1) := by decide +kernel
theorem dX6_findError_1 : decode cX6_findError 1 = .ok (.iconst 0, 1) := by decide +kernel
theorem dX6_findError_2 : decode cX6_findError 2 = .ok (.putfield 137, 3) := by decide +kernel
theorem dX6_findError_5 : decode cX6_findError 5 = .ok (.aload_n 0, 1) := by decide +kernel
theorem dX6_findError_6 : decode cX6_findError 6 = .ok (.iconst 0, 1) := by decide +kernel
theorem dX6_findError_7 : decode cX6_findError 7 = .ok (.putfield 134, 3) := by decide +kernel
theorem dX6_findError_10 : decode cX6_findError 10 = .ok (.aload_n 0, 1) := by decide +kernel
theorem dX6_findError_11 : decode cX6_findError 11 = .ok (.iconst 0, 1) := by decide +kernel
theorem dX6_findError_12 : decode cX6_findError 12 = .ok (.putfield 131, 3) := by decide +kernel
theorem dX6_findError_15 : decode cX6_findError 15 = .ok (.iconst 0, 1) := by decide +kernel
theorem dX6_findError_16 : decode cX6_findError 16 = .ok (.istore_n 1, 1) := by decide +kernel
theorem dX6_findError_17 : decode cX6_findError 17 = .ok (.iload_n 1, 1) := by decide +kernel
theorem dX6_findError_18 : decode cX6_findError 18 = .ok (.aload_n 0, 1) := by decide +kernel
theorem dX6_findError_19 : decode cX6_findError 19 = .ok (.getfield 113, 3) := by decide +kernel
theorem dX6_findError_22 : decode cX6_findError 22 = .ok (.if_icmp .ge 22, 3) := by decide +kernel
theorem dX6_findError_25 : decode cX6_findError 25 = .ok (.aload_n 0, 1) := by decide +kernel
theorem dX6_findError_26 : decode cX6_findError 26 = .ok (.aload_n 0, 1) := by decide +kernel
theorem dX6_findError_27 : decode cX6_findError 27 = .ok (.getfield 22, 3) := by decide +kernel
theorem dX6_findError_30 : decode cX6_findError 30 = .ok (.iload_n 1, 1) := by decide +kernel
theorem dX6_findError_31 : decode cX6_findError 31 = .ok (.iaload, 1) := by decide +kernel
theorem dX6_findError_32 : decode cX6_findError 32 = .ok (.invokevirtual 140, 3) := by decide +kernel
theorem dX6_findError_35 : decode cX6_findError 35 = .ok (.ifCond .eq 9, 3) := by decide +kernel
theorem dX6_findError_38 : decode cX6_findError 38 = .ok (.iinc 1 1, 3) := by decide +kernel
theorem dX6_findError_41 : decode cX6_findError 41 = .ok (.goto (-24), 3) := by decide +kernel
theorem dX6_findError_44 : decode cX6_findError 44 = .ok (.iload_n 1, 1) := by decide +kernel
theorem dX6_findError_45 : decode cX6_findError 45 = .ok (.ireturn, 1) := by decide +kernel
theorem dX6_firstError_0 : decode cX6_firstError 0 = .ok (.aload_n 0, 1) := by decide +kernel
theorem dX6_firstError_1 : decode cX6_firstError 1 = .ok (.iconst 0, 1) := by decide +kernel
theorem dX6_firstError_2 : decode cX6_firstError 2 = .ok (.putfield 46, 3) := by decide +kernel
theorem dX6_firstError_5 : decode cX6_firstError 5 = .ok (.aload_n 0, 1) := by decide +kernel
theorem dX6_firstError_6 : decode cX6_firstError 6 = .ok (.invokevirtual 143, 3) := by decide +kernel
theorem dX6_firstError_9 : decode cX6_firstError 9 = .ok (.ireturn, 1) := by decide +kernel
theorem dX6_isWhole_0 : decode cX6_isWhole 0 = .ok (.aload_n 0, 1) := by decide +kernel
theorem dX6_isWhole_1 : decode cX6_isWhole 1 = .ok (.invokevirtual 143, 3) := by decide +kernel
theorem dX6_isWhole_4 : decode cX6_isWhole 4 = .ok (.aload_n 0, 1) := by decide +kernel
theorem dX6_isWhole_5 : decode cX6_isWhole 5 = .ok (.getfield 113, 3) := by decide +kernel
theorem dX6_isWhole_8 : decode cX6_isWhole 8 = .ok (.if_icmp .ne 28, 3) := by decide +kernel
theorem dX6_isWhole_11 : decode cX6_isWhole 11 = .ok (.aload_n 0, 1) := by decide +kernel
theorem dX6_isWhole_12 : decode cX6_isWhole 12 = .ok (.getfield 137, 3) := by decide +kernel
theorem dX6_isWhole_15 : decode cX6_isWhole 15 = .ok (.ifCond .ne 21, 3) := by decide +kernel
theorem dX6_isWhole_18 : decode cX6_isWhole 18 = .ok (.aload_n 0, 1) := by decide +kernel
theorem dX6_isWhole_19 : decode cX6_isWhole 19 = .ok (.getfield 134, 3) := by decide +kernel
theorem dX6_isWhole_22 : decode cX6_isWhole 22 = .ok (.ifCond .eq 14, 3) := by decide +kernel
theorem dX6_isWhole_25 : decode cX6_isWhole 25 = .ok (.aload_n 0, 1) := by decide +kernel
theorem dX6_isWhole_26 : decode cX6_isWhole 26 = .ok (.getfield 131, 3) := by decide +kernel
theorem dX6_isWhole_29 : decode cX6_isWhole 29 = .ok (.ifCond .ne 7, 3) := by decide +kernel
theorem dX6_isWhole_32 : decode cX6_isWhole 32 = .ok (.iconst 1, 1) := by decide +kernel
theorem dX6_isWhole_33 : decode cX6_isWhole 33 = .ok (.goto 4, 3) := by decide +kernel
theorem dX6_isWhole_36 : decode cX6_isWhole 36 = .ok (.iconst 0, 1) := by decide +kernel
theorem dX6_isWhole_37 : decode cX6_isWhole 37 = .ok (.ireturn, 1) := by decide +kernel
theorem dX6_addTurn_0 : decode cX6_addTurn 0 = .ok (.aload_n 0, 1) := by decide +kernel
theorem dX6_addTurn_1 : decode cX6_addTurn 1 = .ok (.getfield 110, 3) := by decide +kernel
theorem dX6_addTurn_4 : decode cX6_addTurn 4 = .ok (.sipush 500, 3) := by decide +kernel
theorem dX6_addTurn_7 : decode cX6_addTurn 7 = .ok (.if_icmp .ge 13, 3) := by decide +kernel
theorem dX6_addTurn_10 : decode cX6_addTurn 10 = .ok (.aload_n 0, 1) := by decide +kernel
theorem dX6_addTurn_11 : decode cX6_addTurn 11 = .ok (.getfield 28, 3) := by decide +kernel
theorem dX6_addTurn_14 : decode cX6_addTurn 14 = .ok (.aload_n 0, 1) := by decide +kernel
theorem dX6_addTurn_15 : decode cX6_addTurn 15 = .ok (.getfield 110, 3) := by decide +kernel
theorem dX6_addTurn_18 : decode cX6_addTurn 18 = .ok (.iload_n 1, 1) := by decide +kernel
theorem dX6_addTurn_19 : decode cX6_addTurn 19 = .ok (.iastore, 1) := by decide +kernel
theorem dX6_addTurn_20 : decode cX6_addTurn 20 = .ok (.aload_n 0, 1) := by decide +kernel
theorem dX6_addTurn_21 : decode cX6_addTurn 21 = .ok (.dup, 1) := by decide +kernel
theorem dX6_addTurn_22 : decode cX6_addTurn 22 = .ok (.getfield 110, 3) := by decide +kernel
theorem dX6_addTurn_25 : decode cX6_addTurn 25 = .ok (.iconst 1, 1) := by decide +kernel
theorem dX6_addTurn_26 : decode cX6_addTurn 26 = .ok (.iadd, 1) := by decide +kernel
theorem dX6_addTurn_27 : decode cX6_addTurn 27 = .ok (.putfield 110, 3) := by decide +kernel
theorem dX6_addTurn_30 : decode cX6_addTurn 30 = .ok (.aload_n 0, 1) := by decide +kernel
theorem dX6_addTurn_31 : decode cX6_addTurn 31 = .ok (.dup, 1) := by decide +kernel
theorem dX6_addTurn_32 : decode cX6_addTurn 32 = .ok (.getfield 146, 3) := by decide +kernel
theorem dX6_addTurn_35 : decode cX6_addTurn 35 = .ok (.iload_n 1, 1) := by decide +kernel
theorem dX6_addTurn_36 : decode cX6_addTurn 36 = .ok (.iconst 5, 1) := by decide +kernel
theorem dX6_addTurn_37 : decode cX6_addTurn 37 = .ok (.if_icmp .ge 7, 3) := by decide +kernel
theorem dX6_addTurn_40 : decode cX6_addTurn 40 = .ok (.iconst 1, 1) := by decide +kernel
theorem dX6_addTurn_41 : decode cX6_addTurn 41 = .ok (.goto 4, 3) := by decide +kernel
theorem dX6_addTurn_44 : decode cX6_addTurn 44 = .ok (.iconst (-1), 1) := by decide +kernel
theorem dX6_addTurn_45 : decode cX6_addTurn 45 = .ok (.iadd, 1) := by decide +kernel
theorem dX6_addTurn_46 : decode cX6_addTurn 46 = .ok (.putfield 146, 3) := by decide +kernel
theorem dX6_addTurn_49 : decode cX6_addTurn 49 = .ok (.return_, 1) := by decide +kernel
theorem dX6_addAgain_0 : decode cX6_addAgain 0 = .ok (.iload_n 1, 1) := by decide +kernel
theorem dX6_addAgain_1 : decode cX6_addAgain 1 = .ok (.istore 4, 2) := by decide +kernel
theorem dX6_addAgain_3 : decode cX6_addAgain 3 = .ok (.iload 4, 2) := by decide +kernel
theorem dX6_addAgain_5 : decode cX6_addAgain 5 = .ok (.iload_n 2, 1) := by decide +kernel
theorem dX6_addAgain_6 : decode cX6_addAgain 6 = .ok (.if_icmp .ge 63, 3) := by decide +kernel
theorem dX6_addAgain_9 : decode cX6_addAgain 9 = .ok (.aload_n 0, 1) := by decide +kernel
theorem dX6_addAgain_10 : decode cX6_addAgain 10 = .ok (.getfield 110, 3) := by decide +kernel
theorem dX6_addAgain_13 : decode cX6_addAgain 13 = .ok (.sipush 500, 3) := by decide +kernel
theorem dX6_addAgain_16 : decode cX6_addAgain 16 = .ok (.if_icmp .gt 53, 3) := by decide +kernel
theorem dX6_addAgain_19 : decode cX6_addAgain 19 = .ok (.aload_n 0, 1) := by decide +kernel
theorem dX6_addAgain_20 : decode cX6_addAgain 20 = .ok (.getfield 28, 3) := by decide +kernel
theorem dX6_addAgain_23 : decode cX6_addAgain 23 = .ok (.iload_n 3, 1) := by decide +kernel
theorem dX6_addAgain_24 : decode cX6_addAgain 24 = .ok (.ifCond .eq 14, 3) := by decide +kernel
theorem dX6_addAgain_27 : decode cX6_addAgain 27 = .ok (.iload_n 1, 1) := by decide +kernel
theorem dX6_addAgain_28 : decode cX6_addAgain 28 = .ok (.iload_n 2, 1) := by decide +kernel
theorem dX6_addAgain_29 : decode cX6_addAgain 29 = .ok (.iadd, 1) := by decide +kernel
theorem dX6_addAgain_30 : decode cX6_addAgain 30 = .ok (.iconst 1, 1) := by decide +kernel
theorem dX6_addAgain_31 : decode cX6_addAgain 31 = .ok (.isub, 1) := by decide +kernel
theorem dX6_addAgain_32 : decode cX6_addAgain 32 = .ok (.iload 4, 2) := by decide +kernel
theorem dX6_addAgain_34 : decode cX6_addAgain 34 = .ok (.isub, 1) := by decide +kernel
theorem dX6_addAgain_35 : decode cX6_addAgain 35 = .ok (.goto 5, 3) := by decide +kernel
theorem dX6_addAgain_38 : decode cX6_addAgain 38 = .ok (.iload 4, 2) := by decide +kernel
theorem dX6_addAgain_40 : decode cX6_addAgain 40 = .ok (.iaload, 1) := by decide +kernel
theorem dX6_addAgain_41 : decode cX6_addAgain 41 = .ok (.istore 5, 2) := by decide +kernel
theorem dX6_addAgain_43 : decode cX6_addAgain 43 = .ok (.aload_n 0, 1) := by decide +kernel
theorem dX6_addAgain_44 : decode cX6_addAgain 44 = .ok (.iload_n 3, 1) := by decide +kernel
theorem dX6_addAgain_45 : decode cX6_addAgain 45 = .ok (.ifCond .eq 13, 3) := by decide +kernel
theorem dX6_addAgain_48 : decode cX6_addAgain 48 = .ok (.iload 5, 2) := by decide +kernel
theorem dX6_addAgain_50 : decode cX6_addAgain 50 = .ok (.iconst 5, 1) := by decide +kernel
theorem dX6_addAgain_51 : decode cX6_addAgain 51 = .ok (.iadd, 1) := by decide +kernel
theorem dX6_addAgain_52 : decode cX6_addAgain 52 = .ok (.bipush 10, 2) := by decide +kernel
theorem dX6_addAgain_54 : decode cX6_addAgain 54 = .ok (.irem, 1) := by decide +kernel
theorem dX6_addAgain_55 : decode cX6_addAgain 55 = .ok (.goto 5, 3) := by decide +kernel
theorem dX6_addAgain_58 : decode cX6_addAgain 58 = .ok (.iload 5, 2) := by decide +kernel
theorem dX6_addAgain_60 : decode cX6_addAgain 60 = .ok (.invokevirtual 149, 3) := by decide +kernel
theorem dX6_addAgain_63 : decode cX6_addAgain 63 = .ok (.iinc 4 1, 3) := by decide +kernel
theorem dX6_addAgain_66 : decode cX6_addAgain 66 = .ok (.goto (-63), 3) := by decide +kernel
theorem dX6_addAgain_69 : decode cX6_addAgain 69 = .ok (.return_, 1) := by decide +kernel
theorem dX6_readWord_0 : decode cX6_readWord 0 = .ok (.aload_n 0, 1) := by decide +kernel
theorem dX6_readWord_1 : decode cX6_readWord 1 = .ok (.iconst 0, 1) := by decide +kernel
theorem dX6_readWord_2 : decode cX6_readWord 2 = .ok (.putfield 110, 3) := by decide +kernel
theorem dX6_readWord_5 : decode cX6_readWord 5 = .ok (.aload_n 0, 1) := by decide +kernel
theorem dX6_readWord_6 : decode cX6_readWord 6 = .ok (.iconst 0, 1) := by decide +kernel
theorem dX6_readWord_7 : decode cX6_readWord 7 = .ok (.putfield 146, 3) := by decide +kernel
theorem dX6_readWord_10 : decode cX6_readWord 10 = .ok (.aload_n 0, 1) := by decide +kernel
theorem dX6_readWord_11 : decode cX6_readWord 11 = .ok (.iconst 0, 1) := by decide +kernel
theorem dX6_readWord_12 : decode cX6_readWord 12 = .ok (.putfield 137, 3) := by decide +kernel
theorem dX6_readWord_15 : decode cX6_readWord 15 = .ok (.iconst 0, 1) := by decide +kernel
theorem dX6_readWord_16 : decode cX6_readWord 16 = .ok (.istore_n 1, 1) := by decide +kernel
theorem dX6_readWord_17 : decode cX6_readWord 17 = .ok (.iload_n 1, 1) := by decide +kernel
theorem dX6_readWord_18 : decode cX6_readWord 18 = .ok (.aload_n 0, 1) := by decide +kernel
theorem dX6_readWord_19 : decode cX6_readWord 19 = .ok (.getfield 113, 3) := by decide +kernel
theorem dX6_readWord_22 : decode cX6_readWord 22 = .ok (.if_icmp .ge 259, 3) := by decide +kernel
theorem dX6_readWord_25 : decode cX6_readWord 25 = .ok (.aload_n 0, 1) := by decide +kernel
theorem dX6_readWord_26 : decode cX6_readWord 26 = .ok (.getfield 22, 3) := by decide +kernel
theorem dX6_readWord_29 : decode cX6_readWord 29 = .ok (.iload_n 1, 1) := by decide +kernel
theorem dX6_readWord_30 : decode cX6_readWord 30 = .ok (.iaload, 1) := by decide +kernel
theorem dX6_readWord_31 : decode cX6_readWord 31 = .ok (.istore_n 2, 1) := by decide +kernel
theorem dX6_readWord_32 : decode cX6_readWord 32 = .ok (.iload_n 2, 1) := by decide +kernel
theorem dX6_readWord_33 : decode cX6_readWord 33 = .ok (.bipush 40, 2) := by decide +kernel
theorem dX6_readWord_35 : decode cX6_readWord 35 = .ok (.if_icmp .eq 9, 3) := by decide +kernel
theorem dX6_readWord_38 : decode cX6_readWord 38 = .ok (.iload_n 2, 1) := by decide +kernel
theorem dX6_readWord_39 : decode cX6_readWord 39 = .ok (.bipush 91, 2) := by decide +kernel
theorem dX6_readWord_41 : decode cX6_readWord 41 = .ok (.if_icmp .ne 29, 3) := by decide +kernel
theorem dX6_readWord_44 : decode cX6_readWord 44 = .ok (.aload_n 0, 1) := by decide +kernel
theorem dX6_readWord_45 : decode cX6_readWord 45 = .ok (.getfield 34, 3) := by decide +kernel
theorem dX6_readWord_48 : decode cX6_readWord 48 = .ok (.aload_n 0, 1) := by decide +kernel
theorem dX6_readWord_49 : decode cX6_readWord 49 = .ok (.getfield 137, 3) := by decide +kernel
theorem dX6_readWord_52 : decode cX6_readWord 52 = .ok (.aload_n 0, 1) := by decide +kernel
theorem dX6_readWord_53 : decode cX6_readWord 53 = .ok (.getfield 110, 3) := by decide +kernel
theorem dX6_readWord_56 : decode cX6_readWord 56 = .ok (.iastore, 1) := by decide +kernel
theorem dX6_readWord_57 : decode cX6_readWord 57 = .ok (.aload_n 0, 1) := by decide +kernel
theorem dX6_readWord_58 : decode cX6_readWord 58 = .ok (.dup, 1) := by decide +kernel
theorem dX6_readWord_59 : decode cX6_readWord 59 = .ok (.getfield 137, 3) := by decide +kernel
theorem dX6_readWord_62 : decode cX6_readWord 62 = .ok (.iconst 1, 1) := by decide +kernel
theorem dX6_readWord_63 : decode cX6_readWord 63 = .ok (.iadd, 1) := by decide +kernel
theorem dX6_readWord_64 : decode cX6_readWord 64 = .ok (.putfield 137, 3) := by decide +kernel
theorem dX6_readWord_67 : decode cX6_readWord 67 = .ok (.goto 194, 3) := by decide +kernel
theorem dX6_readWord_70 : decode cX6_readWord 70 = .ok (.iload_n 2, 1) := by decide +kernel
theorem dX6_readWord_71 : decode cX6_readWord 71 = .ok (.bipush 44, 2) := by decide +kernel
theorem dX6_readWord_73 : decode cX6_readWord 73 = .ok (.if_icmp .ne 21, 3) := by decide +kernel
theorem dX6_readWord_76 : decode cX6_readWord 76 = .ok (.aload_n 0, 1) := by decide +kernel
theorem dX6_readWord_77 : decode cX6_readWord 77 = .ok (.getfield 37, 3) := by decide +kernel
theorem dX6_readWord_80 : decode cX6_readWord 80 = .ok (.aload_n 0, 1) := by decide +kernel
theorem dX6_readWord_81 : decode cX6_readWord 81 = .ok (.getfield 137, 3) := by decide +kernel
theorem dX6_readWord_84 : decode cX6_readWord 84 = .ok (.iconst 1, 1) := by decide +kernel
theorem dX6_readWord_85 : decode cX6_readWord 85 = .ok (.isub, 1) := by decide +kernel
theorem dX6_readWord_86 : decode cX6_readWord 86 = .ok (.aload_n 0, 1) := by decide +kernel
theorem dX6_readWord_87 : decode cX6_readWord 87 = .ok (.getfield 110, 3) := by decide +kernel
theorem dX6_readWord_90 : decode cX6_readWord 90 = .ok (.iastore, 1) := by decide +kernel
theorem dX6_readWord_91 : decode cX6_readWord 91 = .ok (.goto 170, 3) := by decide +kernel
theorem dX6_readWord_94 : decode cX6_readWord 94 = .ok (.iload_n 2, 1) := by decide +kernel
theorem dX6_readWord_95 : decode cX6_readWord 95 = .ok (.bipush 41, 2) := by decide +kernel
theorem dX6_readWord_97 : decode cX6_readWord 97 = .ok (.if_icmp .ne 74, 3) := by decide +kernel
theorem dX6_readWord_100 : decode cX6_readWord 100 = .ok (.aload_n 0, 1) := by decide +kernel
theorem dX6_readWord_101 : decode cX6_readWord 101 = .ok (.dup, 1) := by decide +kernel
theorem dX6_readWord_102 : decode cX6_readWord 102 = .ok (.getfield 137, 3) := by decide +kernel
theorem dX6_readWord_105 : decode cX6_readWord 105 = .ok (.iconst 1, 1) := by decide +kernel
theorem dX6_readWord_106 : decode cX6_readWord 106 = .ok (.isub, 1) := by decide +kernel
theorem dX6_readWord_107 : decode cX6_readWord 107 = .ok (.putfield 137, 3) := by decide +kernel
theorem dX6_readWord_110 : decode cX6_readWord 110 = .ok (.aload_n 0, 1) := by decide +kernel
theorem dX6_readWord_111 : decode cX6_readWord 111 = .ok (.getfield 110, 3) := by decide +kernel
theorem dX6_readWord_114 : decode cX6_readWord 114 = .ok (.istore_n 3, 1) := by decide +kernel
theorem dX6_readWord_115 : decode cX6_readWord 115 = .ok (.aload_n 0, 1) := by decide +kernel
theorem dX6_readWord_116 : decode cX6_readWord 116 = .ok (.getfield 22, 3) := by decide +kernel
theorem dX6_readWord_119 : decode cX6_readWord 119 = .ok (.iload_n 1, 1) := by decide +kernel
theorem dX6_readWord_120 : decode cX6_readWord 120 = .ok (.iconst 1, 1) := by decide +kernel
theorem dX6_readWord_121 : decode cX6_readWord 121 = .ok (.iadd, 1) := by decide +kernel
theorem dX6_readWord_122 : decode cX6_readWord 122 = .ok (.iaload, 1) := by decide +kernel
theorem dX6_readWord_123 : decode cX6_readWord 123 = .ok (.bipush 48, 2) := by decide +kernel
theorem dX6_readWord_125 : decode cX6_readWord 125 = .ok (.isub, 1) := by decide +kernel
theorem dX6_readWord_126 : decode cX6_readWord 126 = .ok (.istore 4, 2) := by decide +kernel
theorem dX6_readWord_128 : decode cX6_readWord 128 = .ok (.iload 4, 2) := by decide +kernel
theorem dX6_readWord_130 : decode cX6_readWord 130 = .ok (.iconst 1, 1) := by decide +kernel
theorem dX6_readWord_131 : decode cX6_readWord 131 = .ok (.if_icmp .le 34, 3) := by decide +kernel
theorem dX6_readWord_134 : decode cX6_readWord 134 = .ok (.aload_n 0, 1) := by decide +kernel
theorem dX6_readWord_135 : decode cX6_readWord 135 = .ok (.getfield 110, 3) := by decide +kernel
theorem dX6_readWord_138 : decode cX6_readWord 138 = .ok (.sipush 500, 3) := by decide +kernel
theorem dX6_readWord_141 : decode cX6_readWord 141 = .ok (.if_icmp .gt 24, 3) := by decide +kernel
theorem dX6_readWord_144 : decode cX6_readWord 144 = .ok (.aload_n 0, 1) := by decide +kernel
theorem dX6_readWord_145 : decode cX6_readWord 145 = .ok (.aload_n 0, 1) := by decide +kernel
theorem dX6_readWord_146 : decode cX6_readWord 146 = .ok (.getfield 34, 3) := by decide +kernel
theorem dX6_readWord_149 : decode cX6_readWord 149 = .ok (.aload_n 0, 1) := by decide +kernel
theorem dX6_readWord_150 : decode cX6_readWord 150 = .ok (.getfield 137, 3) := by decide +kernel
theorem dX6_readWord_153 : decode cX6_readWord 153 = .ok (.iaload, 1) := by decide +kernel
theorem dX6_readWord_154 : decode cX6_readWord 154 = .ok (.iload_n 3, 1) := by decide +kernel
theorem dX6_readWord_155 : decode cX6_readWord 155 = .ok (.iconst 0, 1) := by decide +kernel
theorem dX6_readWord_156 : decode cX6_readWord 156 = .ok (.invokevirtual 152, 3) := by decide +kernel
theorem dX6_readWord_159 : decode cX6_readWord 159 = .ok (.iinc 4 (-1), 3) := by decide +kernel
theorem dX6_readWord_162 : decode cX6_readWord 162 = .ok (.goto (-34), 3) := by decide +kernel
theorem dX6_readWord_165 : decode cX6_readWord 165 = .ok (.iinc 1 1, 3) := by decide +kernel
theorem dX6_readWord_168 : decode cX6_readWord 168 = .ok (.goto 93, 3) := by decide +kernel
theorem dX6_readWord_171 : decode cX6_readWord 171 = .ok (.iload_n 2, 1) := by decide +kernel
theorem dX6_readWord_172 : decode cX6_readWord 172 = .ok (.bipush 93, 2) := by decide +kernel
theorem dX6_readWord_174 : decode cX6_readWord 174 = .ok (.if_icmp .ne 59, 3) := by decide +kernel
theorem dX6_readWord_177 : decode cX6_readWord 177 = .ok (.aload_n 0, 1) := by decide +kernel
theorem dX6_readWord_178 : decode cX6_readWord 178 = .ok (.dup, 1) := by decide +kernel
theorem dX6_readWord_179 : decode cX6_readWord 179 = .ok (.getfield 137, 3) := by decide +kernel
theorem dX6_readWord_182 : decode cX6_readWord 182 = .ok (.iconst 1, 1) := by decide +kernel
theorem dX6_readWord_183 : decode cX6_readWord 183 = .ok (.isub, 1) := by decide +kernel
theorem dX6_readWord_184 : decode cX6_readWord 184 = .ok (.putfield 137, 3) := by decide +kernel
theorem dX6_readWord_187 : decode cX6_readWord 187 = .ok (.aload_n 0, 1) := by decide +kernel
theorem dX6_readWord_188 : decode cX6_readWord 188 = .ok (.getfield 110, 3) := by decide +kernel
theorem dX6_readWord_191 : decode cX6_readWord 191 = .ok (.istore_n 3, 1) := by decide +kernel
theorem dX6_readWord_192 : decode cX6_readWord 192 = .ok (.aload_n 0, 1) := by decide +kernel
theorem dX6_readWord_193 : decode cX6_readWord 193 = .ok (.aload_n 0, 1) := by decide +kernel
theorem dX6_readWord_194 : decode cX6_readWord 194 = .ok (.getfield 34, 3) := by decide +kernel
theorem dX6_readWord_197 : decode cX6_readWord 197 = .ok (.aload_n 0, 1) := by decide +kernel
theorem dX6_readWord_198 : decode cX6_readWord 198 = .ok (.getfield 137, 3) := by decide +kernel
theorem dX6_readWord_201 : decode cX6_readWord 201 = .ok (.iaload, 1) := by decide +kernel
theorem dX6_readWord_202 : decode cX6_readWord 202 = .ok (.aload_n 0, 1) := by decide +kernel
theorem dX6_readWord_203 : decode cX6_readWord 203 = .ok (.getfield 37, 3) := by decide +kernel
theorem dX6_readWord_206 : decode cX6_readWord 206 = .ok (.aload_n 0, 1) := by decide +kernel
theorem dX6_readWord_207 : decode cX6_readWord 207 = .ok (.getfield 137, 3) := by decide +kernel
theorem dX6_readWord_210 : decode cX6_readWord 210 = .ok (.iaload, 1) := by decide +kernel
theorem dX6_readWord_211 : decode cX6_readWord 211 = .ok (.iconst 1, 1) := by decide +kernel
theorem dX6_readWord_212 : decode cX6_readWord 212 = .ok (.invokevirtual 152, 3) := by decide +kernel
theorem dX6_readWord_215 : decode cX6_readWord 215 = .ok (.aload_n 0, 1) := by decide +kernel
theorem dX6_readWord_216 : decode cX6_readWord 216 = .ok (.aload_n 0, 1) := by decide +kernel
theorem dX6_readWord_217 : decode cX6_readWord 217 = .ok (.getfield 37, 3) := by decide +kernel
theorem dX6_readWord_220 : decode cX6_readWord 220 = .ok (.aload_n 0, 1) := by decide +kernel
theorem dX6_readWord_221 : decode cX6_readWord 221 = .ok (.getfield 137, 3) := by decide +kernel
theorem dX6_readWord_224 : decode cX6_readWord 224 = .ok (.iaload, 1) := by decide +kernel
theorem dX6_readWord_225 : decode cX6_readWord 225 = .ok (.iload_n 3, 1) := by decide +kernel
theorem dX6_readWord_226 : decode cX6_readWord 226 = .ok (.iconst 1, 1) := by decide +kernel
theorem dX6_readWord_227 : decode cX6_readWord 227 = .ok (.invokevirtual 152, 3) := by decide +kernel
theorem dX6_readWord_230 : decode cX6_readWord 230 = .ok (.goto 31, 3) := by decide +kernel
theorem dX6_readWord_233 : decode cX6_readWord 233 = .ok (.aload_n 0, 1) := by decide +kernel
theorem dX6_readWord_234 : decode cX6_readWord 234 = .ok (.iload_n 2, 1) := by decide +kernel
theorem dX6_readWord_235 : decode cX6_readWord 235 = .ok (.bipush 97, 2) := by decide +kernel
theorem dX6_readWord_237 : decode cX6_readWord 237 = .ok (.bipush 101, 2) := by decide +kernel
theorem dX6_readWord_239 : decode cX6_readWord 239 = .ok (.invokestatic 50, 3) := by decide +kernel
theorem dX6_readWord_242 : decode cX6_readWord 242 = .ok (.ifCond .eq 10, 3) := by decide +kernel
theorem dX6_readWord_245 : decode cX6_readWord 245 = .ok (.iload_n 2, 1) := by decide +kernel
theorem dX6_readWord_246 : decode cX6_readWord 246 = .ok (.bipush 97, 2) := by decide +kernel
theorem dX6_readWord_248 : decode cX6_readWord 248 = .ok (.isub, 1) := by decide +kernel
theorem dX6_readWord_249 : decode cX6_readWord 249 = .ok (.goto 9, 3) := by decide +kernel
theorem dX6_readWord_252 : decode cX6_readWord 252 = .ok (.iconst 5, 1) := by decide +kernel
theorem dX6_readWord_253 : decode cX6_readWord 253 = .ok (.iload_n 2, 1) := by decide +kernel
theorem dX6_readWord_254 : decode cX6_readWord 254 = .ok (.iadd, 1) := by decide +kernel
theorem dX6_readWord_255 : decode cX6_readWord 255 = .ok (.bipush 65, 2) := by decide +kernel
theorem dX6_readWord_257 : decode cX6_readWord 257 = .ok (.isub, 1) := by decide +kernel
theorem dX6_readWord_258 : decode cX6_readWord 258 = .ok (.invokevirtual 149, 3) := by decide +kernel
theorem dX6_readWord_261 : decode cX6_readWord 261 = .ok (.aload_n 0, 1) := by decide +kernel
theorem dX6_readWord_262 : decode cX6_readWord 262 = .ok (.getfield 110, 3) := by decide +kernel
theorem dX6_readWord_265 : decode cX6_readWord 265 = .ok (.sipush 500, 3) := by decide +kernel
theorem dX6_readWord_268 : decode cX6_readWord 268 = .ok (.if_icmp .le 7, 3) := by decide +kernel
theorem dX6_readWord_271 : decode cX6_readWord 271 = .ok (.sipush 501, 3) := by decide +kernel
theorem dX6_readWord_274 : decode cX6_readWord 274 = .ok (.ireturn, 1) := by decide +kernel
theorem dX6_readWord_275 : decode cX6_readWord 275 = .ok (.iinc 1 1, 3) := by decide +kernel
theorem dX6_readWord_278 : decode cX6_readWord 278 = .ok (.goto (-261), 3) := by decide +kernel
theorem dX6_readWord_281 : decode cX6_readWord 281 = .ok (.aload_n 0, 1) := by decide +kernel
theorem dX6_readWord_282 : decode cX6_readWord 282 = .ok (.getfield 110, 3) := by decide +kernel
theorem dX6_readWord_285 : decode cX6_readWord 285 = .ok (.ireturn, 1) := by decide +kernel
theorem dX6_countTurns_0 : decode cX6_countTurns 0 = .ok (.iconst 0, 1) := by decide +kernel
theorem dX6_countTurns_1 : decode cX6_countTurns 1 = .ok (.istore_n 1, 1) := by decide +kernel
theorem dX6_countTurns_2 : decode cX6_countTurns 2 = .ok (.aload_n 0, 1) := by decide +kernel
theorem dX6_countTurns_3 : decode cX6_countTurns 3 = .ok (.iconst 0, 1) := by decide +kernel
theorem dX6_countTurns_4 : decode cX6_countTurns 4 = .ok (.putfield 137, 3) := by decide +kernel
theorem dX6_countTurns_7 : decode cX6_countTurns 7 = .ok (.iconst 0, 1) := by decide +kernel
theorem dX6_countTurns_8 : decode cX6_countTurns 8 = .ok (.istore_n 2, 1) := by decide +kernel
theorem dX6_countTurns_9 : decode cX6_countTurns 9 = .ok (.iload_n 2, 1) := by decide +kernel
theorem dX6_countTurns_10 : decode cX6_countTurns 10 = .ok (.aload_n 0, 1) := by decide +kernel
theorem dX6_countTurns_11 : decode cX6_countTurns 11 = .ok (.getfield 113, 3) := by decide +kernel
theorem dX6_countTurns_14 : decode cX6_countTurns 14 = .ok (.if_icmp .ge 178, 3) := by decide +kernel
theorem dX6_countTurns_17 : decode cX6_countTurns 17 = .ok (.aload_n 0, 1) := by decide +kernel
theorem dX6_countTurns_18 : decode cX6_countTurns 18 = .ok (.getfield 22, 3) := by decide +kernel
theorem dX6_countTurns_21 : decode cX6_countTurns 21 = .ok (.iload_n 2, 1) := by decide +kernel
theorem dX6_countTurns_22 : decode cX6_countTurns 22 = .ok (.iaload, 1) := by decide +kernel
theorem dX6_countTurns_23 : decode cX6_countTurns 23 = .ok (.istore_n 3, 1) := by decide +kernel
theorem dX6_countTurns_24 : decode cX6_countTurns 24 = .ok (.iload_n 3, 1) := by decide +kernel
theorem dX6_countTurns_25 : decode cX6_countTurns 25 = .ok (.bipush 40, 2) := by decide +kernel
theorem dX6_countTurns_27 : decode cX6_countTurns 27 = .ok (.if_icmp .eq 9, 3) := by decide +kernel
theorem dX6_countTurns_30 : decode cX6_countTurns 30 = .ok (.iload_n 3, 1) := by decide +kernel
theorem dX6_countTurns_31 : decode cX6_countTurns 31 = .ok (.bipush 91, 2) := by decide +kernel
theorem dX6_countTurns_33 : decode cX6_countTurns 33 = .ok (.if_icmp .ne 38, 3) := by decide +kernel
theorem dX6_countTurns_36 : decode cX6_countTurns 36 = .ok (.aload_n 0, 1) := by decide +kernel
theorem dX6_countTurns_37 : decode cX6_countTurns 37 = .ok (.getfield 40, 3) := by decide +kernel
theorem dX6_countTurns_40 : decode cX6_countTurns 40 = .ok (.aload_n 0, 1) := by decide +kernel
theorem dX6_countTurns_41 : decode cX6_countTurns 41 = .ok (.getfield 137, 3) := by decide +kernel
theorem dX6_countTurns_44 : decode cX6_countTurns 44 = .ok (.iload_n 1, 1) := by decide +kernel
theorem dX6_countTurns_45 : decode cX6_countTurns 45 = .ok (.iastore, 1) := by decide +kernel
theorem dX6_countTurns_46 : decode cX6_countTurns 46 = .ok (.aload_n 0, 1) := by decide +kernel
theorem dX6_countTurns_47 : decode cX6_countTurns 47 = .ok (.getfield 43, 3) := by decide +kernel
theorem dX6_countTurns_50 : decode cX6_countTurns 50 = .ok (.aload_n 0, 1) := by decide +kernel
theorem dX6_countTurns_51 : decode cX6_countTurns 51 = .ok (.getfield 137, 3) := by decide +kernel
theorem dX6_countTurns_54 : decode cX6_countTurns 54 = .ok (.iconst 0, 1) := by decide +kernel
theorem dX6_countTurns_55 : decode cX6_countTurns 55 = .ok (.iastore, 1) := by decide +kernel
theorem dX6_countTurns_56 : decode cX6_countTurns 56 = .ok (.aload_n 0, 1) := by decide +kernel
theorem dX6_countTurns_57 : decode cX6_countTurns 57 = .ok (.dup, 1) := by decide +kernel
theorem dX6_countTurns_58 : decode cX6_countTurns 58 = .ok (.getfield 137, 3) := by decide +kernel
theorem dX6_countTurns_61 : decode cX6_countTurns 61 = .ok (.iconst 1, 1) := by decide +kernel
theorem dX6_countTurns_62 : decode cX6_countTurns 62 = .ok (.iadd, 1) := by decide +kernel
theorem dX6_countTurns_63 : decode cX6_countTurns 63 = .ok (.putfield 137, 3) := by decide +kernel
theorem dX6_countTurns_66 : decode cX6_countTurns 66 = .ok (.iconst 0, 1) := by decide +kernel
theorem dX6_countTurns_67 : decode cX6_countTurns 67 = .ok (.istore_n 1, 1) := by decide +kernel
theorem dX6_countTurns_68 : decode cX6_countTurns 68 = .ok (.goto 118, 3) := by decide +kernel
theorem dX6_countTurns_71 : decode cX6_countTurns 71 = .ok (.iload_n 3, 1) := by decide +kernel
theorem dX6_countTurns_72 : decode cX6_countTurns 72 = .ok (.bipush 41, 2) := by decide +kernel
theorem dX6_countTurns_74 : decode cX6_countTurns 74 = .ok (.if_icmp .ne 43, 3) := by decide +kernel
theorem dX6_countTurns_77 : decode cX6_countTurns 77 = .ok (.aload_n 0, 1) := by decide +kernel
theorem dX6_countTurns_78 : decode cX6_countTurns 78 = .ok (.dup, 1) := by decide +kernel
theorem dX6_countTurns_79 : decode cX6_countTurns 79 = .ok (.getfield 137, 3) := by decide +kernel
theorem dX6_countTurns_82 : decode cX6_countTurns 82 = .ok (.iconst 1, 1) := by decide +kernel
theorem dX6_countTurns_83 : decode cX6_countTurns 83 = .ok (.isub, 1) := by decide +kernel
theorem dX6_countTurns_84 : decode cX6_countTurns 84 = .ok (.putfield 137, 3) := by decide +kernel
theorem dX6_countTurns_87 : decode cX6_countTurns 87 = .ok (.aload_n 0, 1) := by decide +kernel
theorem dX6_countTurns_88 : decode cX6_countTurns 88 = .ok (.getfield 40, 3) := by decide +kernel
theorem dX6_countTurns_91 : decode cX6_countTurns 91 = .ok (.aload_n 0, 1) := by decide +kernel
theorem dX6_countTurns_92 : decode cX6_countTurns 92 = .ok (.getfield 137, 3) := by decide +kernel
theorem dX6_countTurns_95 : decode cX6_countTurns 95 = .ok (.iaload, 1) := by decide +kernel
theorem dX6_countTurns_96 : decode cX6_countTurns 96 = .ok (.iload_n 1, 1) := by decide +kernel
theorem dX6_countTurns_97 : decode cX6_countTurns 97 = .ok (.aload_n 0, 1) := by decide +kernel
theorem dX6_countTurns_98 : decode cX6_countTurns 98 = .ok (.getfield 22, 3) := by decide +kernel
theorem dX6_countTurns_101 : decode cX6_countTurns 101 = .ok (.iload_n 2, 1) := by decide +kernel
theorem dX6_countTurns_102 : decode cX6_countTurns 102 = .ok (.iconst 1, 1) := by decide +kernel
theorem dX6_countTurns_103 : decode cX6_countTurns 103 = .ok (.iadd, 1) := by decide +kernel
theorem dX6_countTurns_104 : decode cX6_countTurns 104 = .ok (.iaload, 1) := by decide +kernel
theorem dX6_countTurns_105 : decode cX6_countTurns 105 = .ok (.bipush 48, 2) := by decide +kernel
theorem dX6_countTurns_107 : decode cX6_countTurns 107 = .ok (.isub, 1) := by decide +kernel
theorem dX6_countTurns_108 : decode cX6_countTurns 108 = .ok (.imul, 1) := by decide +kernel
theorem dX6_countTurns_109 : decode cX6_countTurns 109 = .ok (.iadd, 1) := by decide +kernel
theorem dX6_countTurns_110 : decode cX6_countTurns 110 = .ok (.istore_n 1, 1) := by decide +kernel
theorem dX6_countTurns_111 : decode cX6_countTurns 111 = .ok (.iinc 2 1, 3) := by decide +kernel
theorem dX6_countTurns_114 : decode cX6_countTurns 114 = .ok (.goto 72, 3) := by decide +kernel
theorem dX6_countTurns_117 : decode cX6_countTurns 117 = .ok (.iload_n 3, 1) := by decide +kernel
theorem dX6_countTurns_118 : decode cX6_countTurns 118 = .ok (.bipush 44, 2) := by decide +kernel
theorem dX6_countTurns_120 : decode cX6_countTurns 120 = .ok (.if_icmp .ne 20, 3) := by decide +kernel
theorem dX6_countTurns_123 : decode cX6_countTurns 123 = .ok (.aload_n 0, 1) := by decide +kernel
theorem dX6_countTurns_124 : decode cX6_countTurns 124 = .ok (.getfield 43, 3) := by decide +kernel
theorem dX6_countTurns_127 : decode cX6_countTurns 127 = .ok (.aload_n 0, 1) := by decide +kernel
theorem dX6_countTurns_128 : decode cX6_countTurns 128 = .ok (.getfield 137, 3) := by decide +kernel
theorem dX6_countTurns_131 : decode cX6_countTurns 131 = .ok (.iconst 1, 1) := by decide +kernel
theorem dX6_countTurns_132 : decode cX6_countTurns 132 = .ok (.isub, 1) := by decide +kernel
theorem dX6_countTurns_133 : decode cX6_countTurns 133 = .ok (.iload_n 1, 1) := by decide +kernel
theorem dX6_countTurns_134 : decode cX6_countTurns 134 = .ok (.iastore, 1) := by decide +kernel
theorem dX6_countTurns_135 : decode cX6_countTurns 135 = .ok (.iconst 0, 1) := by decide +kernel
theorem dX6_countTurns_136 : decode cX6_countTurns 136 = .ok (.istore_n 1, 1) := by decide +kernel
theorem dX6_countTurns_137 : decode cX6_countTurns 137 = .ok (.goto 49, 3) := by decide +kernel
theorem dX6_countTurns_140 : decode cX6_countTurns 140 = .ok (.iload_n 3, 1) := by decide +kernel
theorem dX6_countTurns_141 : decode cX6_countTurns 141 = .ok (.bipush 93, 2) := by decide +kernel
theorem dX6_countTurns_143 : decode cX6_countTurns 143 = .ok (.if_icmp .ne 40, 3) := by decide +kernel
theorem dX6_countTurns_146 : decode cX6_countTurns 146 = .ok (.aload_n 0, 1) := by decide +kernel
theorem dX6_countTurns_147 : decode cX6_countTurns 147 = .ok (.dup, 1) := by decide +kernel
theorem dX6_countTurns_148 : decode cX6_countTurns 148 = .ok (.getfield 137, 3) := by decide +kernel
theorem dX6_countTurns_151 : decode cX6_countTurns 151 = .ok (.iconst 1, 1) := by decide +kernel
theorem dX6_countTurns_152 : decode cX6_countTurns 152 = .ok (.isub, 1) := by decide +kernel
theorem dX6_countTurns_153 : decode cX6_countTurns 153 = .ok (.putfield 137, 3) := by decide +kernel
theorem dX6_countTurns_156 : decode cX6_countTurns 156 = .ok (.aload_n 0, 1) := by decide +kernel
theorem dX6_countTurns_157 : decode cX6_countTurns 157 = .ok (.getfield 40, 3) := by decide +kernel
theorem dX6_countTurns_160 : decode cX6_countTurns 160 = .ok (.aload_n 0, 1) := by decide +kernel
theorem dX6_countTurns_161 : decode cX6_countTurns 161 = .ok (.getfield 137, 3) := by decide +kernel
theorem dX6_countTurns_164 : decode cX6_countTurns 164 = .ok (.iaload, 1) := by decide +kernel
theorem dX6_countTurns_165 : decode cX6_countTurns 165 = .ok (.iconst 2, 1) := by decide +kernel
theorem dX6_countTurns_166 : decode cX6_countTurns 166 = .ok (.aload_n 0, 1) := by decide +kernel
theorem dX6_countTurns_167 : decode cX6_countTurns 167 = .ok (.getfield 43, 3) := by decide +kernel
theorem dX6_countTurns_170 : decode cX6_countTurns 170 = .ok (.aload_n 0, 1) := by decide +kernel
theorem dX6_countTurns_171 : decode cX6_countTurns 171 = .ok (.getfield 137, 3) := by decide +kernel
theorem dX6_countTurns_174 : decode cX6_countTurns 174 = .ok (.iaload, 1) := by decide +kernel
theorem dX6_countTurns_175 : decode cX6_countTurns 175 = .ok (.iload_n 1, 1) := by decide +kernel
theorem dX6_countTurns_176 : decode cX6_countTurns 176 = .ok (.iadd, 1) := by decide +kernel
theorem dX6_countTurns_177 : decode cX6_countTurns 177 = .ok (.imul, 1) := by decide +kernel
theorem dX6_countTurns_178 : decode cX6_countTurns 178 = .ok (.iadd, 1) := by decide +kernel
theorem dX6_countTurns_179 : decode cX6_countTurns 179 = .ok (.istore_n 1, 1) := by decide +kernel
theorem dX6_countTurns_180 : decode cX6_countTurns 180 = .ok (.goto 6, 3) := by decide +kernel
theorem dX6_countTurns_183 : decode cX6_countTurns 183 = .ok (.iinc 1 1, 3) := by decide +kernel
theorem dX6_countTurns_186 : decode cX6_countTurns 186 = .ok (.iinc 2 1, 3) := by decide +kernel
theorem dX6_countTurns_189 : decode cX6_countTurns 189 = .ok (.goto (-180), 3) := by decide +kernel
theorem dX6_countTurns_192 : decode cX6_countTurns 192 = .ok (.iload_n 1, 1) := by decide +kernel
theorem dX6_countTurns_193 : decode cX6_countTurns 193 = .ok (.sipush 9999, 3) := by decide +kernel
theorem dX6_countTurns_196 : decode cX6_countTurns 196 = .ok (.if_icmp .le 9, 3) := by decide +kernel
theorem dX6_countTurns_199 : decode cX6_countTurns 199 = .ok (.sipush 9999, 3) := by decide +kernel
theorem dX6_countTurns_202 : decode cX6_countTurns 202 = .ok (.goto 4, 3) := by decide +kernel
theorem dX6_countTurns_205 : decode cX6_countTurns 205 = .ok (.iload_n 1, 1) := by decide +kernel
theorem dX6_countTurns_206 : decode cX6_countTurns 206 = .ok (.ireturn, 1) := by decide +kernel
theorem dX6_keysAt_0 : decode cX6_keysAt 0 = .ok (.iconst 0, 1) := by decide +kernel
theorem dX6_keysAt_1 : decode cX6_keysAt 1 = .ok (.istore_n 2, 1) := by decide +kernel
theorem dX6_keysAt_2 : decode cX6_keysAt 2 = .ok (.iconst 0, 1) := by decide +kernel
theorem dX6_keysAt_3 : decode cX6_keysAt 3 = .ok (.istore_n 3, 1) := by decide +kernel
theorem dX6_keysAt_4 : decode cX6_keysAt 4 = .ok (.iload_n 3, 1) := by decide +kernel
theorem dX6_keysAt_5 : decode cX6_keysAt 5 = .ok (.iconst 5, 1) := by decide +kernel
theorem dX6_keysAt_6 : decode cX6_keysAt 6 = .ok (.if_icmp .ge 28, 3) := by decide +kernel
theorem dX6_keysAt_9 : decode cX6_keysAt 9 = .ok (.iload_n 2, 1) := by decide +kernel
theorem dX6_keysAt_10 : decode cX6_keysAt 10 = .ok (.aload_n 0, 1) := by decide +kernel
theorem dX6_keysAt_11 : decode cX6_keysAt 11 = .ok (.iload_n 3, 1) := by decide +kernel
theorem dX6_keysAt_12 : decode cX6_keysAt 12 = .ok (.iload_n 1, 1) := by decide +kernel
theorem dX6_keysAt_13 : decode cX6_keysAt 13 = .ok (.invokevirtual 64, 3) := by decide +kernel
theorem dX6_keysAt_16 : decode cX6_keysAt 16 = .ok (.ifCond .eq 9, 3) := by decide +kernel
theorem dX6_keysAt_19 : decode cX6_keysAt 19 = .ok (.iconst 1, 1) := by decide +kernel
theorem dX6_keysAt_20 : decode cX6_keysAt 20 = .ok (.iload_n 3, 1) := by decide +kernel
theorem dX6_keysAt_21 : decode cX6_keysAt 21 = .ok (.ishl, 1) := by decide +kernel
theorem dX6_keysAt_22 : decode cX6_keysAt 22 = .ok (.goto 4, 3) := by decide +kernel
theorem dX6_keysAt_25 : decode cX6_keysAt 25 = .ok (.iconst 0, 1) := by decide +kernel
theorem dX6_keysAt_26 : decode cX6_keysAt 26 = .ok (.ior, 1) := by decide +kernel
theorem dX6_keysAt_27 : decode cX6_keysAt 27 = .ok (.istore_n 2, 1) := by decide +kernel
theorem dX6_keysAt_28 : decode cX6_keysAt 28 = .ok (.iinc 3 1, 3) := by decide +kernel
theorem dX6_keysAt_31 : decode cX6_keysAt 31 = .ok (.goto (-27), 3) := by decide +kernel
theorem dX6_keysAt_34 : decode cX6_keysAt 34 = .ok (.iload_n 2, 1) := by decide +kernel
theorem dX6_keysAt_35 : decode cX6_keysAt 35 = .ok (.ireturn, 1) := by decide +kernel
theorem dX6_atNow_0 : decode cX6_atNow 0 = .ok (.iload_n 2, 1) := by decide +kernel
theorem dX6_atNow_1 : decode cX6_atNow 1 = .ok (.tableswitch 74 0 3 #[31, 40, 50, 60], 31) := by decide +kernel
theorem dX6_atNow_32 : decode cX6_atNow 32 = .ok (.aload_n 0, 1) := by decide +kernel
theorem dX6_atNow_33 : decode cX6_atNow 33 = .ok (.getfield 7, 3) := by decide +kernel
theorem dX6_atNow_36 : decode cX6_atNow 36 = .ok (.iconst 0, 1) := by decide +kernel
theorem dX6_atNow_37 : decode cX6_atNow 37 = .ok (.iload_n 1, 1) := by decide +kernel
theorem dX6_atNow_38 : decode cX6_atNow 38 = .ok (.iadd, 1) := by decide +kernel
theorem dX6_atNow_39 : decode cX6_atNow 39 = .ok (.iaload, 1) := by decide +kernel
theorem dX6_atNow_40 : decode cX6_atNow 40 = .ok (.ireturn, 1) := by decide +kernel
theorem dX6_atNow_41 : decode cX6_atNow 41 = .ok (.aload_n 0, 1) := by decide +kernel
theorem dX6_atNow_42 : decode cX6_atNow 42 = .ok (.getfield 7, 3) := by decide +kernel
theorem dX6_atNow_45 : decode cX6_atNow 45 = .ok (.bipush 6, 2) := by decide +kernel
theorem dX6_atNow_47 : decode cX6_atNow 47 = .ok (.iload_n 1, 1) := by decide +kernel
theorem dX6_atNow_48 : decode cX6_atNow 48 = .ok (.iadd, 1) := by decide +kernel
theorem dX6_atNow_49 : decode cX6_atNow 49 = .ok (.iaload, 1) := by decide +kernel
theorem dX6_atNow_50 : decode cX6_atNow 50 = .ok (.ireturn, 1) := by decide +kernel
theorem dX6_atNow_51 : decode cX6_atNow 51 = .ok (.aload_n 0, 1) := by decide +kernel
theorem dX6_atNow_52 : decode cX6_atNow 52 = .ok (.getfield 7, 3) := by decide +kernel
theorem dX6_atNow_55 : decode cX6_atNow 55 = .ok (.bipush 12, 2) := by decide +kernel
theorem dX6_atNow_57 : decode cX6_atNow 57 = .ok (.iload_n 1, 1) := by decide +kernel
theorem dX6_atNow_58 : decode cX6_atNow 58 = .ok (.iadd, 1) := by decide +kernel
theorem dX6_atNow_59 : decode cX6_atNow 59 = .ok (.iaload, 1) := by decide +kernel
theorem dX6_atNow_60 : decode cX6_atNow 60 = .ok (.ireturn, 1) := by decide +kernel
theorem dX6_atNow_61 : decode cX6_atNow 61 = .ok (.aload_n 0, 1) := by decide +kernel
theorem dX6_atNow_62 : decode cX6_atNow 62 = .ok (.iload_n 1, 1) := by decide +kernel
theorem dX6_atNow_63 : decode cX6_atNow 63 = .ok (.invokevirtual 72, 3) := by decide +kernel
theorem dX6_atNow_66 : decode cX6_atNow 66 = .ok (.ifCond .eq 7, 3) := by decide +kernel
theorem dX6_atNow_69 : decode cX6_atNow 69 = .ok (.iconst 1, 1) := by decide +kernel
theorem dX6_atNow_70 : decode cX6_atNow 70 = .ok (.goto 4, 3) := by decide +kernel
theorem dX6_atNow_73 : decode cX6_atNow 73 = .ok (.iconst 0, 1) := by decide +kernel
theorem dX6_atNow_74 : decode cX6_atNow 74 = .ok (.ireturn, 1) := by decide +kernel
theorem dX6_atNow_75 : decode cX6_atNow 75 = .ok (.aload_n 0, 1) := by decide +kernel
theorem dX6_atNow_76 : decode cX6_atNow 76 = .ok (.iload_n 1, 1) := by decide +kernel
theorem dX6_atNow_77 : decode cX6_atNow 77 = .ok (.invokevirtual 156, 3) := by decide +kernel
theorem dX6_atNow_80 : decode cX6_atNow 80 = .ok (.ireturn, 1) := by decide +kernel
theorem dX6_at_0 : decode cX6_at 0 = .ok (.aload_n 0, 1) := by decide +kernel
theorem dX6_at_1 : decode cX6_at 1 = .ok (.iload_n 1, 1) := by decide +kernel
theorem dX6_at_2 : decode cX6_at 2 = .ok (.invokestatic 122, 3) := by decide +kernel
theorem dX6_at_5 : decode cX6_at 5 = .ok (.ifCond .ne 7, 3) := by decide +kernel
theorem dX6_at_8 : decode cX6_at 8 = .ok (.iconst 1, 1) := by decide +kernel
theorem dX6_at_9 : decode cX6_at 9 = .ok (.goto 17, 3) := by decide +kernel
theorem dX6_at_12 : decode cX6_at 12 = .ok (.iload_n 2, 1) := by decide +kernel
theorem dX6_at_13 : decode cX6_at 13 = .ok (.iconst 0, 1) := by decide +kernel
theorem dX6_at_14 : decode cX6_at 14 = .ok (.iconst 4, 1) := by decide +kernel
theorem dX6_at_15 : decode cX6_at 15 = .ok (.invokestatic 50, 3) := by decide +kernel
theorem dX6_at_18 : decode cX6_at 18 = .ok (.ifCond .eq 7, 3) := by decide +kernel
theorem dX6_at_21 : decode cX6_at 21 = .ok (.iconst 0, 1) := by decide +kernel
theorem dX6_at_22 : decode cX6_at 22 = .ok (.goto 4, 3) := by decide +kernel
theorem dX6_at_25 : decode cX6_at 25 = .ok (.iconst 2, 1) := by decide +kernel
theorem dX6_at_26 : decode cX6_at 26 = .ok (.putfield 46, 3) := by decide +kernel
theorem dX6_at_29 : decode cX6_at 29 = .ok (.aload_n 0, 1) := by decide +kernel
theorem dX6_at_30 : decode cX6_at 30 = .ok (.getfield 46, 3) := by decide +kernel
theorem dX6_at_33 : decode cX6_at 33 = .ok (.ifCond .le 7, 3) := by decide +kernel
theorem dX6_at_36 : decode cX6_at 36 = .ok (.iconst 0, 1) := by decide +kernel
theorem dX6_at_37 : decode cX6_at 37 = .ok (.goto 9, 3) := by decide +kernel
theorem dX6_at_40 : decode cX6_at 40 = .ok (.aload_n 0, 1) := by decide +kernel
theorem dX6_at_41 : decode cX6_at 41 = .ok (.iload_n 1, 1) := by decide +kernel
theorem dX6_at_42 : decode cX6_at 42 = .ok (.iload_n 2, 1) := by decide +kernel
theorem dX6_at_43 : decode cX6_at 43 = .ok (.invokevirtual 159, 3) := by decide +kernel
theorem dX6_at_46 : decode cX6_at 46 = .ok (.ireturn, 1) := by decide +kernel
theorem dX6_reach_0 : decode cX6_reach 0 = .ok (.iconst 0, 1) := by decide +kernel
theorem dX6_reach_1 : decode cX6_reach 1 = .ok (.istore_n 1, 1) := by decide +kernel
theorem dX6_reach_2 : decode cX6_reach 2 = .ok (.iconst 0, 1) := by decide +kernel
theorem dX6_reach_3 : decode cX6_reach 3 = .ok (.istore_n 2, 1) := by decide +kernel
theorem dX6_reach_4 : decode cX6_reach 4 = .ok (.iload_n 2, 1) := by decide +kernel
theorem dX6_reach_5 : decode cX6_reach 5 = .ok (.bipush 6, 2) := by decide +kernel
theorem dX6_reach_7 : decode cX6_reach 7 = .ok (.if_icmp .ge 43, 3) := by decide +kernel
theorem dX6_reach_10 : decode cX6_reach 10 = .ok (.iload_n 1, 1) := by decide +kernel
theorem dX6_reach_11 : decode cX6_reach 11 = .ok (.aload_n 0, 1) := by decide +kernel
theorem dX6_reach_12 : decode cX6_reach 12 = .ok (.getfield 7, 3) := by decide +kernel
theorem dX6_reach_15 : decode cX6_reach 15 = .ok (.iconst 0, 1) := by decide +kernel
theorem dX6_reach_16 : decode cX6_reach 16 = .ok (.iload_n 2, 1) := by decide +kernel
theorem dX6_reach_17 : decode cX6_reach 17 = .ok (.iadd, 1) := by decide +kernel
theorem dX6_reach_18 : decode cX6_reach 18 = .ok (.iaload, 1) := by decide +kernel
theorem dX6_reach_19 : decode cX6_reach 19 = .ok (.iload_n 2, 1) := by decide +kernel
theorem dX6_reach_20 : decode cX6_reach 20 = .ok (.if_icmp .ne 15, 3) := by decide +kernel
theorem dX6_reach_23 : decode cX6_reach 23 = .ok (.aload_n 0, 1) := by decide +kernel
theorem dX6_reach_24 : decode cX6_reach 24 = .ok (.getfield 7, 3) := by decide +kernel
theorem dX6_reach_27 : decode cX6_reach 27 = .ok (.bipush 6, 2) := by decide +kernel
theorem dX6_reach_29 : decode cX6_reach 29 = .ok (.iload_n 2, 1) := by decide +kernel
theorem dX6_reach_30 : decode cX6_reach 30 = .ok (.iadd, 1) := by decide +kernel
theorem dX6_reach_31 : decode cX6_reach 31 = .ok (.iaload, 1) := by decide +kernel
theorem dX6_reach_32 : decode cX6_reach 32 = .ok (.ifCond .eq 9, 3) := by decide +kernel
theorem dX6_reach_35 : decode cX6_reach 35 = .ok (.iconst 1, 1) := by decide +kernel
theorem dX6_reach_36 : decode cX6_reach 36 = .ok (.iload_n 2, 1) := by decide +kernel
theorem dX6_reach_37 : decode cX6_reach 37 = .ok (.ishl, 1) := by decide +kernel
theorem dX6_reach_38 : decode cX6_reach 38 = .ok (.goto 4, 3) := by decide +kernel
theorem dX6_reach_41 : decode cX6_reach 41 = .ok (.iconst 0, 1) := by decide +kernel
theorem dX6_reach_42 : decode cX6_reach 42 = .ok (.ior, 1) := by decide +kernel
theorem dX6_reach_43 : decode cX6_reach 43 = .ok (.istore_n 1, 1) := by decide +kernel
theorem dX6_reach_44 : decode cX6_reach 44 = .ok (.iinc 2 1, 3) := by decide +kernel
theorem dX6_reach_47 : decode cX6_reach 47 = .ok (.goto (-43), 3) := by decide +kernel
theorem dX6_reach_50 : decode cX6_reach 50 = .ok (.iload_n 1, 1) := by decide +kernel
theorem dX6_reach_51 : decode cX6_reach 51 = .ok (.ireturn, 1) := by decide +kernel
theorem dX6_common_0 : decode cX6_common 0 = .ok (.iload_n 0, 1) := by decide +kernel
theorem dX6_common_1 : decode cX6_common 1 = .ok (.istore_n 2, 1) := by decide +kernel
theorem dX6_common_2 : decode cX6_common 2 = .ok (.iload_n 1, 1) := by decide +kernel
theorem dX6_common_3 : decode cX6_common 3 = .ok (.istore_n 3, 1) := by decide +kernel
theorem dX6_common_4 : decode cX6_common 4 = .ok (.iload_n 3, 1) := by decide +kernel
theorem dX6_common_5 : decode cX6_common 5 = .ok (.ifCond .le 16, 3) := by decide +kernel
theorem dX6_common_8 : decode cX6_common 8 = .ok (.iload_n 2, 1) := by decide +kernel
theorem dX6_common_9 : decode cX6_common 9 = .ok (.iload_n 3, 1) := by decide +kernel
theorem dX6_common_10 : decode cX6_common 10 = .ok (.irem, 1) := by decide +kernel
theorem dX6_common_11 : decode cX6_common 11 = .ok (.istore 4, 2) := by decide +kernel
theorem dX6_common_13 : decode cX6_common 13 = .ok (.iload_n 3, 1) := by decide +kernel
theorem dX6_common_14 : decode cX6_common 14 = .ok (.istore_n 2, 1) := by decide +kernel
theorem dX6_common_15 : decode cX6_common 15 = .ok (.iload 4, 2) := by decide +kernel
theorem dX6_common_17 : decode cX6_common 17 = .ok (.istore_n 3, 1) := by decide +kernel
theorem dX6_common_18 : decode cX6_common 18 = .ok (.goto (-14), 3) := by decide +kernel
theorem dX6_common_21 : decode cX6_common 21 = .ok (.iload_n 2, 1) := by decide +kernel
theorem dX6_common_22 : decode cX6_common 22 = .ok (.ireturn, 1) := by decide +kernel
theorem dX6_period_0 : decode cX6_period 0 = .ok (.iconst 1, 1) := by decide +kernel
theorem dX6_period_1 : decode cX6_period 1 = .ok (.istore_n 1, 1) := by decide +kernel
theorem dX6_period_2 : decode cX6_period 2 = .ok (.iconst 0, 1) := by decide +kernel
theorem dX6_period_3 : decode cX6_period 3 = .ok (.istore_n 2, 1) := by decide +kernel
theorem dX6_period_4 : decode cX6_period 4 = .ok (.iload_n 2, 1) := by decide +kernel
theorem dX6_period_5 : decode cX6_period 5 = .ok (.bipush 6, 2) := by decide +kernel
theorem dX6_period_7 : decode cX6_period 7 = .ok (.if_icmp .ge 114, 3) := by decide +kernel
theorem dX6_period_10 : decode cX6_period 10 = .ok (.iconst 0, 1) := by decide +kernel
theorem dX6_period_11 : decode cX6_period 11 = .ok (.istore_n 3, 1) := by decide +kernel
theorem dX6_period_12 : decode cX6_period 12 = .ok (.iconst 0, 1) := by decide +kernel
theorem dX6_period_13 : decode cX6_period 13 = .ok (.istore 4, 2) := by decide +kernel
theorem dX6_period_15 : decode cX6_period 15 = .ok (.iload_n 2, 1) := by decide +kernel
theorem dX6_period_16 : decode cX6_period 16 = .ok (.istore 5, 2) := by decide +kernel
theorem dX6_period_18 : decode cX6_period 18 = .ok (.iconst 1, 1) := by decide +kernel
theorem dX6_period_19 : decode cX6_period 19 = .ok (.istore 6, 2) := by decide +kernel
theorem dX6_period_21 : decode cX6_period 21 = .ok (.iload 6, 2) := by decide +kernel
theorem dX6_period_23 : decode cX6_period 23 = .ok (.ifCond .eq 64, 3) := by decide +kernel
theorem dX6_period_26 : decode cX6_period 26 = .ok (.iconst 0, 1) := by decide +kernel
theorem dX6_period_27 : decode cX6_period 27 = .ok (.istore 7, 2) := by decide +kernel
theorem dX6_period_29 : decode cX6_period 29 = .ok (.aload_n 0, 1) := by decide +kernel
theorem dX6_period_30 : decode cX6_period 30 = .ok (.getfield 7, 3) := by decide +kernel
theorem dX6_period_33 : decode cX6_period 33 = .ok (.iconst 0, 1) := by decide +kernel
theorem dX6_period_34 : decode cX6_period 34 = .ok (.iload 7, 2) := by decide +kernel
theorem dX6_period_36 : decode cX6_period 36 = .ok (.iadd, 1) := by decide +kernel
theorem dX6_period_37 : decode cX6_period 37 = .ok (.iaload, 1) := by decide +kernel
theorem dX6_period_38 : decode cX6_period 38 = .ok (.iload 5, 2) := by decide +kernel
theorem dX6_period_40 : decode cX6_period 40 = .ok (.if_icmp .eq 9, 3) := by decide +kernel
theorem dX6_period_43 : decode cX6_period 43 = .ok (.iinc 7 1, 3) := by decide +kernel
theorem dX6_period_46 : decode cX6_period 46 = .ok (.goto (-17), 3) := by decide +kernel
theorem dX6_period_49 : decode cX6_period 49 = .ok (.iinc 3 1, 3) := by decide +kernel
theorem dX6_period_52 : decode cX6_period 52 = .ok (.iload 4, 2) := by decide +kernel
theorem dX6_period_54 : decode cX6_period 54 = .ok (.aload_n 0, 1) := by decide +kernel
theorem dX6_period_55 : decode cX6_period 55 = .ok (.getfield 7, 3) := by decide +kernel
theorem dX6_period_58 : decode cX6_period 58 = .ok (.bipush 6, 2) := by decide +kernel
theorem dX6_period_60 : decode cX6_period 60 = .ok (.iload 7, 2) := by decide +kernel
theorem dX6_period_62 : decode cX6_period 62 = .ok (.iadd, 1) := by decide +kernel
theorem dX6_period_63 : decode cX6_period 63 = .ok (.iaload, 1) := by decide +kernel
theorem dX6_period_64 : decode cX6_period 64 = .ok (.iadd, 1) := by decide +kernel
theorem dX6_period_65 : decode cX6_period 65 = .ok (.istore 4, 2) := by decide +kernel
theorem dX6_period_67 : decode cX6_period 67 = .ok (.iload 7, 2) := by decide +kernel
theorem dX6_period_69 : decode cX6_period 69 = .ok (.istore 5, 2) := by decide +kernel
theorem dX6_period_71 : decode cX6_period 71 = .ok (.iload 5, 2) := by decide +kernel
theorem dX6_period_73 : decode cX6_period 73 = .ok (.iload_n 2, 1) := by decide +kernel
theorem dX6_period_74 : decode cX6_period 74 = .ok (.if_icmp .eq 7, 3) := by decide +kernel
theorem dX6_period_77 : decode cX6_period 77 = .ok (.iconst 1, 1) := by decide +kernel
theorem dX6_period_78 : decode cX6_period 78 = .ok (.goto 4, 3) := by decide +kernel
theorem dX6_period_81 : decode cX6_period 81 = .ok (.iconst 0, 1) := by decide +kernel
theorem dX6_period_82 : decode cX6_period 82 = .ok (.istore 6, 2) := by decide +kernel
theorem dX6_period_84 : decode cX6_period 84 = .ok (.goto (-63), 3) := by decide +kernel
theorem dX6_period_87 : decode cX6_period 87 = .ok (.iload 4, 2) := by decide +kernel
theorem dX6_period_89 : decode cX6_period 89 = .ok (.iconst 5, 1) := by decide +kernel
theorem dX6_period_90 : decode cX6_period 90 = .ok (.irem, 1) := by decide +kernel
theorem dX6_period_91 : decode cX6_period 91 = .ok (.ifCond .ne 7, 3) := by decide +kernel
theorem dX6_period_94 : decode cX6_period 94 = .ok (.iload_n 3, 1) := by decide +kernel
theorem dX6_period_95 : decode cX6_period 95 = .ok (.goto 6, 3) := by decide +kernel
theorem dX6_period_98 : decode cX6_period 98 = .ok (.iconst 5, 1) := by decide +kernel
theorem dX6_period_99 : decode cX6_period 99 = .ok (.iload_n 3, 1) := by decide +kernel
theorem dX6_period_100 : decode cX6_period 100 = .ok (.imul, 1) := by decide +kernel
theorem dX6_period_101 : decode cX6_period 101 = .ok (.istore 7, 2) := by decide +kernel
theorem dX6_period_103 : decode cX6_period 103 = .ok (.iload_n 1, 1) := by decide +kernel
theorem dX6_period_104 : decode cX6_period 104 = .ok (.iload_n 1, 1) := by decide +kernel
theorem dX6_period_105 : decode cX6_period 105 = .ok (.iload 7, 2) := by decide +kernel
theorem dX6_period_107 : decode cX6_period 107 = .ok (.invokestatic 162, 3) := by decide +kernel
theorem dX6_period_110 : decode cX6_period 110 = .ok (.idiv, 1) := by decide +kernel
theorem dX6_period_111 : decode cX6_period 111 = .ok (.iload 7, 2) := by decide +kernel
theorem dX6_period_113 : decode cX6_period 113 = .ok (.imul, 1) := by decide +kernel
theorem dX6_period_114 : decode cX6_period 114 = .ok (.istore_n 1, 1) := by decide +kernel
theorem dX6_period_115 : decode cX6_period 115 = .ok (.iinc 2 1, 3) := by decide +kernel
theorem dX6_period_118 : decode cX6_period 118 = .ok (.goto (-114), 3) := by decide +kernel
theorem dX6_period_121 : decode cX6_period 121 = .ok (.iload_n 1, 1) := by decide +kernel
theorem dX6_period_122 : decode cX6_period 122 = .ok (.ireturn, 1) := by decide +kernel
theorem dX6_keyPeriod_0 : decode cX6_keyPeriod 0 = .ok (.aload_n 0, 1) := by decide +kernel
theorem dX6_keyPeriod_1 : decode cX6_keyPeriod 1 = .ok (.invokevirtual 165, 3) := by decide +kernel
theorem dX6_keyPeriod_4 : decode cX6_keyPeriod 4 = .ok (.aload_n 0, 1) := by decide +kernel
theorem dX6_keyPeriod_5 : decode cX6_keyPeriod 5 = .ok (.invokevirtual 119, 3) := by decide +kernel
theorem dX6_keyPeriod_8 : decode cX6_keyPeriod 8 = .ok (.aload_n 0, 1) := by decide +kernel
theorem dX6_keyPeriod_9 : decode cX6_keyPeriod 9 = .ok (.iload_n 1, 1) := by decide +kernel
theorem dX6_keyPeriod_10 : decode cX6_keyPeriod 10 = .ok (.invokevirtual 84, 3) := by decide +kernel
theorem dX6_keyPeriod_13 : decode cX6_keyPeriod 13 = .ok (.aload_n 0, 1) := by decide +kernel
theorem dX6_keyPeriod_14 : decode cX6_keyPeriod 14 = .ok (.invokevirtual 168, 3) := by decide +kernel
theorem dX6_keyPeriod_17 : decode cX6_keyPeriod 17 = .ok (.istore_n 2, 1) := by decide +kernel
theorem dX6_keyPeriod_18 : decode cX6_keyPeriod 18 = .ok (.aload_n 0, 1) := by decide +kernel
theorem dX6_keyPeriod_19 : decode cX6_keyPeriod 19 = .ok (.invokevirtual 171, 3) := by decide +kernel
theorem dX6_keyPeriod_22 : decode cX6_keyPeriod 22 = .ok (.iload_n 2, 1) := by decide +kernel
theorem dX6_keyPeriod_23 : decode cX6_keyPeriod 23 = .ok (.ireturn, 1) := by decide +kernel
theorem dX6_keyNow_0 : decode cX6_keyNow 0 = .ok (.iload_n 2, 1) := by decide +kernel
theorem dX6_keyNow_1 : decode cX6_keyNow 1 = .ok (.tableswitch 75 0 4 #[35, 45, 55, 55, 61], 35) := by decide +kernel
theorem dX6_keyNow_36 : decode cX6_keyNow 36 = .ok (.aload_n 0, 1) := by decide +kernel
theorem dX6_keyNow_37 : decode cX6_keyNow 37 = .ok (.getfield 7, 3) := by decide +kernel
theorem dX6_keyNow_40 : decode cX6_keyNow 40 = .ok (.bipush 18, 2) := by decide +kernel
theorem dX6_keyNow_42 : decode cX6_keyNow 42 = .ok (.iload_n 1, 1) := by decide +kernel
theorem dX6_keyNow_43 : decode cX6_keyNow 43 = .ok (.iadd, 1) := by decide +kernel
theorem dX6_keyNow_44 : decode cX6_keyNow 44 = .ok (.iaload, 1) := by decide +kernel
theorem dX6_keyNow_45 : decode cX6_keyNow 45 = .ok (.ireturn, 1) := by decide +kernel
theorem dX6_keyNow_46 : decode cX6_keyNow 46 = .ok (.aload_n 0, 1) := by decide +kernel
theorem dX6_keyNow_47 : decode cX6_keyNow 47 = .ok (.getfield 7, 3) := by decide +kernel
theorem dX6_keyNow_50 : decode cX6_keyNow 50 = .ok (.bipush 23, 2) := by decide +kernel
theorem dX6_keyNow_52 : decode cX6_keyNow 52 = .ok (.iload_n 1, 1) := by decide +kernel
theorem dX6_keyNow_53 : decode cX6_keyNow 53 = .ok (.iadd, 1) := by decide +kernel
theorem dX6_keyNow_54 : decode cX6_keyNow 54 = .ok (.iaload, 1) := by decide +kernel
theorem dX6_keyNow_55 : decode cX6_keyNow 55 = .ok (.ireturn, 1) := by decide +kernel
theorem dX6_keyNow_56 : decode cX6_keyNow 56 = .ok (.aload_n 0, 1) := by decide +kernel
theorem dX6_keyNow_57 : decode cX6_keyNow 57 = .ok (.iload_n 1, 1) := by decide +kernel
theorem dX6_keyNow_58 : decode cX6_keyNow 58 = .ok (.invokevirtual 174, 3) := by decide +kernel
theorem dX6_keyNow_61 : decode cX6_keyNow 61 = .ok (.ireturn, 1) := by decide +kernel
theorem dX6_keyNow_62 : decode cX6_keyNow 62 = .ok (.aload_n 0, 1) := by decide +kernel
theorem dX6_keyNow_63 : decode cX6_keyNow 63 = .ok (.iload_n 1, 1) := by decide +kernel
theorem dX6_keyNow_64 : decode cX6_keyNow 64 = .ok (.invokevirtual 95, 3) := by decide +kernel
theorem dX6_keyNow_67 : decode cX6_keyNow 67 = .ok (.ifCond .eq 7, 3) := by decide +kernel
theorem dX6_keyNow_70 : decode cX6_keyNow 70 = .ok (.iconst 1, 1) := by decide +kernel
theorem dX6_keyNow_71 : decode cX6_keyNow 71 = .ok (.goto 4, 3) := by decide +kernel
theorem dX6_keyNow_74 : decode cX6_keyNow 74 = .ok (.iconst 0, 1) := by decide +kernel
theorem dX6_keyNow_75 : decode cX6_keyNow 75 = .ok (.ireturn, 1) := by decide +kernel
theorem dX6_keyNow_76 : decode cX6_keyNow 76 = .ok (.aload_n 0, 1) := by decide +kernel
theorem dX6_keyNow_77 : decode cX6_keyNow 77 = .ok (.getfield 7, 3) := by decide +kernel
theorem dX6_keyNow_80 : decode cX6_keyNow 80 = .ok (.bipush 28, 2) := by decide +kernel
theorem dX6_keyNow_82 : decode cX6_keyNow 82 = .ok (.iload_n 1, 1) := by decide +kernel
theorem dX6_keyNow_83 : decode cX6_keyNow 83 = .ok (.iadd, 1) := by decide +kernel
theorem dX6_keyNow_84 : decode cX6_keyNow 84 = .ok (.iaload, 1) := by decide +kernel
theorem dX6_keyNow_85 : decode cX6_keyNow 85 = .ok (.ireturn, 1) := by decide +kernel
theorem dX6_key_0 : decode cX6_key 0 = .ok (.aload_n 0, 1) := by decide +kernel
theorem dX6_key_1 : decode cX6_key 1 = .ok (.iload_n 1, 1) := by decide +kernel
theorem dX6_key_2 : decode cX6_key 2 = .ok (.invokestatic 92, 3) := by decide +kernel
theorem dX6_key_5 : decode cX6_key 5 = .ok (.ifCond .ne 7, 3) := by decide +kernel
theorem dX6_key_8 : decode cX6_key 8 = .ok (.iconst 1, 1) := by decide +kernel
theorem dX6_key_9 : decode cX6_key 9 = .ok (.goto 17, 3) := by decide +kernel
theorem dX6_key_12 : decode cX6_key 12 = .ok (.iload_n 2, 1) := by decide +kernel
theorem dX6_key_13 : decode cX6_key 13 = .ok (.iconst 0, 1) := by decide +kernel
theorem dX6_key_14 : decode cX6_key 14 = .ok (.iconst 5, 1) := by decide +kernel
theorem dX6_key_15 : decode cX6_key 15 = .ok (.invokestatic 50, 3) := by decide +kernel
theorem dX6_key_18 : decode cX6_key 18 = .ok (.ifCond .eq 7, 3) := by decide +kernel
theorem dX6_key_21 : decode cX6_key 21 = .ok (.iconst 0, 1) := by decide +kernel
theorem dX6_key_22 : decode cX6_key 22 = .ok (.goto 4, 3) := by decide +kernel
theorem dX6_key_25 : decode cX6_key 25 = .ok (.iconst 2, 1) := by decide +kernel
theorem dX6_key_26 : decode cX6_key 26 = .ok (.putfield 46, 3) := by decide +kernel
theorem dX6_key_29 : decode cX6_key 29 = .ok (.aload_n 0, 1) := by decide +kernel
theorem dX6_key_30 : decode cX6_key 30 = .ok (.getfield 46, 3) := by decide +kernel
theorem dX6_key_33 : decode cX6_key 33 = .ok (.ifCond .le 7, 3) := by decide +kernel
theorem dX6_key_36 : decode cX6_key 36 = .ok (.iconst 0, 1) := by decide +kernel
theorem dX6_key_37 : decode cX6_key 37 = .ok (.goto 9, 3) := by decide +kernel
theorem dX6_key_40 : decode cX6_key 40 = .ok (.aload_n 0, 1) := by decide +kernel
theorem dX6_key_41 : decode cX6_key 41 = .ok (.iload_n 1, 1) := by decide +kernel
theorem dX6_key_42 : decode cX6_key 42 = .ok (.iload_n 2, 1) := by decide +kernel
theorem dX6_key_43 : decode cX6_key 43 = .ok (.invokevirtual 177, 3) := by decide +kernel
theorem dX6_key_46 : decode cX6_key 46 = .ok (.ireturn, 1) := by decide +kernel
theorem dX6_pairNow_0 : decode cX6_pairNow 0 = .ok (.aload_n 0, 1) := by decide +kernel
theorem dX6_pairNow_1 : decode cX6_pairNow 1 = .ok (.invokevirtual 165, 3) := by decide +kernel
theorem dX6_pairNow_4 : decode cX6_pairNow 4 = .ok (.aload_n 0, 1) := by decide +kernel
theorem dX6_pairNow_5 : decode cX6_pairNow 5 = .ok (.invokevirtual 119, 3) := by decide +kernel
theorem dX6_pairNow_8 : decode cX6_pairNow 8 = .ok (.aload_n 0, 1) := by decide +kernel
theorem dX6_pairNow_9 : decode cX6_pairNow 9 = .ok (.iload_n 1, 1) := by decide +kernel
theorem dX6_pairNow_10 : decode cX6_pairNow 10 = .ok (.invokevirtual 84, 3) := by decide +kernel
theorem dX6_pairNow_13 : decode cX6_pairNow 13 = .ok (.aload_n 0, 1) := by decide +kernel
theorem dX6_pairNow_14 : decode cX6_pairNow 14 = .ok (.iload_n 2, 1) := by decide +kernel
theorem dX6_pairNow_15 : decode cX6_pairNow 15 = .ok (.invokevirtual 84, 3) := by decide +kernel
theorem dX6_pairNow_18 : decode cX6_pairNow 18 = .ok (.aload_n 0, 1) := by decide +kernel
theorem dX6_pairNow_19 : decode cX6_pairNow 19 = .ok (.iconst 5, 1) := by decide +kernel
theorem dX6_pairNow_20 : decode cX6_pairNow 20 = .ok (.iload_n 1, 1) := by decide +kernel
theorem dX6_pairNow_21 : decode cX6_pairNow 21 = .ok (.iadd, 1) := by decide +kernel
theorem dX6_pairNow_22 : decode cX6_pairNow 22 = .ok (.invokevirtual 84, 3) := by decide +kernel
theorem dX6_pairNow_25 : decode cX6_pairNow 25 = .ok (.aload_n 0, 1) := by decide +kernel
theorem dX6_pairNow_26 : decode cX6_pairNow 26 = .ok (.iconst 5, 1) := by decide +kernel
theorem dX6_pairNow_27 : decode cX6_pairNow 27 = .ok (.iload_n 2, 1) := by decide +kernel
theorem dX6_pairNow_28 : decode cX6_pairNow 28 = .ok (.iadd, 1) := by decide +kernel
theorem dX6_pairNow_29 : decode cX6_pairNow 29 = .ok (.invokevirtual 84, 3) := by decide +kernel
theorem dX6_pairNow_32 : decode cX6_pairNow 32 = .ok (.aload_n 0, 1) := by decide +kernel
theorem dX6_pairNow_33 : decode cX6_pairNow 33 = .ok (.invokevirtual 180, 3) := by decide +kernel
theorem dX6_pairNow_36 : decode cX6_pairNow 36 = .ok (.istore 4, 2) := by decide +kernel
theorem dX6_pairNow_38 : decode cX6_pairNow 38 = .ok (.iload_n 3, 1) := by decide +kernel
theorem dX6_pairNow_39 : decode cX6_pairNow 39 = .ok (.ifCond .ne 8, 3) := by decide +kernel
theorem dX6_pairNow_42 : decode cX6_pairNow 42 = .ok (.iload 4, 2) := by decide +kernel
theorem dX6_pairNow_44 : decode cX6_pairNow 44 = .ok (.goto 38, 3) := by decide +kernel
theorem dX6_pairNow_47 : decode cX6_pairNow 47 = .ok (.iload_n 3, 1) := by decide +kernel
theorem dX6_pairNow_48 : decode cX6_pairNow 48 = .ok (.iconst 1, 1) := by decide +kernel
theorem dX6_pairNow_49 : decode cX6_pairNow 49 = .ok (.if_icmp .ne 11, 3) := by decide +kernel
theorem dX6_pairNow_52 : decode cX6_pairNow 52 = .ok (.iload 4, 2) := by decide +kernel
theorem dX6_pairNow_54 : decode cX6_pairNow 54 = .ok (.invokestatic 88, 3) := by decide +kernel
theorem dX6_pairNow_57 : decode cX6_pairNow 57 = .ok (.goto 25, 3) := by decide +kernel
theorem dX6_pairNow_60 : decode cX6_pairNow 60 = .ok (.iload_n 3, 1) := by decide +kernel
theorem dX6_pairNow_61 : decode cX6_pairNow 61 = .ok (.iconst 4, 1) := by decide +kernel
theorem dX6_pairNow_62 : decode cX6_pairNow 62 = .ok (.if_icmp .ne 16, 3) := by decide +kernel
theorem dX6_pairNow_65 : decode cX6_pairNow 65 = .ok (.iload 4, 2) := by decide +kernel
theorem dX6_pairNow_67 : decode cX6_pairNow 67 = .ok (.ifCond .ne 7, 3) := by decide +kernel
theorem dX6_pairNow_70 : decode cX6_pairNow 70 = .ok (.iconst 1, 1) := by decide +kernel
theorem dX6_pairNow_71 : decode cX6_pairNow 71 = .ok (.goto 11, 3) := by decide +kernel
theorem dX6_pairNow_74 : decode cX6_pairNow 74 = .ok (.iconst 0, 1) := by decide +kernel
theorem dX6_pairNow_75 : decode cX6_pairNow 75 = .ok (.goto 7, 3) := by decide +kernel
theorem dX6_pairNow_78 : decode cX6_pairNow 78 = .ok (.aload_n 0, 1) := by decide +kernel
theorem dX6_pairNow_79 : decode cX6_pairNow 79 = .ok (.invokevirtual 168, 3) := by decide +kernel
theorem dX6_pairNow_82 : decode cX6_pairNow 82 = .ok (.istore 5, 2) := by decide +kernel
theorem dX6_pairNow_84 : decode cX6_pairNow 84 = .ok (.aload_n 0, 1) := by decide +kernel
theorem dX6_pairNow_85 : decode cX6_pairNow 85 = .ok (.invokevirtual 171, 3) := by decide +kernel
theorem dX6_pairNow_88 : decode cX6_pairNow 88 = .ok (.iload 5, 2) := by decide +kernel
theorem dX6_pairNow_90 : decode cX6_pairNow 90 = .ok (.ireturn, 1) := by decide +kernel
theorem dX6_pair_0 : decode cX6_pair 0 = .ok (.aload_n 0, 1) := by decide +kernel
theorem dX6_pair_1 : decode cX6_pair 1 = .ok (.iload_n 1, 1) := by decide +kernel
theorem dX6_pair_2 : decode cX6_pair 2 = .ok (.invokestatic 92, 3) := by decide +kernel
theorem dX6_pair_5 : decode cX6_pair 5 = .ok (.ifCond .eq 10, 3) := by decide +kernel
theorem dX6_pair_8 : decode cX6_pair 8 = .ok (.iload_n 2, 1) := by decide +kernel
theorem dX6_pair_9 : decode cX6_pair 9 = .ok (.invokestatic 92, 3) := by decide +kernel
theorem dX6_pair_12 : decode cX6_pair 12 = .ok (.ifCond .ne 7, 3) := by decide +kernel
theorem dX6_pair_15 : decode cX6_pair 15 = .ok (.iconst 1, 1) := by decide +kernel
theorem dX6_pair_16 : decode cX6_pair 16 = .ok (.goto 17, 3) := by decide +kernel
theorem dX6_pair_19 : decode cX6_pair 19 = .ok (.iload_n 3, 1) := by decide +kernel
theorem dX6_pair_20 : decode cX6_pair 20 = .ok (.iconst 0, 1) := by decide +kernel
theorem dX6_pair_21 : decode cX6_pair 21 = .ok (.iconst 4, 1) := by decide +kernel
theorem dX6_pair_22 : decode cX6_pair 22 = .ok (.invokestatic 50, 3) := by decide +kernel
theorem dX6_pair_25 : decode cX6_pair 25 = .ok (.ifCond .eq 7, 3) := by decide +kernel
theorem dX6_pair_28 : decode cX6_pair 28 = .ok (.iconst 0, 1) := by decide +kernel
theorem dX6_pair_29 : decode cX6_pair 29 = .ok (.goto 4, 3) := by decide +kernel
theorem dX6_pair_32 : decode cX6_pair 32 = .ok (.iconst 2, 1) := by decide +kernel
theorem dX6_pair_33 : decode cX6_pair 33 = .ok (.putfield 46, 3) := by decide +kernel
theorem dX6_pair_36 : decode cX6_pair 36 = .ok (.aload_n 0, 1) := by decide +kernel
theorem dX6_pair_37 : decode cX6_pair 37 = .ok (.getfield 46, 3) := by decide +kernel
theorem dX6_pair_40 : decode cX6_pair 40 = .ok (.ifCond .le 7, 3) := by decide +kernel
theorem dX6_pair_43 : decode cX6_pair 43 = .ok (.iconst 0, 1) := by decide +kernel
theorem dX6_pair_44 : decode cX6_pair 44 = .ok (.goto 10, 3) := by decide +kernel
theorem dX6_pair_47 : decode cX6_pair 47 = .ok (.aload_n 0, 1) := by decide +kernel
theorem dX6_pair_48 : decode cX6_pair 48 = .ok (.iload_n 1, 1) := by decide +kernel
theorem dX6_pair_49 : decode cX6_pair 49 = .ok (.iload_n 2, 1) := by decide +kernel
theorem dX6_pair_50 : decode cX6_pair 50 = .ok (.iload_n 3, 1) := by decide +kernel
theorem dX6_pair_51 : decode cX6_pair 51 = .ok (.invokevirtual 183, 3) := by decide +kernel
theorem dX6_pair_54 : decode cX6_pair 54 = .ok (.ireturn, 1) := by decide +kernel
theorem dX6_wordNow_0 : decode cX6_wordNow 0 = .ok (.iload_n 1, 1) := by decide +kernel
theorem dX6_wordNow_1 : decode cX6_wordNow 1 = .ok (.ifCond .ne 8, 3) := by decide +kernel
theorem dX6_wordNow_4 : decode cX6_wordNow 4 = .ok (.aload_n 0, 1) := by decide +kernel
theorem dX6_wordNow_5 : decode cX6_wordNow 5 = .ok (.invokevirtual 187, 3) := by decide +kernel
theorem dX6_wordNow_8 : decode cX6_wordNow 8 = .ok (.ireturn, 1) := by decide +kernel
theorem dX6_wordNow_9 : decode cX6_wordNow 9 = .ok (.aload_n 0, 1) := by decide +kernel
theorem dX6_wordNow_10 : decode cX6_wordNow 10 = .ok (.invokevirtual 107, 3) := by decide +kernel
theorem dX6_wordNow_13 : decode cX6_wordNow 13 = .ok (.sipush 500, 3) := by decide +kernel
theorem dX6_wordNow_16 : decode cX6_wordNow 16 = .ok (.if_icmp .le 5, 3) := by decide +kernel
theorem dX6_wordNow_19 : decode cX6_wordNow 19 = .ok (.iconst (-1), 1) := by decide +kernel
theorem dX6_wordNow_20 : decode cX6_wordNow 20 = .ok (.ireturn, 1) := by decide +kernel
theorem dX6_wordNow_21 : decode cX6_wordNow 21 = .ok (.iload_n 1, 1) := by decide +kernel
theorem dX6_wordNow_22 : decode cX6_wordNow 22 = .ok (.iconst 4, 1) := by decide +kernel
theorem dX6_wordNow_23 : decode cX6_wordNow 23 = .ok (.if_icmp .ne 8, 3) := by decide +kernel
theorem dX6_wordNow_26 : decode cX6_wordNow 26 = .ok (.aload_n 0, 1) := by decide +kernel
theorem dX6_wordNow_27 : decode cX6_wordNow 27 = .ok (.getfield 146, 3) := by decide +kernel
theorem dX6_wordNow_30 : decode cX6_wordNow 30 = .ok (.ireturn, 1) := by decide +kernel
theorem dX6_wordNow_31 : decode cX6_wordNow 31 = .ok (.aload_n 0, 1) := by decide +kernel
theorem dX6_wordNow_32 : decode cX6_wordNow 32 = .ok (.invokevirtual 165, 3) := by decide +kernel
theorem dX6_wordNow_35 : decode cX6_wordNow 35 = .ok (.aload_n 0, 1) := by decide +kernel
theorem dX6_wordNow_36 : decode cX6_wordNow 36 = .ok (.invokevirtual 119, 3) := by decide +kernel
theorem dX6_wordNow_39 : decode cX6_wordNow 39 = .ok (.iconst 0, 1) := by decide +kernel
theorem dX6_wordNow_40 : decode cX6_wordNow 40 = .ok (.istore_n 2, 1) := by decide +kernel
theorem dX6_wordNow_41 : decode cX6_wordNow 41 = .ok (.iload_n 2, 1) := by decide +kernel
theorem dX6_wordNow_42 : decode cX6_wordNow 42 = .ok (.aload_n 0, 1) := by decide +kernel
theorem dX6_wordNow_43 : decode cX6_wordNow 43 = .ok (.getfield 110, 3) := by decide +kernel
theorem dX6_wordNow_46 : decode cX6_wordNow 46 = .ok (.if_icmp .ge 19, 3) := by decide +kernel
theorem dX6_wordNow_49 : decode cX6_wordNow 49 = .ok (.aload_n 0, 1) := by decide +kernel
theorem dX6_wordNow_50 : decode cX6_wordNow 50 = .ok (.aload_n 0, 1) := by decide +kernel
theorem dX6_wordNow_51 : decode cX6_wordNow 51 = .ok (.getfield 28, 3) := by decide +kernel
theorem dX6_wordNow_54 : decode cX6_wordNow 54 = .ok (.iload_n 2, 1) := by decide +kernel
theorem dX6_wordNow_55 : decode cX6_wordNow 55 = .ok (.iaload, 1) := by decide +kernel
theorem dX6_wordNow_56 : decode cX6_wordNow 56 = .ok (.invokevirtual 84, 3) := by decide +kernel
theorem dX6_wordNow_59 : decode cX6_wordNow 59 = .ok (.iinc 2 1, 3) := by decide +kernel
theorem dX6_wordNow_62 : decode cX6_wordNow 62 = .ok (.goto (-21), 3) := by decide +kernel
theorem dX6_wordNow_65 : decode cX6_wordNow 65 = .ok (.iload_n 1, 1) := by decide +kernel
theorem dX6_wordNow_66 : decode cX6_wordNow 66 = .ok (.iconst 1, 1) := by decide +kernel
theorem dX6_wordNow_67 : decode cX6_wordNow 67 = .ok (.if_icmp .ne 10, 3) := by decide +kernel
theorem dX6_wordNow_70 : decode cX6_wordNow 70 = .ok (.aload_n 0, 1) := by decide +kernel
theorem dX6_wordNow_71 : decode cX6_wordNow 71 = .ok (.invokevirtual 180, 3) := by decide +kernel
theorem dX6_wordNow_74 : decode cX6_wordNow 74 = .ok (.goto 7, 3) := by decide +kernel
theorem dX6_wordNow_77 : decode cX6_wordNow 77 = .ok (.aload_n 0, 1) := by decide +kernel
theorem dX6_wordNow_78 : decode cX6_wordNow 78 = .ok (.invokevirtual 168, 3) := by decide +kernel
theorem dX6_wordNow_81 : decode cX6_wordNow 81 = .ok (.istore_n 2, 1) := by decide +kernel
theorem dX6_wordNow_82 : decode cX6_wordNow 82 = .ok (.aload_n 0, 1) := by decide +kernel
theorem dX6_wordNow_83 : decode cX6_wordNow 83 = .ok (.invokevirtual 171, 3) := by decide +kernel
theorem dX6_wordNow_86 : decode cX6_wordNow 86 = .ok (.iload_n 2, 1) := by decide +kernel
theorem dX6_wordNow_87 : decode cX6_wordNow 87 = .ok (.ireturn, 1) := by decide +kernel
theorem dX6_ofWord_0 : decode cX6_ofWord 0 = .ok (.aload_n 0, 1) := by decide +kernel
theorem dX6_ofWord_1 : decode cX6_ofWord 1 = .ok (.iload_n 1, 1) := by decide +kernel
theorem dX6_ofWord_2 : decode cX6_ofWord 2 = .ok (.iconst 0, 1) := by decide +kernel
theorem dX6_ofWord_3 : decode cX6_ofWord 3 = .ok (.iconst 4, 1) := by decide +kernel
theorem dX6_ofWord_4 : decode cX6_ofWord 4 = .ok (.invokestatic 50, 3) := by decide +kernel
theorem dX6_ofWord_7 : decode cX6_ofWord 7 = .ok (.ifCond .eq 14, 3) := by decide +kernel
theorem dX6_ofWord_10 : decode cX6_ofWord 10 = .ok (.aload_n 0, 1) := by decide +kernel
theorem dX6_ofWord_11 : decode cX6_ofWord 11 = .ok (.invokevirtual 104, 3) := by decide +kernel
theorem dX6_ofWord_14 : decode cX6_ofWord 14 = .ok (.ifCond .eq 7, 3) := by decide +kernel
theorem dX6_ofWord_17 : decode cX6_ofWord 17 = .ok (.iconst 0, 1) := by decide +kernel
theorem dX6_ofWord_18 : decode cX6_ofWord 18 = .ok (.goto 4, 3) := by decide +kernel
theorem dX6_ofWord_21 : decode cX6_ofWord 21 = .ok (.iconst 1, 1) := by decide +kernel
theorem dX6_ofWord_22 : decode cX6_ofWord 22 = .ok (.putfield 46, 3) := by decide +kernel
theorem dX6_ofWord_25 : decode cX6_ofWord 25 = .ok (.aload_n 0, 1) := by decide +kernel
theorem dX6_ofWord_26 : decode cX6_ofWord 26 = .ok (.getfield 46, 3) := by decide +kernel
theorem dX6_ofWord_29 : decode cX6_ofWord 29 = .ok (.ifCond .le 7, 3) := by decide +kernel
theorem dX6_ofWord_32 : decode cX6_ofWord 32 = .ok (.iconst 0, 1) := by decide +kernel
theorem dX6_ofWord_33 : decode cX6_ofWord 33 = .ok (.goto 8, 3) := by decide +kernel
theorem dX6_ofWord_36 : decode cX6_ofWord 36 = .ok (.aload_n 0, 1) := by decide +kernel
theorem dX6_ofWord_37 : decode cX6_ofWord 37 = .ok (.iload_n 1, 1) := by decide +kernel
theorem dX6_ofWord_38 : decode cX6_ofWord 38 = .ok (.invokevirtual 190, 3) := by decide +kernel
theorem dX6_ofWord_41 : decode cX6_ofWord 41 = .ok (.ireturn, 1) := by decide +kernel
theorem dX6_stuckPlaces_0 : decode cX6_stuckPlaces 0 = .ok (.iconst 0, 1) := by decide +kernel
theorem dX6_stuckPlaces_1 : decode cX6_stuckPlaces 1 = .ok (.istore_n 1, 1) := by decide +kernel
theorem dX6_stuckPlaces_2 : decode cX6_stuckPlaces 2 = .ok (.iconst 0, 1) := by decide +kernel
theorem dX6_stuckPlaces_3 : decode cX6_stuckPlaces 3 = .ok (.istore_n 2, 1) := by decide +kernel
theorem dX6_stuckPlaces_4 : decode cX6_stuckPlaces 4 = .ok (.iload_n 2, 1) := by decide +kernel
theorem dX6_stuckPlaces_5 : decode cX6_stuckPlaces 5 = .ok (.bipush 6, 2) := by decide +kernel
theorem dX6_stuckPlaces_7 : decode cX6_stuckPlaces 7 = .ok (.if_icmp .ge 21, 3) := by decide +kernel
theorem dX6_stuckPlaces_10 : decode cX6_stuckPlaces 10 = .ok (.iload_n 1, 1) := by decide +kernel
theorem dX6_stuckPlaces_11 : decode cX6_stuckPlaces 11 = .ok (.aload_n 0, 1) := by decide +kernel
theorem dX6_stuckPlaces_12 : decode cX6_stuckPlaces 12 = .ok (.getfield 7, 3) := by decide +kernel
theorem dX6_stuckPlaces_15 : decode cX6_stuckPlaces 15 = .ok (.bipush 12, 2) := by decide +kernel
theorem dX6_stuckPlaces_17 : decode cX6_stuckPlaces 17 = .ok (.iload_n 2, 1) := by decide +kernel
theorem dX6_stuckPlaces_18 : decode cX6_stuckPlaces 18 = .ok (.iadd, 1) := by decide +kernel
theorem dX6_stuckPlaces_19 : decode cX6_stuckPlaces 19 = .ok (.iaload, 1) := by decide +kernel
theorem dX6_stuckPlaces_20 : decode cX6_stuckPlaces 20 = .ok (.iadd, 1) := by decide +kernel
theorem dX6_stuckPlaces_21 : decode cX6_stuckPlaces 21 = .ok (.istore_n 1, 1) := by decide +kernel
theorem dX6_stuckPlaces_22 : decode cX6_stuckPlaces 22 = .ok (.iinc 2 1, 3) := by decide +kernel
theorem dX6_stuckPlaces_25 : decode cX6_stuckPlaces 25 = .ok (.goto (-21), 3) := by decide +kernel
theorem dX6_stuckPlaces_28 : decode cX6_stuckPlaces 28 = .ok (.iload_n 1, 1) := by decide +kernel
theorem dX6_stuckPlaces_29 : decode cX6_stuckPlaces 29 = .ok (.ireturn, 1) := by decide +kernel
theorem dX6_countNow_0 : decode cX6_countNow 0 = .ok (.iload_n 1, 1) := by decide +kernel
theorem dX6_countNow_1 : decode cX6_countNow 1 = .ok (.tableswitch 118 0 8 #[51, 59, 66, 74, 82, 95, 100, 105, 110], 51) := by decide +kernel
theorem dX6_countNow_52 : decode cX6_countNow 52 = .ok (.aload_n 0, 1) := by decide +kernel
theorem dX6_countNow_53 : decode cX6_countNow 53 = .ok (.getfield 7, 3) := by decide +kernel
theorem dX6_countNow_56 : decode cX6_countNow 56 = .ok (.bipush 33, 2) := by decide +kernel
theorem dX6_countNow_58 : decode cX6_countNow 58 = .ok (.iaload, 1) := by decide +kernel
theorem dX6_countNow_59 : decode cX6_countNow 59 = .ok (.ireturn, 1) := by decide +kernel
theorem dX6_countNow_60 : decode cX6_countNow 60 = .ok (.aload_n 0, 1) := by decide +kernel
theorem dX6_countNow_61 : decode cX6_countNow 61 = .ok (.invokevirtual 128, 3) := by decide +kernel
theorem dX6_countNow_64 : decode cX6_countNow 64 = .ok (.iconst 5, 1) := by decide +kernel
theorem dX6_countNow_65 : decode cX6_countNow 65 = .ok (.irem, 1) := by decide +kernel
theorem dX6_countNow_66 : decode cX6_countNow 66 = .ok (.ireturn, 1) := by decide +kernel
theorem dX6_countNow_67 : decode cX6_countNow 67 = .ok (.aload_n 0, 1) := by decide +kernel
theorem dX6_countNow_68 : decode cX6_countNow 68 = .ok (.getfield 7, 3) := by decide +kernel
theorem dX6_countNow_71 : decode cX6_countNow 71 = .ok (.bipush 34, 2) := by decide +kernel
theorem dX6_countNow_73 : decode cX6_countNow 73 = .ok (.iaload, 1) := by decide +kernel
theorem dX6_countNow_74 : decode cX6_countNow 74 = .ok (.ireturn, 1) := by decide +kernel
theorem dX6_countNow_75 : decode cX6_countNow 75 = .ok (.bipush 6, 2) := by decide +kernel
theorem dX6_countNow_77 : decode cX6_countNow 77 = .ok (.aload_n 0, 1) := by decide +kernel
theorem dX6_countNow_78 : decode cX6_countNow 78 = .ok (.invokevirtual 116, 3) := by decide +kernel
theorem dX6_countNow_81 : decode cX6_countNow 81 = .ok (.isub, 1) := by decide +kernel
theorem dX6_countNow_82 : decode cX6_countNow 82 = .ok (.ireturn, 1) := by decide +kernel
theorem dX6_countNow_83 : decode cX6_countNow 83 = .ok (.aload_n 0, 1) := by decide +kernel
theorem dX6_countNow_84 : decode cX6_countNow 84 = .ok (.invokevirtual 80, 3) := by decide +kernel
theorem dX6_countNow_87 : decode cX6_countNow 87 = .ok (.ifCond .eq 7, 3) := by decide +kernel
theorem dX6_countNow_90 : decode cX6_countNow 90 = .ok (.iconst 1, 1) := by decide +kernel
theorem dX6_countNow_91 : decode cX6_countNow 91 = .ok (.goto 4, 3) := by decide +kernel
theorem dX6_countNow_94 : decode cX6_countNow 94 = .ok (.iconst 0, 1) := by decide +kernel
theorem dX6_countNow_95 : decode cX6_countNow 95 = .ok (.ireturn, 1) := by decide +kernel
theorem dX6_countNow_96 : decode cX6_countNow 96 = .ok (.aload_n 0, 1) := by decide +kernel
theorem dX6_countNow_97 : decode cX6_countNow 97 = .ok (.invokevirtual 76, 3) := by decide +kernel
theorem dX6_countNow_100 : decode cX6_countNow 100 = .ok (.ireturn, 1) := by decide +kernel
theorem dX6_countNow_101 : decode cX6_countNow 101 = .ok (.aload_n 0, 1) := by decide +kernel
theorem dX6_countNow_102 : decode cX6_countNow 102 = .ok (.invokevirtual 193, 3) := by decide +kernel
theorem dX6_countNow_105 : decode cX6_countNow 105 = .ok (.ireturn, 1) := by decide +kernel
theorem dX6_countNow_106 : decode cX6_countNow 106 = .ok (.aload_n 0, 1) := by decide +kernel
theorem dX6_countNow_107 : decode cX6_countNow 107 = .ok (.invokevirtual 125, 3) := by decide +kernel
theorem dX6_countNow_110 : decode cX6_countNow 110 = .ok (.ireturn, 1) := by decide +kernel
theorem dX6_countNow_111 : decode cX6_countNow 111 = .ok (.aload_n 0, 1) := by decide +kernel
theorem dX6_countNow_112 : decode cX6_countNow 112 = .ok (.getfield 7, 3) := by decide +kernel
theorem dX6_countNow_115 : decode cX6_countNow 115 = .ok (.bipush 35, 2) := by decide +kernel
theorem dX6_countNow_117 : decode cX6_countNow 117 = .ok (.iaload, 1) := by decide +kernel
theorem dX6_countNow_118 : decode cX6_countNow 118 = .ok (.ireturn, 1) := by decide +kernel
theorem dX6_countNow_119 : decode cX6_countNow 119 = .ok (.aload_n 0, 1) := by decide +kernel
theorem dX6_countNow_120 : decode cX6_countNow 120 = .ok (.getfield 54, 3) := by decide +kernel
theorem dX6_countNow_123 : decode cX6_countNow 123 = .ok (.ireturn, 1) := by decide +kernel
theorem dX6_count_0 : decode cX6_count 0 = .ok (.aload_n 0, 1) := by decide +kernel
theorem dX6_count_1 : decode cX6_count 1 = .ok (.iload_n 1, 1) := by decide +kernel
theorem dX6_count_2 : decode cX6_count 2 = .ok (.iconst 0, 1) := by decide +kernel
theorem dX6_count_3 : decode cX6_count 3 = .ok (.bipush 9, 2) := by decide +kernel
theorem dX6_count_5 : decode cX6_count 5 = .ok (.invokestatic 50, 3) := by decide +kernel
theorem dX6_count_8 : decode cX6_count 8 = .ok (.ifCond .eq 7, 3) := by decide +kernel
theorem dX6_count_11 : decode cX6_count 11 = .ok (.iconst 0, 1) := by decide +kernel
theorem dX6_count_12 : decode cX6_count 12 = .ok (.goto 4, 3) := by decide +kernel
theorem dX6_count_15 : decode cX6_count 15 = .ok (.iconst 1, 1) := by decide +kernel
theorem dX6_count_16 : decode cX6_count 16 = .ok (.putfield 46, 3) := by decide +kernel
theorem dX6_count_19 : decode cX6_count 19 = .ok (.aload_n 0, 1) := by decide +kernel
theorem dX6_count_20 : decode cX6_count 20 = .ok (.getfield 46, 3) := by decide +kernel
theorem dX6_count_23 : decode cX6_count 23 = .ok (.ifCond .le 7, 3) := by decide +kernel
theorem dX6_count_26 : decode cX6_count 26 = .ok (.iconst 0, 1) := by decide +kernel
theorem dX6_count_27 : decode cX6_count 27 = .ok (.goto 8, 3) := by decide +kernel
theorem dX6_count_30 : decode cX6_count 30 = .ok (.aload_n 0, 1) := by decide +kernel
theorem dX6_count_31 : decode cX6_count 31 = .ok (.iload_n 1, 1) := by decide +kernel
theorem dX6_count_32 : decode cX6_count 32 = .ok (.invokevirtual 196, 3) := by decide +kernel
theorem dX6_count_35 : decode cX6_count 35 = .ok (.ireturn, 1) := by decide +kernel
theorem dX6_opensBy_0 : decode cX6_opensBy 0 = .ok (.iload_n 1, 1) := by decide +kernel
theorem dX6_opensBy_1 : decode cX6_opensBy 1 = .ok (.istore_n 3, 1) := by decide +kernel
theorem dX6_opensBy_2 : decode cX6_opensBy 2 = .ok (.iconst 1, 1) := by decide +kernel
theorem dX6_opensBy_3 : decode cX6_opensBy 3 = .ok (.istore 4, 2) := by decide +kernel
theorem dX6_opensBy_5 : decode cX6_opensBy 5 = .ok (.aload_n 0, 1) := by decide +kernel
theorem dX6_opensBy_6 : decode cX6_opensBy 6 = .ok (.invokevirtual 165, 3) := by decide +kernel
theorem dX6_opensBy_9 : decode cX6_opensBy 9 = .ok (.iconst 0, 1) := by decide +kernel
theorem dX6_opensBy_10 : decode cX6_opensBy 10 = .ok (.istore 5, 2) := by decide +kernel
theorem dX6_opensBy_12 : decode cX6_opensBy 12 = .ok (.iload 5, 2) := by decide +kernel
theorem dX6_opensBy_14 : decode cX6_opensBy 14 = .ok (.iload_n 2, 1) := by decide +kernel
theorem dX6_opensBy_15 : decode cX6_opensBy 15 = .ok (.if_icmp .ge 54, 3) := by decide +kernel
theorem dX6_opensBy_18 : decode cX6_opensBy 18 = .ok (.iload_n 3, 1) := by decide +kernel
theorem dX6_opensBy_19 : decode cX6_opensBy 19 = .ok (.iload_n 2, 1) := by decide +kernel
theorem dX6_opensBy_20 : decode cX6_opensBy 20 = .ok (.iconst 1, 1) := by decide +kernel
theorem dX6_opensBy_21 : decode cX6_opensBy 21 = .ok (.isub, 1) := by decide +kernel
theorem dX6_opensBy_22 : decode cX6_opensBy 22 = .ok (.iload 5, 2) := by decide +kernel
theorem dX6_opensBy_24 : decode cX6_opensBy 24 = .ok (.isub, 1) := by decide +kernel
theorem dX6_opensBy_25 : decode cX6_opensBy 25 = .ok (.invokestatic 199, 3) := by decide +kernel
theorem dX6_opensBy_28 : decode cX6_opensBy 28 = .ok (.idiv, 1) := by decide +kernel
theorem dX6_opensBy_29 : decode cX6_opensBy 29 = .ok (.bipush 10, 2) := by decide +kernel
theorem dX6_opensBy_31 : decode cX6_opensBy 31 = .ok (.irem, 1) := by decide +kernel
theorem dX6_opensBy_32 : decode cX6_opensBy 32 = .ok (.istore 6, 2) := by decide +kernel
theorem dX6_opensBy_34 : decode cX6_opensBy 34 = .ok (.iload 4, 2) := by decide +kernel
theorem dX6_opensBy_36 : decode cX6_opensBy 36 = .ok (.ifCond .eq 18, 3) := by decide +kernel
theorem dX6_opensBy_39 : decode cX6_opensBy 39 = .ok (.aload_n 0, 1) := by decide +kernel
theorem dX6_opensBy_40 : decode cX6_opensBy 40 = .ok (.iload 6, 2) := by decide +kernel
theorem dX6_opensBy_42 : decode cX6_opensBy 42 = .ok (.iconst 5, 1) := by decide +kernel
theorem dX6_opensBy_43 : decode cX6_opensBy 43 = .ok (.irem, 1) := by decide +kernel
theorem dX6_opensBy_44 : decode cX6_opensBy 44 = .ok (.invokevirtual 95, 3) := by decide +kernel
theorem dX6_opensBy_47 : decode cX6_opensBy 47 = .ok (.ifCond .ne 7, 3) := by decide +kernel
theorem dX6_opensBy_50 : decode cX6_opensBy 50 = .ok (.iconst 1, 1) := by decide +kernel
theorem dX6_opensBy_51 : decode cX6_opensBy 51 = .ok (.goto 4, 3) := by decide +kernel
theorem dX6_opensBy_54 : decode cX6_opensBy 54 = .ok (.iconst 0, 1) := by decide +kernel
theorem dX6_opensBy_55 : decode cX6_opensBy 55 = .ok (.istore 4, 2) := by decide +kernel
theorem dX6_opensBy_57 : decode cX6_opensBy 57 = .ok (.aload_n 0, 1) := by decide +kernel
theorem dX6_opensBy_58 : decode cX6_opensBy 58 = .ok (.iload 6, 2) := by decide +kernel
theorem dX6_opensBy_60 : decode cX6_opensBy 60 = .ok (.invokevirtual 84, 3) := by decide +kernel
theorem dX6_opensBy_63 : decode cX6_opensBy 63 = .ok (.iinc 5 1, 3) := by decide +kernel
theorem dX6_opensBy_66 : decode cX6_opensBy 66 = .ok (.goto (-54), 3) := by decide +kernel
theorem dX6_opensBy_69 : decode cX6_opensBy 69 = .ok (.iload 4, 2) := by decide +kernel
theorem dX6_opensBy_71 : decode cX6_opensBy 71 = .ok (.ifCond .eq 14, 3) := by decide +kernel
theorem dX6_opensBy_74 : decode cX6_opensBy 74 = .ok (.aload_n 0, 1) := by decide +kernel
theorem dX6_opensBy_75 : decode cX6_opensBy 75 = .ok (.invokevirtual 80, 3) := by decide +kernel
theorem dX6_opensBy_78 : decode cX6_opensBy 78 = .ok (.ifCond .eq 7, 3) := by decide +kernel
theorem dX6_opensBy_81 : decode cX6_opensBy 81 = .ok (.iconst 1, 1) := by decide +kernel
theorem dX6_opensBy_82 : decode cX6_opensBy 82 = .ok (.goto 4, 3) := by decide +kernel
theorem dX6_opensBy_85 : decode cX6_opensBy 85 = .ok (.iconst 0, 1) := by decide +kernel
theorem dX6_opensBy_86 : decode cX6_opensBy 86 = .ok (.istore 4, 2) := by decide +kernel
theorem dX6_opensBy_88 : decode cX6_opensBy 88 = .ok (.aload_n 0, 1) := by decide +kernel
theorem dX6_opensBy_89 : decode cX6_opensBy 89 = .ok (.invokevirtual 171, 3) := by decide +kernel
theorem dX6_opensBy_92 : decode cX6_opensBy 92 = .ok (.iload 4, 2) := by decide +kernel
theorem dX6_opensBy_94 : decode cX6_opensBy 94 = .ok (.ireturn, 1) := by decide +kernel
theorem dX6_power_0 : decode cX6_power 0 = .ok (.iconst 1, 1) := by decide +kernel
theorem dX6_power_1 : decode cX6_power 1 = .ok (.istore_n 1, 1) := by decide +kernel
theorem dX6_power_2 : decode cX6_power 2 = .ok (.iconst 0, 1) := by decide +kernel
theorem dX6_power_3 : decode cX6_power 3 = .ok (.istore_n 2, 1) := by decide +kernel
theorem dX6_power_4 : decode cX6_power 4 = .ok (.iload_n 2, 1) := by decide +kernel
theorem dX6_power_5 : decode cX6_power 5 = .ok (.iload_n 0, 1) := by decide +kernel
theorem dX6_power_6 : decode cX6_power 6 = .ok (.if_icmp .ge 14, 3) := by decide +kernel
theorem dX6_power_9 : decode cX6_power 9 = .ok (.iload_n 1, 1) := by decide +kernel
theorem dX6_power_10 : decode cX6_power 10 = .ok (.bipush 10, 2) := by decide +kernel
theorem dX6_power_12 : decode cX6_power 12 = .ok (.imul, 1) := by decide +kernel
theorem dX6_power_13 : decode cX6_power 13 = .ok (.istore_n 1, 1) := by decide +kernel
theorem dX6_power_14 : decode cX6_power 14 = .ok (.iinc 2 1, 3) := by decide +kernel
theorem dX6_power_17 : decode cX6_power 17 = .ok (.goto (-13), 3) := by decide +kernel
theorem dX6_power_20 : decode cX6_power 20 = .ok (.iload_n 1, 1) := by decide +kernel
theorem dX6_power_21 : decode cX6_power 21 = .ok (.ireturn, 1) := by decide +kernel
theorem dX6_findOpen_0 : decode cX6_findOpen 0 = .ok (.aload_n 0, 1) := by decide +kernel
theorem dX6_findOpen_1 : decode cX6_findOpen 1 = .ok (.getfield 7, 3) := by decide +kernel
theorem dX6_findOpen_4 : decode cX6_findOpen 4 = .ok (.bipush 36, 2) := by decide +kernel
theorem dX6_findOpen_6 : decode cX6_findOpen 6 = .ok (.iaload, 1) := by decide +kernel
theorem dX6_findOpen_7 : decode cX6_findOpen 7 = .ok (.ifCond .ne 5, 3) := by decide +kernel
theorem dX6_findOpen_10 : decode cX6_findOpen 10 = .ok (.iconst (-1), 1) := by decide +kernel
theorem dX6_findOpen_11 : decode cX6_findOpen 11 = .ok (.ireturn, 1) := by decide +kernel
theorem dX6_findOpen_12 : decode cX6_findOpen 12 = .ok (.aload_n 0, 1) := by decide +kernel
theorem dX6_findOpen_13 : decode cX6_findOpen 13 = .ok (.invokevirtual 80, 3) := by decide +kernel
theorem dX6_findOpen_16 : decode cX6_findOpen 16 = .ok (.ifCond .eq 13, 3) := by decide +kernel
theorem dX6_findOpen_19 : decode cX6_findOpen 19 = .ok (.iload_n 1, 1) := by decide +kernel
theorem dX6_findOpen_20 : decode cX6_findOpen 20 = .ok (.ifCond .ne 7, 3) := by decide +kernel
theorem dX6_findOpen_23 : decode cX6_findOpen 23 = .ok (.iconst 0, 1) := by decide +kernel
theorem dX6_findOpen_24 : decode cX6_findOpen 24 = .ok (.goto 4, 3) := by decide +kernel
theorem dX6_findOpen_27 : decode cX6_findOpen 27 = .ok (.iconst (-1), 1) := by decide +kernel
theorem dX6_findOpen_28 : decode cX6_findOpen 28 = .ok (.ireturn, 1) := by decide +kernel
theorem dX6_findOpen_29 : decode cX6_findOpen 29 = .ok (.iconst 1, 1) := by decide +kernel
theorem dX6_findOpen_30 : decode cX6_findOpen 30 = .ok (.istore_n 2, 1) := by decide +kernel
theorem dX6_findOpen_31 : decode cX6_findOpen 31 = .ok (.iload_n 2, 1) := by decide +kernel
theorem dX6_findOpen_32 : decode cX6_findOpen 32 = .ok (.iconst 4, 1) := by decide +kernel
theorem dX6_findOpen_33 : decode cX6_findOpen 33 = .ok (.if_icmp .gt 51, 3) := by decide +kernel
theorem dX6_findOpen_36 : decode cX6_findOpen 36 = .ok (.iconst 0, 1) := by decide +kernel
theorem dX6_findOpen_37 : decode cX6_findOpen 37 = .ok (.istore_n 3, 1) := by decide +kernel
theorem dX6_findOpen_38 : decode cX6_findOpen 38 = .ok (.iload_n 3, 1) := by decide +kernel
theorem dX6_findOpen_39 : decode cX6_findOpen 39 = .ok (.iload_n 2, 1) := by decide +kernel
theorem dX6_findOpen_40 : decode cX6_findOpen 40 = .ok (.invokestatic 199, 3) := by decide +kernel
theorem dX6_findOpen_43 : decode cX6_findOpen 43 = .ok (.if_icmp .ge 35, 3) := by decide +kernel
theorem dX6_findOpen_46 : decode cX6_findOpen 46 = .ok (.aload_n 0, 1) := by decide +kernel
theorem dX6_findOpen_47 : decode cX6_findOpen 47 = .ok (.iload_n 3, 1) := by decide +kernel
theorem dX6_findOpen_48 : decode cX6_findOpen 48 = .ok (.iload_n 2, 1) := by decide +kernel
theorem dX6_findOpen_49 : decode cX6_findOpen 49 = .ok (.invokevirtual 202, 3) := by decide +kernel
theorem dX6_findOpen_52 : decode cX6_findOpen 52 = .ok (.ifCond .eq 20, 3) := by decide +kernel
theorem dX6_findOpen_55 : decode cX6_findOpen 55 = .ok (.iload_n 1, 1) := by decide +kernel
theorem dX6_findOpen_56 : decode cX6_findOpen 56 = .ok (.ifCond .ne 7, 3) := by decide +kernel
theorem dX6_findOpen_59 : decode cX6_findOpen 59 = .ok (.iload_n 2, 1) := by decide +kernel
theorem dX6_findOpen_60 : decode cX6_findOpen 60 = .ok (.goto 11, 3) := by decide +kernel
theorem dX6_findOpen_63 : decode cX6_findOpen 63 = .ok (.iload_n 3, 1) := by decide +kernel
theorem dX6_findOpen_64 : decode cX6_findOpen 64 = .ok (.iload_n 2, 1) := by decide +kernel
theorem dX6_findOpen_65 : decode cX6_findOpen 65 = .ok (.iconst 1, 1) := by decide +kernel
theorem dX6_findOpen_66 : decode cX6_findOpen 66 = .ok (.isub, 1) := by decide +kernel
theorem dX6_findOpen_67 : decode cX6_findOpen 67 = .ok (.invokestatic 199, 3) := by decide +kernel
theorem dX6_findOpen_70 : decode cX6_findOpen 70 = .ok (.idiv, 1) := by decide +kernel
theorem dX6_findOpen_71 : decode cX6_findOpen 71 = .ok (.ireturn, 1) := by decide +kernel
theorem dX6_findOpen_72 : decode cX6_findOpen 72 = .ok (.iinc 3 1, 3) := by decide +kernel
theorem dX6_findOpen_75 : decode cX6_findOpen 75 = .ok (.goto (-37), 3) := by decide +kernel
theorem dX6_findOpen_78 : decode cX6_findOpen 78 = .ok (.iinc 2 1, 3) := by decide +kernel
theorem dX6_findOpen_81 : decode cX6_findOpen 81 = .ok (.goto (-50), 3) := by decide +kernel
theorem dX6_findOpen_84 : decode cX6_findOpen 84 = .ok (.iconst (-1), 1) := by decide +kernel
theorem dX6_findOpen_85 : decode cX6_findOpen 85 = .ok (.ireturn, 1) := by decide +kernel
theorem dX6_openIn_0 : decode cX6_openIn 0 = .ok (.aload_n 0, 1) := by decide +kernel
theorem dX6_openIn_1 : decode cX6_openIn 1 = .ok (.iload_n 1, 1) := by decide +kernel
theorem dX6_openIn_2 : decode cX6_openIn 2 = .ok (.iconst 0, 1) := by decide +kernel
theorem dX6_openIn_3 : decode cX6_openIn 3 = .ok (.iconst 1, 1) := by decide +kernel
theorem dX6_openIn_4 : decode cX6_openIn 4 = .ok (.invokestatic 50, 3) := by decide +kernel
theorem dX6_openIn_7 : decode cX6_openIn 7 = .ok (.ifCond .eq 7, 3) := by decide +kernel
theorem dX6_openIn_10 : decode cX6_openIn 10 = .ok (.iconst 0, 1) := by decide +kernel
theorem dX6_openIn_11 : decode cX6_openIn 11 = .ok (.goto 4, 3) := by decide +kernel
theorem dX6_openIn_14 : decode cX6_openIn 14 = .ok (.iconst 1, 1) := by decide +kernel
theorem dX6_openIn_15 : decode cX6_openIn 15 = .ok (.putfield 46, 3) := by decide +kernel
theorem dX6_openIn_18 : decode cX6_openIn 18 = .ok (.aload_n 0, 1) := by decide +kernel
theorem dX6_openIn_19 : decode cX6_openIn 19 = .ok (.getfield 46, 3) := by decide +kernel
theorem dX6_openIn_22 : decode cX6_openIn 22 = .ok (.ifCond .le 7, 3) := by decide +kernel
theorem dX6_openIn_25 : decode cX6_openIn 25 = .ok (.iconst 0, 1) := by decide +kernel
theorem dX6_openIn_26 : decode cX6_openIn 26 = .ok (.goto 8, 3) := by decide +kernel
theorem dX6_openIn_29 : decode cX6_openIn 29 = .ok (.aload_n 0, 1) := by decide +kernel
theorem dX6_openIn_30 : decode cX6_openIn 30 = .ok (.iload_n 1, 1) := by decide +kernel
theorem dX6_openIn_31 : decode cX6_openIn 31 = .ok (.invokevirtual 205, 3) := by decide +kernel
theorem dX6_openIn_34 : decode cX6_openIn 34 = .ok (.ireturn, 1) := by decide +kernel
theorem dX6_rightIf_0 : decode cX6_rightIf 0 = .ok (.aload_n 0, 1) := by decide +kernel
theorem dX6_rightIf_1 : decode cX6_rightIf 1 = .ok (.invokevirtual 165, 3) := by decide +kernel
theorem dX6_rightIf_4 : decode cX6_rightIf 4 = .ok (.aload_n 0, 1) := by decide +kernel
theorem dX6_rightIf_5 : decode cX6_rightIf 5 = .ok (.iconst 5, 1) := by decide +kernel
theorem dX6_rightIf_6 : decode cX6_rightIf 6 = .ok (.iload_n 2, 1) := by decide +kernel
theorem dX6_rightIf_7 : decode cX6_rightIf 7 = .ok (.imul, 1) := by decide +kernel
theorem dX6_rightIf_8 : decode cX6_rightIf 8 = .ok (.iload_n 1, 1) := by decide +kernel
theorem dX6_rightIf_9 : decode cX6_rightIf 9 = .ok (.iadd, 1) := by decide +kernel
theorem dX6_rightIf_10 : decode cX6_rightIf 10 = .ok (.invokevirtual 84, 3) := by decide +kernel
theorem dX6_rightIf_13 : decode cX6_rightIf 13 = .ok (.aload_n 0, 1) := by decide +kernel
theorem dX6_rightIf_14 : decode cX6_rightIf 14 = .ok (.invokevirtual 76, 3) := by decide +kernel
theorem dX6_rightIf_17 : decode cX6_rightIf 17 = .ok (.istore_n 3, 1) := by decide +kernel
theorem dX6_rightIf_18 : decode cX6_rightIf 18 = .ok (.aload_n 0, 1) := by decide +kernel
theorem dX6_rightIf_19 : decode cX6_rightIf 19 = .ok (.invokevirtual 171, 3) := by decide +kernel
theorem dX6_rightIf_22 : decode cX6_rightIf 22 = .ok (.iload_n 3, 1) := by decide +kernel
theorem dX6_rightIf_23 : decode cX6_rightIf 23 = .ok (.ireturn, 1) := by decide +kernel
theorem dX6_ifTurned_0 : decode cX6_ifTurned 0 = .ok (.aload_n 0, 1) := by decide +kernel
theorem dX6_ifTurned_1 : decode cX6_ifTurned 1 = .ok (.iload_n 1, 1) := by decide +kernel
theorem dX6_ifTurned_2 : decode cX6_ifTurned 2 = .ok (.invokestatic 92, 3) := by decide +kernel
theorem dX6_ifTurned_5 : decode cX6_ifTurned 5 = .ok (.ifCond .ne 7, 3) := by decide +kernel
theorem dX6_ifTurned_8 : decode cX6_ifTurned 8 = .ok (.iconst 1, 1) := by decide +kernel
theorem dX6_ifTurned_9 : decode cX6_ifTurned 9 = .ok (.goto 17, 3) := by decide +kernel
theorem dX6_ifTurned_12 : decode cX6_ifTurned 12 = .ok (.iload_n 2, 1) := by decide +kernel
theorem dX6_ifTurned_13 : decode cX6_ifTurned 13 = .ok (.iconst 0, 1) := by decide +kernel
theorem dX6_ifTurned_14 : decode cX6_ifTurned 14 = .ok (.iconst 1, 1) := by decide +kernel
theorem dX6_ifTurned_15 : decode cX6_ifTurned 15 = .ok (.invokestatic 50, 3) := by decide +kernel
theorem dX6_ifTurned_18 : decode cX6_ifTurned 18 = .ok (.ifCond .eq 7, 3) := by decide +kernel
theorem dX6_ifTurned_21 : decode cX6_ifTurned 21 = .ok (.iconst 0, 1) := by decide +kernel
theorem dX6_ifTurned_22 : decode cX6_ifTurned 22 = .ok (.goto 4, 3) := by decide +kernel
theorem dX6_ifTurned_25 : decode cX6_ifTurned 25 = .ok (.iconst 2, 1) := by decide +kernel
theorem dX6_ifTurned_26 : decode cX6_ifTurned 26 = .ok (.putfield 46, 3) := by decide +kernel
theorem dX6_ifTurned_29 : decode cX6_ifTurned 29 = .ok (.aload_n 0, 1) := by decide +kernel
theorem dX6_ifTurned_30 : decode cX6_ifTurned 30 = .ok (.getfield 46, 3) := by decide +kernel
theorem dX6_ifTurned_33 : decode cX6_ifTurned 33 = .ok (.ifCond .le 7, 3) := by decide +kernel
theorem dX6_ifTurned_36 : decode cX6_ifTurned 36 = .ok (.iconst 0, 1) := by decide +kernel
theorem dX6_ifTurned_37 : decode cX6_ifTurned 37 = .ok (.goto 9, 3) := by decide +kernel
theorem dX6_ifTurned_40 : decode cX6_ifTurned 40 = .ok (.aload_n 0, 1) := by decide +kernel
theorem dX6_ifTurned_41 : decode cX6_ifTurned 41 = .ok (.iload_n 1, 1) := by decide +kernel
theorem dX6_ifTurned_42 : decode cX6_ifTurned 42 = .ok (.iload_n 2, 1) := by decide +kernel
theorem dX6_ifTurned_43 : decode cX6_ifTurned 43 = .ok (.invokevirtual 208, 3) := by decide +kernel
theorem dX6_ifTurned_46 : decode cX6_ifTurned 46 = .ok (.ireturn, 1) := by decide +kernel
theorem dX6_findClosest_0 : decode cX6_findClosest 0 = .ok (.iconst (-1), 1) := by decide +kernel
theorem dX6_findClosest_1 : decode cX6_findClosest 1 = .ok (.istore_n 1, 1) := by decide +kernel
theorem dX6_findClosest_2 : decode cX6_findClosest 2 = .ok (.bipush 7, 2) := by decide +kernel
theorem dX6_findClosest_4 : decode cX6_findClosest 4 = .ok (.istore_n 2, 1) := by decide +kernel
theorem dX6_findClosest_5 : decode cX6_findClosest 5 = .ok (.iconst 0, 1) := by decide +kernel
theorem dX6_findClosest_6 : decode cX6_findClosest 6 = .ok (.istore_n 3, 1) := by decide +kernel
theorem dX6_findClosest_7 : decode cX6_findClosest 7 = .ok (.iload_n 3, 1) := by decide +kernel
theorem dX6_findClosest_8 : decode cX6_findClosest 8 = .ok (.iconst 5, 1) := by decide +kernel
theorem dX6_findClosest_9 : decode cX6_findClosest 9 = .ok (.if_icmp .ge 52, 3) := by decide +kernel
theorem dX6_findClosest_12 : decode cX6_findClosest 12 = .ok (.iload_n 3, 1) := by decide +kernel
theorem dX6_findClosest_13 : decode cX6_findClosest 13 = .ok (.iconst 1, 1) := by decide +kernel
theorem dX6_findClosest_14 : decode cX6_findClosest 14 = .ok (.iadd, 1) := by decide +kernel
theorem dX6_findClosest_15 : decode cX6_findClosest 15 = .ok (.istore 4, 2) := by decide +kernel
theorem dX6_findClosest_17 : decode cX6_findClosest 17 = .ok (.iload 4, 2) := by decide +kernel
theorem dX6_findClosest_19 : decode cX6_findClosest 19 = .ok (.iconst 5, 1) := by decide +kernel
theorem dX6_findClosest_20 : decode cX6_findClosest 20 = .ok (.if_icmp .ge 35, 3) := by decide +kernel
theorem dX6_findClosest_23 : decode cX6_findClosest 23 = .ok (.aload_n 0, 1) := by decide +kernel
theorem dX6_findClosest_24 : decode cX6_findClosest 24 = .ok (.iload_n 3, 1) := by decide +kernel
theorem dX6_findClosest_25 : decode cX6_findClosest 25 = .ok (.iload 4, 2) := by decide +kernel
theorem dX6_findClosest_27 : decode cX6_findClosest 27 = .ok (.iconst 1, 1) := by decide +kernel
theorem dX6_findClosest_28 : decode cX6_findClosest 28 = .ok (.invokevirtual 183, 3) := by decide +kernel
theorem dX6_findClosest_31 : decode cX6_findClosest 31 = .ok (.istore 5, 2) := by decide +kernel
theorem dX6_findClosest_33 : decode cX6_findClosest 33 = .ok (.iload 5, 2) := by decide +kernel
theorem dX6_findClosest_35 : decode cX6_findClosest 35 = .ok (.iload_n 2, 1) := by decide +kernel
theorem dX6_findClosest_36 : decode cX6_findClosest 36 = .ok (.if_icmp .ge 13, 3) := by decide +kernel
theorem dX6_findClosest_39 : decode cX6_findClosest 39 = .ok (.iconst 5, 1) := by decide +kernel
theorem dX6_findClosest_40 : decode cX6_findClosest 40 = .ok (.iload_n 3, 1) := by decide +kernel
theorem dX6_findClosest_41 : decode cX6_findClosest 41 = .ok (.imul, 1) := by decide +kernel
theorem dX6_findClosest_42 : decode cX6_findClosest 42 = .ok (.iload 4, 2) := by decide +kernel
theorem dX6_findClosest_44 : decode cX6_findClosest 44 = .ok (.iadd, 1) := by decide +kernel
theorem dX6_findClosest_45 : decode cX6_findClosest 45 = .ok (.istore_n 1, 1) := by decide +kernel
theorem dX6_findClosest_46 : decode cX6_findClosest 46 = .ok (.iload 5, 2) := by decide +kernel
theorem dX6_findClosest_48 : decode cX6_findClosest 48 = .ok (.istore_n 2, 1) := by decide +kernel
theorem dX6_findClosest_49 : decode cX6_findClosest 49 = .ok (.iinc 4 1, 3) := by decide +kernel
theorem dX6_findClosest_52 : decode cX6_findClosest 52 = .ok (.goto (-35), 3) := by decide +kernel
theorem dX6_findClosest_55 : decode cX6_findClosest 55 = .ok (.iinc 3 1, 3) := by decide +kernel
theorem dX6_findClosest_58 : decode cX6_findClosest 58 = .ok (.goto (-51), 3) := by decide +kernel
theorem dX6_findClosest_61 : decode cX6_findClosest 61 = .ok (.iload_n 1, 1) := by decide +kernel
theorem dX6_findClosest_62 : decode cX6_findClosest 62 = .ok (.ireturn, 1) := by decide +kernel
theorem dX6_closest_0 : decode cX6_closest 0 = .ok (.aload_n 0, 1) := by decide +kernel
theorem dX6_closest_1 : decode cX6_closest 1 = .ok (.iconst 0, 1) := by decide +kernel
theorem dX6_closest_2 : decode cX6_closest 2 = .ok (.putfield 46, 3) := by decide +kernel
theorem dX6_closest_5 : decode cX6_closest 5 = .ok (.aload_n 0, 1) := by decide +kernel
theorem dX6_closest_6 : decode cX6_closest 6 = .ok (.invokevirtual 211, 3) := by decide +kernel
theorem dX6_closest_9 : decode cX6_closest 9 = .ok (.ireturn, 1) := by decide +kernel
theorem dX6_openShare_0 : decode cX6_openShare 0 = .ok (.aload_n 0, 1) := by decide +kernel
theorem dX6_openShare_1 : decode cX6_openShare 1 = .ok (.iconst 0, 1) := by decide +kernel
theorem dX6_openShare_2 : decode cX6_openShare 2 = .ok (.putfield 46, 3) := by decide +kernel
theorem dX6_openShare_5 : decode cX6_openShare 5 = .ok (.aload_n 0, 1) := by decide +kernel
theorem dX6_openShare_6 : decode cX6_openShare 6 = .ok (.invokevirtual 76, 3) := by decide +kernel
theorem dX6_openShare_9 : decode cX6_openShare 9 = .ok (.i2d, 1) := by decide +kernel
theorem dX6_openShare_10 : decode cX6_openShare 10 = .ok (.ldc2_w 214, 3) := by decide +kernel
theorem dX6_openShare_13 : decode cX6_openShare 13 = .ok (.ddiv, 1) := by decide +kernel
theorem dX6_openShare_14 : decode cX6_openShare 14 = .ok (.dreturn, 1) := by decide +kernel
theorem dX6_meanNotch_0 : decode cX6_meanNotch 0 = .ok (.aload_n 0, 1) := by decide +kernel
theorem dX6_meanNotch_1 : decode cX6_meanNotch 1 = .ok (.iconst 0, 1) := by decide +kernel
theorem dX6_meanNotch_2 : decode cX6_meanNotch 2 = .ok (.putfield 46, 3) := by decide +kernel
theorem dX6_meanNotch_5 : decode cX6_meanNotch 5 = .ok (.aload_n 0, 1) := by decide +kernel
theorem dX6_meanNotch_6 : decode cX6_meanNotch 6 = .ok (.invokevirtual 128, 3) := by decide +kernel
theorem dX6_meanNotch_9 : decode cX6_meanNotch 9 = .ok (.i2f, 1) := by decide +kernel
theorem dX6_meanNotch_10 : decode cX6_meanNotch 10 = .ok (.ldc 216, 2) := by decide +kernel
theorem dX6_meanNotch_12 : decode cX6_meanNotch 12 = .ok (.fdiv, 1) := by decide +kernel
theorem dX6_meanNotch_13 : decode cX6_meanNotch 13 = .ok (.freturn, 1) := by decide +kernel
theorem dX6_digest_0 : decode cX6_digest 0 = .ok (.aload_n 0, 1) := by decide +kernel
theorem dX6_digest_1 : decode cX6_digest 1 = .ok (.iconst 0, 1) := by decide +kernel
theorem dX6_digest_2 : decode cX6_digest 2 = .ok (.putfield 46, 3) := by decide +kernel
theorem dX6_digest_5 : decode cX6_digest 5 = .ok (.ldc2_w 217, 3) := by decide +kernel
theorem dX6_digest_8 : decode cX6_digest 8 = .ok (.lstore_n 1, 1) := by decide +kernel
theorem dX6_digest_9 : decode cX6_digest 9 = .ok (.iconst 0, 1) := by decide +kernel
theorem dX6_digest_10 : decode cX6_digest 10 = .ok (.istore_n 3, 1) := by decide +kernel
theorem dX6_digest_11 : decode cX6_digest 11 = .ok (.iload_n 3, 1) := by decide +kernel
theorem dX6_digest_12 : decode cX6_digest 12 = .ok (.bipush 10, 2) := by decide +kernel
theorem dX6_digest_14 : decode cX6_digest 14 = .ok (.if_icmp .ge 22, 3) := by decide +kernel
theorem dX6_digest_17 : decode cX6_digest 17 = .ok (.ldc2_w 219, 3) := by decide +kernel
theorem dX6_digest_20 : decode cX6_digest 20 = .ok (.lload_n 1, 1) := by decide +kernel
theorem dX6_digest_21 : decode cX6_digest 21 = .ok (.lmul, 1) := by decide +kernel
theorem dX6_digest_22 : decode cX6_digest 22 = .ok (.aload_n 0, 1) := by decide +kernel
theorem dX6_digest_23 : decode cX6_digest 23 = .ok (.iload_n 3, 1) := by decide +kernel
theorem dX6_digest_24 : decode cX6_digest 24 = .ok (.invokevirtual 196, 3) := by decide +kernel
theorem dX6_digest_27 : decode cX6_digest 27 = .ok (.i2l, 1) := by decide +kernel
theorem dX6_digest_28 : decode cX6_digest 28 = .ok (.ladd, 1) := by decide +kernel
theorem dX6_digest_29 : decode cX6_digest 29 = .ok (.lstore_n 1, 1) := by decide +kernel
theorem dX6_digest_30 : decode cX6_digest 30 = .ok (.iinc 3 1, 3) := by decide +kernel
theorem dX6_digest_33 : decode cX6_digest 33 = .ok (.goto (-22), 3) := by decide +kernel
theorem dX6_digest_36 : decode cX6_digest 36 = .ok (.iconst 0, 1) := by decide +kernel
theorem dX6_digest_37 : decode cX6_digest 37 = .ok (.istore_n 3, 1) := by decide +kernel
theorem dX6_digest_38 : decode cX6_digest 38 = .ok (.iload_n 3, 1) := by decide +kernel
theorem dX6_digest_39 : decode cX6_digest 39 = .ok (.bipush 6, 2) := by decide +kernel
theorem dX6_digest_41 : decode cX6_digest 41 = .ok (.if_icmp .ge 39, 3) := by decide +kernel
theorem dX6_digest_44 : decode cX6_digest 44 = .ok (.iconst 0, 1) := by decide +kernel
theorem dX6_digest_45 : decode cX6_digest 45 = .ok (.istore 4, 2) := by decide +kernel
theorem dX6_digest_47 : decode cX6_digest 47 = .ok (.iload 4, 2) := by decide +kernel
theorem dX6_digest_49 : decode cX6_digest 49 = .ok (.iconst 5, 1) := by decide +kernel
theorem dX6_digest_50 : decode cX6_digest 50 = .ok (.if_icmp .ge 24, 3) := by decide +kernel
theorem dX6_digest_53 : decode cX6_digest 53 = .ok (.ldc2_w 219, 3) := by decide +kernel
theorem dX6_digest_56 : decode cX6_digest 56 = .ok (.lload_n 1, 1) := by decide +kernel
theorem dX6_digest_57 : decode cX6_digest 57 = .ok (.lmul, 1) := by decide +kernel
theorem dX6_digest_58 : decode cX6_digest 58 = .ok (.aload_n 0, 1) := by decide +kernel
theorem dX6_digest_59 : decode cX6_digest 59 = .ok (.iload_n 3, 1) := by decide +kernel
theorem dX6_digest_60 : decode cX6_digest 60 = .ok (.iload 4, 2) := by decide +kernel
theorem dX6_digest_62 : decode cX6_digest 62 = .ok (.invokevirtual 159, 3) := by decide +kernel
theorem dX6_digest_65 : decode cX6_digest 65 = .ok (.i2l, 1) := by decide +kernel
theorem dX6_digest_66 : decode cX6_digest 66 = .ok (.ladd, 1) := by decide +kernel
theorem dX6_digest_67 : decode cX6_digest 67 = .ok (.lstore_n 1, 1) := by decide +kernel
theorem dX6_digest_68 : decode cX6_digest 68 = .ok (.iinc 4 1, 3) := by decide +kernel
theorem dX6_digest_71 : decode cX6_digest 71 = .ok (.goto (-24), 3) := by decide +kernel
theorem dX6_digest_74 : decode cX6_digest 74 = .ok (.iinc 3 1, 3) := by decide +kernel
theorem dX6_digest_77 : decode cX6_digest 77 = .ok (.goto (-39), 3) := by decide +kernel
theorem dX6_digest_80 : decode cX6_digest 80 = .ok (.iconst 0, 1) := by decide +kernel
theorem dX6_digest_81 : decode cX6_digest 81 = .ok (.istore_n 3, 1) := by decide +kernel
theorem dX6_digest_82 : decode cX6_digest 82 = .ok (.iload_n 3, 1) := by decide +kernel
theorem dX6_digest_83 : decode cX6_digest 83 = .ok (.iconst 5, 1) := by decide +kernel
theorem dX6_digest_84 : decode cX6_digest 84 = .ok (.if_icmp .ge 66, 3) := by decide +kernel
theorem dX6_digest_87 : decode cX6_digest 87 = .ok (.iconst 0, 1) := by decide +kernel
theorem dX6_digest_88 : decode cX6_digest 88 = .ok (.istore 4, 2) := by decide +kernel
theorem dX6_digest_90 : decode cX6_digest 90 = .ok (.iload 4, 2) := by decide +kernel
theorem dX6_digest_92 : decode cX6_digest 92 = .ok (.bipush 6, 2) := by decide +kernel
theorem dX6_digest_94 : decode cX6_digest 94 = .ok (.if_icmp .ge 24, 3) := by decide +kernel
theorem dX6_digest_97 : decode cX6_digest 97 = .ok (.ldc2_w 219, 3) := by decide +kernel
theorem dX6_digest_100 : decode cX6_digest 100 = .ok (.lload_n 1, 1) := by decide +kernel
theorem dX6_digest_101 : decode cX6_digest 101 = .ok (.lmul, 1) := by decide +kernel
theorem dX6_digest_102 : decode cX6_digest 102 = .ok (.aload_n 0, 1) := by decide +kernel
theorem dX6_digest_103 : decode cX6_digest 103 = .ok (.iload_n 3, 1) := by decide +kernel
theorem dX6_digest_104 : decode cX6_digest 104 = .ok (.iload 4, 2) := by decide +kernel
theorem dX6_digest_106 : decode cX6_digest 106 = .ok (.invokevirtual 177, 3) := by decide +kernel
theorem dX6_digest_109 : decode cX6_digest 109 = .ok (.i2l, 1) := by decide +kernel
theorem dX6_digest_110 : decode cX6_digest 110 = .ok (.ladd, 1) := by decide +kernel
theorem dX6_digest_111 : decode cX6_digest 111 = .ok (.lstore_n 1, 1) := by decide +kernel
theorem dX6_digest_112 : decode cX6_digest 112 = .ok (.iinc 4 1, 3) := by decide +kernel
theorem dX6_digest_115 : decode cX6_digest 115 = .ok (.goto (-25), 3) := by decide +kernel
theorem dX6_digest_118 : decode cX6_digest 118 = .ok (.ldc2_w 219, 3) := by decide +kernel
theorem dX6_digest_121 : decode cX6_digest 121 = .ok (.ldc2_w 219, 3) := by decide +kernel
theorem dX6_digest_124 : decode cX6_digest 124 = .ok (.lload_n 1, 1) := by decide +kernel
theorem dX6_digest_125 : decode cX6_digest 125 = .ok (.lmul, 1) := by decide +kernel
theorem dX6_digest_126 : decode cX6_digest 126 = .ok (.aload_n 0, 1) := by decide +kernel
theorem dX6_digest_127 : decode cX6_digest 127 = .ok (.iload_n 3, 1) := by decide +kernel
theorem dX6_digest_128 : decode cX6_digest 128 = .ok (.iconst 0, 1) := by decide +kernel
theorem dX6_digest_129 : decode cX6_digest 129 = .ok (.invokevirtual 208, 3) := by decide +kernel
theorem dX6_digest_132 : decode cX6_digest 132 = .ok (.i2l, 1) := by decide +kernel
theorem dX6_digest_133 : decode cX6_digest 133 = .ok (.ladd, 1) := by decide +kernel
theorem dX6_digest_134 : decode cX6_digest 134 = .ok (.lmul, 1) := by decide +kernel
theorem dX6_digest_135 : decode cX6_digest 135 = .ok (.aload_n 0, 1) := by decide +kernel
theorem dX6_digest_136 : decode cX6_digest 136 = .ok (.iload_n 3, 1) := by decide +kernel
theorem dX6_digest_137 : decode cX6_digest 137 = .ok (.iconst 1, 1) := by decide +kernel
theorem dX6_digest_138 : decode cX6_digest 138 = .ok (.invokevirtual 208, 3) := by decide +kernel
theorem dX6_digest_141 : decode cX6_digest 141 = .ok (.i2l, 1) := by decide +kernel
theorem dX6_digest_142 : decode cX6_digest 142 = .ok (.ladd, 1) := by decide +kernel
theorem dX6_digest_143 : decode cX6_digest 143 = .ok (.lstore_n 1, 1) := by decide +kernel
theorem dX6_digest_144 : decode cX6_digest 144 = .ok (.iinc 3 1, 3) := by decide +kernel
theorem dX6_digest_147 : decode cX6_digest 147 = .ok (.goto (-65), 3) := by decide +kernel
theorem dX6_digest_150 : decode cX6_digest 150 = .ok (.iconst 0, 1) := by decide +kernel
theorem dX6_digest_151 : decode cX6_digest 151 = .ok (.istore_n 3, 1) := by decide +kernel
theorem dX6_digest_152 : decode cX6_digest 152 = .ok (.iload_n 3, 1) := by decide +kernel
theorem dX6_digest_153 : decode cX6_digest 153 = .ok (.bipush 125, 2) := by decide +kernel
theorem dX6_digest_155 : decode cX6_digest 155 = .ok (.if_icmp .ge 33, 3) := by decide +kernel
theorem dX6_digest_158 : decode cX6_digest 158 = .ok (.ldc2_w 219, 3) := by decide +kernel
theorem dX6_digest_161 : decode cX6_digest 161 = .ok (.lload_n 1, 1) := by decide +kernel
theorem dX6_digest_162 : decode cX6_digest 162 = .ok (.lmul, 1) := by decide +kernel
theorem dX6_digest_163 : decode cX6_digest 163 = .ok (.aload_n 0, 1) := by decide +kernel
theorem dX6_digest_164 : decode cX6_digest 164 = .ok (.iload_n 3, 1) := by decide +kernel
theorem dX6_digest_165 : decode cX6_digest 165 = .ok (.bipush 25, 2) := by decide +kernel
theorem dX6_digest_167 : decode cX6_digest 167 = .ok (.idiv, 1) := by decide +kernel
theorem dX6_digest_168 : decode cX6_digest 168 = .ok (.iload_n 3, 1) := by decide +kernel
theorem dX6_digest_169 : decode cX6_digest 169 = .ok (.iconst 5, 1) := by decide +kernel
theorem dX6_digest_170 : decode cX6_digest 170 = .ok (.idiv, 1) := by decide +kernel
theorem dX6_digest_171 : decode cX6_digest 171 = .ok (.iconst 5, 1) := by decide +kernel
theorem dX6_digest_172 : decode cX6_digest 172 = .ok (.irem, 1) := by decide +kernel
theorem dX6_digest_173 : decode cX6_digest 173 = .ok (.iload_n 3, 1) := by decide +kernel
theorem dX6_digest_174 : decode cX6_digest 174 = .ok (.iconst 5, 1) := by decide +kernel
theorem dX6_digest_175 : decode cX6_digest 175 = .ok (.irem, 1) := by decide +kernel
theorem dX6_digest_176 : decode cX6_digest 176 = .ok (.invokevirtual 183, 3) := by decide +kernel
theorem dX6_digest_179 : decode cX6_digest 179 = .ok (.i2l, 1) := by decide +kernel
theorem dX6_digest_180 : decode cX6_digest 180 = .ok (.ladd, 1) := by decide +kernel
theorem dX6_digest_181 : decode cX6_digest 181 = .ok (.lstore_n 1, 1) := by decide +kernel
theorem dX6_digest_182 : decode cX6_digest 182 = .ok (.iinc 3 1, 3) := by decide +kernel
theorem dX6_digest_185 : decode cX6_digest 185 = .ok (.goto (-33), 3) := by decide +kernel
theorem dX6_digest_188 : decode cX6_digest 188 = .ok (.ldc2_w 219, 3) := by decide +kernel
theorem dX6_digest_191 : decode cX6_digest 191 = .ok (.ldc2_w 219, 3) := by decide +kernel
theorem dX6_digest_194 : decode cX6_digest 194 = .ok (.ldc2_w 219, 3) := by decide +kernel
theorem dX6_digest_197 : decode cX6_digest 197 = .ok (.lload_n 1, 1) := by decide +kernel
theorem dX6_digest_198 : decode cX6_digest 198 = .ok (.lmul, 1) := by decide +kernel
theorem dX6_digest_199 : decode cX6_digest 199 = .ok (.aload_n 0, 1) := by decide +kernel
theorem dX6_digest_200 : decode cX6_digest 200 = .ok (.iconst 0, 1) := by decide +kernel
theorem dX6_digest_201 : decode cX6_digest 201 = .ok (.invokevirtual 205, 3) := by decide +kernel
theorem dX6_digest_204 : decode cX6_digest 204 = .ok (.i2l, 1) := by decide +kernel
theorem dX6_digest_205 : decode cX6_digest 205 = .ok (.ladd, 1) := by decide +kernel
theorem dX6_digest_206 : decode cX6_digest 206 = .ok (.lmul, 1) := by decide +kernel
theorem dX6_digest_207 : decode cX6_digest 207 = .ok (.aload_n 0, 1) := by decide +kernel
theorem dX6_digest_208 : decode cX6_digest 208 = .ok (.iconst 1, 1) := by decide +kernel
theorem dX6_digest_209 : decode cX6_digest 209 = .ok (.invokevirtual 205, 3) := by decide +kernel
theorem dX6_digest_212 : decode cX6_digest 212 = .ok (.i2l, 1) := by decide +kernel
theorem dX6_digest_213 : decode cX6_digest 213 = .ok (.ladd, 1) := by decide +kernel
theorem dX6_digest_214 : decode cX6_digest 214 = .ok (.lmul, 1) := by decide +kernel
theorem dX6_digest_215 : decode cX6_digest 215 = .ok (.aload_n 0, 1) := by decide +kernel
theorem dX6_digest_216 : decode cX6_digest 216 = .ok (.invokevirtual 211, 3) := by decide +kernel
theorem dX6_digest_219 : decode cX6_digest 219 = .ok (.i2l, 1) := by decide +kernel
theorem dX6_digest_220 : decode cX6_digest 220 = .ok (.ladd, 1) := by decide +kernel
theorem dX6_digest_221 : decode cX6_digest 221 = .ok (.lstore_n 1, 1) := by decide +kernel
theorem dX6_digest_222 : decode cX6_digest 222 = .ok (.ldc2_w 219, 3) := by decide +kernel
theorem dX6_digest_225 : decode cX6_digest 225 = .ok (.lload_n 1, 1) := by decide +kernel
theorem dX6_digest_226 : decode cX6_digest 226 = .ok (.lmul, 1) := by decide +kernel
theorem dX6_digest_227 : decode cX6_digest 227 = .ok (.aload_n 0, 1) := by decide +kernel
theorem dX6_digest_228 : decode cX6_digest 228 = .ok (.invokevirtual 76, 3) := by decide +kernel
theorem dX6_digest_231 : decode cX6_digest 231 = .ok (.i2d, 1) := by decide +kernel
theorem dX6_digest_232 : decode cX6_digest 232 = .ok (.ldc2_w 214, 3) := by decide +kernel
theorem dX6_digest_235 : decode cX6_digest 235 = .ok (.ddiv, 1) := by decide +kernel
theorem dX6_digest_236 : decode cX6_digest 236 = .ok (.invokestatic 221, 3) := by decide +kernel
theorem dX6_digest_239 : decode cX6_digest 239 = .ok (.ladd, 1) := by decide +kernel
theorem dX6_digest_240 : decode cX6_digest 240 = .ok (.lstore_n 1, 1) := by decide +kernel
theorem dX6_digest_241 : decode cX6_digest 241 = .ok (.ldc2_w 219, 3) := by decide +kernel
theorem dX6_digest_244 : decode cX6_digest 244 = .ok (.lload_n 1, 1) := by decide +kernel
theorem dX6_digest_245 : decode cX6_digest 245 = .ok (.lmul, 1) := by decide +kernel
theorem dX6_digest_246 : decode cX6_digest 246 = .ok (.aload_n 0, 1) := by decide +kernel
theorem dX6_digest_247 : decode cX6_digest 247 = .ok (.invokevirtual 128, 3) := by decide +kernel
theorem dX6_digest_250 : decode cX6_digest 250 = .ok (.i2f, 1) := by decide +kernel
theorem dX6_digest_251 : decode cX6_digest 251 = .ok (.ldc 216, 2) := by decide +kernel
theorem dX6_digest_253 : decode cX6_digest 253 = .ok (.fdiv, 1) := by decide +kernel
theorem dX6_digest_254 : decode cX6_digest 254 = .ok (.invokestatic 227, 3) := by decide +kernel
theorem dX6_digest_257 : decode cX6_digest 257 = .ok (.i2l, 1) := by decide +kernel
theorem dX6_digest_258 : decode cX6_digest 258 = .ok (.ladd, 1) := by decide +kernel
theorem dX6_digest_259 : decode cX6_digest 259 = .ok (.lstore_n 1, 1) := by decide +kernel
theorem dX6_digest_260 : decode cX6_digest 260 = .ok (.ldc2_w 219, 3) := by decide +kernel
theorem dX6_digest_263 : decode cX6_digest 263 = .ok (.lload_n 1, 1) := by decide +kernel
theorem dX6_digest_264 : decode cX6_digest 264 = .ok (.lmul, 1) := by decide +kernel
theorem dX6_digest_265 : decode cX6_digest 265 = .ok (.aload_n 0, 1) := by decide +kernel
theorem dX6_digest_266 : decode cX6_digest 266 = .ok (.getfield 57, 3) := by decide +kernel
theorem dX6_digest_269 : decode cX6_digest 269 = .ok (.ifCond .eq 7, 3) := by decide +kernel
theorem dX6_digest_272 : decode cX6_digest 272 = .ok (.iconst 1, 1) := by decide +kernel
theorem dX6_digest_273 : decode cX6_digest 273 = .ok (.goto 4, 3) := by decide +kernel
theorem dX6_digest_276 : decode cX6_digest 276 = .ok (.iconst 0, 1) := by decide +kernel
theorem dX6_digest_277 : decode cX6_digest 277 = .ok (.i2l, 1) := by decide +kernel
theorem dX6_digest_278 : decode cX6_digest 278 = .ok (.ladd, 1) := by decide +kernel
theorem dX6_digest_279 : decode cX6_digest 279 = .ok (.lstore_n 1, 1) := by decide +kernel
theorem dX6_digest_280 : decode cX6_digest 280 = .ok (.ldc2_w 219, 3) := by decide +kernel
theorem dX6_digest_283 : decode cX6_digest 283 = .ok (.lload_n 1, 1) := by decide +kernel
theorem dX6_digest_284 : decode cX6_digest 284 = .ok (.lmul, 1) := by decide +kernel
theorem dX6_digest_285 : decode cX6_digest 285 = .ok (.aload_n 0, 1) := by decide +kernel
theorem dX6_digest_286 : decode cX6_digest 286 = .ok (.getfield 113, 3) := by decide +kernel
theorem dX6_digest_289 : decode cX6_digest 289 = .ok (.i2l, 1) := by decide +kernel
theorem dX6_digest_290 : decode cX6_digest 290 = .ok (.ladd, 1) := by decide +kernel
theorem dX6_digest_291 : decode cX6_digest 291 = .ok (.lstore_n 1, 1) := by decide +kernel
theorem dX6_digest_292 : decode cX6_digest 292 = .ok (.iconst 0, 1) := by decide +kernel
theorem dX6_digest_293 : decode cX6_digest 293 = .ok (.istore_n 3, 1) := by decide +kernel
theorem dX6_digest_294 : decode cX6_digest 294 = .ok (.iload_n 3, 1) := by decide +kernel
theorem dX6_digest_295 : decode cX6_digest 295 = .ok (.aload_n 0, 1) := by decide +kernel
theorem dX6_digest_296 : decode cX6_digest 296 = .ok (.getfield 113, 3) := by decide +kernel
theorem dX6_digest_299 : decode cX6_digest 299 = .ok (.if_icmp .ge 23, 3) := by decide +kernel
theorem dX6_digest_302 : decode cX6_digest 302 = .ok (.ldc2_w 219, 3) := by decide +kernel
theorem dX6_digest_305 : decode cX6_digest 305 = .ok (.lload_n 1, 1) := by decide +kernel
theorem dX6_digest_306 : decode cX6_digest 306 = .ok (.lmul, 1) := by decide +kernel
theorem dX6_digest_307 : decode cX6_digest 307 = .ok (.aload_n 0, 1) := by decide +kernel
theorem dX6_digest_308 : decode cX6_digest 308 = .ok (.getfield 22, 3) := by decide +kernel
theorem dX6_digest_311 : decode cX6_digest 311 = .ok (.iload_n 3, 1) := by decide +kernel
theorem dX6_digest_312 : decode cX6_digest 312 = .ok (.iaload, 1) := by decide +kernel
theorem dX6_digest_313 : decode cX6_digest 313 = .ok (.i2l, 1) := by decide +kernel
theorem dX6_digest_314 : decode cX6_digest 314 = .ok (.ladd, 1) := by decide +kernel
theorem dX6_digest_315 : decode cX6_digest 315 = .ok (.lstore_n 1, 1) := by decide +kernel
theorem dX6_digest_316 : decode cX6_digest 316 = .ok (.iinc 3 1, 3) := by decide +kernel
theorem dX6_digest_319 : decode cX6_digest 319 = .ok (.goto (-25), 3) := by decide +kernel
theorem dX6_digest_322 : decode cX6_digest 322 = .ok (.lload_n 1, 1) := by decide +kernel
theorem dX6_digest_323 : decode cX6_digest 323 = .ok (.lreturn, 1) := by decide +kernel
