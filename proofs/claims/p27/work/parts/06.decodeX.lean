theorem dX0_init_0 : decode cX0_init 0 = .ok (.aload_n 0, 1) := by decide +kernel
theorem dX0_init_1 : decode cX0_init 1 = .ok (.invokespecial 3, 3) := by decide +kernel
theorem dX0_init_4 : decode cX0_init 4 = .ok (.aload_n 0, 1) := by decide +kernel
theorem dX0_init_5 : decode cX0_init 5 = .ok (.bipush 6, 2) := by decide +kernel
theorem dX0_init_7 : decode cX0_init 7 = .ok (.newarray .int, 2) := by decide +kernel
theorem dX0_init_9 : decode cX0_init 9 = .ok (.putfield 9, 3) := by decide +kernel
theorem dX0_init_12 : decode cX0_init 12 = .ok (.aload_n 0, 1) := by decide +kernel
theorem dX0_init_13 : decode cX0_init 13 = .ok (.bipush 6, 2) := by decide +kernel
theorem dX0_init_15 : decode cX0_init 15 = .ok (.newarray .int, 2) := by decide +kernel
theorem dX0_init_17 : decode cX0_init 17 = .ok (.putfield 15, 3) := by decide +kernel
theorem dX0_init_20 : decode cX0_init 20 = .ok (.iconst 0, 1) := by decide +kernel
theorem dX0_init_21 : decode cX0_init 21 = .ok (.istore_n 1, 1) := by decide +kernel
theorem dX0_init_22 : decode cX0_init 22 = .ok (.iload_n 1, 1) := by decide +kernel
theorem dX0_init_23 : decode cX0_init 23 = .ok (.bipush 6, 2) := by decide +kernel
theorem dX0_init_25 : decode cX0_init 25 = .ok (.if_icmp .ge 16, 3) := by decide +kernel
theorem dX0_init_28 : decode cX0_init 28 = .ok (.aload_n 0, 1) := by decide +kernel
theorem dX0_init_29 : decode cX0_init 29 = .ok (.getfield 9, 3) := by decide +kernel
theorem dX0_init_32 : decode cX0_init 32 = .ok (.iload_n 1, 1) := by decide +kernel
theorem dX0_init_33 : decode cX0_init 33 = .ok (.iload_n 1, 1) := by decide +kernel
theorem dX0_init_34 : decode cX0_init 34 = .ok (.iastore, 1) := by decide +kernel
theorem dX0_init_35 : decode cX0_init 35 = .ok (.iinc 1 1, 3) := by decide +kernel
theorem dX0_init_38 : decode cX0_init 38 = .ok (.goto (-16), 3) := by decide +kernel
theorem dX0_init_41 : decode cX0_init 41 = .ok (.return_, 1) := by decide +kernel
theorem dX0_discAt_0 : decode cX0_discAt 0 = .ok (.iload_n 1, 1) := by decide +kernel
theorem dX0_discAt_1 : decode cX0_discAt 1 = .ok (.ifCond .lt 18, 3) := by decide +kernel
theorem dX0_discAt_4 : decode cX0_discAt 4 = .ok (.iload_n 1, 1) := by decide +kernel
theorem dX0_discAt_5 : decode cX0_discAt 5 = .ok (.bipush 6, 2) := by decide +kernel
theorem dX0_discAt_7 : decode cX0_discAt 7 = .ok (.if_icmp .ge 12, 3) := by decide +kernel
theorem dX0_discAt_10 : decode cX0_discAt 10 = .ok (.aload_n 0, 1) := by decide +kernel
theorem dX0_discAt_11 : decode cX0_discAt 11 = .ok (.getfield 9, 3) := by decide +kernel
theorem dX0_discAt_14 : decode cX0_discAt 14 = .ok (.iload_n 1, 1) := by decide +kernel
theorem dX0_discAt_15 : decode cX0_discAt 15 = .ok (.iaload, 1) := by decide +kernel
theorem dX0_discAt_16 : decode cX0_discAt 16 = .ok (.goto 4, 3) := by decide +kernel
theorem dX0_discAt_19 : decode cX0_discAt 19 = .ok (.iconst (-1), 1) := by decide +kernel
theorem dX0_discAt_20 : decode cX0_discAt 20 = .ok (.ireturn, 1) := by decide +kernel
theorem dX0_notchAt_0 : decode cX0_notchAt 0 = .ok (.iload_n 1, 1) := by decide +kernel
theorem dX0_notchAt_1 : decode cX0_notchAt 1 = .ok (.ifCond .lt 18, 3) := by decide +kernel
theorem dX0_notchAt_4 : decode cX0_notchAt 4 = .ok (.iload_n 1, 1) := by decide +kernel
theorem dX0_notchAt_5 : decode cX0_notchAt 5 = .ok (.bipush 6, 2) := by decide +kernel
theorem dX0_notchAt_7 : decode cX0_notchAt 7 = .ok (.if_icmp .ge 12, 3) := by decide +kernel
theorem dX0_notchAt_10 : decode cX0_notchAt 10 = .ok (.aload_n 0, 1) := by decide +kernel
theorem dX0_notchAt_11 : decode cX0_notchAt 11 = .ok (.getfield 15, 3) := by decide +kernel
theorem dX0_notchAt_14 : decode cX0_notchAt 14 = .ok (.iload_n 1, 1) := by decide +kernel
theorem dX0_notchAt_15 : decode cX0_notchAt 15 = .ok (.iaload, 1) := by decide +kernel
theorem dX0_notchAt_16 : decode cX0_notchAt 16 = .ok (.goto 4, 3) := by decide +kernel
theorem dX0_notchAt_19 : decode cX0_notchAt 19 = .ok (.iconst 0, 1) := by decide +kernel
theorem dX0_notchAt_20 : decode cX0_notchAt 20 = .ok (.ireturn, 1) := by decide +kernel
theorem dX0_agreesAt_0 : decode cX0_agreesAt 0 = .ok (.aload_n 0, 1) := by decide +kernel
theorem dX0_agreesAt_1 : decode cX0_agreesAt 1 = .ok (.iload_n 2, 1) := by decide +kernel
theorem dX0_agreesAt_2 : decode cX0_agreesAt 2 = .ok (.invokevirtual 18, 3) := by decide +kernel
theorem dX0_agreesAt_5 : decode cX0_agreesAt 5 = .ok (.aload_n 1, 1) := by decide +kernel
theorem dX0_agreesAt_6 : decode cX0_agreesAt 6 = .ok (.iload_n 2, 1) := by decide +kernel
theorem dX0_agreesAt_7 : decode cX0_agreesAt 7 = .ok (.invokevirtual 18, 3) := by decide +kernel
theorem dX0_agreesAt_10 : decode cX0_agreesAt 10 = .ok (.if_icmp .ne 20, 3) := by decide +kernel
theorem dX0_agreesAt_13 : decode cX0_agreesAt 13 = .ok (.aload_n 0, 1) := by decide +kernel
theorem dX0_agreesAt_14 : decode cX0_agreesAt 14 = .ok (.iload_n 2, 1) := by decide +kernel
theorem dX0_agreesAt_15 : decode cX0_agreesAt 15 = .ok (.invokevirtual 22, 3) := by decide +kernel
theorem dX0_agreesAt_18 : decode cX0_agreesAt 18 = .ok (.aload_n 1, 1) := by decide +kernel
theorem dX0_agreesAt_19 : decode cX0_agreesAt 19 = .ok (.iload_n 2, 1) := by decide +kernel
theorem dX0_agreesAt_20 : decode cX0_agreesAt 20 = .ok (.invokevirtual 22, 3) := by decide +kernel
theorem dX0_agreesAt_23 : decode cX0_agreesAt 23 = .ok (.if_icmp .ne 7, 3) := by decide +kernel
theorem dX0_agreesAt_26 : decode cX0_agreesAt 26 = .ok (.iconst 1, 1) := by decide +kernel
theorem dX0_agreesAt_27 : decode cX0_agreesAt 27 = .ok (.goto 4, 3) := by decide +kernel
theorem dX0_agreesAt_30 : decode cX0_agreesAt 30 = .ok (.iconst 0, 1) := by decide +kernel
theorem dX0_agreesAt_31 : decode cX0_agreesAt 31 = .ok (.ireturn, 1) := by decide +kernel
theorem dX0_bringHome_0 : decode cX0_bringHome 0 = .ok (.iconst 0, 1) := by decide +kernel
theorem dX0_bringHome_1 : decode cX0_bringHome 1 = .ok (.istore_n 1, 1) := by decide +kernel
theorem dX0_bringHome_2 : decode cX0_bringHome 2 = .ok (.iload_n 1, 1) := by decide +kernel
theorem dX0_bringHome_3 : decode cX0_bringHome 3 = .ok (.bipush 6, 2) := by decide +kernel
theorem dX0_bringHome_5 : decode cX0_bringHome 5 = .ok (.if_icmp .ge 23, 3) := by decide +kernel
theorem dX0_bringHome_8 : decode cX0_bringHome 8 = .ok (.aload_n 0, 1) := by decide +kernel
theorem dX0_bringHome_9 : decode cX0_bringHome 9 = .ok (.getfield 9, 3) := by decide +kernel
theorem dX0_bringHome_12 : decode cX0_bringHome 12 = .ok (.iload_n 1, 1) := by decide +kernel
theorem dX0_bringHome_13 : decode cX0_bringHome 13 = .ok (.iload_n 1, 1) := by decide +kernel
theorem dX0_bringHome_14 : decode cX0_bringHome 14 = .ok (.iastore, 1) := by decide +kernel
theorem dX0_bringHome_15 : decode cX0_bringHome 15 = .ok (.aload_n 0, 1) := by decide +kernel
theorem dX0_bringHome_16 : decode cX0_bringHome 16 = .ok (.getfield 15, 3) := by decide +kernel
theorem dX0_bringHome_19 : decode cX0_bringHome 19 = .ok (.iload_n 1, 1) := by decide +kernel
theorem dX0_bringHome_20 : decode cX0_bringHome 20 = .ok (.iconst 0, 1) := by decide +kernel
theorem dX0_bringHome_21 : decode cX0_bringHome 21 = .ok (.iastore, 1) := by decide +kernel
theorem dX0_bringHome_22 : decode cX0_bringHome 22 = .ok (.iinc 1 1, 3) := by decide +kernel
theorem dX0_bringHome_25 : decode cX0_bringHome 25 = .ok (.goto (-23), 3) := by decide +kernel
theorem dX0_bringHome_28 : decode cX0_bringHome 28 = .ok (.return_, 1) := by decide +kernel
theorem dX0_copyFrom_0 : decode cX0_copyFrom 0 = .ok (.iconst 0, 1) := by decide +kernel
theorem dX0_copyFrom_1 : decode cX0_copyFrom 1 = .ok (.istore_n 2, 1) := by decide +kernel
theorem dX0_copyFrom_2 : decode cX0_copyFrom 2 = .ok (.iload_n 2, 1) := by decide +kernel
theorem dX0_copyFrom_3 : decode cX0_copyFrom 3 = .ok (.bipush 6, 2) := by decide +kernel
theorem dX0_copyFrom_5 : decode cX0_copyFrom 5 = .ok (.if_icmp .ge 33, 3) := by decide +kernel
theorem dX0_copyFrom_8 : decode cX0_copyFrom 8 = .ok (.aload_n 0, 1) := by decide +kernel
theorem dX0_copyFrom_9 : decode cX0_copyFrom 9 = .ok (.getfield 9, 3) := by decide +kernel
theorem dX0_copyFrom_12 : decode cX0_copyFrom 12 = .ok (.iload_n 2, 1) := by decide +kernel
theorem dX0_copyFrom_13 : decode cX0_copyFrom 13 = .ok (.aload_n 1, 1) := by decide +kernel
theorem dX0_copyFrom_14 : decode cX0_copyFrom 14 = .ok (.getfield 9, 3) := by decide +kernel
theorem dX0_copyFrom_17 : decode cX0_copyFrom 17 = .ok (.iload_n 2, 1) := by decide +kernel
theorem dX0_copyFrom_18 : decode cX0_copyFrom 18 = .ok (.iaload, 1) := by decide +kernel
theorem dX0_copyFrom_19 : decode cX0_copyFrom 19 = .ok (.iastore, 1) := by decide +kernel
theorem dX0_copyFrom_20 : decode cX0_copyFrom 20 = .ok (.aload_n 0, 1) := by decide +kernel
theorem dX0_copyFrom_21 : decode cX0_copyFrom 21 = .ok (.getfield 15, 3) := by decide +kernel
theorem dX0_copyFrom_24 : decode cX0_copyFrom 24 = .ok (.iload_n 2, 1) := by decide +kernel
theorem dX0_copyFrom_25 : decode cX0_copyFrom 25 = .ok (.aload_n 1, 1) := by decide +kernel
theorem dX0_copyFrom_26 : decode cX0_copyFrom 26 = .ok (.getfield 15, 3) := by decide +kernel
theorem dX0_copyFrom_29 : decode cX0_copyFrom 29 = .ok (.iload_n 2, 1) := by decide +kernel
theorem dX0_copyFrom_30 : decode cX0_copyFrom 30 = .ok (.iaload, 1) := by decide +kernel
theorem dX0_copyFrom_31 : decode cX0_copyFrom 31 = .ok (.iastore, 1) := by decide +kernel
theorem dX0_copyFrom_32 : decode cX0_copyFrom 32 = .ok (.iinc 2 1, 3) := by decide +kernel
theorem dX0_copyFrom_35 : decode cX0_copyFrom 35 = .ok (.goto (-33), 3) := by decide +kernel
theorem dX0_copyFrom_38 : decode cX0_copyFrom 38 = .ok (.return_, 1) := by decide +kernel
theorem dX0_rotate_0 : decode cX0_rotate 0 = .ok (.iload_n 3, 1) := by decide +kernel
theorem dX0_rotate_1 : decode cX0_rotate 1 = .ok (.ifCond .eq 9, 3) := by decide +kernel
theorem dX0_rotate_4 : decode cX0_rotate 4 = .ok (.iconst 5, 1) := by decide +kernel
theorem dX0_rotate_5 : decode cX0_rotate 5 = .ok (.iload_n 2, 1) := by decide +kernel
theorem dX0_rotate_6 : decode cX0_rotate 6 = .ok (.isub, 1) := by decide +kernel
theorem dX0_rotate_7 : decode cX0_rotate 7 = .ok (.goto 4, 3) := by decide +kernel
theorem dX0_rotate_10 : decode cX0_rotate 10 = .ok (.iload_n 2, 1) := by decide +kernel
theorem dX0_rotate_11 : decode cX0_rotate 11 = .ok (.istore 4, 2) := by decide +kernel
theorem dX0_rotate_13 : decode cX0_rotate 13 = .ok (.iconst (-1), 1) := by decide +kernel
theorem dX0_rotate_14 : decode cX0_rotate 14 = .ok (.istore 5, 2) := by decide +kernel
theorem dX0_rotate_16 : decode cX0_rotate 16 = .ok (.iconst 0, 1) := by decide +kernel
theorem dX0_rotate_17 : decode cX0_rotate 17 = .ok (.istore 6, 2) := by decide +kernel
theorem dX0_rotate_19 : decode cX0_rotate 19 = .ok (.iconst 0, 1) := by decide +kernel
theorem dX0_rotate_20 : decode cX0_rotate 20 = .ok (.istore 7, 2) := by decide +kernel
theorem dX0_rotate_22 : decode cX0_rotate 22 = .ok (.iconst 0, 1) := by decide +kernel
theorem dX0_rotate_23 : decode cX0_rotate 23 = .ok (.istore 8, 2) := by decide +kernel
theorem dX0_rotate_25 : decode cX0_rotate 25 = .ok (.iload 8, 2) := by decide +kernel
theorem dX0_rotate_27 : decode cX0_rotate 27 = .ok (.bipush 6, 2) := by decide +kernel
theorem dX0_rotate_29 : decode cX0_rotate 29 = .ok (.if_icmp .ge 96, 3) := by decide +kernel
theorem dX0_rotate_32 : decode cX0_rotate 32 = .ok (.iload_n 3, 1) := by decide +kernel
theorem dX0_rotate_33 : decode cX0_rotate 33 = .ok (.ifCond .eq 10, 3) := by decide +kernel
theorem dX0_rotate_36 : decode cX0_rotate 36 = .ok (.iconst 5, 1) := by decide +kernel
theorem dX0_rotate_37 : decode cX0_rotate 37 = .ok (.iload 8, 2) := by decide +kernel
theorem dX0_rotate_39 : decode cX0_rotate 39 = .ok (.isub, 1) := by decide +kernel
theorem dX0_rotate_40 : decode cX0_rotate 40 = .ok (.goto 5, 3) := by decide +kernel
theorem dX0_rotate_43 : decode cX0_rotate 43 = .ok (.iload 8, 2) := by decide +kernel
theorem dX0_rotate_45 : decode cX0_rotate 45 = .ok (.istore 9, 2) := by decide +kernel
theorem dX0_rotate_47 : decode cX0_rotate 47 = .ok (.iload_n 1, 1) := by decide +kernel
theorem dX0_rotate_48 : decode cX0_rotate 48 = .ok (.iload 9, 2) := by decide +kernel
theorem dX0_rotate_50 : decode cX0_rotate 50 = .ok (.ishr, 1) := by decide +kernel
theorem dX0_rotate_51 : decode cX0_rotate 51 = .ok (.iconst 1, 1) := by decide +kernel
theorem dX0_rotate_52 : decode cX0_rotate 52 = .ok (.iand, 1) := by decide +kernel
theorem dX0_rotate_53 : decode cX0_rotate 53 = .ok (.iconst 1, 1) := by decide +kernel
theorem dX0_rotate_54 : decode cX0_rotate 54 = .ok (.if_icmp .ne 65, 3) := by decide +kernel
theorem dX0_rotate_57 : decode cX0_rotate 57 = .ok (.aload_n 0, 1) := by decide +kernel
theorem dX0_rotate_58 : decode cX0_rotate 58 = .ok (.getfield 9, 3) := by decide +kernel
theorem dX0_rotate_61 : decode cX0_rotate 61 = .ok (.iload 9, 2) := by decide +kernel
theorem dX0_rotate_63 : decode cX0_rotate 63 = .ok (.iaload, 1) := by decide +kernel
theorem dX0_rotate_64 : decode cX0_rotate 64 = .ok (.istore 10, 2) := by decide +kernel
theorem dX0_rotate_66 : decode cX0_rotate 66 = .ok (.aload_n 0, 1) := by decide +kernel
theorem dX0_rotate_67 : decode cX0_rotate 67 = .ok (.getfield 15, 3) := by decide +kernel
theorem dX0_rotate_70 : decode cX0_rotate 70 = .ok (.iload 9, 2) := by decide +kernel
theorem dX0_rotate_72 : decode cX0_rotate 72 = .ok (.iaload, 1) := by decide +kernel
theorem dX0_rotate_73 : decode cX0_rotate 73 = .ok (.iload 4, 2) := by decide +kernel
theorem dX0_rotate_75 : decode cX0_rotate 75 = .ok (.iadd, 1) := by decide +kernel
theorem dX0_rotate_76 : decode cX0_rotate 76 = .ok (.iconst 5, 1) := by decide +kernel
theorem dX0_rotate_77 : decode cX0_rotate 77 = .ok (.irem, 1) := by decide +kernel
theorem dX0_rotate_78 : decode cX0_rotate 78 = .ok (.istore 11, 2) := by decide +kernel
theorem dX0_rotate_80 : decode cX0_rotate 80 = .ok (.iload 5, 2) := by decide +kernel
theorem dX0_rotate_82 : decode cX0_rotate 82 = .ok (.iconst (-1), 1) := by decide +kernel
theorem dX0_rotate_83 : decode cX0_rotate 83 = .ok (.if_icmp .ne 10, 3) := by decide +kernel
theorem dX0_rotate_86 : decode cX0_rotate 86 = .ok (.iload 9, 2) := by decide +kernel
theorem dX0_rotate_88 : decode cX0_rotate 88 = .ok (.istore 5, 2) := by decide +kernel
theorem dX0_rotate_90 : decode cX0_rotate 90 = .ok (.goto 21, 3) := by decide +kernel
theorem dX0_rotate_93 : decode cX0_rotate 93 = .ok (.aload_n 0, 1) := by decide +kernel
theorem dX0_rotate_94 : decode cX0_rotate 94 = .ok (.getfield 9, 3) := by decide +kernel
theorem dX0_rotate_97 : decode cX0_rotate 97 = .ok (.iload 9, 2) := by decide +kernel
theorem dX0_rotate_99 : decode cX0_rotate 99 = .ok (.iload 6, 2) := by decide +kernel
theorem dX0_rotate_101 : decode cX0_rotate 101 = .ok (.iastore, 1) := by decide +kernel
theorem dX0_rotate_102 : decode cX0_rotate 102 = .ok (.aload_n 0, 1) := by decide +kernel
theorem dX0_rotate_103 : decode cX0_rotate 103 = .ok (.getfield 15, 3) := by decide +kernel
theorem dX0_rotate_106 : decode cX0_rotate 106 = .ok (.iload 9, 2) := by decide +kernel
theorem dX0_rotate_108 : decode cX0_rotate 108 = .ok (.iload 7, 2) := by decide +kernel
theorem dX0_rotate_110 : decode cX0_rotate 110 = .ok (.iastore, 1) := by decide +kernel
theorem dX0_rotate_111 : decode cX0_rotate 111 = .ok (.iload 10, 2) := by decide +kernel
theorem dX0_rotate_113 : decode cX0_rotate 113 = .ok (.istore 6, 2) := by decide +kernel
theorem dX0_rotate_115 : decode cX0_rotate 115 = .ok (.iload 11, 2) := by decide +kernel
theorem dX0_rotate_117 : decode cX0_rotate 117 = .ok (.istore 7, 2) := by decide +kernel
theorem dX0_rotate_119 : decode cX0_rotate 119 = .ok (.iinc 8 1, 3) := by decide +kernel
theorem dX0_rotate_122 : decode cX0_rotate 122 = .ok (.goto (-97), 3) := by decide +kernel
theorem dX0_rotate_125 : decode cX0_rotate 125 = .ok (.iload 5, 2) := by decide +kernel
theorem dX0_rotate_127 : decode cX0_rotate 127 = .ok (.ifCond .lt 28, 3) := by decide +kernel
theorem dX0_rotate_130 : decode cX0_rotate 130 = .ok (.iload 5, 2) := by decide +kernel
theorem dX0_rotate_132 : decode cX0_rotate 132 = .ok (.bipush 6, 2) := by decide +kernel
theorem dX0_rotate_134 : decode cX0_rotate 134 = .ok (.if_icmp .ge 21, 3) := by decide +kernel
theorem dX0_rotate_137 : decode cX0_rotate 137 = .ok (.aload_n 0, 1) := by decide +kernel
theorem dX0_rotate_138 : decode cX0_rotate 138 = .ok (.getfield 9, 3) := by decide +kernel
theorem dX0_rotate_141 : decode cX0_rotate 141 = .ok (.iload 5, 2) := by decide +kernel
theorem dX0_rotate_143 : decode cX0_rotate 143 = .ok (.iload 6, 2) := by decide +kernel
theorem dX0_rotate_145 : decode cX0_rotate 145 = .ok (.iastore, 1) := by decide +kernel
theorem dX0_rotate_146 : decode cX0_rotate 146 = .ok (.aload_n 0, 1) := by decide +kernel
theorem dX0_rotate_147 : decode cX0_rotate 147 = .ok (.getfield 15, 3) := by decide +kernel
theorem dX0_rotate_150 : decode cX0_rotate 150 = .ok (.iload 5, 2) := by decide +kernel
theorem dX0_rotate_152 : decode cX0_rotate 152 = .ok (.iload 7, 2) := by decide +kernel
theorem dX0_rotate_154 : decode cX0_rotate 154 = .ok (.iastore, 1) := by decide +kernel
theorem dX0_rotate_155 : decode cX0_rotate 155 = .ok (.return_, 1) := by decide +kernel
theorem dX0_putAhead_0 : decode cX0_putAhead 0 = .ok (.iconst 0, 1) := by decide +kernel
theorem dX0_putAhead_1 : decode cX0_putAhead 1 = .ok (.istore_n 2, 1) := by decide +kernel
theorem dX0_putAhead_2 : decode cX0_putAhead 2 = .ok (.iload_n 2, 1) := by decide +kernel
theorem dX0_putAhead_3 : decode cX0_putAhead 3 = .ok (.bipush 6, 2) := by decide +kernel
theorem dX0_putAhead_5 : decode cX0_putAhead 5 = .ok (.if_icmp .ge 47, 3) := by decide +kernel
theorem dX0_putAhead_8 : decode cX0_putAhead 8 = .ok (.aload_n 0, 1) := by decide +kernel
theorem dX0_putAhead_9 : decode cX0_putAhead 9 = .ok (.getfield 9, 3) := by decide +kernel
theorem dX0_putAhead_12 : decode cX0_putAhead 12 = .ok (.iload_n 2, 1) := by decide +kernel
theorem dX0_putAhead_13 : decode cX0_putAhead 13 = .ok (.iaload, 1) := by decide +kernel
theorem dX0_putAhead_14 : decode cX0_putAhead 14 = .ok (.istore_n 3, 1) := by decide +kernel
theorem dX0_putAhead_15 : decode cX0_putAhead 15 = .ok (.aload_n 0, 1) := by decide +kernel
theorem dX0_putAhead_16 : decode cX0_putAhead 16 = .ok (.getfield 9, 3) := by decide +kernel
theorem dX0_putAhead_19 : decode cX0_putAhead 19 = .ok (.iload_n 2, 1) := by decide +kernel
theorem dX0_putAhead_20 : decode cX0_putAhead 20 = .ok (.aload_n 1, 1) := by decide +kernel
theorem dX0_putAhead_21 : decode cX0_putAhead 21 = .ok (.iload_n 3, 1) := by decide +kernel
theorem dX0_putAhead_22 : decode cX0_putAhead 22 = .ok (.invokevirtual 18, 3) := by decide +kernel
theorem dX0_putAhead_25 : decode cX0_putAhead 25 = .ok (.iastore, 1) := by decide +kernel
theorem dX0_putAhead_26 : decode cX0_putAhead 26 = .ok (.aload_n 0, 1) := by decide +kernel
theorem dX0_putAhead_27 : decode cX0_putAhead 27 = .ok (.getfield 15, 3) := by decide +kernel
theorem dX0_putAhead_30 : decode cX0_putAhead 30 = .ok (.iload_n 2, 1) := by decide +kernel
theorem dX0_putAhead_31 : decode cX0_putAhead 31 = .ok (.aload_n 0, 1) := by decide +kernel
theorem dX0_putAhead_32 : decode cX0_putAhead 32 = .ok (.getfield 15, 3) := by decide +kernel
theorem dX0_putAhead_35 : decode cX0_putAhead 35 = .ok (.iload_n 2, 1) := by decide +kernel
theorem dX0_putAhead_36 : decode cX0_putAhead 36 = .ok (.iaload, 1) := by decide +kernel
theorem dX0_putAhead_37 : decode cX0_putAhead 37 = .ok (.aload_n 1, 1) := by decide +kernel
theorem dX0_putAhead_38 : decode cX0_putAhead 38 = .ok (.iload_n 3, 1) := by decide +kernel
theorem dX0_putAhead_39 : decode cX0_putAhead 39 = .ok (.invokevirtual 22, 3) := by decide +kernel
theorem dX0_putAhead_42 : decode cX0_putAhead 42 = .ok (.iadd, 1) := by decide +kernel
theorem dX0_putAhead_43 : decode cX0_putAhead 43 = .ok (.iconst 5, 1) := by decide +kernel
theorem dX0_putAhead_44 : decode cX0_putAhead 44 = .ok (.irem, 1) := by decide +kernel
theorem dX0_putAhead_45 : decode cX0_putAhead 45 = .ok (.iastore, 1) := by decide +kernel
theorem dX0_putAhead_46 : decode cX0_putAhead 46 = .ok (.iinc 2 1, 3) := by decide +kernel
theorem dX0_putAhead_49 : decode cX0_putAhead 49 = .ok (.goto (-47), 3) := by decide +kernel
theorem dX0_putAhead_52 : decode cX0_putAhead 52 = .ok (.return_, 1) := by decide +kernel
theorem dX0_reach_0 : decode cX0_reach 0 = .ok (.iconst 0, 1) := by decide +kernel
theorem dX0_reach_1 : decode cX0_reach 1 = .ok (.istore_n 1, 1) := by decide +kernel
theorem dX0_reach_2 : decode cX0_reach 2 = .ok (.iconst 0, 1) := by decide +kernel
theorem dX0_reach_3 : decode cX0_reach 3 = .ok (.istore_n 2, 1) := by decide +kernel
theorem dX0_reach_4 : decode cX0_reach 4 = .ok (.iload_n 2, 1) := by decide +kernel
theorem dX0_reach_5 : decode cX0_reach 5 = .ok (.bipush 6, 2) := by decide +kernel
theorem dX0_reach_7 : decode cX0_reach 7 = .ok (.if_icmp .ge 34, 3) := by decide +kernel
theorem dX0_reach_10 : decode cX0_reach 10 = .ok (.aload_n 0, 1) := by decide +kernel
theorem dX0_reach_11 : decode cX0_reach 11 = .ok (.getfield 9, 3) := by decide +kernel
theorem dX0_reach_14 : decode cX0_reach 14 = .ok (.iload_n 2, 1) := by decide +kernel
theorem dX0_reach_15 : decode cX0_reach 15 = .ok (.iaload, 1) := by decide +kernel
theorem dX0_reach_16 : decode cX0_reach 16 = .ok (.iload_n 2, 1) := by decide +kernel
theorem dX0_reach_17 : decode cX0_reach 17 = .ok (.if_icmp .ne 12, 3) := by decide +kernel
theorem dX0_reach_20 : decode cX0_reach 20 = .ok (.aload_n 0, 1) := by decide +kernel
theorem dX0_reach_21 : decode cX0_reach 21 = .ok (.getfield 15, 3) := by decide +kernel
theorem dX0_reach_24 : decode cX0_reach 24 = .ok (.iload_n 2, 1) := by decide +kernel
theorem dX0_reach_25 : decode cX0_reach 25 = .ok (.iaload, 1) := by decide +kernel
theorem dX0_reach_26 : decode cX0_reach 26 = .ok (.ifCond .eq 9, 3) := by decide +kernel
theorem dX0_reach_29 : decode cX0_reach 29 = .ok (.iload_n 1, 1) := by decide +kernel
theorem dX0_reach_30 : decode cX0_reach 30 = .ok (.iconst 1, 1) := by decide +kernel
theorem dX0_reach_31 : decode cX0_reach 31 = .ok (.iload_n 2, 1) := by decide +kernel
theorem dX0_reach_32 : decode cX0_reach 32 = .ok (.ishl, 1) := by decide +kernel
theorem dX0_reach_33 : decode cX0_reach 33 = .ok (.ior, 1) := by decide +kernel
theorem dX0_reach_34 : decode cX0_reach 34 = .ok (.istore_n 1, 1) := by decide +kernel
theorem dX0_reach_35 : decode cX0_reach 35 = .ok (.iinc 2 1, 3) := by decide +kernel
theorem dX0_reach_38 : decode cX0_reach 38 = .ok (.goto (-34), 3) := by decide +kernel
theorem dX0_reach_41 : decode cX0_reach 41 = .ok (.iload_n 1, 1) := by decide +kernel
theorem dX0_reach_42 : decode cX0_reach 42 = .ok (.ireturn, 1) := by decide +kernel
theorem dX0_notchSum_0 : decode cX0_notchSum 0 = .ok (.iconst 0, 1) := by decide +kernel
theorem dX0_notchSum_1 : decode cX0_notchSum 1 = .ok (.istore_n 1, 1) := by decide +kernel
theorem dX0_notchSum_2 : decode cX0_notchSum 2 = .ok (.iconst 0, 1) := by decide +kernel
theorem dX0_notchSum_3 : decode cX0_notchSum 3 = .ok (.istore_n 2, 1) := by decide +kernel
theorem dX0_notchSum_4 : decode cX0_notchSum 4 = .ok (.iload_n 2, 1) := by decide +kernel
theorem dX0_notchSum_5 : decode cX0_notchSum 5 = .ok (.bipush 6, 2) := by decide +kernel
theorem dX0_notchSum_7 : decode cX0_notchSum 7 = .ok (.if_icmp .ge 18, 3) := by decide +kernel
theorem dX0_notchSum_10 : decode cX0_notchSum 10 = .ok (.iload_n 1, 1) := by decide +kernel
theorem dX0_notchSum_11 : decode cX0_notchSum 11 = .ok (.aload_n 0, 1) := by decide +kernel
theorem dX0_notchSum_12 : decode cX0_notchSum 12 = .ok (.getfield 15, 3) := by decide +kernel
theorem dX0_notchSum_15 : decode cX0_notchSum 15 = .ok (.iload_n 2, 1) := by decide +kernel
theorem dX0_notchSum_16 : decode cX0_notchSum 16 = .ok (.iaload, 1) := by decide +kernel
theorem dX0_notchSum_17 : decode cX0_notchSum 17 = .ok (.iadd, 1) := by decide +kernel
theorem dX0_notchSum_18 : decode cX0_notchSum 18 = .ok (.istore_n 1, 1) := by decide +kernel
theorem dX0_notchSum_19 : decode cX0_notchSum 19 = .ok (.iinc 2 1, 3) := by decide +kernel
theorem dX0_notchSum_22 : decode cX0_notchSum 22 = .ok (.goto (-18), 3) := by decide +kernel
theorem dX0_notchSum_25 : decode cX0_notchSum 25 = .ok (.iload_n 1, 1) := by decide +kernel
theorem dX0_notchSum_26 : decode cX0_notchSum 26 = .ok (.ireturn, 1) := by decide +kernel
theorem dX0_agreeing_0 : decode cX0_agreeing 0 = .ok (.iconst 0, 1) := by decide +kernel
theorem dX0_agreeing_1 : decode cX0_agreeing 1 = .ok (.istore_n 2, 1) := by decide +kernel
theorem dX0_agreeing_2 : decode cX0_agreeing 2 = .ok (.iconst 0, 1) := by decide +kernel
theorem dX0_agreeing_3 : decode cX0_agreeing 3 = .ok (.istore_n 3, 1) := by decide +kernel
theorem dX0_agreeing_4 : decode cX0_agreeing 4 = .ok (.iload_n 3, 1) := by decide +kernel
theorem dX0_agreeing_5 : decode cX0_agreeing 5 = .ok (.bipush 6, 2) := by decide +kernel
theorem dX0_agreeing_7 : decode cX0_agreeing 7 = .ok (.if_icmp .ge 42, 3) := by decide +kernel
theorem dX0_agreeing_10 : decode cX0_agreeing 10 = .ok (.aload_n 0, 1) := by decide +kernel
theorem dX0_agreeing_11 : decode cX0_agreeing 11 = .ok (.getfield 9, 3) := by decide +kernel
theorem dX0_agreeing_14 : decode cX0_agreeing 14 = .ok (.iload_n 3, 1) := by decide +kernel
theorem dX0_agreeing_15 : decode cX0_agreeing 15 = .ok (.iaload, 1) := by decide +kernel
theorem dX0_agreeing_16 : decode cX0_agreeing 16 = .ok (.aload_n 1, 1) := by decide +kernel
theorem dX0_agreeing_17 : decode cX0_agreeing 17 = .ok (.getfield 9, 3) := by decide +kernel
theorem dX0_agreeing_20 : decode cX0_agreeing 20 = .ok (.iload_n 3, 1) := by decide +kernel
theorem dX0_agreeing_21 : decode cX0_agreeing 21 = .ok (.iaload, 1) := by decide +kernel
theorem dX0_agreeing_22 : decode cX0_agreeing 22 = .ok (.if_icmp .ne 21, 3) := by decide +kernel
theorem dX0_agreeing_25 : decode cX0_agreeing 25 = .ok (.aload_n 0, 1) := by decide +kernel
theorem dX0_agreeing_26 : decode cX0_agreeing 26 = .ok (.getfield 15, 3) := by decide +kernel
theorem dX0_agreeing_29 : decode cX0_agreeing 29 = .ok (.iload_n 3, 1) := by decide +kernel
theorem dX0_agreeing_30 : decode cX0_agreeing 30 = .ok (.iaload, 1) := by decide +kernel
theorem dX0_agreeing_31 : decode cX0_agreeing 31 = .ok (.aload_n 1, 1) := by decide +kernel
theorem dX0_agreeing_32 : decode cX0_agreeing 32 = .ok (.getfield 15, 3) := by decide +kernel
theorem dX0_agreeing_35 : decode cX0_agreeing 35 = .ok (.iload_n 3, 1) := by decide +kernel
theorem dX0_agreeing_36 : decode cX0_agreeing 36 = .ok (.iaload, 1) := by decide +kernel
theorem dX0_agreeing_37 : decode cX0_agreeing 37 = .ok (.if_icmp .ne 6, 3) := by decide +kernel
theorem dX0_agreeing_40 : decode cX0_agreeing 40 = .ok (.iinc 2 1, 3) := by decide +kernel
theorem dX0_agreeing_43 : decode cX0_agreeing 43 = .ok (.iinc 3 1, 3) := by decide +kernel
theorem dX0_agreeing_46 : decode cX0_agreeing 46 = .ok (.goto (-42), 3) := by decide +kernel
theorem dX0_agreeing_49 : decode cX0_agreeing 49 = .ok (.iload_n 2, 1) := by decide +kernel
theorem dX0_agreeing_50 : decode cX0_agreeing 50 = .ok (.ireturn, 1) := by decide +kernel
theorem dX0_fingerprint_0 : decode cX0_fingerprint 0 = .ok (.iconst 0, 1) := by decide +kernel
theorem dX0_fingerprint_1 : decode cX0_fingerprint 1 = .ok (.istore_n 1, 1) := by decide +kernel
theorem dX0_fingerprint_2 : decode cX0_fingerprint 2 = .ok (.iconst 0, 1) := by decide +kernel
theorem dX0_fingerprint_3 : decode cX0_fingerprint 3 = .ok (.istore_n 2, 1) := by decide +kernel
theorem dX0_fingerprint_4 : decode cX0_fingerprint 4 = .ok (.iload_n 2, 1) := by decide +kernel
theorem dX0_fingerprint_5 : decode cX0_fingerprint 5 = .ok (.bipush 6, 2) := by decide +kernel
theorem dX0_fingerprint_7 : decode cX0_fingerprint 7 = .ok (.if_icmp .ge 30, 3) := by decide +kernel
theorem dX0_fingerprint_10 : decode cX0_fingerprint 10 = .ok (.iload_n 1, 1) := by decide +kernel
theorem dX0_fingerprint_11 : decode cX0_fingerprint 11 = .ok (.bipush 30, 2) := by decide +kernel
theorem dX0_fingerprint_13 : decode cX0_fingerprint 13 = .ok (.imul, 1) := by decide +kernel
theorem dX0_fingerprint_14 : decode cX0_fingerprint 14 = .ok (.aload_n 0, 1) := by decide +kernel
theorem dX0_fingerprint_15 : decode cX0_fingerprint 15 = .ok (.getfield 9, 3) := by decide +kernel
theorem dX0_fingerprint_18 : decode cX0_fingerprint 18 = .ok (.iload_n 2, 1) := by decide +kernel
theorem dX0_fingerprint_19 : decode cX0_fingerprint 19 = .ok (.iaload, 1) := by decide +kernel
theorem dX0_fingerprint_20 : decode cX0_fingerprint 20 = .ok (.iconst 5, 1) := by decide +kernel
theorem dX0_fingerprint_21 : decode cX0_fingerprint 21 = .ok (.imul, 1) := by decide +kernel
theorem dX0_fingerprint_22 : decode cX0_fingerprint 22 = .ok (.iadd, 1) := by decide +kernel
theorem dX0_fingerprint_23 : decode cX0_fingerprint 23 = .ok (.aload_n 0, 1) := by decide +kernel
theorem dX0_fingerprint_24 : decode cX0_fingerprint 24 = .ok (.getfield 15, 3) := by decide +kernel
theorem dX0_fingerprint_27 : decode cX0_fingerprint 27 = .ok (.iload_n 2, 1) := by decide +kernel
theorem dX0_fingerprint_28 : decode cX0_fingerprint 28 = .ok (.iaload, 1) := by decide +kernel
theorem dX0_fingerprint_29 : decode cX0_fingerprint 29 = .ok (.iadd, 1) := by decide +kernel
theorem dX0_fingerprint_30 : decode cX0_fingerprint 30 = .ok (.istore_n 1, 1) := by decide +kernel
theorem dX0_fingerprint_31 : decode cX0_fingerprint 31 = .ok (.iinc 2 1, 3) := by decide +kernel
theorem dX0_fingerprint_34 : decode cX0_fingerprint 34 = .ok (.goto (-30), 3) := by decide +kernel
theorem dX0_fingerprint_37 : decode cX0_fingerprint 37 = .ok (.iload_n 1, 1) := by decide +kernel
theorem dX0_fingerprint_38 : decode cX0_fingerprint 38 = .ok (.ireturn, 1) := by decide +kernel
theorem dX0_periodByRounds_0 : decode cX0_periodByRounds 0 = .ok (.iconst 1, 1) := by decide +kernel
theorem dX0_periodByRounds_1 : decode cX0_periodByRounds 1 = .ok (.istore_n 1, 1) := by decide +kernel
theorem dX0_periodByRounds_2 : decode cX0_periodByRounds 2 = .ok (.iconst 0, 1) := by decide +kernel
theorem dX0_periodByRounds_3 : decode cX0_periodByRounds 3 = .ok (.istore_n 2, 1) := by decide +kernel
theorem dX0_periodByRounds_4 : decode cX0_periodByRounds 4 = .ok (.iconst 0, 1) := by decide +kernel
theorem dX0_periodByRounds_5 : decode cX0_periodByRounds 5 = .ok (.istore_n 3, 1) := by decide +kernel
theorem dX0_periodByRounds_6 : decode cX0_periodByRounds 6 = .ok (.iload_n 3, 1) := by decide +kernel
theorem dX0_periodByRounds_7 : decode cX0_periodByRounds 7 = .ok (.bipush 6, 2) := by decide +kernel
theorem dX0_periodByRounds_9 : decode cX0_periodByRounds 9 = .ok (.if_icmp .ge 92, 3) := by decide +kernel
theorem dX0_periodByRounds_12 : decode cX0_periodByRounds 12 = .ok (.iconst 0, 1) := by decide +kernel
theorem dX0_periodByRounds_13 : decode cX0_periodByRounds 13 = .ok (.istore 4, 2) := by decide +kernel
theorem dX0_periodByRounds_15 : decode cX0_periodByRounds 15 = .ok (.iconst 0, 1) := by decide +kernel
theorem dX0_periodByRounds_16 : decode cX0_periodByRounds 16 = .ok (.istore 5, 2) := by decide +kernel
theorem dX0_periodByRounds_18 : decode cX0_periodByRounds 18 = .ok (.iload_n 3, 1) := by decide +kernel
theorem dX0_periodByRounds_19 : decode cX0_periodByRounds 19 = .ok (.istore 6, 2) := by decide +kernel
theorem dX0_periodByRounds_21 : decode cX0_periodByRounds 21 = .ok (.iload 4, 2) := by decide +kernel
theorem dX0_periodByRounds_23 : decode cX0_periodByRounds 23 = .ok (.bipush 6, 2) := by decide +kernel
theorem dX0_periodByRounds_25 : decode cX0_periodByRounds 25 = .ok (.if_icmp .ge 44, 3) := by decide +kernel
theorem dX0_periodByRounds_28 : decode cX0_periodByRounds 28 = .ok (.iload_n 2, 1) := by decide +kernel
theorem dX0_periodByRounds_29 : decode cX0_periodByRounds 29 = .ok (.iload 6, 2) := by decide +kernel
theorem dX0_periodByRounds_31 : decode cX0_periodByRounds 31 = .ok (.ishr, 1) := by decide +kernel
theorem dX0_periodByRounds_32 : decode cX0_periodByRounds 32 = .ok (.iconst 1, 1) := by decide +kernel
theorem dX0_periodByRounds_33 : decode cX0_periodByRounds 33 = .ok (.iand, 1) := by decide +kernel
theorem dX0_periodByRounds_34 : decode cX0_periodByRounds 34 = .ok (.ifCond .ne 35, 3) := by decide +kernel
theorem dX0_periodByRounds_37 : decode cX0_periodByRounds 37 = .ok (.iload_n 2, 1) := by decide +kernel
theorem dX0_periodByRounds_38 : decode cX0_periodByRounds 38 = .ok (.iconst 1, 1) := by decide +kernel
theorem dX0_periodByRounds_39 : decode cX0_periodByRounds 39 = .ok (.iload 6, 2) := by decide +kernel
theorem dX0_periodByRounds_41 : decode cX0_periodByRounds 41 = .ok (.ishl, 1) := by decide +kernel
theorem dX0_periodByRounds_42 : decode cX0_periodByRounds 42 = .ok (.ior, 1) := by decide +kernel
theorem dX0_periodByRounds_43 : decode cX0_periodByRounds 43 = .ok (.istore_n 2, 1) := by decide +kernel
theorem dX0_periodByRounds_44 : decode cX0_periodByRounds 44 = .ok (.aload_n 0, 1) := by decide +kernel
theorem dX0_periodByRounds_45 : decode cX0_periodByRounds 45 = .ok (.iload 6, 2) := by decide +kernel
theorem dX0_periodByRounds_47 : decode cX0_periodByRounds 47 = .ok (.invokevirtual 25, 3) := by decide +kernel
theorem dX0_periodByRounds_50 : decode cX0_periodByRounds 50 = .ok (.istore 6, 2) := by decide +kernel
theorem dX0_periodByRounds_52 : decode cX0_periodByRounds 52 = .ok (.iload 5, 2) := by decide +kernel
theorem dX0_periodByRounds_54 : decode cX0_periodByRounds 54 = .ok (.aload_n 0, 1) := by decide +kernel
theorem dX0_periodByRounds_55 : decode cX0_periodByRounds 55 = .ok (.iload 6, 2) := by decide +kernel
theorem dX0_periodByRounds_57 : decode cX0_periodByRounds 57 = .ok (.invokevirtual 22, 3) := by decide +kernel
theorem dX0_periodByRounds_60 : decode cX0_periodByRounds 60 = .ok (.iadd, 1) := by decide +kernel
theorem dX0_periodByRounds_61 : decode cX0_periodByRounds 61 = .ok (.istore 5, 2) := by decide +kernel
theorem dX0_periodByRounds_63 : decode cX0_periodByRounds 63 = .ok (.iinc 4 1, 3) := by decide +kernel
theorem dX0_periodByRounds_66 : decode cX0_periodByRounds 66 = .ok (.goto (-45), 3) := by decide +kernel
theorem dX0_periodByRounds_69 : decode cX0_periodByRounds 69 = .ok (.iload 4, 2) := by decide +kernel
theorem dX0_periodByRounds_71 : decode cX0_periodByRounds 71 = .ok (.ifCond .le 24, 3) := by decide +kernel
theorem dX0_periodByRounds_74 : decode cX0_periodByRounds 74 = .ok (.iload_n 1, 1) := by decide +kernel
theorem dX0_periodByRounds_75 : decode cX0_periodByRounds 75 = .ok (.iload 5, 2) := by decide +kernel
theorem dX0_periodByRounds_77 : decode cX0_periodByRounds 77 = .ok (.iconst 5, 1) := by decide +kernel
theorem dX0_periodByRounds_78 : decode cX0_periodByRounds 78 = .ok (.irem, 1) := by decide +kernel
theorem dX0_periodByRounds_79 : decode cX0_periodByRounds 79 = .ok (.ifCond .ne 8, 3) := by decide +kernel
theorem dX0_periodByRounds_82 : decode cX0_periodByRounds 82 = .ok (.iload 4, 2) := by decide +kernel
theorem dX0_periodByRounds_84 : decode cX0_periodByRounds 84 = .ok (.goto 7, 3) := by decide +kernel
theorem dX0_periodByRounds_87 : decode cX0_periodByRounds 87 = .ok (.iconst 5, 1) := by decide +kernel
theorem dX0_periodByRounds_88 : decode cX0_periodByRounds 88 = .ok (.iload 4, 2) := by decide +kernel
theorem dX0_periodByRounds_90 : decode cX0_periodByRounds 90 = .ok (.imul, 1) := by decide +kernel
theorem dX0_periodByRounds_91 : decode cX0_periodByRounds 91 = .ok (.invokestatic 28, 3) := by decide +kernel
theorem dX0_periodByRounds_94 : decode cX0_periodByRounds 94 = .ok (.istore_n 1, 1) := by decide +kernel
theorem dX0_periodByRounds_95 : decode cX0_periodByRounds 95 = .ok (.iinc 3 1, 3) := by decide +kernel
theorem dX0_periodByRounds_98 : decode cX0_periodByRounds 98 = .ok (.goto (-92), 3) := by decide +kernel
theorem dX0_periodByRounds_101 : decode cX0_periodByRounds 101 = .ok (.iload_n 1, 1) := by decide +kernel
theorem dX0_periodByRounds_102 : decode cX0_periodByRounds 102 = .ok (.ireturn, 1) := by decide +kernel
theorem dX0_placeOf_0 : decode cX0_placeOf 0 = .ok (.iload_n 1, 1) := by decide +kernel
theorem dX0_placeOf_1 : decode cX0_placeOf 1 = .ok (.istore_n 2, 1) := by decide +kernel
theorem dX0_placeOf_2 : decode cX0_placeOf 2 = .ok (.iconst 0, 1) := by decide +kernel
theorem dX0_placeOf_3 : decode cX0_placeOf 3 = .ok (.istore_n 3, 1) := by decide +kernel
theorem dX0_placeOf_4 : decode cX0_placeOf 4 = .ok (.iload_n 3, 1) := by decide +kernel
theorem dX0_placeOf_5 : decode cX0_placeOf 5 = .ok (.bipush 6, 2) := by decide +kernel
theorem dX0_placeOf_7 : decode cX0_placeOf 7 = .ok (.if_icmp .ge 21, 3) := by decide +kernel
theorem dX0_placeOf_10 : decode cX0_placeOf 10 = .ok (.aload_n 0, 1) := by decide +kernel
theorem dX0_placeOf_11 : decode cX0_placeOf 11 = .ok (.getfield 9, 3) := by decide +kernel
theorem dX0_placeOf_14 : decode cX0_placeOf 14 = .ok (.iload_n 3, 1) := by decide +kernel
theorem dX0_placeOf_15 : decode cX0_placeOf 15 = .ok (.iaload, 1) := by decide +kernel
theorem dX0_placeOf_16 : decode cX0_placeOf 16 = .ok (.iload_n 1, 1) := by decide +kernel
theorem dX0_placeOf_17 : decode cX0_placeOf 17 = .ok (.if_icmp .ne 5, 3) := by decide +kernel
theorem dX0_placeOf_20 : decode cX0_placeOf 20 = .ok (.iload_n 3, 1) := by decide +kernel
theorem dX0_placeOf_21 : decode cX0_placeOf 21 = .ok (.istore_n 2, 1) := by decide +kernel
theorem dX0_placeOf_22 : decode cX0_placeOf 22 = .ok (.iinc 3 1, 3) := by decide +kernel
theorem dX0_placeOf_25 : decode cX0_placeOf 25 = .ok (.goto (-21), 3) := by decide +kernel
theorem dX0_placeOf_28 : decode cX0_placeOf 28 = .ok (.iload_n 2, 1) := by decide +kernel
theorem dX0_placeOf_29 : decode cX0_placeOf 29 = .ok (.ireturn, 1) := by decide +kernel
theorem dX0_leastMultiple_0 : decode cX0_leastMultiple 0 = .ok (.iload_n 0, 1) := by decide +kernel
theorem dX0_leastMultiple_1 : decode cX0_leastMultiple 1 = .ok (.istore_n 2, 1) := by decide +kernel
theorem dX0_leastMultiple_2 : decode cX0_leastMultiple 2 = .ok (.iconst 1, 1) := by decide +kernel
theorem dX0_leastMultiple_3 : decode cX0_leastMultiple 3 = .ok (.istore_n 3, 1) := by decide +kernel
theorem dX0_leastMultiple_4 : decode cX0_leastMultiple 4 = .ok (.iload_n 3, 1) := by decide +kernel
theorem dX0_leastMultiple_5 : decode cX0_leastMultiple 5 = .ok (.iload_n 1, 1) := by decide +kernel
theorem dX0_leastMultiple_6 : decode cX0_leastMultiple 6 = .ok (.if_icmp .ge 19, 3) := by decide +kernel
theorem dX0_leastMultiple_9 : decode cX0_leastMultiple 9 = .ok (.iload_n 2, 1) := by decide +kernel
theorem dX0_leastMultiple_10 : decode cX0_leastMultiple 10 = .ok (.iload_n 1, 1) := by decide +kernel
theorem dX0_leastMultiple_11 : decode cX0_leastMultiple 11 = .ok (.irem, 1) := by decide +kernel
theorem dX0_leastMultiple_12 : decode cX0_leastMultiple 12 = .ok (.ifCond .eq 13, 3) := by decide +kernel
theorem dX0_leastMultiple_15 : decode cX0_leastMultiple 15 = .ok (.iload_n 2, 1) := by decide +kernel
theorem dX0_leastMultiple_16 : decode cX0_leastMultiple 16 = .ok (.iload_n 0, 1) := by decide +kernel
theorem dX0_leastMultiple_17 : decode cX0_leastMultiple 17 = .ok (.iadd, 1) := by decide +kernel
theorem dX0_leastMultiple_18 : decode cX0_leastMultiple 18 = .ok (.istore_n 2, 1) := by decide +kernel
theorem dX0_leastMultiple_19 : decode cX0_leastMultiple 19 = .ok (.iinc 3 1, 3) := by decide +kernel
theorem dX0_leastMultiple_22 : decode cX0_leastMultiple 22 = .ok (.goto (-18), 3) := by decide +kernel
theorem dX0_leastMultiple_25 : decode cX0_leastMultiple 25 = .ok (.iload_n 2, 1) := by decide +kernel
theorem dX0_leastMultiple_26 : decode cX0_leastMultiple 26 = .ok (.ireturn, 1) := by decide +kernel
theorem dX1_init_0 : decode cX1_init 0 = .ok (.aload_n 0, 1) := by decide +kernel
theorem dX1_init_1 : decode cX1_init 1 = .ok (.invokespecial 3, 3) := by decide +kernel
theorem dX1_init_4 : decode cX1_init 4 = .ok (.aload_n 0, 1) := by decide +kernel
theorem dX1_init_5 : decode cX1_init 5 = .ok (.iconst 5, 1) := by decide +kernel
theorem dX1_init_6 : decode cX1_init 6 = .ok (.newarray .int, 2) := by decide +kernel
theorem dX1_init_8 : decode cX1_init 8 = .ok (.putfield 9, 3) := by decide +kernel
theorem dX1_init_11 : decode cX1_init 11 = .ok (.aload_n 0, 1) := by decide +kernel
theorem dX1_init_12 : decode cX1_init 12 = .ok (.iconst 5, 1) := by decide +kernel
theorem dX1_init_13 : decode cX1_init 13 = .ok (.newarray .int, 2) := by decide +kernel
theorem dX1_init_15 : decode cX1_init 15 = .ok (.putfield 15, 3) := by decide +kernel
theorem dX1_init_18 : decode cX1_init 18 = .ok (.iconst 0, 1) := by decide +kernel
theorem dX1_init_19 : decode cX1_init 19 = .ok (.istore_n 1, 1) := by decide +kernel
theorem dX1_init_20 : decode cX1_init 20 = .ok (.iload_n 1, 1) := by decide +kernel
theorem dX1_init_21 : decode cX1_init 21 = .ok (.iconst 5, 1) := by decide +kernel
theorem dX1_init_22 : decode cX1_init 22 = .ok (.if_icmp .ge 47, 3) := by decide +kernel
theorem dX1_init_25 : decode cX1_init 25 = .ok (.aload_n 0, 1) := by decide +kernel
theorem dX1_init_26 : decode cX1_init 26 = .ok (.getfield 9, 3) := by decide +kernel
theorem dX1_init_29 : decode cX1_init 29 = .ok (.iload_n 1, 1) := by decide +kernel
theorem dX1_init_30 : decode cX1_init 30 = .ok (.iconst 1, 1) := by decide +kernel
theorem dX1_init_31 : decode cX1_init 31 = .ok (.iload_n 1, 1) := by decide +kernel
theorem dX1_init_32 : decode cX1_init 32 = .ok (.ishl, 1) := by decide +kernel
theorem dX1_init_33 : decode cX1_init 33 = .ok (.iconst 1, 1) := by decide +kernel
theorem dX1_init_34 : decode cX1_init 34 = .ok (.iload_n 1, 1) := by decide +kernel
theorem dX1_init_35 : decode cX1_init 35 = .ok (.iconst 1, 1) := by decide +kernel
theorem dX1_init_36 : decode cX1_init 36 = .ok (.iadd, 1) := by decide +kernel
theorem dX1_init_37 : decode cX1_init 37 = .ok (.bipush 6, 2) := by decide +kernel
theorem dX1_init_39 : decode cX1_init 39 = .ok (.irem, 1) := by decide +kernel
theorem dX1_init_40 : decode cX1_init 40 = .ok (.ishl, 1) := by decide +kernel
theorem dX1_init_41 : decode cX1_init 41 = .ok (.ior, 1) := by decide +kernel
theorem dX1_init_42 : decode cX1_init 42 = .ok (.iconst 1, 1) := by decide +kernel
theorem dX1_init_43 : decode cX1_init 43 = .ok (.iload_n 1, 1) := by decide +kernel
theorem dX1_init_44 : decode cX1_init 44 = .ok (.iconst 3, 1) := by decide +kernel
theorem dX1_init_45 : decode cX1_init 45 = .ok (.iadd, 1) := by decide +kernel
theorem dX1_init_46 : decode cX1_init 46 = .ok (.bipush 6, 2) := by decide +kernel
theorem dX1_init_48 : decode cX1_init 48 = .ok (.irem, 1) := by decide +kernel
theorem dX1_init_49 : decode cX1_init 49 = .ok (.ishl, 1) := by decide +kernel
theorem dX1_init_50 : decode cX1_init 50 = .ok (.ior, 1) := by decide +kernel
theorem dX1_init_51 : decode cX1_init 51 = .ok (.iastore, 1) := by decide +kernel
theorem dX1_init_52 : decode cX1_init 52 = .ok (.aload_n 0, 1) := by decide +kernel
theorem dX1_init_53 : decode cX1_init 53 = .ok (.getfield 15, 3) := by decide +kernel
theorem dX1_init_56 : decode cX1_init 56 = .ok (.iload_n 1, 1) := by decide +kernel
theorem dX1_init_57 : decode cX1_init 57 = .ok (.iconst 1, 1) := by decide +kernel
theorem dX1_init_58 : decode cX1_init 58 = .ok (.iload_n 1, 1) := by decide +kernel
theorem dX1_init_59 : decode cX1_init 59 = .ok (.iconst 4, 1) := by decide +kernel
theorem dX1_init_60 : decode cX1_init 60 = .ok (.irem, 1) := by decide +kernel
theorem dX1_init_61 : decode cX1_init 61 = .ok (.iadd, 1) := by decide +kernel
theorem dX1_init_62 : decode cX1_init 62 = .ok (.iastore, 1) := by decide +kernel
theorem dX1_init_63 : decode cX1_init 63 = .ok (.iinc 1 1, 3) := by decide +kernel
theorem dX1_init_66 : decode cX1_init 66 = .ok (.goto (-46), 3) := by decide +kernel
theorem dX1_init_69 : decode cX1_init 69 = .ok (.return_, 1) := by decide +kernel
theorem dX1_maskOf_0 : decode cX1_maskOf 0 = .ok (.iload_n 1, 1) := by decide +kernel
theorem dX1_maskOf_1 : decode cX1_maskOf 1 = .ok (.ifCond .lt 17, 3) := by decide +kernel
theorem dX1_maskOf_4 : decode cX1_maskOf 4 = .ok (.iload_n 1, 1) := by decide +kernel
theorem dX1_maskOf_5 : decode cX1_maskOf 5 = .ok (.iconst 5, 1) := by decide +kernel
theorem dX1_maskOf_6 : decode cX1_maskOf 6 = .ok (.if_icmp .ge 12, 3) := by decide +kernel
theorem dX1_maskOf_9 : decode cX1_maskOf 9 = .ok (.aload_n 0, 1) := by decide +kernel
theorem dX1_maskOf_10 : decode cX1_maskOf 10 = .ok (.getfield 9, 3) := by decide +kernel
theorem dX1_maskOf_13 : decode cX1_maskOf 13 = .ok (.iload_n 1, 1) := by decide +kernel
theorem dX1_maskOf_14 : decode cX1_maskOf 14 = .ok (.iaload, 1) := by decide +kernel
theorem dX1_maskOf_15 : decode cX1_maskOf 15 = .ok (.goto 4, 3) := by decide +kernel
theorem dX1_maskOf_18 : decode cX1_maskOf 18 = .ok (.iconst 0, 1) := by decide +kernel
theorem dX1_maskOf_19 : decode cX1_maskOf 19 = .ok (.ireturn, 1) := by decide +kernel
theorem dX1_strengthOf_0 : decode cX1_strengthOf 0 = .ok (.iload_n 1, 1) := by decide +kernel
theorem dX1_strengthOf_1 : decode cX1_strengthOf 1 = .ok (.ifCond .lt 17, 3) := by decide +kernel
theorem dX1_strengthOf_4 : decode cX1_strengthOf 4 = .ok (.iload_n 1, 1) := by decide +kernel
theorem dX1_strengthOf_5 : decode cX1_strengthOf 5 = .ok (.iconst 5, 1) := by decide +kernel
theorem dX1_strengthOf_6 : decode cX1_strengthOf 6 = .ok (.if_icmp .ge 12, 3) := by decide +kernel
theorem dX1_strengthOf_9 : decode cX1_strengthOf 9 = .ok (.aload_n 0, 1) := by decide +kernel
theorem dX1_strengthOf_10 : decode cX1_strengthOf 10 = .ok (.getfield 15, 3) := by decide +kernel
theorem dX1_strengthOf_13 : decode cX1_strengthOf 13 = .ok (.iload_n 1, 1) := by decide +kernel
theorem dX1_strengthOf_14 : decode cX1_strengthOf 14 = .ok (.iaload, 1) := by decide +kernel
theorem dX1_strengthOf_15 : decode cX1_strengthOf 15 = .ok (.goto 4, 3) := by decide +kernel
theorem dX1_strengthOf_18 : decode cX1_strengthOf 18 = .ok (.iconst 0, 1) := by decide +kernel
theorem dX1_strengthOf_19 : decode cX1_strengthOf 19 = .ok (.ireturn, 1) := by decide +kernel
theorem dX1_shape_0 : decode cX1_shape 0 = .ok (.iload_n 1, 1) := by decide +kernel
theorem dX1_shape_1 : decode cX1_shape 1 = .ok (.ifCond .lt 22, 3) := by decide +kernel
theorem dX1_shape_4 : decode cX1_shape 4 = .ok (.iload_n 1, 1) := by decide +kernel
theorem dX1_shape_5 : decode cX1_shape 5 = .ok (.iconst 5, 1) := by decide +kernel
theorem dX1_shape_6 : decode cX1_shape 6 = .ok (.if_icmp .ge 17, 3) := by decide +kernel
theorem dX1_shape_9 : decode cX1_shape 9 = .ok (.aload_n 0, 1) := by decide +kernel
theorem dX1_shape_10 : decode cX1_shape 10 = .ok (.getfield 9, 3) := by decide +kernel
theorem dX1_shape_13 : decode cX1_shape 13 = .ok (.iload_n 1, 1) := by decide +kernel
theorem dX1_shape_14 : decode cX1_shape 14 = .ok (.iload_n 2, 1) := by decide +kernel
theorem dX1_shape_15 : decode cX1_shape 15 = .ok (.iastore, 1) := by decide +kernel
theorem dX1_shape_16 : decode cX1_shape 16 = .ok (.aload_n 0, 1) := by decide +kernel
theorem dX1_shape_17 : decode cX1_shape 17 = .ok (.getfield 15, 3) := by decide +kernel
theorem dX1_shape_20 : decode cX1_shape 20 = .ok (.iload_n 1, 1) := by decide +kernel
theorem dX1_shape_21 : decode cX1_shape 21 = .ok (.iload_n 3, 1) := by decide +kernel
theorem dX1_shape_22 : decode cX1_shape 22 = .ok (.iastore, 1) := by decide +kernel
theorem dX1_shape_23 : decode cX1_shape 23 = .ok (.return_, 1) := by decide +kernel
theorem dX1_keysAt_0 : decode cX1_keysAt 0 = .ok (.iconst 0, 1) := by decide +kernel
theorem dX1_keysAt_1 : decode cX1_keysAt 1 = .ok (.istore_n 2, 1) := by decide +kernel
theorem dX1_keysAt_2 : decode cX1_keysAt 2 = .ok (.iconst 0, 1) := by decide +kernel
theorem dX1_keysAt_3 : decode cX1_keysAt 3 = .ok (.istore_n 3, 1) := by decide +kernel
theorem dX1_keysAt_4 : decode cX1_keysAt 4 = .ok (.iload_n 3, 1) := by decide +kernel
theorem dX1_keysAt_5 : decode cX1_keysAt 5 = .ok (.iconst 5, 1) := by decide +kernel
theorem dX1_keysAt_6 : decode cX1_keysAt 6 = .ok (.if_icmp .ge 29, 3) := by decide +kernel
theorem dX1_keysAt_9 : decode cX1_keysAt 9 = .ok (.aload_n 0, 1) := by decide +kernel
theorem dX1_keysAt_10 : decode cX1_keysAt 10 = .ok (.getfield 9, 3) := by decide +kernel
theorem dX1_keysAt_13 : decode cX1_keysAt 13 = .ok (.iload_n 3, 1) := by decide +kernel
theorem dX1_keysAt_14 : decode cX1_keysAt 14 = .ok (.iaload, 1) := by decide +kernel
theorem dX1_keysAt_15 : decode cX1_keysAt 15 = .ok (.iload_n 1, 1) := by decide +kernel
theorem dX1_keysAt_16 : decode cX1_keysAt 16 = .ok (.ishr, 1) := by decide +kernel
theorem dX1_keysAt_17 : decode cX1_keysAt 17 = .ok (.iconst 1, 1) := by decide +kernel
theorem dX1_keysAt_18 : decode cX1_keysAt 18 = .ok (.iand, 1) := by decide +kernel
theorem dX1_keysAt_19 : decode cX1_keysAt 19 = .ok (.iconst 1, 1) := by decide +kernel
theorem dX1_keysAt_20 : decode cX1_keysAt 20 = .ok (.if_icmp .ne 9, 3) := by decide +kernel
theorem dX1_keysAt_23 : decode cX1_keysAt 23 = .ok (.iload_n 2, 1) := by decide +kernel
theorem dX1_keysAt_24 : decode cX1_keysAt 24 = .ok (.iconst 1, 1) := by decide +kernel
theorem dX1_keysAt_25 : decode cX1_keysAt 25 = .ok (.iload_n 3, 1) := by decide +kernel
theorem dX1_keysAt_26 : decode cX1_keysAt 26 = .ok (.ishl, 1) := by decide +kernel
theorem dX1_keysAt_27 : decode cX1_keysAt 27 = .ok (.ior, 1) := by decide +kernel
theorem dX1_keysAt_28 : decode cX1_keysAt 28 = .ok (.istore_n 2, 1) := by decide +kernel
theorem dX1_keysAt_29 : decode cX1_keysAt 29 = .ok (.iinc 3 1, 3) := by decide +kernel
theorem dX1_keysAt_32 : decode cX1_keysAt 32 = .ok (.goto (-28), 3) := by decide +kernel
theorem dX1_keysAt_35 : decode cX1_keysAt 35 = .ok (.iload_n 2, 1) := by decide +kernel
theorem dX1_keysAt_36 : decode cX1_keysAt 36 = .ok (.ireturn, 1) := by decide +kernel
theorem dX1_move_0 : decode cX1_move 0 = .ok (.iload_n 2, 1) := by decide +kernel
theorem dX1_move_1 : decode cX1_move 1 = .ok (.invokestatic 18, 3) := by decide +kernel
theorem dX1_move_4 : decode cX1_move 4 = .ok (.istore_n 3, 1) := by decide +kernel
theorem dX1_move_5 : decode cX1_move 5 = .ok (.aload_n 1, 1) := by decide +kernel
theorem dX1_move_6 : decode cX1_move 6 = .ok (.aload_n 0, 1) := by decide +kernel
theorem dX1_move_7 : decode cX1_move 7 = .ok (.iload_n 3, 1) := by decide +kernel
theorem dX1_move_8 : decode cX1_move 8 = .ok (.invokevirtual 22, 3) := by decide +kernel
theorem dX1_move_11 : decode cX1_move 11 = .ok (.aload_n 0, 1) := by decide +kernel
theorem dX1_move_12 : decode cX1_move 12 = .ok (.iload_n 3, 1) := by decide +kernel
theorem dX1_move_13 : decode cX1_move 13 = .ok (.invokevirtual 25, 3) := by decide +kernel
theorem dX1_move_16 : decode cX1_move 16 = .ok (.iload_n 2, 1) := by decide +kernel
theorem dX1_move_17 : decode cX1_move 17 = .ok (.invokestatic 28, 3) := by decide +kernel
theorem dX1_move_20 : decode cX1_move 20 = .ok (.invokevirtual 32, 3) := by decide +kernel
theorem dX1_move_23 : decode cX1_move 23 = .ok (.return_, 1) := by decide +kernel
theorem dX1_notchesBy_0 : decode cX1_notchesBy 0 = .ok (.iload_n 1, 1) := by decide +kernel
theorem dX1_notchesBy_1 : decode cX1_notchesBy 1 = .ok (.invokestatic 18, 3) := by decide +kernel
theorem dX1_notchesBy_4 : decode cX1_notchesBy 4 = .ok (.istore_n 2, 1) := by decide +kernel
theorem dX1_notchesBy_5 : decode cX1_notchesBy 5 = .ok (.aload_n 0, 1) := by decide +kernel
theorem dX1_notchesBy_6 : decode cX1_notchesBy 6 = .ok (.iload_n 2, 1) := by decide +kernel
theorem dX1_notchesBy_7 : decode cX1_notchesBy 7 = .ok (.invokevirtual 25, 3) := by decide +kernel
theorem dX1_notchesBy_10 : decode cX1_notchesBy 10 = .ok (.aload_n 0, 1) := by decide +kernel
theorem dX1_notchesBy_11 : decode cX1_notchesBy 11 = .ok (.iload_n 2, 1) := by decide +kernel
theorem dX1_notchesBy_12 : decode cX1_notchesBy 12 = .ok (.invokevirtual 22, 3) := by decide +kernel
theorem dX1_notchesBy_15 : decode cX1_notchesBy 15 = .ok (.invokestatic 38, 3) := by decide +kernel
theorem dX1_notchesBy_18 : decode cX1_notchesBy 18 = .ok (.imul, 1) := by decide +kernel
theorem dX1_notchesBy_19 : decode cX1_notchesBy 19 = .ok (.istore_n 3, 1) := by decide +kernel
theorem dX1_notchesBy_20 : decode cX1_notchesBy 20 = .ok (.iload_n 1, 1) := by decide +kernel
theorem dX1_notchesBy_21 : decode cX1_notchesBy 21 = .ok (.invokestatic 28, 3) := by decide +kernel
theorem dX1_notchesBy_24 : decode cX1_notchesBy 24 = .ok (.ifCond .eq 8, 3) := by decide +kernel
theorem dX1_notchesBy_27 : decode cX1_notchesBy 27 = .ok (.iload_n 3, 1) := by decide +kernel
theorem dX1_notchesBy_28 : decode cX1_notchesBy 28 = .ok (.ineg, 1) := by decide +kernel
theorem dX1_notchesBy_29 : decode cX1_notchesBy 29 = .ok (.goto 4, 3) := by decide +kernel
theorem dX1_notchesBy_32 : decode cX1_notchesBy 32 = .ok (.iload_n 3, 1) := by decide +kernel
theorem dX1_notchesBy_33 : decode cX1_notchesBy 33 = .ok (.ireturn, 1) := by decide +kernel
theorem dX1_copyFrom_0 : decode cX1_copyFrom 0 = .ok (.iconst 0, 1) := by decide +kernel
theorem dX1_copyFrom_1 : decode cX1_copyFrom 1 = .ok (.istore_n 2, 1) := by decide +kernel
theorem dX1_copyFrom_2 : decode cX1_copyFrom 2 = .ok (.iload_n 2, 1) := by decide +kernel
theorem dX1_copyFrom_3 : decode cX1_copyFrom 3 = .ok (.iconst 5, 1) := by decide +kernel
theorem dX1_copyFrom_4 : decode cX1_copyFrom 4 = .ok (.if_icmp .ge 33, 3) := by decide +kernel
theorem dX1_copyFrom_7 : decode cX1_copyFrom 7 = .ok (.aload_n 0, 1) := by decide +kernel
theorem dX1_copyFrom_8 : decode cX1_copyFrom 8 = .ok (.getfield 9, 3) := by decide +kernel
theorem dX1_copyFrom_11 : decode cX1_copyFrom 11 = .ok (.iload_n 2, 1) := by decide +kernel
theorem dX1_copyFrom_12 : decode cX1_copyFrom 12 = .ok (.aload_n 1, 1) := by decide +kernel
theorem dX1_copyFrom_13 : decode cX1_copyFrom 13 = .ok (.getfield 9, 3) := by decide +kernel
theorem dX1_copyFrom_16 : decode cX1_copyFrom 16 = .ok (.iload_n 2, 1) := by decide +kernel
theorem dX1_copyFrom_17 : decode cX1_copyFrom 17 = .ok (.iaload, 1) := by decide +kernel
theorem dX1_copyFrom_18 : decode cX1_copyFrom 18 = .ok (.iastore, 1) := by decide +kernel
theorem dX1_copyFrom_19 : decode cX1_copyFrom 19 = .ok (.aload_n 0, 1) := by decide +kernel
theorem dX1_copyFrom_20 : decode cX1_copyFrom 20 = .ok (.getfield 15, 3) := by decide +kernel
theorem dX1_copyFrom_23 : decode cX1_copyFrom 23 = .ok (.iload_n 2, 1) := by decide +kernel
theorem dX1_copyFrom_24 : decode cX1_copyFrom 24 = .ok (.aload_n 1, 1) := by decide +kernel
theorem dX1_copyFrom_25 : decode cX1_copyFrom 25 = .ok (.getfield 15, 3) := by decide +kernel
theorem dX1_copyFrom_28 : decode cX1_copyFrom 28 = .ok (.iload_n 2, 1) := by decide +kernel
theorem dX1_copyFrom_29 : decode cX1_copyFrom 29 = .ok (.iaload, 1) := by decide +kernel
theorem dX1_copyFrom_30 : decode cX1_copyFrom 30 = .ok (.iastore, 1) := by decide +kernel
theorem dX1_copyFrom_31 : decode cX1_copyFrom 31 = .ok (.iinc 2 1, 3) := by decide +kernel
theorem dX1_copyFrom_34 : decode cX1_copyFrom 34 = .ok (.goto (-32), 3) := by decide +kernel
theorem dX1_copyFrom_37 : decode cX1_copyFrom 37 = .ok (.return_, 1) := by decide +kernel
theorem dX2_init_0 : decode cX2_init 0 = .ok (.aload_n 0, 1) := by decide +kernel
theorem dX2_init_1 : decode cX2_init 1 = .ok (.invokespecial 3, 3) := by decide +kernel
theorem dX2_init_4 : decode cX2_init 4 = .ok (.aload_n 0, 1) := by decide +kernel
theorem dX2_init_5 : decode cX2_init 5 = .ok (.bipush 111, 2) := by decide +kernel
theorem dX2_init_7 : decode cX2_init 7 = .ok (.newarray .int, 2) := by decide +kernel
theorem dX2_init_9 : decode cX2_init 9 = .ok (.putfield 9, 3) := by decide +kernel
theorem dX2_init_12 : decode cX2_init 12 = .ok (.aload_n 0, 1) := by decide +kernel
theorem dX2_init_13 : decode cX2_init 13 = .ok (.bipush 111, 2) := by decide +kernel
theorem dX2_init_15 : decode cX2_init 15 = .ok (.newarray .int, 2) := by decide +kernel
theorem dX2_init_17 : decode cX2_init 17 = .ok (.putfield 15, 3) := by decide +kernel
theorem dX2_init_20 : decode cX2_init 20 = .ok (.aload_n 0, 1) := by decide +kernel
theorem dX2_init_21 : decode cX2_init 21 = .ok (.iconst 0, 1) := by decide +kernel
theorem dX2_init_22 : decode cX2_init 22 = .ok (.putfield 18, 3) := by decide +kernel
theorem dX2_init_25 : decode cX2_init 25 = .ok (.aload_n 0, 1) := by decide +kernel
theorem dX2_init_26 : decode cX2_init 26 = .ok (.new 22, 3) := by decide +kernel
theorem dX2_init_29 : decode cX2_init 29 = .ok (.dup, 1) := by decide +kernel
theorem dX2_init_30 : decode cX2_init 30 = .ok (.invokespecial 24, 3) := by decide +kernel
theorem dX2_init_33 : decode cX2_init 33 = .ok (.putfield 25, 3) := by decide +kernel
theorem dX2_init_36 : decode cX2_init 36 = .ok (.aload_n 0, 1) := by decide +kernel
theorem dX2_init_37 : decode cX2_init 37 = .ok (.new 22, 3) := by decide +kernel
theorem dX2_init_40 : decode cX2_init 40 = .ok (.dup, 1) := by decide +kernel
theorem dX2_init_41 : decode cX2_init 41 = .ok (.invokespecial 24, 3) := by decide +kernel
theorem dX2_init_44 : decode cX2_init 44 = .ok (.putfield 29, 3) := by decide +kernel
theorem dX2_init_47 : decode cX2_init 47 = .ok (.aload_n 0, 1) := by decide +kernel
theorem dX2_init_48 : decode cX2_init 48 = .ok (.iconst (-1), 1) := by decide +kernel
theorem dX2_init_49 : decode cX2_init 49 = .ok (.putfield 32, 3) := by decide +kernel
theorem dX2_init_52 : decode cX2_init 52 = .ok (.aload_n 0, 1) := by decide +kernel
theorem dX2_init_53 : decode cX2_init 53 = .ok (.iconst (-1), 1) := by decide +kernel
theorem dX2_init_54 : decode cX2_init 54 = .ok (.putfield 35, 3) := by decide +kernel
theorem dX2_init_57 : decode cX2_init 57 = .ok (.return_, 1) := by decide +kernel
theorem dX2_search_0 : decode cX2_search 0 = .ok (.aload_n 0, 1) := by decide +kernel
theorem dX2_search_1 : decode cX2_search 1 = .ok (.iconst (-1), 1) := by decide +kernel
theorem dX2_search_2 : decode cX2_search 2 = .ok (.putfield 32, 3) := by decide +kernel
theorem dX2_search_5 : decode cX2_search 5 = .ok (.aload_n 0, 1) := by decide +kernel
theorem dX2_search_6 : decode cX2_search 6 = .ok (.iconst (-1), 1) := by decide +kernel
theorem dX2_search_7 : decode cX2_search 7 = .ok (.putfield 35, 3) := by decide +kernel
theorem dX2_search_10 : decode cX2_search 10 = .ok (.aload_n 1, 1) := by decide +kernel
theorem dX2_search_11 : decode cX2_search 11 = .ok (.getfield 38, 3) := by decide +kernel
theorem dX2_search_14 : decode cX2_search 14 = .ok (.ifCond .ne 4, 3) := by decide +kernel
theorem dX2_search_17 : decode cX2_search 17 = .ok (.return_, 1) := by decide +kernel
theorem dX2_search_18 : decode cX2_search 18 = .ok (.aload_n 1, 1) := by decide +kernel
theorem dX2_search_19 : decode cX2_search 19 = .ok (.invokevirtual 44, 3) := by decide +kernel
theorem dX2_search_22 : decode cX2_search 22 = .ok (.ifCond .eq 9, 3) := by decide +kernel
theorem dX2_search_25 : decode cX2_search 25 = .ok (.aload_n 0, 1) := by decide +kernel
theorem dX2_search_26 : decode cX2_search 26 = .ok (.iconst 0, 1) := by decide +kernel
theorem dX2_search_27 : decode cX2_search 27 = .ok (.putfield 32, 3) := by decide +kernel
theorem dX2_search_30 : decode cX2_search 30 = .ok (.return_, 1) := by decide +kernel
theorem dX2_search_31 : decode cX2_search 31 = .ok (.aload_n 0, 1) := by decide +kernel
theorem dX2_search_32 : decode cX2_search 32 = .ok (.aload_n 1, 1) := by decide +kernel
theorem dX2_search_33 : decode cX2_search 33 = .ok (.invokevirtual 48, 3) := by decide +kernel
theorem dX2_search_36 : decode cX2_search 36 = .ok (.iconst 0, 1) := by decide +kernel
theorem dX2_search_37 : decode cX2_search 37 = .ok (.istore_n 2, 1) := by decide +kernel
theorem dX2_search_38 : decode cX2_search 38 = .ok (.iload_n 2, 1) := by decide +kernel
theorem dX2_search_39 : decode cX2_search 39 = .ok (.bipush 10, 2) := by decide +kernel
theorem dX2_search_41 : decode cX2_search 41 = .ok (.if_icmp .ge 23, 3) := by decide +kernel
theorem dX2_search_44 : decode cX2_search 44 = .ok (.aload_n 1, 1) := by decide +kernel
theorem dX2_search_45 : decode cX2_search 45 = .ok (.iload_n 2, 1) := by decide +kernel
theorem dX2_search_46 : decode cX2_search 46 = .ok (.invokevirtual 52, 3) := by decide +kernel
theorem dX2_search_49 : decode cX2_search 49 = .ok (.ifCond .eq 9, 3) := by decide +kernel
theorem dX2_search_52 : decode cX2_search 52 = .ok (.aload_n 0, 1) := by decide +kernel
theorem dX2_search_53 : decode cX2_search 53 = .ok (.aload_n 1, 1) := by decide +kernel
theorem dX2_search_54 : decode cX2_search 54 = .ok (.iload_n 2, 1) := by decide +kernel
theorem dX2_search_55 : decode cX2_search 55 = .ok (.invokevirtual 56, 3) := by decide +kernel
theorem dX2_search_58 : decode cX2_search 58 = .ok (.iinc 2 1, 3) := by decide +kernel
theorem dX2_search_61 : decode cX2_search 61 = .ok (.goto (-23), 3) := by decide +kernel
theorem dX2_search_64 : decode cX2_search 64 = .ok (.return_, 1) := by decide +kernel
theorem dX2_tryFirst_0 : decode cX2_tryFirst 0 = .ok (.aload_n 0, 1) := by decide +kernel
theorem dX2_tryFirst_1 : decode cX2_tryFirst 1 = .ok (.getfield 25, 3) := by decide +kernel
theorem dX2_tryFirst_4 : decode cX2_tryFirst 4 = .ok (.aload_n 1, 1) := by decide +kernel
theorem dX2_tryFirst_5 : decode cX2_tryFirst 5 = .ok (.getfield 60, 3) := by decide +kernel
theorem dX2_tryFirst_8 : decode cX2_tryFirst 8 = .ok (.invokevirtual 63, 3) := by decide +kernel
theorem dX2_tryFirst_11 : decode cX2_tryFirst 11 = .ok (.aload_n 1, 1) := by decide +kernel
theorem dX2_tryFirst_12 : decode cX2_tryFirst 12 = .ok (.getfield 67, 3) := by decide +kernel
theorem dX2_tryFirst_15 : decode cX2_tryFirst 15 = .ok (.aload_n 0, 1) := by decide +kernel
theorem dX2_tryFirst_16 : decode cX2_tryFirst 16 = .ok (.getfield 25, 3) := by decide +kernel
theorem dX2_tryFirst_19 : decode cX2_tryFirst 19 = .ok (.iload_n 2, 1) := by decide +kernel
theorem dX2_tryFirst_20 : decode cX2_tryFirst 20 = .ok (.invokevirtual 71, 3) := by decide +kernel
theorem dX2_tryFirst_23 : decode cX2_tryFirst 23 = .ok (.aload_n 0, 1) := by decide +kernel
theorem dX2_tryFirst_24 : decode cX2_tryFirst 24 = .ok (.aload_n 0, 1) := by decide +kernel
theorem dX2_tryFirst_25 : decode cX2_tryFirst 25 = .ok (.getfield 25, 3) := by decide +kernel
theorem dX2_tryFirst_28 : decode cX2_tryFirst 28 = .ok (.invokevirtual 77, 3) := by decide +kernel
theorem dX2_tryFirst_31 : decode cX2_tryFirst 31 = .ok (.istore_n 3, 1) := by decide +kernel
theorem dX2_tryFirst_32 : decode cX2_tryFirst 32 = .ok (.iload_n 3, 1) := by decide +kernel
theorem dX2_tryFirst_33 : decode cX2_tryFirst 33 = .ok (.iconst (-1), 1) := by decide +kernel
theorem dX2_tryFirst_34 : decode cX2_tryFirst 34 = .ok (.if_icmp .ne 21, 3) := by decide +kernel
theorem dX2_tryFirst_37 : decode cX2_tryFirst 37 = .ok (.aload_n 0, 1) := by decide +kernel
theorem dX2_tryFirst_38 : decode cX2_tryFirst 38 = .ok (.getfield 32, 3) := by decide +kernel
theorem dX2_tryFirst_41 : decode cX2_tryFirst 41 = .ok (.iconst (-1), 1) := by decide +kernel
theorem dX2_tryFirst_42 : decode cX2_tryFirst 42 = .ok (.if_icmp .ne 13, 3) := by decide +kernel
theorem dX2_tryFirst_45 : decode cX2_tryFirst 45 = .ok (.aload_n 0, 1) := by decide +kernel
theorem dX2_tryFirst_46 : decode cX2_tryFirst 46 = .ok (.aload_n 1, 1) := by decide +kernel
theorem dX2_tryFirst_47 : decode cX2_tryFirst 47 = .ok (.invokevirtual 81, 3) := by decide +kernel
theorem dX2_tryFirst_50 : decode cX2_tryFirst 50 = .ok (.ifCond .eq 5, 3) := by decide +kernel
theorem dX2_tryFirst_53 : decode cX2_tryFirst 53 = .ok (.iconst 3, 1) := by decide +kernel
theorem dX2_tryFirst_54 : decode cX2_tryFirst 54 = .ok (.istore_n 3, 1) := by decide +kernel
theorem dX2_tryFirst_55 : decode cX2_tryFirst 55 = .ok (.iload_n 3, 1) := by decide +kernel
theorem dX2_tryFirst_56 : decode cX2_tryFirst 56 = .ok (.iconst (-1), 1) := by decide +kernel
theorem dX2_tryFirst_57 : decode cX2_tryFirst 57 = .ok (.if_icmp .eq 33, 3) := by decide +kernel
theorem dX2_tryFirst_60 : decode cX2_tryFirst 60 = .ok (.aload_n 0, 1) := by decide +kernel
theorem dX2_tryFirst_61 : decode cX2_tryFirst 61 = .ok (.getfield 32, 3) := by decide +kernel
theorem dX2_tryFirst_64 : decode cX2_tryFirst 64 = .ok (.iconst (-1), 1) := by decide +kernel
theorem dX2_tryFirst_65 : decode cX2_tryFirst 65 = .ok (.if_icmp .eq 13, 3) := by decide +kernel
theorem dX2_tryFirst_68 : decode cX2_tryFirst 68 = .ok (.iload_n 3, 1) := by decide +kernel
theorem dX2_tryFirst_69 : decode cX2_tryFirst 69 = .ok (.iconst 1, 1) := by decide +kernel
theorem dX2_tryFirst_70 : decode cX2_tryFirst 70 = .ok (.iadd, 1) := by decide +kernel
theorem dX2_tryFirst_71 : decode cX2_tryFirst 71 = .ok (.aload_n 0, 1) := by decide +kernel
theorem dX2_tryFirst_72 : decode cX2_tryFirst 72 = .ok (.getfield 32, 3) := by decide +kernel
theorem dX2_tryFirst_75 : decode cX2_tryFirst 75 = .ok (.if_icmp .ge 15, 3) := by decide +kernel
theorem dX2_tryFirst_78 : decode cX2_tryFirst 78 = .ok (.aload_n 0, 1) := by decide +kernel
theorem dX2_tryFirst_79 : decode cX2_tryFirst 79 = .ok (.iload_n 3, 1) := by decide +kernel
theorem dX2_tryFirst_80 : decode cX2_tryFirst 80 = .ok (.iconst 1, 1) := by decide +kernel
theorem dX2_tryFirst_81 : decode cX2_tryFirst 81 = .ok (.iadd, 1) := by decide +kernel
theorem dX2_tryFirst_82 : decode cX2_tryFirst 82 = .ok (.putfield 32, 3) := by decide +kernel
theorem dX2_tryFirst_85 : decode cX2_tryFirst 85 = .ok (.aload_n 0, 1) := by decide +kernel
theorem dX2_tryFirst_86 : decode cX2_tryFirst 86 = .ok (.iload_n 2, 1) := by decide +kernel
theorem dX2_tryFirst_87 : decode cX2_tryFirst 87 = .ok (.putfield 35, 3) := by decide +kernel
theorem dX2_tryFirst_90 : decode cX2_tryFirst 90 = .ok (.return_, 1) := by decide +kernel
theorem dX2_meetsList_0 : decode cX2_meetsList 0 = .ok (.iconst 0, 1) := by decide +kernel
theorem dX2_meetsList_1 : decode cX2_meetsList 1 = .ok (.istore_n 2, 1) := by decide +kernel
theorem dX2_meetsList_2 : decode cX2_meetsList 2 = .ok (.iload_n 2, 1) := by decide +kernel
theorem dX2_meetsList_3 : decode cX2_meetsList 3 = .ok (.bipush 10, 2) := by decide +kernel
theorem dX2_meetsList_5 : decode cX2_meetsList 5 = .ok (.if_icmp .ge 54, 3) := by decide +kernel
theorem dX2_meetsList_8 : decode cX2_meetsList 8 = .ok (.aload_n 1, 1) := by decide +kernel
theorem dX2_meetsList_9 : decode cX2_meetsList 9 = .ok (.iload_n 2, 1) := by decide +kernel
theorem dX2_meetsList_10 : decode cX2_meetsList 10 = .ok (.invokevirtual 52, 3) := by decide +kernel
theorem dX2_meetsList_13 : decode cX2_meetsList 13 = .ok (.ifCond .eq 40, 3) := by decide +kernel
theorem dX2_meetsList_16 : decode cX2_meetsList 16 = .ok (.aload_n 0, 1) := by decide +kernel
theorem dX2_meetsList_17 : decode cX2_meetsList 17 = .ok (.getfield 29, 3) := by decide +kernel
theorem dX2_meetsList_20 : decode cX2_meetsList 20 = .ok (.aload_n 0, 1) := by decide +kernel
theorem dX2_meetsList_21 : decode cX2_meetsList 21 = .ok (.getfield 25, 3) := by decide +kernel
theorem dX2_meetsList_24 : decode cX2_meetsList 24 = .ok (.invokevirtual 63, 3) := by decide +kernel
theorem dX2_meetsList_27 : decode cX2_meetsList 27 = .ok (.aload_n 1, 1) := by decide +kernel
theorem dX2_meetsList_28 : decode cX2_meetsList 28 = .ok (.getfield 67, 3) := by decide +kernel
theorem dX2_meetsList_31 : decode cX2_meetsList 31 = .ok (.aload_n 0, 1) := by decide +kernel
theorem dX2_meetsList_32 : decode cX2_meetsList 32 = .ok (.getfield 29, 3) := by decide +kernel
theorem dX2_meetsList_35 : decode cX2_meetsList 35 = .ok (.iload_n 2, 1) := by decide +kernel
theorem dX2_meetsList_36 : decode cX2_meetsList 36 = .ok (.invokevirtual 71, 3) := by decide +kernel
theorem dX2_meetsList_39 : decode cX2_meetsList 39 = .ok (.aload_n 0, 1) := by decide +kernel
theorem dX2_meetsList_40 : decode cX2_meetsList 40 = .ok (.aload_n 0, 1) := by decide +kernel
theorem dX2_meetsList_41 : decode cX2_meetsList 41 = .ok (.getfield 29, 3) := by decide +kernel
theorem dX2_meetsList_44 : decode cX2_meetsList 44 = .ok (.invokevirtual 77, 3) := by decide +kernel
theorem dX2_meetsList_47 : decode cX2_meetsList 47 = .ok (.iconst (-1), 1) := by decide +kernel
theorem dX2_meetsList_48 : decode cX2_meetsList 48 = .ok (.if_icmp .eq 5, 3) := by decide +kernel
theorem dX2_meetsList_51 : decode cX2_meetsList 51 = .ok (.iconst 1, 1) := by decide +kernel
theorem dX2_meetsList_52 : decode cX2_meetsList 52 = .ok (.ireturn, 1) := by decide +kernel
theorem dX2_meetsList_53 : decode cX2_meetsList 53 = .ok (.iinc 2 1, 3) := by decide +kernel
theorem dX2_meetsList_56 : decode cX2_meetsList 56 = .ok (.goto (-54), 3) := by decide +kernel
theorem dX2_meetsList_59 : decode cX2_meetsList 59 = .ok (.iconst 0, 1) := by decide +kernel
theorem dX2_meetsList_60 : decode cX2_meetsList 60 = .ok (.ireturn, 1) := by decide +kernel
theorem dX2_listNear_0 : decode cX2_listNear 0 = .ok (.aload_n 0, 1) := by decide +kernel
theorem dX2_listNear_1 : decode cX2_listNear 1 = .ok (.iconst 0, 1) := by decide +kernel
theorem dX2_listNear_2 : decode cX2_listNear 2 = .ok (.putfield 18, 3) := by decide +kernel
theorem dX2_listNear_5 : decode cX2_listNear 5 = .ok (.aload_n 0, 1) := by decide +kernel
theorem dX2_listNear_6 : decode cX2_listNear 6 = .ok (.aload_n 1, 1) := by decide +kernel
theorem dX2_listNear_7 : decode cX2_listNear 7 = .ok (.getfield 85, 3) := by decide +kernel
theorem dX2_listNear_10 : decode cX2_listNear 10 = .ok (.iconst 0, 1) := by decide +kernel
theorem dX2_listNear_11 : decode cX2_listNear 11 = .ok (.invokevirtual 88, 3) := by decide +kernel
theorem dX2_listNear_14 : decode cX2_listNear 14 = .ok (.iconst 0, 1) := by decide +kernel
theorem dX2_listNear_15 : decode cX2_listNear 15 = .ok (.istore_n 2, 1) := by decide +kernel
theorem dX2_listNear_16 : decode cX2_listNear 16 = .ok (.iload_n 2, 1) := by decide +kernel
theorem dX2_listNear_17 : decode cX2_listNear 17 = .ok (.bipush 10, 2) := by decide +kernel
theorem dX2_listNear_19 : decode cX2_listNear 19 = .ok (.if_icmp .ge 49, 3) := by decide +kernel
theorem dX2_listNear_22 : decode cX2_listNear 22 = .ok (.aload_n 1, 1) := by decide +kernel
theorem dX2_listNear_23 : decode cX2_listNear 23 = .ok (.iload_n 2, 1) := by decide +kernel
theorem dX2_listNear_24 : decode cX2_listNear 24 = .ok (.invokevirtual 52, 3) := by decide +kernel
theorem dX2_listNear_27 : decode cX2_listNear 27 = .ok (.ifCond .eq 35, 3) := by decide +kernel
theorem dX2_listNear_30 : decode cX2_listNear 30 = .ok (.aload_n 0, 1) := by decide +kernel
theorem dX2_listNear_31 : decode cX2_listNear 31 = .ok (.getfield 25, 3) := by decide +kernel
theorem dX2_listNear_34 : decode cX2_listNear 34 = .ok (.aload_n 1, 1) := by decide +kernel
theorem dX2_listNear_35 : decode cX2_listNear 35 = .ok (.getfield 85, 3) := by decide +kernel
theorem dX2_listNear_38 : decode cX2_listNear 38 = .ok (.invokevirtual 63, 3) := by decide +kernel
theorem dX2_listNear_41 : decode cX2_listNear 41 = .ok (.aload_n 1, 1) := by decide +kernel
theorem dX2_listNear_42 : decode cX2_listNear 42 = .ok (.getfield 67, 3) := by decide +kernel
theorem dX2_listNear_45 : decode cX2_listNear 45 = .ok (.aload_n 0, 1) := by decide +kernel
theorem dX2_listNear_46 : decode cX2_listNear 46 = .ok (.getfield 25, 3) := by decide +kernel
theorem dX2_listNear_49 : decode cX2_listNear 49 = .ok (.iload_n 2, 1) := by decide +kernel
theorem dX2_listNear_50 : decode cX2_listNear 50 = .ok (.invokevirtual 71, 3) := by decide +kernel
theorem dX2_listNear_53 : decode cX2_listNear 53 = .ok (.aload_n 0, 1) := by decide +kernel
theorem dX2_listNear_54 : decode cX2_listNear 54 = .ok (.aload_n 0, 1) := by decide +kernel
theorem dX2_listNear_55 : decode cX2_listNear 55 = .ok (.getfield 25, 3) := by decide +kernel
theorem dX2_listNear_58 : decode cX2_listNear 58 = .ok (.iconst 1, 1) := by decide +kernel
theorem dX2_listNear_59 : decode cX2_listNear 59 = .ok (.invokevirtual 88, 3) := by decide +kernel
theorem dX2_listNear_62 : decode cX2_listNear 62 = .ok (.iinc 2 1, 3) := by decide +kernel
theorem dX2_listNear_65 : decode cX2_listNear 65 = .ok (.goto (-49), 3) := by decide +kernel
theorem dX2_listNear_68 : decode cX2_listNear 68 = .ok (.iconst 0, 1) := by decide +kernel
theorem dX2_listNear_69 : decode cX2_listNear 69 = .ok (.istore_n 2, 1) := by decide +kernel
theorem dX2_listNear_70 : decode cX2_listNear 70 = .ok (.iload_n 2, 1) := by decide +kernel
theorem dX2_listNear_71 : decode cX2_listNear 71 = .ok (.bipush 10, 2) := by decide +kernel
theorem dX2_listNear_73 : decode cX2_listNear 73 = .ok (.if_icmp .ge 45, 3) := by decide +kernel
theorem dX2_listNear_76 : decode cX2_listNear 76 = .ok (.aload_n 1, 1) := by decide +kernel
theorem dX2_listNear_77 : decode cX2_listNear 77 = .ok (.iload_n 2, 1) := by decide +kernel
theorem dX2_listNear_78 : decode cX2_listNear 78 = .ok (.invokevirtual 52, 3) := by decide +kernel
theorem dX2_listNear_81 : decode cX2_listNear 81 = .ok (.ifCond .eq 31, 3) := by decide +kernel
theorem dX2_listNear_84 : decode cX2_listNear 84 = .ok (.aload_n 0, 1) := by decide +kernel
theorem dX2_listNear_85 : decode cX2_listNear 85 = .ok (.getfield 25, 3) := by decide +kernel
theorem dX2_listNear_88 : decode cX2_listNear 88 = .ok (.aload_n 1, 1) := by decide +kernel
theorem dX2_listNear_89 : decode cX2_listNear 89 = .ok (.getfield 85, 3) := by decide +kernel
theorem dX2_listNear_92 : decode cX2_listNear 92 = .ok (.invokevirtual 63, 3) := by decide +kernel
theorem dX2_listNear_95 : decode cX2_listNear 95 = .ok (.aload_n 1, 1) := by decide +kernel
theorem dX2_listNear_96 : decode cX2_listNear 96 = .ok (.getfield 67, 3) := by decide +kernel
theorem dX2_listNear_99 : decode cX2_listNear 99 = .ok (.aload_n 0, 1) := by decide +kernel
theorem dX2_listNear_100 : decode cX2_listNear 100 = .ok (.getfield 25, 3) := by decide +kernel
theorem dX2_listNear_103 : decode cX2_listNear 103 = .ok (.iload_n 2, 1) := by decide +kernel
theorem dX2_listNear_104 : decode cX2_listNear 104 = .ok (.invokevirtual 71, 3) := by decide +kernel
theorem dX2_listNear_107 : decode cX2_listNear 107 = .ok (.aload_n 0, 1) := by decide +kernel
theorem dX2_listNear_108 : decode cX2_listNear 108 = .ok (.aload_n 1, 1) := by decide +kernel
theorem dX2_listNear_109 : decode cX2_listNear 109 = .ok (.invokevirtual 91, 3) := by decide +kernel
theorem dX2_listNear_112 : decode cX2_listNear 112 = .ok (.iinc 2 1, 3) := by decide +kernel
theorem dX2_listNear_115 : decode cX2_listNear 115 = .ok (.goto (-45), 3) := by decide +kernel
theorem dX2_listNear_118 : decode cX2_listNear 118 = .ok (.return_, 1) := by decide +kernel
theorem dX2_listBehindOne_0 : decode cX2_listBehindOne 0 = .ok (.iconst 0, 1) := by decide +kernel
theorem dX2_listBehindOne_1 : decode cX2_listBehindOne 1 = .ok (.istore_n 2, 1) := by decide +kernel
theorem dX2_listBehindOne_2 : decode cX2_listBehindOne 2 = .ok (.iload_n 2, 1) := by decide +kernel
theorem dX2_listBehindOne_3 : decode cX2_listBehindOne 3 = .ok (.bipush 10, 2) := by decide +kernel
theorem dX2_listBehindOne_5 : decode cX2_listBehindOne 5 = .ok (.if_icmp .ge 49, 3) := by decide +kernel
theorem dX2_listBehindOne_8 : decode cX2_listBehindOne 8 = .ok (.aload_n 1, 1) := by decide +kernel
theorem dX2_listBehindOne_9 : decode cX2_listBehindOne 9 = .ok (.iload_n 2, 1) := by decide +kernel
theorem dX2_listBehindOne_10 : decode cX2_listBehindOne 10 = .ok (.invokevirtual 52, 3) := by decide +kernel
theorem dX2_listBehindOne_13 : decode cX2_listBehindOne 13 = .ok (.ifCond .eq 35, 3) := by decide +kernel
theorem dX2_listBehindOne_16 : decode cX2_listBehindOne 16 = .ok (.aload_n 0, 1) := by decide +kernel
theorem dX2_listBehindOne_17 : decode cX2_listBehindOne 17 = .ok (.getfield 29, 3) := by decide +kernel
theorem dX2_listBehindOne_20 : decode cX2_listBehindOne 20 = .ok (.aload_n 0, 1) := by decide +kernel
theorem dX2_listBehindOne_21 : decode cX2_listBehindOne 21 = .ok (.getfield 25, 3) := by decide +kernel
theorem dX2_listBehindOne_24 : decode cX2_listBehindOne 24 = .ok (.invokevirtual 63, 3) := by decide +kernel
theorem dX2_listBehindOne_27 : decode cX2_listBehindOne 27 = .ok (.aload_n 1, 1) := by decide +kernel
theorem dX2_listBehindOne_28 : decode cX2_listBehindOne 28 = .ok (.getfield 67, 3) := by decide +kernel
theorem dX2_listBehindOne_31 : decode cX2_listBehindOne 31 = .ok (.aload_n 0, 1) := by decide +kernel
theorem dX2_listBehindOne_32 : decode cX2_listBehindOne 32 = .ok (.getfield 29, 3) := by decide +kernel
theorem dX2_listBehindOne_35 : decode cX2_listBehindOne 35 = .ok (.iload_n 2, 1) := by decide +kernel
theorem dX2_listBehindOne_36 : decode cX2_listBehindOne 36 = .ok (.invokevirtual 71, 3) := by decide +kernel
theorem dX2_listBehindOne_39 : decode cX2_listBehindOne 39 = .ok (.aload_n 0, 1) := by decide +kernel
theorem dX2_listBehindOne_40 : decode cX2_listBehindOne 40 = .ok (.aload_n 0, 1) := by decide +kernel
theorem dX2_listBehindOne_41 : decode cX2_listBehindOne 41 = .ok (.getfield 29, 3) := by decide +kernel
theorem dX2_listBehindOne_44 : decode cX2_listBehindOne 44 = .ok (.iconst 2, 1) := by decide +kernel
theorem dX2_listBehindOne_45 : decode cX2_listBehindOne 45 = .ok (.invokevirtual 88, 3) := by decide +kernel
theorem dX2_listBehindOne_48 : decode cX2_listBehindOne 48 = .ok (.iinc 2 1, 3) := by decide +kernel
theorem dX2_listBehindOne_51 : decode cX2_listBehindOne 51 = .ok (.goto (-49), 3) := by decide +kernel
theorem dX2_listBehindOne_54 : decode cX2_listBehindOne 54 = .ok (.return_, 1) := by decide +kernel
theorem dX2_list_0 : decode cX2_list 0 = .ok (.aload_n 0, 1) := by decide +kernel
theorem dX2_list_1 : decode cX2_list 1 = .ok (.getfield 18, 3) := by decide +kernel
theorem dX2_list_4 : decode cX2_list 4 = .ok (.ifCond .lt 45, 3) := by decide +kernel
theorem dX2_list_7 : decode cX2_list 7 = .ok (.aload_n 0, 1) := by decide +kernel
theorem dX2_list_8 : decode cX2_list 8 = .ok (.getfield 18, 3) := by decide +kernel
theorem dX2_list_11 : decode cX2_list 11 = .ok (.bipush 111, 2) := by decide +kernel
theorem dX2_list_13 : decode cX2_list 13 = .ok (.if_icmp .ge 36, 3) := by decide +kernel
theorem dX2_list_16 : decode cX2_list 16 = .ok (.aload_n 0, 1) := by decide +kernel
theorem dX2_list_17 : decode cX2_list 17 = .ok (.getfield 9, 3) := by decide +kernel
theorem dX2_list_20 : decode cX2_list 20 = .ok (.aload_n 0, 1) := by decide +kernel
theorem dX2_list_21 : decode cX2_list 21 = .ok (.getfield 18, 3) := by decide +kernel
theorem dX2_list_24 : decode cX2_list 24 = .ok (.aload_n 1, 1) := by decide +kernel
theorem dX2_list_25 : decode cX2_list 25 = .ok (.invokevirtual 94, 3) := by decide +kernel
theorem dX2_list_28 : decode cX2_list 28 = .ok (.iastore, 1) := by decide +kernel
theorem dX2_list_29 : decode cX2_list 29 = .ok (.aload_n 0, 1) := by decide +kernel
theorem dX2_list_30 : decode cX2_list 30 = .ok (.getfield 15, 3) := by decide +kernel
theorem dX2_list_33 : decode cX2_list 33 = .ok (.aload_n 0, 1) := by decide +kernel
theorem dX2_list_34 : decode cX2_list 34 = .ok (.getfield 18, 3) := by decide +kernel
theorem dX2_list_37 : decode cX2_list 37 = .ok (.iload_n 2, 1) := by decide +kernel
theorem dX2_list_38 : decode cX2_list 38 = .ok (.iastore, 1) := by decide +kernel
theorem dX2_list_39 : decode cX2_list 39 = .ok (.aload_n 0, 1) := by decide +kernel
theorem dX2_list_40 : decode cX2_list 40 = .ok (.dup, 1) := by decide +kernel
theorem dX2_list_41 : decode cX2_list 41 = .ok (.getfield 18, 3) := by decide +kernel
theorem dX2_list_44 : decode cX2_list 44 = .ok (.iconst 1, 1) := by decide +kernel
theorem dX2_list_45 : decode cX2_list 45 = .ok (.iadd, 1) := by decide +kernel
theorem dX2_list_46 : decode cX2_list 46 = .ok (.putfield 18, 3) := by decide +kernel
theorem dX2_list_49 : decode cX2_list 49 = .ok (.return_, 1) := by decide +kernel
theorem dX2_listedTurns_0 : decode cX2_listedTurns 0 = .ok (.aload_n 1, 1) := by decide +kernel
theorem dX2_listedTurns_1 : decode cX2_listedTurns 1 = .ok (.invokevirtual 94, 3) := by decide +kernel
theorem dX2_listedTurns_4 : decode cX2_listedTurns 4 = .ok (.istore_n 2, 1) := by decide +kernel
theorem dX2_listedTurns_5 : decode cX2_listedTurns 5 = .ok (.iconst 0, 1) := by decide +kernel
theorem dX2_listedTurns_6 : decode cX2_listedTurns 6 = .ok (.istore_n 3, 1) := by decide +kernel
theorem dX2_listedTurns_7 : decode cX2_listedTurns 7 = .ok (.iload_n 3, 1) := by decide +kernel
theorem dX2_listedTurns_8 : decode cX2_listedTurns 8 = .ok (.aload_n 0, 1) := by decide +kernel
theorem dX2_listedTurns_9 : decode cX2_listedTurns 9 = .ok (.getfield 18, 3) := by decide +kernel
theorem dX2_listedTurns_12 : decode cX2_listedTurns 12 = .ok (.if_icmp .ge 32, 3) := by decide +kernel
theorem dX2_listedTurns_15 : decode cX2_listedTurns 15 = .ok (.iload_n 3, 1) := by decide +kernel
theorem dX2_listedTurns_16 : decode cX2_listedTurns 16 = .ok (.bipush 111, 2) := by decide +kernel
theorem dX2_listedTurns_18 : decode cX2_listedTurns 18 = .ok (.if_icmp .ge 26, 3) := by decide +kernel
theorem dX2_listedTurns_21 : decode cX2_listedTurns 21 = .ok (.aload_n 0, 1) := by decide +kernel
theorem dX2_listedTurns_22 : decode cX2_listedTurns 22 = .ok (.getfield 9, 3) := by decide +kernel
theorem dX2_listedTurns_25 : decode cX2_listedTurns 25 = .ok (.iload_n 3, 1) := by decide +kernel
theorem dX2_listedTurns_26 : decode cX2_listedTurns 26 = .ok (.iaload, 1) := by decide +kernel
theorem dX2_listedTurns_27 : decode cX2_listedTurns 27 = .ok (.iload_n 2, 1) := by decide +kernel
theorem dX2_listedTurns_28 : decode cX2_listedTurns 28 = .ok (.if_icmp .ne 10, 3) := by decide +kernel
theorem dX2_listedTurns_31 : decode cX2_listedTurns 31 = .ok (.aload_n 0, 1) := by decide +kernel
theorem dX2_listedTurns_32 : decode cX2_listedTurns 32 = .ok (.getfield 15, 3) := by decide +kernel
theorem dX2_listedTurns_35 : decode cX2_listedTurns 35 = .ok (.iload_n 3, 1) := by decide +kernel
theorem dX2_listedTurns_36 : decode cX2_listedTurns 36 = .ok (.iaload, 1) := by decide +kernel
theorem dX2_listedTurns_37 : decode cX2_listedTurns 37 = .ok (.ireturn, 1) := by decide +kernel
theorem dX2_listedTurns_38 : decode cX2_listedTurns 38 = .ok (.iinc 3 1, 3) := by decide +kernel
theorem dX2_listedTurns_41 : decode cX2_listedTurns 41 = .ok (.goto (-34), 3) := by decide +kernel
theorem dX2_listedTurns_44 : decode cX2_listedTurns 44 = .ok (.iconst (-1), 1) := by decide +kernel
theorem dX2_listedTurns_45 : decode cX2_listedTurns 45 = .ok (.ireturn, 1) := by decide +kernel
theorem dX3_init_0 : decode cX3_init 0 = .ok (.aload_n 0, 1) := by decide +kernel
theorem dX3_init_1 : decode cX3_init 1 = .ok (.invokespecial 3, 3) := by decide +kernel
theorem dX3_init_4 : decode cX3_init 4 = .ok (.aload_n 0, 1) := by decide +kernel
theorem dX3_init_5 : decode cX3_init 5 = .ok (.new 9, 3) := by decide +kernel
theorem dX3_init_8 : decode cX3_init 8 = .ok (.dup, 1) := by decide +kernel
theorem dX3_init_9 : decode cX3_init 9 = .ok (.invokespecial 11, 3) := by decide +kernel
theorem dX3_init_12 : decode cX3_init 12 = .ok (.putfield 12, 3) := by decide +kernel
theorem dX3_init_15 : decode cX3_init 15 = .ok (.aload_n 0, 1) := by decide +kernel
theorem dX3_init_16 : decode cX3_init 16 = .ok (.new 18, 3) := by decide +kernel
theorem dX3_init_19 : decode cX3_init 19 = .ok (.dup, 1) := by decide +kernel
theorem dX3_init_20 : decode cX3_init 20 = .ok (.invokespecial 20, 3) := by decide +kernel
theorem dX3_init_23 : decode cX3_init 23 = .ok (.putfield 21, 3) := by decide +kernel
theorem dX3_init_26 : decode cX3_init 26 = .ok (.aload_n 0, 1) := by decide +kernel
theorem dX3_init_27 : decode cX3_init 27 = .ok (.new 9, 3) := by decide +kernel
theorem dX3_init_30 : decode cX3_init 30 = .ok (.dup, 1) := by decide +kernel
theorem dX3_init_31 : decode cX3_init 31 = .ok (.invokespecial 11, 3) := by decide +kernel
theorem dX3_init_34 : decode cX3_init 34 = .ok (.putfield 25, 3) := by decide +kernel
theorem dX3_init_37 : decode cX3_init 37 = .ok (.aload_n 0, 1) := by decide +kernel
theorem dX3_init_38 : decode cX3_init 38 = .ok (.iconst 0, 1) := by decide +kernel
theorem dX3_init_39 : decode cX3_init 39 = .ok (.putfield 28, 3) := by decide +kernel
theorem dX3_init_42 : decode cX3_init 42 = .ok (.aload_n 0, 1) := by decide +kernel
theorem dX3_init_43 : decode cX3_init 43 = .ok (.iconst 0, 1) := by decide +kernel
theorem dX3_init_44 : decode cX3_init 44 = .ok (.putfield 32, 3) := by decide +kernel
theorem dX3_init_47 : decode cX3_init 47 = .ok (.aload_n 0, 1) := by decide +kernel
theorem dX3_init_48 : decode cX3_init 48 = .ok (.iconst 5, 1) := by decide +kernel
theorem dX3_init_49 : decode cX3_init 49 = .ok (.newarray .int, 2) := by decide +kernel
theorem dX3_init_51 : decode cX3_init 51 = .ok (.putfield 36, 3) := by decide +kernel
theorem dX3_init_54 : decode cX3_init 54 = .ok (.aload_n 0, 1) := by decide +kernel
theorem dX3_init_55 : decode cX3_init 55 = .ok (.iconst 0, 1) := by decide +kernel
theorem dX3_init_56 : decode cX3_init 56 = .ok (.putfield 40, 3) := by decide +kernel
theorem dX3_init_59 : decode cX3_init 59 = .ok (.aload_n 0, 1) := by decide +kernel
theorem dX3_init_60 : decode cX3_init 60 = .ok (.iconst 0, 1) := by decide +kernel
theorem dX3_init_61 : decode cX3_init 61 = .ok (.putfield 43, 3) := by decide +kernel
theorem dX3_init_64 : decode cX3_init 64 = .ok (.aload_n 0, 1) := by decide +kernel
theorem dX3_init_65 : decode cX3_init 65 = .ok (.iconst 0, 1) := by decide +kernel
theorem dX3_init_66 : decode cX3_init 66 = .ok (.putfield 46, 3) := by decide +kernel
theorem dX3_init_69 : decode cX3_init 69 = .ok (.return_, 1) := by decide +kernel
theorem dX3_copyFrom_0 : decode cX3_copyFrom 0 = .ok (.aload_n 0, 1) := by decide +kernel
theorem dX3_copyFrom_1 : decode cX3_copyFrom 1 = .ok (.getfield 12, 3) := by decide +kernel
theorem dX3_copyFrom_4 : decode cX3_copyFrom 4 = .ok (.aload_n 1, 1) := by decide +kernel
theorem dX3_copyFrom_5 : decode cX3_copyFrom 5 = .ok (.getfield 12, 3) := by decide +kernel
theorem dX3_copyFrom_8 : decode cX3_copyFrom 8 = .ok (.invokevirtual 49, 3) := by decide +kernel
theorem dX3_copyFrom_11 : decode cX3_copyFrom 11 = .ok (.aload_n 0, 1) := by decide +kernel
theorem dX3_copyFrom_12 : decode cX3_copyFrom 12 = .ok (.getfield 21, 3) := by decide +kernel
theorem dX3_copyFrom_15 : decode cX3_copyFrom 15 = .ok (.aload_n 1, 1) := by decide +kernel
theorem dX3_copyFrom_16 : decode cX3_copyFrom 16 = .ok (.getfield 21, 3) := by decide +kernel
theorem dX3_copyFrom_19 : decode cX3_copyFrom 19 = .ok (.invokevirtual 53, 3) := by decide +kernel
theorem dX3_copyFrom_22 : decode cX3_copyFrom 22 = .ok (.aload_n 0, 1) := by decide +kernel
theorem dX3_copyFrom_23 : decode cX3_copyFrom 23 = .ok (.getfield 25, 3) := by decide +kernel
theorem dX3_copyFrom_26 : decode cX3_copyFrom 26 = .ok (.aload_n 1, 1) := by decide +kernel
theorem dX3_copyFrom_27 : decode cX3_copyFrom 27 = .ok (.getfield 25, 3) := by decide +kernel
theorem dX3_copyFrom_30 : decode cX3_copyFrom 30 = .ok (.invokevirtual 49, 3) := by decide +kernel
theorem dX3_copyFrom_33 : decode cX3_copyFrom 33 = .ok (.aload_n 0, 1) := by decide +kernel
theorem dX3_copyFrom_34 : decode cX3_copyFrom 34 = .ok (.aload_n 1, 1) := by decide +kernel
theorem dX3_copyFrom_35 : decode cX3_copyFrom 35 = .ok (.getfield 28, 3) := by decide +kernel
theorem dX3_copyFrom_38 : decode cX3_copyFrom 38 = .ok (.putfield 28, 3) := by decide +kernel
theorem dX3_copyFrom_41 : decode cX3_copyFrom 41 = .ok (.aload_n 0, 1) := by decide +kernel
theorem dX3_copyFrom_42 : decode cX3_copyFrom 42 = .ok (.aload_n 1, 1) := by decide +kernel
theorem dX3_copyFrom_43 : decode cX3_copyFrom 43 = .ok (.getfield 32, 3) := by decide +kernel
theorem dX3_copyFrom_46 : decode cX3_copyFrom 46 = .ok (.putfield 32, 3) := by decide +kernel
theorem dX3_copyFrom_49 : decode cX3_copyFrom 49 = .ok (.iconst 0, 1) := by decide +kernel
theorem dX3_copyFrom_50 : decode cX3_copyFrom 50 = .ok (.istore_n 2, 1) := by decide +kernel
theorem dX3_copyFrom_51 : decode cX3_copyFrom 51 = .ok (.iload_n 2, 1) := by decide +kernel
theorem dX3_copyFrom_52 : decode cX3_copyFrom 52 = .ok (.iconst 5, 1) := by decide +kernel
theorem dX3_copyFrom_53 : decode cX3_copyFrom 53 = .ok (.if_icmp .ge 21, 3) := by decide +kernel
theorem dX3_copyFrom_56 : decode cX3_copyFrom 56 = .ok (.aload_n 0, 1) := by decide +kernel
theorem dX3_copyFrom_57 : decode cX3_copyFrom 57 = .ok (.getfield 36, 3) := by decide +kernel
theorem dX3_copyFrom_60 : decode cX3_copyFrom 60 = .ok (.iload_n 2, 1) := by decide +kernel
theorem dX3_copyFrom_61 : decode cX3_copyFrom 61 = .ok (.aload_n 1, 1) := by decide +kernel
theorem dX3_copyFrom_62 : decode cX3_copyFrom 62 = .ok (.getfield 36, 3) := by decide +kernel
theorem dX3_copyFrom_65 : decode cX3_copyFrom 65 = .ok (.iload_n 2, 1) := by decide +kernel
theorem dX3_copyFrom_66 : decode cX3_copyFrom 66 = .ok (.iaload, 1) := by decide +kernel
theorem dX3_copyFrom_67 : decode cX3_copyFrom 67 = .ok (.iastore, 1) := by decide +kernel
theorem dX3_copyFrom_68 : decode cX3_copyFrom 68 = .ok (.iinc 2 1, 3) := by decide +kernel
theorem dX3_copyFrom_71 : decode cX3_copyFrom 71 = .ok (.goto (-20), 3) := by decide +kernel
theorem dX3_copyFrom_74 : decode cX3_copyFrom 74 = .ok (.aload_n 0, 1) := by decide +kernel
theorem dX3_copyFrom_75 : decode cX3_copyFrom 75 = .ok (.aload_n 1, 1) := by decide +kernel
theorem dX3_copyFrom_76 : decode cX3_copyFrom 76 = .ok (.getfield 40, 3) := by decide +kernel
theorem dX3_copyFrom_79 : decode cX3_copyFrom 79 = .ok (.putfield 40, 3) := by decide +kernel
theorem dX3_copyFrom_82 : decode cX3_copyFrom 82 = .ok (.aload_n 0, 1) := by decide +kernel
theorem dX3_copyFrom_83 : decode cX3_copyFrom 83 = .ok (.aload_n 1, 1) := by decide +kernel
theorem dX3_copyFrom_84 : decode cX3_copyFrom 84 = .ok (.getfield 43, 3) := by decide +kernel
theorem dX3_copyFrom_87 : decode cX3_copyFrom 87 = .ok (.putfield 43, 3) := by decide +kernel
theorem dX3_copyFrom_90 : decode cX3_copyFrom 90 = .ok (.aload_n 0, 1) := by decide +kernel
theorem dX3_copyFrom_91 : decode cX3_copyFrom 91 = .ok (.aload_n 1, 1) := by decide +kernel
theorem dX3_copyFrom_92 : decode cX3_copyFrom 92 = .ok (.getfield 46, 3) := by decide +kernel
theorem dX3_copyFrom_95 : decode cX3_copyFrom 95 = .ok (.putfield 46, 3) := by decide +kernel
theorem dX3_copyFrom_98 : decode cX3_copyFrom 98 = .ok (.return_, 1) := by decide +kernel
theorem dX3_allows_0 : decode cX3_allows 0 = .ok (.aload_n 0, 1) := by decide +kernel
theorem dX3_allows_1 : decode cX3_allows 1 = .ok (.getfield 21, 3) := by decide +kernel
theorem dX3_allows_4 : decode cX3_allows 4 = .ok (.iload_n 1, 1) := by decide +kernel
theorem dX3_allows_5 : decode cX3_allows 5 = .ok (.invokestatic 56, 3) := by decide +kernel
theorem dX3_allows_8 : decode cX3_allows 8 = .ok (.invokevirtual 60, 3) := by decide +kernel
theorem dX3_allows_11 : decode cX3_allows 11 = .ok (.aload_n 0, 1) := by decide +kernel
theorem dX3_allows_12 : decode cX3_allows 12 = .ok (.getfield 32, 3) := by decide +kernel
theorem dX3_allows_15 : decode cX3_allows 15 = .ok (.iand, 1) := by decide +kernel
theorem dX3_allows_16 : decode cX3_allows 16 = .ok (.ifCond .ne 7, 3) := by decide +kernel
theorem dX3_allows_19 : decode cX3_allows 19 = .ok (.iconst 1, 1) := by decide +kernel
theorem dX3_allows_20 : decode cX3_allows 20 = .ok (.goto 4, 3) := by decide +kernel
theorem dX3_allows_23 : decode cX3_allows 23 = .ok (.iconst 0, 1) := by decide +kernel
theorem dX3_allows_24 : decode cX3_allows 24 = .ok (.ireturn, 1) := by decide +kernel
theorem dX3_stuckKeys_0 : decode cX3_stuckKeys 0 = .ok (.iconst 0, 1) := by decide +kernel
theorem dX3_stuckKeys_1 : decode cX3_stuckKeys 1 = .ok (.istore_n 1, 1) := by decide +kernel
theorem dX3_stuckKeys_2 : decode cX3_stuckKeys 2 = .ok (.iconst 0, 1) := by decide +kernel
theorem dX3_stuckKeys_3 : decode cX3_stuckKeys 3 = .ok (.istore_n 2, 1) := by decide +kernel
theorem dX3_stuckKeys_4 : decode cX3_stuckKeys 4 = .ok (.iload_n 2, 1) := by decide +kernel
theorem dX3_stuckKeys_5 : decode cX3_stuckKeys 5 = .ok (.iconst 5, 1) := by decide +kernel
theorem dX3_stuckKeys_6 : decode cX3_stuckKeys 6 = .ok (.if_icmp .ge 20, 3) := by decide +kernel
theorem dX3_stuckKeys_9 : decode cX3_stuckKeys 9 = .ok (.aload_n 0, 1) := by decide +kernel
theorem dX3_stuckKeys_10 : decode cX3_stuckKeys 10 = .ok (.iload_n 2, 1) := by decide +kernel
theorem dX3_stuckKeys_11 : decode cX3_stuckKeys 11 = .ok (.invokevirtual 63, 3) := by decide +kernel
theorem dX3_stuckKeys_14 : decode cX3_stuckKeys 14 = .ok (.ifCond .ne 6, 3) := by decide +kernel
theorem dX3_stuckKeys_17 : decode cX3_stuckKeys 17 = .ok (.iinc 1 1, 3) := by decide +kernel
theorem dX3_stuckKeys_20 : decode cX3_stuckKeys 20 = .ok (.iinc 2 1, 3) := by decide +kernel
theorem dX3_stuckKeys_23 : decode cX3_stuckKeys 23 = .ok (.goto (-19), 3) := by decide +kernel
theorem dX3_stuckKeys_26 : decode cX3_stuckKeys 26 = .ok (.iload_n 1, 1) := by decide +kernel
theorem dX3_stuckKeys_27 : decode cX3_stuckKeys 27 = .ok (.ireturn, 1) := by decide +kernel
theorem dX3_usesOf_0 : decode cX3_usesOf 0 = .ok (.iload_n 1, 1) := by decide +kernel
theorem dX3_usesOf_1 : decode cX3_usesOf 1 = .ok (.ifCond .lt 17, 3) := by decide +kernel
theorem dX3_usesOf_4 : decode cX3_usesOf 4 = .ok (.iload_n 1, 1) := by decide +kernel
theorem dX3_usesOf_5 : decode cX3_usesOf 5 = .ok (.iconst 5, 1) := by decide +kernel
theorem dX3_usesOf_6 : decode cX3_usesOf 6 = .ok (.if_icmp .ge 12, 3) := by decide +kernel
theorem dX3_usesOf_9 : decode cX3_usesOf 9 = .ok (.aload_n 0, 1) := by decide +kernel
theorem dX3_usesOf_10 : decode cX3_usesOf 10 = .ok (.getfield 36, 3) := by decide +kernel
theorem dX3_usesOf_13 : decode cX3_usesOf 13 = .ok (.iload_n 1, 1) := by decide +kernel
theorem dX3_usesOf_14 : decode cX3_usesOf 14 = .ok (.iaload, 1) := by decide +kernel
theorem dX3_usesOf_15 : decode cX3_usesOf 15 = .ok (.goto 4, 3) := by decide +kernel
theorem dX3_usesOf_18 : decode cX3_usesOf 18 = .ok (.iconst 0, 1) := by decide +kernel
theorem dX3_usesOf_19 : decode cX3_usesOf 19 = .ok (.ireturn, 1) := by decide +kernel
theorem dX3_asInSecret_0 : decode cX3_asInSecret 0 = .ok (.aload_n 0, 1) := by decide +kernel
theorem dX3_asInSecret_1 : decode cX3_asInSecret 1 = .ok (.getfield 28, 3) := by decide +kernel
theorem dX3_asInSecret_4 : decode cX3_asInSecret 4 = .ok (.ifCond .eq 14, 3) := by decide +kernel
theorem dX3_asInSecret_7 : decode cX3_asInSecret 7 = .ok (.aload_n 1, 1) := by decide +kernel
theorem dX3_asInSecret_8 : decode cX3_asInSecret 8 = .ok (.aload_n 0, 1) := by decide +kernel
theorem dX3_asInSecret_9 : decode cX3_asInSecret 9 = .ok (.getfield 25, 3) := by decide +kernel
theorem dX3_asInSecret_12 : decode cX3_asInSecret 12 = .ok (.invokevirtual 67, 3) := by decide +kernel
theorem dX3_asInSecret_15 : decode cX3_asInSecret 15 = .ok (.goto 4, 3) := by decide +kernel
theorem dX3_asInSecret_18 : decode cX3_asInSecret 18 = .ok (.iconst 0, 1) := by decide +kernel
theorem dX3_asInSecret_19 : decode cX3_asInSecret 19 = .ok (.ireturn, 1) := by decide +kernel
theorem dX3_opens_0 : decode cX3_opens 0 = .ok (.aload_n 0, 1) := by decide +kernel
theorem dX3_opens_1 : decode cX3_opens 1 = .ok (.aload_n 0, 1) := by decide +kernel
theorem dX3_opens_2 : decode cX3_opens 2 = .ok (.getfield 12, 3) := by decide +kernel
theorem dX3_opens_5 : decode cX3_opens 5 = .ok (.invokevirtual 71, 3) := by decide +kernel
theorem dX3_opens_8 : decode cX3_opens 8 = .ok (.bipush 6, 2) := by decide +kernel
theorem dX3_opens_10 : decode cX3_opens 10 = .ok (.if_icmp .ne 7, 3) := by decide +kernel
theorem dX3_opens_13 : decode cX3_opens 13 = .ok (.iconst 1, 1) := by decide +kernel
theorem dX3_opens_14 : decode cX3_opens 14 = .ok (.goto 4, 3) := by decide +kernel
theorem dX3_opens_17 : decode cX3_opens 17 = .ok (.iconst 0, 1) := by decide +kernel
theorem dX3_opens_18 : decode cX3_opens 18 = .ok (.ireturn, 1) := by decide +kernel
theorem dX3_doMove_0 : decode cX3_doMove 0 = .ok (.aload_n 0, 1) := by decide +kernel
theorem dX3_doMove_1 : decode cX3_doMove 1 = .ok (.invokevirtual 74, 3) := by decide +kernel
theorem dX3_doMove_4 : decode cX3_doMove 4 = .ok (.istore_n 2, 1) := by decide +kernel
theorem dX3_doMove_5 : decode cX3_doMove 5 = .ok (.aload_n 0, 1) := by decide +kernel
theorem dX3_doMove_6 : decode cX3_doMove 6 = .ok (.getfield 21, 3) := by decide +kernel
theorem dX3_doMove_9 : decode cX3_doMove 9 = .ok (.aload_n 0, 1) := by decide +kernel
theorem dX3_doMove_10 : decode cX3_doMove 10 = .ok (.getfield 12, 3) := by decide +kernel
theorem dX3_doMove_13 : decode cX3_doMove 13 = .ok (.iload_n 1, 1) := by decide +kernel
theorem dX3_doMove_14 : decode cX3_doMove 14 = .ok (.invokevirtual 78, 3) := by decide +kernel
theorem dX3_doMove_17 : decode cX3_doMove 17 = .ok (.aload_n 0, 1) := by decide +kernel
theorem dX3_doMove_18 : decode cX3_doMove 18 = .ok (.aload_n 0, 1) := by decide +kernel
theorem dX3_doMove_19 : decode cX3_doMove 19 = .ok (.getfield 43, 3) := by decide +kernel
theorem dX3_doMove_22 : decode cX3_doMove 22 = .ok (.aload_n 0, 1) := by decide +kernel
theorem dX3_doMove_23 : decode cX3_doMove 23 = .ok (.getfield 21, 3) := by decide +kernel
theorem dX3_doMove_26 : decode cX3_doMove 26 = .ok (.iload_n 1, 1) := by decide +kernel
theorem dX3_doMove_27 : decode cX3_doMove 27 = .ok (.invokevirtual 82, 3) := by decide +kernel
theorem dX3_doMove_30 : decode cX3_doMove 30 = .ok (.iadd, 1) := by decide +kernel
theorem dX3_doMove_31 : decode cX3_doMove 31 = .ok (.iconst 5, 1) := by decide +kernel
theorem dX3_doMove_32 : decode cX3_doMove 32 = .ok (.invokestatic 85, 3) := by decide +kernel
theorem dX3_doMove_35 : decode cX3_doMove 35 = .ok (.putfield 43, 3) := by decide +kernel
theorem dX3_doMove_38 : decode cX3_doMove 38 = .ok (.aload_n 0, 1) := by decide +kernel
theorem dX3_doMove_39 : decode cX3_doMove 39 = .ok (.dup, 1) := by decide +kernel
theorem dX3_doMove_40 : decode cX3_doMove 40 = .ok (.getfield 40, 3) := by decide +kernel
theorem dX3_doMove_43 : decode cX3_doMove 43 = .ok (.iconst 1, 1) := by decide +kernel
theorem dX3_doMove_44 : decode cX3_doMove 44 = .ok (.iadd, 1) := by decide +kernel
theorem dX3_doMove_45 : decode cX3_doMove 45 = .ok (.putfield 40, 3) := by decide +kernel
theorem dX3_doMove_48 : decode cX3_doMove 48 = .ok (.iload_n 1, 1) := by decide +kernel
theorem dX3_doMove_49 : decode cX3_doMove 49 = .ok (.invokestatic 56, 3) := by decide +kernel
theorem dX3_doMove_52 : decode cX3_doMove 52 = .ok (.istore_n 3, 1) := by decide +kernel
theorem dX3_doMove_53 : decode cX3_doMove 53 = .ok (.iload_n 3, 1) := by decide +kernel
theorem dX3_doMove_54 : decode cX3_doMove 54 = .ok (.ifCond .lt 18, 3) := by decide +kernel
theorem dX3_doMove_57 : decode cX3_doMove 57 = .ok (.iload_n 3, 1) := by decide +kernel
theorem dX3_doMove_58 : decode cX3_doMove 58 = .ok (.iconst 5, 1) := by decide +kernel
theorem dX3_doMove_59 : decode cX3_doMove 59 = .ok (.if_icmp .ge 13, 3) := by decide +kernel
theorem dX3_doMove_62 : decode cX3_doMove 62 = .ok (.aload_n 0, 1) := by decide +kernel
theorem dX3_doMove_63 : decode cX3_doMove 63 = .ok (.getfield 36, 3) := by decide +kernel
theorem dX3_doMove_66 : decode cX3_doMove 66 = .ok (.iload_n 3, 1) := by decide +kernel
theorem dX3_doMove_67 : decode cX3_doMove 67 = .ok (.dup2, 1) := by decide +kernel
theorem dX3_doMove_68 : decode cX3_doMove 68 = .ok (.iaload, 1) := by decide +kernel
theorem dX3_doMove_69 : decode cX3_doMove 69 = .ok (.iconst 1, 1) := by decide +kernel
theorem dX3_doMove_70 : decode cX3_doMove 70 = .ok (.iadd, 1) := by decide +kernel
theorem dX3_doMove_71 : decode cX3_doMove 71 = .ok (.iastore, 1) := by decide +kernel
theorem dX3_doMove_72 : decode cX3_doMove 72 = .ok (.iload_n 2, 1) := by decide +kernel
theorem dX3_doMove_73 : decode cX3_doMove 73 = .ok (.ifCond .ne 20, 3) := by decide +kernel
theorem dX3_doMove_76 : decode cX3_doMove 76 = .ok (.aload_n 0, 1) := by decide +kernel
theorem dX3_doMove_77 : decode cX3_doMove 77 = .ok (.invokevirtual 74, 3) := by decide +kernel
theorem dX3_doMove_80 : decode cX3_doMove 80 = .ok (.ifCond .eq 13, 3) := by decide +kernel
theorem dX3_doMove_83 : decode cX3_doMove 83 = .ok (.aload_n 0, 1) := by decide +kernel
theorem dX3_doMove_84 : decode cX3_doMove 84 = .ok (.dup, 1) := by decide +kernel
theorem dX3_doMove_85 : decode cX3_doMove 85 = .ok (.getfield 46, 3) := by decide +kernel
theorem dX3_doMove_88 : decode cX3_doMove 88 = .ok (.iconst 1, 1) := by decide +kernel
theorem dX3_doMove_89 : decode cX3_doMove 89 = .ok (.iadd, 1) := by decide +kernel
theorem dX3_doMove_90 : decode cX3_doMove 90 = .ok (.putfield 46, 3) := by decide +kernel
theorem dX3_doMove_93 : decode cX3_doMove 93 = .ok (.return_, 1) := by decide +kernel
theorem dX4_init_0 : decode cX4_init 0 = .ok (.aload_n 0, 1) := by decide +kernel
theorem dX4_init_1 : decode cX4_init 1 = .ok (.invokespecial 3, 3) := by decide +kernel
theorem dX4_init_4 : decode cX4_init 4 = .ok (.aload_n 0, 1) := by decide +kernel
theorem dX4_init_5 : decode cX4_init 5 = .ok (.bipush 60, 2) := by decide +kernel
theorem dX4_init_7 : decode cX4_init 7 = .ok (.newarray .char, 2) := by decide +kernel
theorem dX4_init_9 : decode cX4_init 9 = .ok (.putfield 9, 3) := by decide +kernel
theorem dX4_init_12 : decode cX4_init 12 = .ok (.aload_n 0, 1) := by decide +kernel
theorem dX4_init_13 : decode cX4_init 13 = .ok (.iconst 0, 1) := by decide +kernel
theorem dX4_init_14 : decode cX4_init 14 = .ok (.putfield 15, 3) := by decide +kernel
theorem dX4_init_17 : decode cX4_init 17 = .ok (.aload_n 0, 1) := by decide +kernel
theorem dX4_init_18 : decode cX4_init 18 = .ok (.sipush 500, 3) := by decide +kernel
theorem dX4_init_21 : decode cX4_init 21 = .ok (.newarray .int, 2) := by decide +kernel
theorem dX4_init_23 : decode cX4_init 23 = .ok (.putfield 19, 3) := by decide +kernel
theorem dX4_init_26 : decode cX4_init 26 = .ok (.aload_n 0, 1) := by decide +kernel
theorem dX4_init_27 : decode cX4_init 27 = .ok (.iconst 0, 1) := by decide +kernel
theorem dX4_init_28 : decode cX4_init 28 = .ok (.putfield 23, 3) := by decide +kernel
theorem dX4_init_31 : decode cX4_init 31 = .ok (.aload_n 0, 1) := by decide +kernel
theorem dX4_init_32 : decode cX4_init 32 = .ok (.iconst 0, 1) := by decide +kernel
theorem dX4_init_33 : decode cX4_init 33 = .ok (.putfield 26, 3) := by decide +kernel
theorem dX4_init_36 : decode cX4_init 36 = .ok (.aload_n 0, 1) := by decide +kernel
theorem dX4_init_37 : decode cX4_init 37 = .ok (.iconst 4, 1) := by decide +kernel
theorem dX4_init_38 : decode cX4_init 38 = .ok (.newarray .int, 2) := by decide +kernel
theorem dX4_init_40 : decode cX4_init 40 = .ok (.putfield 30, 3) := by decide +kernel
theorem dX4_init_43 : decode cX4_init 43 = .ok (.aload_n 0, 1) := by decide +kernel
theorem dX4_init_44 : decode cX4_init 44 = .ok (.iconst 4, 1) := by decide +kernel
theorem dX4_init_45 : decode cX4_init 45 = .ok (.newarray .int, 2) := by decide +kernel
theorem dX4_init_47 : decode cX4_init 47 = .ok (.putfield 33, 3) := by decide +kernel
theorem dX4_init_50 : decode cX4_init 50 = .ok (.aload_n 0, 1) := by decide +kernel
theorem dX4_init_51 : decode cX4_init 51 = .ok (.iconst 4, 1) := by decide +kernel
theorem dX4_init_52 : decode cX4_init 52 = .ok (.newarray .int, 2) := by decide +kernel
theorem dX4_init_54 : decode cX4_init 54 = .ok (.putfield 36, 3) := by decide +kernel
theorem dX4_init_57 : decode cX4_init 57 = .ok (.aload_n 0, 1) := by decide +kernel
theorem dX4_init_58 : decode cX4_init 58 = .ok (.iconst 0, 1) := by decide +kernel
theorem dX4_init_59 : decode cX4_init 59 = .ok (.putfield 39, 3) := by decide +kernel
theorem dX4_init_62 : decode cX4_init 62 = .ok (.aload_n 0, 1) := by decide +kernel
theorem dX4_init_63 : decode cX4_init 63 = .ok (.iconst 0, 1) := by decide +kernel
theorem dX4_init_64 : decode cX4_init 64 = .ok (.putfield 42, 3) := by decide +kernel
theorem dX4_init_67 : decode cX4_init 67 = .ok (.aload_n 0, 1) := by decide +kernel
theorem dX4_init_68 : decode cX4_init 68 = .ok (.iconst 0, 1) := by decide +kernel
theorem dX4_init_69 : decode cX4_init 69 = .ok (.putfield 45, 3) := by decide +kernel
theorem dX4_init_72 : decode cX4_init 72 = .ok (.return_, 1) := by decide +kernel
theorem dX5_init_0 : decode cX5_init 0 = .ok (.aload_n 0, 1) := by decide +kernel
theorem dX5_init_1 : decode cX5_init 1 = .ok (.invokespecial 3, 3) := by decide +kernel
theorem dX5_init_4 : decode cX5_init 4 = .ok (.aload_n 0, 1) := by decide +kernel
theorem dX5_init_5 : decode cX5_init 5 = .ok (.new 9, 3) := by decide +kernel
theorem dX5_init_8 : decode cX5_init 8 = .ok (.dup, 1) := by decide +kernel
theorem dX5_init_9 : decode cX5_init 9 = .ok (.invokespecial 11, 3) := by decide +kernel
theorem dX5_init_12 : decode cX5_init 12 = .ok (.putfield 12, 3) := by decide +kernel
theorem dX5_init_15 : decode cX5_init 15 = .ok (.aload_n 0, 1) := by decide +kernel
theorem dX5_init_16 : decode cX5_init 16 = .ok (.new 9, 3) := by decide +kernel
theorem dX5_init_19 : decode cX5_init 19 = .ok (.dup, 1) := by decide +kernel
theorem dX5_init_20 : decode cX5_init 20 = .ok (.invokespecial 11, 3) := by decide +kernel
theorem dX5_init_23 : decode cX5_init 23 = .ok (.putfield 16, 3) := by decide +kernel
theorem dX5_init_26 : decode cX5_init 26 = .ok (.aload_n 0, 1) := by decide +kernel
theorem dX5_init_27 : decode cX5_init 27 = .ok (.iconst 0, 1) := by decide +kernel
theorem dX5_init_28 : decode cX5_init 28 = .ok (.putfield 19, 3) := by decide +kernel
theorem dX5_init_31 : decode cX5_init 31 = .ok (.aload_n 0, 1) := by decide +kernel
theorem dX5_init_32 : decode cX5_init 32 = .ok (.bipush 6, 2) := by decide +kernel
theorem dX5_init_34 : decode cX5_init 34 = .ok (.anewarray 9, 3) := by decide +kernel
theorem dX5_init_37 : decode cX5_init 37 = .ok (.putfield 23, 3) := by decide +kernel
theorem dX5_init_40 : decode cX5_init 40 = .ok (.aload_n 0, 1) := by decide +kernel
theorem dX5_init_41 : decode cX5_init 41 = .ok (.iconst 0, 1) := by decide +kernel
theorem dX5_init_42 : decode cX5_init 42 = .ok (.putfield 27, 3) := by decide +kernel
theorem dX5_init_45 : decode cX5_init 45 = .ok (.aload_n 0, 1) := by decide +kernel
theorem dX5_init_46 : decode cX5_init 46 = .ok (.new 31, 3) := by decide +kernel
theorem dX5_init_49 : decode cX5_init 49 = .ok (.dup, 1) := by decide +kernel
theorem dX5_init_50 : decode cX5_init 50 = .ok (.invokespecial 33, 3) := by decide +kernel
theorem dX5_init_53 : decode cX5_init 53 = .ok (.putfield 34, 3) := by decide +kernel
theorem dX5_init_56 : decode cX5_init 56 = .ok (.aload_n 0, 1) := by decide +kernel
theorem dX5_init_57 : decode cX5_init 57 = .ok (.new 38, 3) := by decide +kernel
theorem dX5_init_60 : decode cX5_init 60 = .ok (.dup, 1) := by decide +kernel
theorem dX5_init_61 : decode cX5_init 61 = .ok (.invokespecial 40, 3) := by decide +kernel
theorem dX5_init_64 : decode cX5_init 64 = .ok (.putfield 41, 3) := by decide +kernel
theorem dX5_init_67 : decode cX5_init 67 = .ok (.aload_n 0, 1) := by decide +kernel
theorem dX5_init_68 : decode cX5_init 68 = .ok (.new 38, 3) := by decide +kernel
theorem dX5_init_71 : decode cX5_init 71 = .ok (.dup, 1) := by decide +kernel
theorem dX5_init_72 : decode cX5_init 72 = .ok (.invokespecial 40, 3) := by decide +kernel
theorem dX5_init_75 : decode cX5_init 75 = .ok (.putfield 45, 3) := by decide +kernel
theorem dX5_init_78 : decode cX5_init 78 = .ok (.aload_n 0, 1) := by decide +kernel
theorem dX5_init_79 : decode cX5_init 79 = .ok (.new 48, 3) := by decide +kernel
theorem dX5_init_82 : decode cX5_init 82 = .ok (.dup, 1) := by decide +kernel
theorem dX5_init_83 : decode cX5_init 83 = .ok (.invokespecial 50, 3) := by decide +kernel
theorem dX5_init_86 : decode cX5_init 86 = .ok (.putfield 51, 3) := by decide +kernel
theorem dX5_init_89 : decode cX5_init 89 = .ok (.iconst 0, 1) := by decide +kernel
theorem dX5_init_90 : decode cX5_init 90 = .ok (.istore_n 1, 1) := by decide +kernel
theorem dX5_init_91 : decode cX5_init 91 = .ok (.iload_n 1, 1) := by decide +kernel
theorem dX5_init_92 : decode cX5_init 92 = .ok (.bipush 6, 2) := by decide +kernel
theorem dX5_init_94 : decode cX5_init 94 = .ok (.if_icmp .ge 22, 3) := by decide +kernel
theorem dX5_init_97 : decode cX5_init 97 = .ok (.aload_n 0, 1) := by decide +kernel
theorem dX5_init_98 : decode cX5_init 98 = .ok (.getfield 23, 3) := by decide +kernel
theorem dX5_init_101 : decode cX5_init 101 = .ok (.iload_n 1, 1) := by decide +kernel
theorem dX5_init_102 : decode cX5_init 102 = .ok (.new 9, 3) := by decide +kernel
theorem dX5_init_105 : decode cX5_init 105 = .ok (.dup, 1) := by decide +kernel
theorem dX5_init_106 : decode cX5_init 106 = .ok (.invokespecial 11, 3) := by decide +kernel
theorem dX5_init_109 : decode cX5_init 109 = .ok (.aastore, 1) := by decide +kernel
theorem dX5_init_110 : decode cX5_init 110 = .ok (.iinc 1 1, 3) := by decide +kernel
theorem dX5_init_113 : decode cX5_init 113 = .ok (.goto (-22), 3) := by decide +kernel
theorem dX5_init_116 : decode cX5_init 116 = .ok (.return_, 1) := by decide +kernel
theorem dX5_turn_0 : decode cX5_turn 0 = .ok (.aload_n 0, 1) := by decide +kernel
theorem dX5_turn_1 : decode cX5_turn 1 = .ok (.iload_n 1, 1) := by decide +kernel
theorem dX5_turn_2 : decode cX5_turn 2 = .ok (.iconst 0, 1) := by decide +kernel
theorem dX5_turn_3 : decode cX5_turn 3 = .ok (.invokevirtual 55, 3) := by decide +kernel
theorem dX5_turn_6 : decode cX5_turn 6 = .ok (.ireturn, 1) := by decide +kernel
theorem dX5_back_0 : decode cX5_back 0 = .ok (.aload_n 0, 1) := by decide +kernel
theorem dX5_back_1 : decode cX5_back 1 = .ok (.iload_n 1, 1) := by decide +kernel
theorem dX5_back_2 : decode cX5_back 2 = .ok (.iconst 1, 1) := by decide +kernel
theorem dX5_back_3 : decode cX5_back 3 = .ok (.invokevirtual 55, 3) := by decide +kernel
theorem dX5_back_6 : decode cX5_back 6 = .ok (.ireturn, 1) := by decide +kernel
theorem dX5_home_0 : decode cX5_home 0 = .ok (.aload_n 0, 1) := by decide +kernel
theorem dX5_home_1 : decode cX5_home 1 = .ok (.invokevirtual 81, 3) := by decide +kernel
theorem dX5_home_4 : decode cX5_home 4 = .ok (.aload_n 0, 1) := by decide +kernel
theorem dX5_home_5 : decode cX5_home 5 = .ok (.getfield 12, 3) := by decide +kernel
theorem dX5_home_8 : decode cX5_home 8 = .ok (.getfield 99, 3) := by decide +kernel
theorem dX5_home_11 : decode cX5_home 11 = .ok (.invokevirtual 102, 3) := by decide +kernel
theorem dX5_home_14 : decode cX5_home 14 = .ok (.invokestatic 105, 3) := by decide +kernel
theorem dX5_home_17 : decode cX5_home 17 = .ok (.istore_n 1, 1) := by decide +kernel
theorem dX5_home_18 : decode cX5_home 18 = .ok (.aload_n 0, 1) := by decide +kernel
theorem dX5_home_19 : decode cX5_home 19 = .ok (.getfield 12, 3) := by decide +kernel
theorem dX5_home_22 : decode cX5_home 22 = .ok (.getfield 99, 3) := by decide +kernel
theorem dX5_home_25 : decode cX5_home 25 = .ok (.invokevirtual 110, 3) := by decide +kernel
theorem dX5_home_28 : decode cX5_home 28 = .ok (.aload_n 0, 1) := by decide +kernel
theorem dX5_home_29 : decode cX5_home 29 = .ok (.getfield 12, 3) := by decide +kernel
theorem dX5_home_32 : decode cX5_home 32 = .ok (.iconst 0, 1) := by decide +kernel
theorem dX5_home_33 : decode cX5_home 33 = .ok (.putfield 113, 3) := by decide +kernel
theorem dX5_home_36 : decode cX5_home 36 = .ok (.iload_n 1, 1) := by decide +kernel
theorem dX5_home_37 : decode cX5_home 37 = .ok (.ireturn, 1) := by decide +kernel
theorem dX5_cut_0 : decode cX5_cut 0 = .ok (.iload_n 1, 1) := by decide +kernel
theorem dX5_cut_1 : decode cX5_cut 1 = .ok (.invokestatic 116, 3) := by decide +kernel
theorem dX5_cut_4 : decode cX5_cut 4 = .ok (.iload_n 2, 1) := by decide +kernel
theorem dX5_cut_5 : decode cX5_cut 5 = .ok (.invokestatic 119, 3) := by decide +kernel
theorem dX5_cut_8 : decode cX5_cut 8 = .ok (.ifCond .eq 12, 3) := by decide +kernel
theorem dX5_cut_11 : decode cX5_cut 11 = .ok (.iload_n 3, 1) := by decide +kernel
theorem dX5_cut_12 : decode cX5_cut 12 = .ok (.ifCond .lt 8, 3) := by decide +kernel
theorem dX5_cut_15 : decode cX5_cut 15 = .ok (.iload_n 3, 1) := by decide +kernel
theorem dX5_cut_16 : decode cX5_cut 16 = .ok (.iconst 5, 1) := by decide +kernel
theorem dX5_cut_17 : decode cX5_cut 17 = .ok (.if_icmp .lt 13, 3) := by decide +kernel
theorem dX5_cut_20 : decode cX5_cut 20 = .ok (.new 66, 3) := by decide +kernel
theorem dX5_cut_23 : decode cX5_cut 23 = .ok (.dup, 1) := by decide +kernel
theorem dX5_cut_24 : decode cX5_cut 24 = .ok (.ldc 122, 2) := by decide +kernel
theorem dX5_cut_26 : decode cX5_cut 26 = .ok (.invokespecial 70, 3) := by decide +kernel
theorem dX5_cut_29 : decode cX5_cut 29 = .ok (.athrow, 1) := by decide +kernel
theorem dX5_cut_30 : decode cX5_cut 30 = .ok (.aload_n 0, 1) := by decide +kernel
theorem dX5_cut_31 : decode cX5_cut 31 = .ok (.invokevirtual 81, 3) := by decide +kernel
theorem dX5_cut_34 : decode cX5_cut 34 = .ok (.aload_n 0, 1) := by decide +kernel
theorem dX5_cut_35 : decode cX5_cut 35 = .ok (.getfield 12, 3) := by decide +kernel
theorem dX5_cut_38 : decode cX5_cut 38 = .ok (.getfield 124, 3) := by decide +kernel
theorem dX5_cut_41 : decode cX5_cut 41 = .ok (.iload_n 1, 1) := by decide +kernel
theorem dX5_cut_42 : decode cX5_cut 42 = .ok (.invokevirtual 128, 3) := by decide +kernel
theorem dX5_cut_45 : decode cX5_cut 45 = .ok (.istore 4, 2) := by decide +kernel
theorem dX5_cut_47 : decode cX5_cut 47 = .ok (.aload_n 0, 1) := by decide +kernel
theorem dX5_cut_48 : decode cX5_cut 48 = .ok (.getfield 12, 3) := by decide +kernel
theorem dX5_cut_51 : decode cX5_cut 51 = .ok (.getfield 124, 3) := by decide +kernel
theorem dX5_cut_54 : decode cX5_cut 54 = .ok (.iload_n 1, 1) := by decide +kernel
theorem dX5_cut_55 : decode cX5_cut 55 = .ok (.iload_n 2, 1) := by decide +kernel
theorem dX5_cut_56 : decode cX5_cut 56 = .ok (.iload_n 3, 1) := by decide +kernel
theorem dX5_cut_57 : decode cX5_cut 57 = .ok (.invokevirtual 133, 3) := by decide +kernel
theorem dX5_cut_60 : decode cX5_cut 60 = .ok (.iload 4, 2) := by decide +kernel
theorem dX5_cut_62 : decode cX5_cut 62 = .ok (.ireturn, 1) := by decide +kernel
theorem dX5_stick_0 : decode cX5_stick 0 = .ok (.iload_n 1, 1) := by decide +kernel
theorem dX5_stick_1 : decode cX5_stick 1 = .ok (.invokestatic 137, 3) := by decide +kernel
theorem dX5_stick_4 : decode cX5_stick 4 = .ok (.aload_n 0, 1) := by decide +kernel
theorem dX5_stick_5 : decode cX5_stick 5 = .ok (.invokevirtual 81, 3) := by decide +kernel
theorem dX5_stick_8 : decode cX5_stick 8 = .ok (.aload_n 0, 1) := by decide +kernel
theorem dX5_stick_9 : decode cX5_stick 9 = .ok (.getfield 12, 3) := by decide +kernel
theorem dX5_stick_12 : decode cX5_stick 12 = .ok (.aload_n 0, 1) := by decide +kernel
theorem dX5_stick_13 : decode cX5_stick 13 = .ok (.getfield 12, 3) := by decide +kernel
theorem dX5_stick_16 : decode cX5_stick 16 = .ok (.getfield 140, 3) := by decide +kernel
theorem dX5_stick_19 : decode cX5_stick 19 = .ok (.iconst 1, 1) := by decide +kernel
theorem dX5_stick_20 : decode cX5_stick 20 = .ok (.iload_n 1, 1) := by decide +kernel
theorem dX5_stick_21 : decode cX5_stick 21 = .ok (.ishl, 1) := by decide +kernel
theorem dX5_stick_22 : decode cX5_stick 22 = .ok (.ixor, 1) := by decide +kernel
theorem dX5_stick_23 : decode cX5_stick 23 = .ok (.putfield 140, 3) := by decide +kernel
theorem dX5_stick_26 : decode cX5_stick 26 = .ok (.aload_n 0, 1) := by decide +kernel
theorem dX5_stick_27 : decode cX5_stick 27 = .ok (.getfield 12, 3) := by decide +kernel
theorem dX5_stick_30 : decode cX5_stick 30 = .ok (.invokevirtual 143, 3) := by decide +kernel
theorem dX5_stick_33 : decode cX5_stick 33 = .ok (.ireturn, 1) := by decide +kernel
theorem dX5_learn_0 : decode cX5_learn 0 = .ok (.aload_n 0, 1) := by decide +kernel
theorem dX5_learn_1 : decode cX5_learn 1 = .ok (.invokevirtual 81, 3) := by decide +kernel
theorem dX5_learn_4 : decode cX5_learn 4 = .ok (.aload_n 0, 1) := by decide +kernel
theorem dX5_learn_5 : decode cX5_learn 5 = .ok (.getfield 12, 3) := by decide +kernel
theorem dX5_learn_8 : decode cX5_learn 8 = .ok (.getfield 146, 3) := by decide +kernel
theorem dX5_learn_11 : decode cX5_learn 11 = .ok (.aload_n 0, 1) := by decide +kernel
theorem dX5_learn_12 : decode cX5_learn 12 = .ok (.getfield 12, 3) := by decide +kernel
theorem dX5_learn_15 : decode cX5_learn 15 = .ok (.getfield 99, 3) := by decide +kernel
theorem dX5_learn_18 : decode cX5_learn 18 = .ok (.invokevirtual 149, 3) := by decide +kernel
theorem dX5_learn_21 : decode cX5_learn 21 = .ok (.aload_n 0, 1) := by decide +kernel
theorem dX5_learn_22 : decode cX5_learn 22 = .ok (.getfield 12, 3) := by decide +kernel
theorem dX5_learn_25 : decode cX5_learn 25 = .ok (.iconst 1, 1) := by decide +kernel
theorem dX5_learn_26 : decode cX5_learn 26 = .ok (.putfield 153, 3) := by decide +kernel
theorem dX5_learn_29 : decode cX5_learn 29 = .ok (.aload_n 0, 1) := by decide +kernel
theorem dX5_learn_30 : decode cX5_learn 30 = .ok (.getfield 12, 3) := by decide +kernel
theorem dX5_learn_33 : decode cX5_learn 33 = .ok (.getfield 99, 3) := by decide +kernel
theorem dX5_learn_36 : decode cX5_learn 36 = .ok (.invokevirtual 156, 3) := by decide +kernel
theorem dX5_learn_39 : decode cX5_learn 39 = .ok (.ireturn, 1) := by decide +kernel
theorem dX5_goBack_0 : decode cX5_goBack 0 = .ok (.aload_n 0, 1) := by decide +kernel
theorem dX5_goBack_1 : decode cX5_goBack 1 = .ok (.getfield 19, 3) := by decide +kernel
theorem dX5_goBack_4 : decode cX5_goBack 4 = .ok (.ifCond .ne 13, 3) := by decide +kernel
theorem dX5_goBack_7 : decode cX5_goBack 7 = .ok (.new 76, 3) := by decide +kernel
theorem dX5_goBack_10 : decode cX5_goBack 10 = .ok (.dup, 1) := by decide +kernel
theorem dX5_goBack_11 : decode cX5_goBack 11 = .ok (.ldc 173, 2) := by decide +kernel
theorem dX5_goBack_13 : decode cX5_goBack 13 = .ok (.invokespecial 80, 3) := by decide +kernel
theorem dX5_goBack_16 : decode cX5_goBack 16 = .ok (.athrow, 1) := by decide +kernel
theorem dX5_goBack_17 : decode cX5_goBack 17 = .ok (.aload_n 0, 1) := by decide +kernel
theorem dX5_goBack_18 : decode cX5_goBack 18 = .ok (.invokevirtual 81, 3) := by decide +kernel
theorem dX5_goBack_21 : decode cX5_goBack 21 = .ok (.aload_n 0, 1) := by decide +kernel
theorem dX5_goBack_22 : decode cX5_goBack 22 = .ok (.getfield 12, 3) := by decide +kernel
theorem dX5_goBack_25 : decode cX5_goBack 25 = .ok (.aload_n 0, 1) := by decide +kernel
theorem dX5_goBack_26 : decode cX5_goBack 26 = .ok (.getfield 16, 3) := by decide +kernel
theorem dX5_goBack_29 : decode cX5_goBack 29 = .ok (.invokevirtual 167, 3) := by decide +kernel
theorem dX5_goBack_32 : decode cX5_goBack 32 = .ok (.aload_n 0, 1) := by decide +kernel
theorem dX5_goBack_33 : decode cX5_goBack 33 = .ok (.getfield 12, 3) := by decide +kernel
theorem dX5_goBack_36 : decode cX5_goBack 36 = .ok (.getfield 170, 3) := by decide +kernel
theorem dX5_goBack_39 : decode cX5_goBack 39 = .ok (.ireturn, 1) := by decide +kernel
theorem dX5_undo_0 : decode cX5_undo 0 = .ok (.aload_n 0, 1) := by decide +kernel
theorem dX5_undo_1 : decode cX5_undo 1 = .ok (.getfield 27, 3) := by decide +kernel
theorem dX5_undo_4 : decode cX5_undo 4 = .ok (.ifCond .le 12, 3) := by decide +kernel
theorem dX5_undo_7 : decode cX5_undo 7 = .ok (.aload_n 0, 1) := by decide +kernel
theorem dX5_undo_8 : decode cX5_undo 8 = .ok (.getfield 27, 3) := by decide +kernel
theorem dX5_undo_11 : decode cX5_undo 11 = .ok (.bipush 6, 2) := by decide +kernel
theorem dX5_undo_13 : decode cX5_undo 13 = .ok (.if_icmp .le 13, 3) := by decide +kernel
theorem dX5_undo_16 : decode cX5_undo 16 = .ok (.new 76, 3) := by decide +kernel
theorem dX5_undo_19 : decode cX5_undo 19 = .ok (.dup, 1) := by decide +kernel
theorem dX5_undo_20 : decode cX5_undo 20 = .ok (.ldc 175, 2) := by decide +kernel
theorem dX5_undo_22 : decode cX5_undo 22 = .ok (.invokespecial 80, 3) := by decide +kernel
theorem dX5_undo_25 : decode cX5_undo 25 = .ok (.athrow, 1) := by decide +kernel
theorem dX5_undo_26 : decode cX5_undo 26 = .ok (.aload_n 0, 1) := by decide +kernel
theorem dX5_undo_27 : decode cX5_undo 27 = .ok (.dup, 1) := by decide +kernel
theorem dX5_undo_28 : decode cX5_undo 28 = .ok (.getfield 27, 3) := by decide +kernel
theorem dX5_undo_31 : decode cX5_undo 31 = .ok (.iconst 1, 1) := by decide +kernel
theorem dX5_undo_32 : decode cX5_undo 32 = .ok (.isub, 1) := by decide +kernel
theorem dX5_undo_33 : decode cX5_undo 33 = .ok (.putfield 27, 3) := by decide +kernel
theorem dX5_undo_36 : decode cX5_undo 36 = .ok (.aload_n 0, 1) := by decide +kernel
theorem dX5_undo_37 : decode cX5_undo 37 = .ok (.getfield 23, 3) := by decide +kernel
theorem dX5_undo_40 : decode cX5_undo 40 = .ok (.aload_n 0, 1) := by decide +kernel
theorem dX5_undo_41 : decode cX5_undo 41 = .ok (.getfield 27, 3) := by decide +kernel
theorem dX5_undo_44 : decode cX5_undo 44 = .ok (.aaload, 1) := by decide +kernel
theorem dX5_undo_45 : decode cX5_undo 45 = .ok (.astore_n 1, 1) := by decide +kernel
theorem dX5_undo_46 : decode cX5_undo 46 = .ok (.aload_n 1, 1) := by decide +kernel
theorem dX5_undo_47 : decode cX5_undo 47 = .ok (.ifnull 11, 3) := by decide +kernel
theorem dX5_undo_50 : decode cX5_undo 50 = .ok (.aload_n 0, 1) := by decide +kernel
theorem dX5_undo_51 : decode cX5_undo 51 = .ok (.getfield 12, 3) := by decide +kernel
theorem dX5_undo_54 : decode cX5_undo 54 = .ok (.aload_n 1, 1) := by decide +kernel
theorem dX5_undo_55 : decode cX5_undo 55 = .ok (.invokevirtual 167, 3) := by decide +kernel
theorem dX5_undo_58 : decode cX5_undo 58 = .ok (.aload_n 0, 1) := by decide +kernel
theorem dX5_undo_59 : decode cX5_undo 59 = .ok (.getfield 27, 3) := by decide +kernel
theorem dX5_undo_62 : decode cX5_undo 62 = .ok (.ireturn, 1) := by decide +kernel
theorem dX5_at_0 : decode cX5_at 0 = .ok (.iload_n 1, 1) := by decide +kernel
theorem dX5_at_1 : decode cX5_at 1 = .ok (.invokestatic 137, 3) := by decide +kernel
theorem dX5_at_4 : decode cX5_at 4 = .ok (.iload_n 2, 1) := by decide +kernel
theorem dX5_at_5 : decode cX5_at 5 = .ok (.tableswitch 120 0 4 #[35, 47, 59, 71, 108], 35) := by decide +kernel
theorem dX5_at_40 : decode cX5_at 40 = .ok (.aload_n 0, 1) := by decide +kernel
theorem dX5_at_41 : decode cX5_at 41 = .ok (.getfield 12, 3) := by decide +kernel
theorem dX5_at_44 : decode cX5_at 44 = .ok (.getfield 99, 3) := by decide +kernel
theorem dX5_at_47 : decode cX5_at 47 = .ok (.iload_n 1, 1) := by decide +kernel
theorem dX5_at_48 : decode cX5_at 48 = .ok (.invokevirtual 177, 3) := by decide +kernel
theorem dX5_at_51 : decode cX5_at 51 = .ok (.ireturn, 1) := by decide +kernel
theorem dX5_at_52 : decode cX5_at 52 = .ok (.aload_n 0, 1) := by decide +kernel
theorem dX5_at_53 : decode cX5_at 53 = .ok (.getfield 12, 3) := by decide +kernel
theorem dX5_at_56 : decode cX5_at 56 = .ok (.getfield 99, 3) := by decide +kernel
theorem dX5_at_59 : decode cX5_at 59 = .ok (.iload_n 1, 1) := by decide +kernel
theorem dX5_at_60 : decode cX5_at 60 = .ok (.invokevirtual 180, 3) := by decide +kernel
theorem dX5_at_63 : decode cX5_at 63 = .ok (.ireturn, 1) := by decide +kernel
theorem dX5_at_64 : decode cX5_at 64 = .ok (.aload_n 0, 1) := by decide +kernel
theorem dX5_at_65 : decode cX5_at 65 = .ok (.getfield 12, 3) := by decide +kernel
theorem dX5_at_68 : decode cX5_at 68 = .ok (.getfield 140, 3) := by decide +kernel
theorem dX5_at_71 : decode cX5_at 71 = .ok (.iload_n 1, 1) := by decide +kernel
theorem dX5_at_72 : decode cX5_at 72 = .ok (.ishr, 1) := by decide +kernel
theorem dX5_at_73 : decode cX5_at 73 = .ok (.iconst 1, 1) := by decide +kernel
theorem dX5_at_74 : decode cX5_at 74 = .ok (.iand, 1) := by decide +kernel
theorem dX5_at_75 : decode cX5_at 75 = .ok (.ireturn, 1) := by decide +kernel
theorem dX5_at_76 : decode cX5_at 76 = .ok (.aload_n 0, 1) := by decide +kernel
theorem dX5_at_77 : decode cX5_at 77 = .ok (.getfield 12, 3) := by decide +kernel
theorem dX5_at_80 : decode cX5_at 80 = .ok (.getfield 153, 3) := by decide +kernel
theorem dX5_at_83 : decode cX5_at 83 = .ok (.ifCond .eq 28, 3) := by decide +kernel
theorem dX5_at_86 : decode cX5_at 86 = .ok (.aload_n 0, 1) := by decide +kernel
theorem dX5_at_87 : decode cX5_at 87 = .ok (.getfield 12, 3) := by decide +kernel
theorem dX5_at_90 : decode cX5_at 90 = .ok (.getfield 99, 3) := by decide +kernel
theorem dX5_at_93 : decode cX5_at 93 = .ok (.aload_n 0, 1) := by decide +kernel
theorem dX5_at_94 : decode cX5_at 94 = .ok (.getfield 12, 3) := by decide +kernel
theorem dX5_at_97 : decode cX5_at 97 = .ok (.getfield 146, 3) := by decide +kernel
theorem dX5_at_100 : decode cX5_at 100 = .ok (.iload_n 1, 1) := by decide +kernel
theorem dX5_at_101 : decode cX5_at 101 = .ok (.invokevirtual 183, 3) := by decide +kernel
theorem dX5_at_104 : decode cX5_at 104 = .ok (.ifCond .eq 7, 3) := by decide +kernel
theorem dX5_at_107 : decode cX5_at 107 = .ok (.iconst 1, 1) := by decide +kernel
theorem dX5_at_108 : decode cX5_at 108 = .ok (.goto 4, 3) := by decide +kernel
theorem dX5_at_111 : decode cX5_at 111 = .ok (.iconst 0, 1) := by decide +kernel
theorem dX5_at_112 : decode cX5_at 112 = .ok (.ireturn, 1) := by decide +kernel
theorem dX5_at_113 : decode cX5_at 113 = .ok (.aload_n 0, 1) := by decide +kernel
theorem dX5_at_114 : decode cX5_at 114 = .ok (.getfield 12, 3) := by decide +kernel
theorem dX5_at_117 : decode cX5_at 117 = .ok (.getfield 124, 3) := by decide +kernel
theorem dX5_at_120 : decode cX5_at 120 = .ok (.iload_n 1, 1) := by decide +kernel
theorem dX5_at_121 : decode cX5_at 121 = .ok (.invokevirtual 187, 3) := by decide +kernel
theorem dX5_at_124 : decode cX5_at 124 = .ok (.ireturn, 1) := by decide +kernel
theorem dX5_at_125 : decode cX5_at 125 = .ok (.new 66, 3) := by decide +kernel
theorem dX5_at_128 : decode cX5_at 128 = .ok (.dup, 1) := by decide +kernel
theorem dX5_at_129 : decode cX5_at 129 = .ok (.ldc 190, 2) := by decide +kernel
theorem dX5_at_131 : decode cX5_at 131 = .ok (.invokespecial 70, 3) := by decide +kernel
theorem dX5_at_134 : decode cX5_at 134 = .ok (.athrow, 1) := by decide +kernel
theorem dX5_key_0 : decode cX5_key 0 = .ok (.iload_n 1, 1) := by decide +kernel
theorem dX5_key_1 : decode cX5_key 1 = .ok (.invokestatic 116, 3) := by decide +kernel
theorem dX5_key_4 : decode cX5_key 4 = .ok (.iload_n 2, 1) := by decide +kernel
theorem dX5_key_5 : decode cX5_key 5 = .ok (.tableswitch 112 0 5 #[39, 51, 63, 73, 86, 103], 39) := by decide +kernel
theorem dX5_key_44 : decode cX5_key 44 = .ok (.aload_n 0, 1) := by decide +kernel
theorem dX5_key_45 : decode cX5_key 45 = .ok (.getfield 12, 3) := by decide +kernel
theorem dX5_key_48 : decode cX5_key 48 = .ok (.getfield 124, 3) := by decide +kernel
theorem dX5_key_51 : decode cX5_key 51 = .ok (.iload_n 1, 1) := by decide +kernel
theorem dX5_key_52 : decode cX5_key 52 = .ok (.invokevirtual 128, 3) := by decide +kernel
theorem dX5_key_55 : decode cX5_key 55 = .ok (.ireturn, 1) := by decide +kernel
theorem dX5_key_56 : decode cX5_key 56 = .ok (.aload_n 0, 1) := by decide +kernel
theorem dX5_key_57 : decode cX5_key 57 = .ok (.getfield 12, 3) := by decide +kernel
theorem dX5_key_60 : decode cX5_key 60 = .ok (.getfield 124, 3) := by decide +kernel
theorem dX5_key_63 : decode cX5_key 63 = .ok (.iload_n 1, 1) := by decide +kernel
theorem dX5_key_64 : decode cX5_key 64 = .ok (.invokevirtual 192, 3) := by decide +kernel
theorem dX5_key_67 : decode cX5_key 67 = .ok (.ireturn, 1) := by decide +kernel
theorem dX5_key_68 : decode cX5_key 68 = .ok (.aload_n 0, 1) := by decide +kernel
theorem dX5_key_69 : decode cX5_key 69 = .ok (.iload_n 1, 1) := by decide +kernel
theorem dX5_key_70 : decode cX5_key 70 = .ok (.invokevirtual 195, 3) := by decide +kernel
theorem dX5_key_73 : decode cX5_key 73 = .ok (.aload_n 0, 1) := by decide +kernel
theorem dX5_key_74 : decode cX5_key 74 = .ok (.invokevirtual 198, 3) := by decide +kernel
theorem dX5_key_77 : decode cX5_key 77 = .ok (.ireturn, 1) := by decide +kernel
theorem dX5_key_78 : decode cX5_key 78 = .ok (.aload_n 0, 1) := by decide +kernel
theorem dX5_key_79 : decode cX5_key 79 = .ok (.iload_n 1, 1) := by decide +kernel
theorem dX5_key_80 : decode cX5_key 80 = .ok (.invokevirtual 195, 3) := by decide +kernel
theorem dX5_key_83 : decode cX5_key 83 = .ok (.aload_n 0, 1) := by decide +kernel
theorem dX5_key_84 : decode cX5_key 84 = .ok (.getfield 41, 3) := by decide +kernel
theorem dX5_key_87 : decode cX5_key 87 = .ok (.invokevirtual 201, 3) := by decide +kernel
theorem dX5_key_90 : decode cX5_key 90 = .ok (.ireturn, 1) := by decide +kernel
theorem dX5_key_91 : decode cX5_key 91 = .ok (.aload_n 0, 1) := by decide +kernel
theorem dX5_key_92 : decode cX5_key 92 = .ok (.getfield 12, 3) := by decide +kernel
theorem dX5_key_95 : decode cX5_key 95 = .ok (.iload_n 1, 1) := by decide +kernel
theorem dX5_key_96 : decode cX5_key 96 = .ok (.invokevirtual 88, 3) := by decide +kernel
theorem dX5_key_99 : decode cX5_key 99 = .ok (.ifCond .eq 7, 3) := by decide +kernel
theorem dX5_key_102 : decode cX5_key 102 = .ok (.iconst 0, 1) := by decide +kernel
theorem dX5_key_103 : decode cX5_key 103 = .ok (.goto 4, 3) := by decide +kernel
theorem dX5_key_106 : decode cX5_key 106 = .ok (.iconst 1, 1) := by decide +kernel
theorem dX5_key_107 : decode cX5_key 107 = .ok (.ireturn, 1) := by decide +kernel
theorem dX5_key_108 : decode cX5_key 108 = .ok (.aload_n 0, 1) := by decide +kernel
theorem dX5_key_109 : decode cX5_key 109 = .ok (.getfield 12, 3) := by decide +kernel
theorem dX5_key_112 : decode cX5_key 112 = .ok (.iload_n 1, 1) := by decide +kernel
theorem dX5_key_113 : decode cX5_key 113 = .ok (.invokevirtual 204, 3) := by decide +kernel
theorem dX5_key_116 : decode cX5_key 116 = .ok (.ireturn, 1) := by decide +kernel
theorem dX5_key_117 : decode cX5_key 117 = .ok (.new 66, 3) := by decide +kernel
theorem dX5_key_120 : decode cX5_key 120 = .ok (.dup, 1) := by decide +kernel
theorem dX5_key_121 : decode cX5_key 121 = .ok (.ldc 207, 2) := by decide +kernel
theorem dX5_key_123 : decode cX5_key 123 = .ok (.invokespecial 70, 3) := by decide +kernel
theorem dX5_key_126 : decode cX5_key 126 = .ok (.athrow, 1) := by decide +kernel
theorem dX5_pair_0 : decode cX5_pair 0 = .ok (.iload_n 1, 1) := by decide +kernel
theorem dX5_pair_1 : decode cX5_pair 1 = .ok (.invokestatic 116, 3) := by decide +kernel
theorem dX5_pair_4 : decode cX5_pair 4 = .ok (.iload_n 2, 1) := by decide +kernel
theorem dX5_pair_5 : decode cX5_pair 5 = .ok (.invokestatic 116, 3) := by decide +kernel
theorem dX5_pair_8 : decode cX5_pair 8 = .ok (.iload_n 3, 1) := by decide +kernel
theorem dX5_pair_9 : decode cX5_pair 9 = .ok (.ifCond .lt 8, 3) := by decide +kernel
theorem dX5_pair_12 : decode cX5_pair 12 = .ok (.iload_n 3, 1) := by decide +kernel
theorem dX5_pair_13 : decode cX5_pair 13 = .ok (.iconst 4, 1) := by decide +kernel
theorem dX5_pair_14 : decode cX5_pair 14 = .ok (.if_icmp .le 13, 3) := by decide +kernel
theorem dX5_pair_17 : decode cX5_pair 17 = .ok (.new 66, 3) := by decide +kernel
theorem dX5_pair_20 : decode cX5_pair 20 = .ok (.dup, 1) := by decide +kernel
theorem dX5_pair_21 : decode cX5_pair 21 = .ok (.ldc 190, 2) := by decide +kernel
theorem dX5_pair_23 : decode cX5_pair 23 = .ok (.invokespecial 70, 3) := by decide +kernel
theorem dX5_pair_26 : decode cX5_pair 26 = .ok (.athrow, 1) := by decide +kernel
theorem dX5_pair_27 : decode cX5_pair 27 = .ok (.aload_n 0, 1) := by decide +kernel
theorem dX5_pair_28 : decode cX5_pair 28 = .ok (.iload_n 1, 1) := by decide +kernel
theorem dX5_pair_29 : decode cX5_pair 29 = .ok (.iload_n 2, 1) := by decide +kernel
theorem dX5_pair_30 : decode cX5_pair 30 = .ok (.invokevirtual 209, 3) := by decide +kernel
theorem dX5_pair_33 : decode cX5_pair 33 = .ok (.iload_n 3, 1) := by decide +kernel
theorem dX5_pair_34 : decode cX5_pair 34 = .ok (.tableswitch 62 0 3 #[30, 38, 49, 54], 30) := by decide +kernel
theorem dX5_pair_64 : decode cX5_pair 64 = .ok (.aload_n 0, 1) := by decide +kernel
theorem dX5_pair_65 : decode cX5_pair 65 = .ok (.getfield 41, 3) := by decide +kernel
theorem dX5_pair_68 : decode cX5_pair 68 = .ok (.invokevirtual 102, 3) := by decide +kernel
theorem dX5_pair_71 : decode cX5_pair 71 = .ok (.ireturn, 1) := by decide +kernel
theorem dX5_pair_72 : decode cX5_pair 72 = .ok (.aload_n 0, 1) := by decide +kernel
theorem dX5_pair_73 : decode cX5_pair 73 = .ok (.getfield 41, 3) := by decide +kernel
theorem dX5_pair_76 : decode cX5_pair 76 = .ok (.invokevirtual 102, 3) := by decide +kernel
theorem dX5_pair_79 : decode cX5_pair 79 = .ok (.invokestatic 105, 3) := by decide +kernel
theorem dX5_pair_82 : decode cX5_pair 82 = .ok (.ireturn, 1) := by decide +kernel
theorem dX5_pair_83 : decode cX5_pair 83 = .ok (.aload_n 0, 1) := by decide +kernel
theorem dX5_pair_84 : decode cX5_pair 84 = .ok (.invokevirtual 198, 3) := by decide +kernel
theorem dX5_pair_87 : decode cX5_pair 87 = .ok (.ireturn, 1) := by decide +kernel
theorem dX5_pair_88 : decode cX5_pair 88 = .ok (.aload_n 0, 1) := by decide +kernel
theorem dX5_pair_89 : decode cX5_pair 89 = .ok (.getfield 41, 3) := by decide +kernel
theorem dX5_pair_92 : decode cX5_pair 92 = .ok (.invokevirtual 201, 3) := by decide +kernel
theorem dX5_pair_95 : decode cX5_pair 95 = .ok (.ireturn, 1) := by decide +kernel
theorem dX5_pair_96 : decode cX5_pair 96 = .ok (.aload_n 0, 1) := by decide +kernel
theorem dX5_pair_97 : decode cX5_pair 97 = .ok (.getfield 41, 3) := by decide +kernel
theorem dX5_pair_100 : decode cX5_pair 100 = .ok (.invokevirtual 102, 3) := by decide +kernel
theorem dX5_pair_103 : decode cX5_pair 103 = .ok (.ifCond .ne 7, 3) := by decide +kernel
theorem dX5_pair_106 : decode cX5_pair 106 = .ok (.iconst 1, 1) := by decide +kernel
theorem dX5_pair_107 : decode cX5_pair 107 = .ok (.goto 4, 3) := by decide +kernel
theorem dX5_pair_110 : decode cX5_pair 110 = .ok (.iconst 0, 1) := by decide +kernel
theorem dX5_pair_111 : decode cX5_pair 111 = .ok (.ireturn, 1) := by decide +kernel
theorem dX5_count_0 : decode cX5_count 0 = .ok (.iload_n 1, 1) := by decide +kernel
theorem dX5_count_1 : decode cX5_count 1 = .ok (.tableswitch 164 0 9 #[55, 63, 76, 84, 101, 117, 132, 143, 151, 159], 55) := by decide +kernel
theorem dX5_count_56 : decode cX5_count 56 = .ok (.aload_n 0, 1) := by decide +kernel
theorem dX5_count_57 : decode cX5_count 57 = .ok (.getfield 12, 3) := by decide +kernel
theorem dX5_count_60 : decode cX5_count 60 = .ok (.getfield 170, 3) := by decide +kernel
theorem dX5_count_63 : decode cX5_count 63 = .ok (.ireturn, 1) := by decide +kernel
theorem dX5_count_64 : decode cX5_count 64 = .ok (.aload_n 0, 1) := by decide +kernel
theorem dX5_count_65 : decode cX5_count 65 = .ok (.getfield 12, 3) := by decide +kernel
theorem dX5_count_68 : decode cX5_count 68 = .ok (.getfield 99, 3) := by decide +kernel
theorem dX5_count_71 : decode cX5_count 71 = .ok (.invokevirtual 156, 3) := by decide +kernel
theorem dX5_count_74 : decode cX5_count 74 = .ok (.iconst 5, 1) := by decide +kernel
theorem dX5_count_75 : decode cX5_count 75 = .ok (.irem, 1) := by decide +kernel
theorem dX5_count_76 : decode cX5_count 76 = .ok (.ireturn, 1) := by decide +kernel
theorem dX5_count_77 : decode cX5_count 77 = .ok (.aload_n 0, 1) := by decide +kernel
theorem dX5_count_78 : decode cX5_count 78 = .ok (.getfield 12, 3) := by decide +kernel
theorem dX5_count_81 : decode cX5_count 81 = .ok (.getfield 113, 3) := by decide +kernel
theorem dX5_count_84 : decode cX5_count 84 = .ok (.ireturn, 1) := by decide +kernel
theorem dX5_count_85 : decode cX5_count 85 = .ok (.bipush 6, 2) := by decide +kernel
theorem dX5_count_87 : decode cX5_count 87 = .ok (.aload_n 0, 1) := by decide +kernel
theorem dX5_count_88 : decode cX5_count 88 = .ok (.getfield 12, 3) := by decide +kernel
theorem dX5_count_91 : decode cX5_count 91 = .ok (.getfield 99, 3) := by decide +kernel
theorem dX5_count_94 : decode cX5_count 94 = .ok (.invokevirtual 102, 3) := by decide +kernel
theorem dX5_count_97 : decode cX5_count 97 = .ok (.invokestatic 105, 3) := by decide +kernel
theorem dX5_count_100 : decode cX5_count 100 = .ok (.isub, 1) := by decide +kernel
theorem dX5_count_101 : decode cX5_count 101 = .ok (.ireturn, 1) := by decide +kernel
theorem dX5_count_102 : decode cX5_count 102 = .ok (.aload_n 0, 1) := by decide +kernel
theorem dX5_count_103 : decode cX5_count 103 = .ok (.getfield 12, 3) := by decide +kernel
theorem dX5_count_106 : decode cX5_count 106 = .ok (.invokevirtual 222, 3) := by decide +kernel
theorem dX5_count_109 : decode cX5_count 109 = .ok (.ifCond .eq 7, 3) := by decide +kernel
theorem dX5_count_112 : decode cX5_count 112 = .ok (.iconst 1, 1) := by decide +kernel
theorem dX5_count_113 : decode cX5_count 113 = .ok (.goto 4, 3) := by decide +kernel
theorem dX5_count_116 : decode cX5_count 116 = .ok (.iconst 0, 1) := by decide +kernel
theorem dX5_count_117 : decode cX5_count 117 = .ok (.ireturn, 1) := by decide +kernel
theorem dX5_count_118 : decode cX5_count 118 = .ok (.aload_n 0, 1) := by decide +kernel
theorem dX5_count_119 : decode cX5_count 119 = .ok (.getfield 12, 3) := by decide +kernel
theorem dX5_count_122 : decode cX5_count 122 = .ok (.aload_n 0, 1) := by decide +kernel
theorem dX5_count_123 : decode cX5_count 123 = .ok (.getfield 12, 3) := by decide +kernel
theorem dX5_count_126 : decode cX5_count 126 = .ok (.getfield 99, 3) := by decide +kernel
theorem dX5_count_129 : decode cX5_count 129 = .ok (.invokevirtual 226, 3) := by decide +kernel
theorem dX5_count_132 : decode cX5_count 132 = .ok (.ireturn, 1) := by decide +kernel
theorem dX5_count_133 : decode cX5_count 133 = .ok (.aload_n 0, 1) := by decide +kernel
theorem dX5_count_134 : decode cX5_count 134 = .ok (.getfield 12, 3) := by decide +kernel
theorem dX5_count_137 : decode cX5_count 137 = .ok (.getfield 140, 3) := by decide +kernel
theorem dX5_count_140 : decode cX5_count 140 = .ok (.invokestatic 105, 3) := by decide +kernel
theorem dX5_count_143 : decode cX5_count 143 = .ok (.ireturn, 1) := by decide +kernel
theorem dX5_count_144 : decode cX5_count 144 = .ok (.aload_n 0, 1) := by decide +kernel
theorem dX5_count_145 : decode cX5_count 145 = .ok (.getfield 12, 3) := by decide +kernel
theorem dX5_count_148 : decode cX5_count 148 = .ok (.invokevirtual 143, 3) := by decide +kernel
theorem dX5_count_151 : decode cX5_count 151 = .ok (.ireturn, 1) := by decide +kernel
theorem dX5_count_152 : decode cX5_count 152 = .ok (.aload_n 0, 1) := by decide +kernel
theorem dX5_count_153 : decode cX5_count 153 = .ok (.getfield 12, 3) := by decide +kernel
theorem dX5_count_156 : decode cX5_count 156 = .ok (.getfield 230, 3) := by decide +kernel
theorem dX5_count_159 : decode cX5_count 159 = .ok (.ireturn, 1) := by decide +kernel
theorem dX5_count_160 : decode cX5_count 160 = .ok (.aload_n 0, 1) := by decide +kernel
theorem dX5_count_161 : decode cX5_count 161 = .ok (.getfield 27, 3) := by decide +kernel
theorem dX5_count_164 : decode cX5_count 164 = .ok (.ireturn, 1) := by decide +kernel
theorem dX5_count_165 : decode cX5_count 165 = .ok (.new 66, 3) := by decide +kernel
theorem dX5_count_168 : decode cX5_count 168 = .ok (.dup, 1) := by decide +kernel
theorem dX5_count_169 : decode cX5_count 169 = .ok (.ldc 233, 2) := by decide +kernel
theorem dX5_count_171 : decode cX5_count 171 = .ok (.invokespecial 70, 3) := by decide +kernel
theorem dX5_count_174 : decode cX5_count 174 = .ok (.athrow, 1) := by decide +kernel
theorem dX5_openIn_0 : decode cX5_openIn 0 = .ok (.iload_n 1, 1) := by decide +kernel
theorem dX5_openIn_1 : decode cX5_openIn 1 = .ok (.ifCond .lt 8, 3) := by decide +kernel
theorem dX5_openIn_4 : decode cX5_openIn 4 = .ok (.iload_n 1, 1) := by decide +kernel
theorem dX5_openIn_5 : decode cX5_openIn 5 = .ok (.iconst 1, 1) := by decide +kernel
theorem dX5_openIn_6 : decode cX5_openIn 6 = .ok (.if_icmp .le 13, 3) := by decide +kernel
theorem dX5_openIn_9 : decode cX5_openIn 9 = .ok (.new 66, 3) := by decide +kernel
theorem dX5_openIn_12 : decode cX5_openIn 12 = .ok (.dup, 1) := by decide +kernel
theorem dX5_openIn_13 : decode cX5_openIn 13 = .ok (.ldc 235, 2) := by decide +kernel
theorem dX5_openIn_15 : decode cX5_openIn 15 = .ok (.invokespecial 70, 3) := by decide +kernel
theorem dX5_openIn_18 : decode cX5_openIn 18 = .ok (.athrow, 1) := by decide +kernel
theorem dX5_openIn_19 : decode cX5_openIn 19 = .ok (.aload_n 0, 1) := by decide +kernel
theorem dX5_openIn_20 : decode cX5_openIn 20 = .ok (.getfield 51, 3) := by decide +kernel
theorem dX5_openIn_23 : decode cX5_openIn 23 = .ok (.aload_n 0, 1) := by decide +kernel
theorem dX5_openIn_24 : decode cX5_openIn 24 = .ok (.getfield 12, 3) := by decide +kernel
theorem dX5_openIn_27 : decode cX5_openIn 27 = .ok (.invokevirtual 237, 3) := by decide +kernel
theorem dX5_openIn_30 : decode cX5_openIn 30 = .ok (.iload_n 1, 1) := by decide +kernel
theorem dX5_openIn_31 : decode cX5_openIn 31 = .ok (.ifCond .ne 13, 3) := by decide +kernel
theorem dX5_openIn_34 : decode cX5_openIn 34 = .ok (.aload_n 0, 1) := by decide +kernel
theorem dX5_openIn_35 : decode cX5_openIn 35 = .ok (.getfield 51, 3) := by decide +kernel
theorem dX5_openIn_38 : decode cX5_openIn 38 = .ok (.getfield 240, 3) := by decide +kernel
theorem dX5_openIn_41 : decode cX5_openIn 41 = .ok (.goto 10, 3) := by decide +kernel
theorem dX5_openIn_44 : decode cX5_openIn 44 = .ok (.aload_n 0, 1) := by decide +kernel
theorem dX5_openIn_45 : decode cX5_openIn 45 = .ok (.getfield 51, 3) := by decide +kernel
theorem dX5_openIn_48 : decode cX5_openIn 48 = .ok (.getfield 243, 3) := by decide +kernel
theorem dX5_openIn_51 : decode cX5_openIn 51 = .ok (.ireturn, 1) := by decide +kernel
theorem dX5_ifTurned_0 : decode cX5_ifTurned 0 = .ok (.iload_n 1, 1) := by decide +kernel
theorem dX5_ifTurned_1 : decode cX5_ifTurned 1 = .ok (.invokestatic 116, 3) := by decide +kernel
theorem dX5_ifTurned_4 : decode cX5_ifTurned 4 = .ok (.iload_n 2, 1) := by decide +kernel
theorem dX5_ifTurned_5 : decode cX5_ifTurned 5 = .ok (.ifCond .lt 8, 3) := by decide +kernel
theorem dX5_ifTurned_8 : decode cX5_ifTurned 8 = .ok (.iload_n 2, 1) := by decide +kernel
theorem dX5_ifTurned_9 : decode cX5_ifTurned 9 = .ok (.iconst 1, 1) := by decide +kernel
theorem dX5_ifTurned_10 : decode cX5_ifTurned 10 = .ok (.if_icmp .le 13, 3) := by decide +kernel
theorem dX5_ifTurned_13 : decode cX5_ifTurned 13 = .ok (.new 66, 3) := by decide +kernel
theorem dX5_ifTurned_16 : decode cX5_ifTurned 16 = .ok (.dup, 1) := by decide +kernel
theorem dX5_ifTurned_17 : decode cX5_ifTurned 17 = .ok (.ldc 246, 2) := by decide +kernel
theorem dX5_ifTurned_19 : decode cX5_ifTurned 19 = .ok (.invokespecial 70, 3) := by decide +kernel
theorem dX5_ifTurned_22 : decode cX5_ifTurned 22 = .ok (.athrow, 1) := by decide +kernel
theorem dX5_ifTurned_23 : decode cX5_ifTurned 23 = .ok (.aload_n 0, 1) := by decide +kernel
theorem dX5_ifTurned_24 : decode cX5_ifTurned 24 = .ok (.getfield 45, 3) := by decide +kernel
theorem dX5_ifTurned_27 : decode cX5_ifTurned 27 = .ok (.aload_n 0, 1) := by decide +kernel
theorem dX5_ifTurned_28 : decode cX5_ifTurned 28 = .ok (.getfield 12, 3) := by decide +kernel
theorem dX5_ifTurned_31 : decode cX5_ifTurned 31 = .ok (.getfield 99, 3) := by decide +kernel
theorem dX5_ifTurned_34 : decode cX5_ifTurned 34 = .ok (.invokevirtual 149, 3) := by decide +kernel
theorem dX5_ifTurned_37 : decode cX5_ifTurned 37 = .ok (.aload_n 0, 1) := by decide +kernel
theorem dX5_ifTurned_38 : decode cX5_ifTurned 38 = .ok (.getfield 12, 3) := by decide +kernel
theorem dX5_ifTurned_41 : decode cX5_ifTurned 41 = .ok (.getfield 124, 3) := by decide +kernel
theorem dX5_ifTurned_44 : decode cX5_ifTurned 44 = .ok (.aload_n 0, 1) := by decide +kernel
theorem dX5_ifTurned_45 : decode cX5_ifTurned 45 = .ok (.getfield 45, 3) := by decide +kernel
theorem dX5_ifTurned_48 : decode cX5_ifTurned 48 = .ok (.iload_n 1, 1) := by decide +kernel
theorem dX5_ifTurned_49 : decode cX5_ifTurned 49 = .ok (.iload_n 2, 1) := by decide +kernel
theorem dX5_ifTurned_50 : decode cX5_ifTurned 50 = .ok (.iconst 1, 1) := by decide +kernel
theorem dX5_ifTurned_51 : decode cX5_ifTurned 51 = .ok (.if_icmp .ne 7, 3) := by decide +kernel
theorem dX5_ifTurned_54 : decode cX5_ifTurned 54 = .ok (.iconst 1, 1) := by decide +kernel
theorem dX5_ifTurned_55 : decode cX5_ifTurned 55 = .ok (.goto 4, 3) := by decide +kernel
theorem dX5_ifTurned_58 : decode cX5_ifTurned 58 = .ok (.iconst 0, 1) := by decide +kernel
theorem dX5_ifTurned_59 : decode cX5_ifTurned 59 = .ok (.invokestatic 248, 3) := by decide +kernel
theorem dX5_ifTurned_62 : decode cX5_ifTurned 62 = .ok (.invokevirtual 251, 3) := by decide +kernel
theorem dX5_ifTurned_65 : decode cX5_ifTurned 65 = .ok (.aload_n 0, 1) := by decide +kernel
theorem dX5_ifTurned_66 : decode cX5_ifTurned 66 = .ok (.getfield 12, 3) := by decide +kernel
theorem dX5_ifTurned_69 : decode cX5_ifTurned 69 = .ok (.aload_n 0, 1) := by decide +kernel
theorem dX5_ifTurned_70 : decode cX5_ifTurned 70 = .ok (.getfield 45, 3) := by decide +kernel
theorem dX5_ifTurned_73 : decode cX5_ifTurned 73 = .ok (.invokevirtual 226, 3) := by decide +kernel
theorem dX5_ifTurned_76 : decode cX5_ifTurned 76 = .ok (.ireturn, 1) := by decide +kernel
theorem dX5_closest_0 : decode cX5_closest 0 = .ok (.iconst (-1), 1) := by decide +kernel
theorem dX5_closest_1 : decode cX5_closest 1 = .ok (.istore_n 1, 1) := by decide +kernel
theorem dX5_closest_2 : decode cX5_closest 2 = .ok (.bipush 7, 2) := by decide +kernel
theorem dX5_closest_4 : decode cX5_closest 4 = .ok (.istore_n 2, 1) := by decide +kernel
theorem dX5_closest_5 : decode cX5_closest 5 = .ok (.iconst 0, 1) := by decide +kernel
theorem dX5_closest_6 : decode cX5_closest 6 = .ok (.istore_n 3, 1) := by decide +kernel
theorem dX5_closest_7 : decode cX5_closest 7 = .ok (.iload_n 3, 1) := by decide +kernel
theorem dX5_closest_8 : decode cX5_closest 8 = .ok (.iconst 5, 1) := by decide +kernel
theorem dX5_closest_9 : decode cX5_closest 9 = .ok (.if_icmp .ge 61, 3) := by decide +kernel
theorem dX5_closest_12 : decode cX5_closest 12 = .ok (.iload_n 3, 1) := by decide +kernel
theorem dX5_closest_13 : decode cX5_closest 13 = .ok (.iconst 1, 1) := by decide +kernel
theorem dX5_closest_14 : decode cX5_closest 14 = .ok (.iadd, 1) := by decide +kernel
theorem dX5_closest_15 : decode cX5_closest 15 = .ok (.istore 4, 2) := by decide +kernel
theorem dX5_closest_17 : decode cX5_closest 17 = .ok (.iload 4, 2) := by decide +kernel
theorem dX5_closest_19 : decode cX5_closest 19 = .ok (.iconst 5, 1) := by decide +kernel
theorem dX5_closest_20 : decode cX5_closest 20 = .ok (.if_icmp .ge 44, 3) := by decide +kernel
theorem dX5_closest_23 : decode cX5_closest 23 = .ok (.aload_n 0, 1) := by decide +kernel
theorem dX5_closest_24 : decode cX5_closest 24 = .ok (.iload_n 3, 1) := by decide +kernel
theorem dX5_closest_25 : decode cX5_closest 25 = .ok (.iload 4, 2) := by decide +kernel
theorem dX5_closest_27 : decode cX5_closest 27 = .ok (.invokevirtual 209, 3) := by decide +kernel
theorem dX5_closest_30 : decode cX5_closest 30 = .ok (.aload_n 0, 1) := by decide +kernel
theorem dX5_closest_31 : decode cX5_closest 31 = .ok (.getfield 41, 3) := by decide +kernel
theorem dX5_closest_34 : decode cX5_closest 34 = .ok (.invokevirtual 102, 3) := by decide +kernel
theorem dX5_closest_37 : decode cX5_closest 37 = .ok (.invokestatic 105, 3) := by decide +kernel
theorem dX5_closest_40 : decode cX5_closest 40 = .ok (.istore 5, 2) := by decide +kernel
theorem dX5_closest_42 : decode cX5_closest 42 = .ok (.iload 5, 2) := by decide +kernel
theorem dX5_closest_44 : decode cX5_closest 44 = .ok (.iload_n 2, 1) := by decide +kernel
theorem dX5_closest_45 : decode cX5_closest 45 = .ok (.if_icmp .ge 13, 3) := by decide +kernel
theorem dX5_closest_48 : decode cX5_closest 48 = .ok (.iload 5, 2) := by decide +kernel
theorem dX5_closest_50 : decode cX5_closest 50 = .ok (.istore_n 2, 1) := by decide +kernel
theorem dX5_closest_51 : decode cX5_closest 51 = .ok (.iconst 5, 1) := by decide +kernel
theorem dX5_closest_52 : decode cX5_closest 52 = .ok (.iload_n 3, 1) := by decide +kernel
theorem dX5_closest_53 : decode cX5_closest 53 = .ok (.imul, 1) := by decide +kernel
theorem dX5_closest_54 : decode cX5_closest 54 = .ok (.iload 4, 2) := by decide +kernel
theorem dX5_closest_56 : decode cX5_closest 56 = .ok (.iadd, 1) := by decide +kernel
theorem dX5_closest_57 : decode cX5_closest 57 = .ok (.istore_n 1, 1) := by decide +kernel
theorem dX5_closest_58 : decode cX5_closest 58 = .ok (.iinc 4 1, 3) := by decide +kernel
theorem dX5_closest_61 : decode cX5_closest 61 = .ok (.goto (-44), 3) := by decide +kernel
theorem dX5_closest_64 : decode cX5_closest 64 = .ok (.iinc 3 1, 3) := by decide +kernel
theorem dX5_closest_67 : decode cX5_closest 67 = .ok (.goto (-60), 3) := by decide +kernel
theorem dX5_closest_70 : decode cX5_closest 70 = .ok (.iload_n 1, 1) := by decide +kernel
theorem dX5_closest_71 : decode cX5_closest 71 = .ok (.ireturn, 1) := by decide +kernel
theorem dX5_openShare_0 : decode cX5_openShare 0 = .ok (.aload_n 0, 1) := by decide +kernel
theorem dX5_openShare_1 : decode cX5_openShare 1 = .ok (.getfield 12, 3) := by decide +kernel
theorem dX5_openShare_4 : decode cX5_openShare 4 = .ok (.aload_n 0, 1) := by decide +kernel
theorem dX5_openShare_5 : decode cX5_openShare 5 = .ok (.getfield 12, 3) := by decide +kernel
theorem dX5_openShare_8 : decode cX5_openShare 8 = .ok (.getfield 99, 3) := by decide +kernel
theorem dX5_openShare_11 : decode cX5_openShare 11 = .ok (.invokevirtual 226, 3) := by decide +kernel
theorem dX5_openShare_14 : decode cX5_openShare 14 = .ok (.i2d, 1) := by decide +kernel
theorem dX5_openShare_15 : decode cX5_openShare 15 = .ok (.ldc2_w 255, 3) := by decide +kernel
theorem dX5_openShare_18 : decode cX5_openShare 18 = .ok (.ddiv, 1) := by decide +kernel
theorem dX5_openShare_19 : decode cX5_openShare 19 = .ok (.dreturn, 1) := by decide +kernel
theorem dX5_meanNotch_0 : decode cX5_meanNotch 0 = .ok (.aload_n 0, 1) := by decide +kernel
theorem dX5_meanNotch_1 : decode cX5_meanNotch 1 = .ok (.getfield 12, 3) := by decide +kernel
theorem dX5_meanNotch_4 : decode cX5_meanNotch 4 = .ok (.getfield 99, 3) := by decide +kernel
theorem dX5_meanNotch_7 : decode cX5_meanNotch 7 = .ok (.invokevirtual 156, 3) := by decide +kernel
theorem dX5_meanNotch_10 : decode cX5_meanNotch 10 = .ok (.i2f, 1) := by decide +kernel
theorem dX5_meanNotch_11 : decode cX5_meanNotch 11 = .ok (.ldc_w 257, 3) := by decide +kernel
theorem dX5_meanNotch_14 : decode cX5_meanNotch 14 = .ok (.fdiv, 1) := by decide +kernel
theorem dX5_meanNotch_15 : decode cX5_meanNotch 15 = .ok (.freturn, 1) := by decide +kernel
theorem dX5_requireKey_0 : decode cX5_requireKey 0 = .ok (.iload_n 0, 1) := by decide +kernel
theorem dX5_requireKey_1 : decode cX5_requireKey 1 = .ok (.ifCond .lt 8, 3) := by decide +kernel
theorem dX5_requireKey_4 : decode cX5_requireKey 4 = .ok (.iload_n 0, 1) := by decide +kernel
theorem dX5_requireKey_5 : decode cX5_requireKey 5 = .ok (.iconst 5, 1) := by decide +kernel
theorem dX5_requireKey_6 : decode cX5_requireKey 6 = .ok (.if_icmp .lt 14, 3) := by decide +kernel
theorem dX5_requireKey_9 : decode cX5_requireKey 9 = .ok (.new 302, 3) := by decide +kernel
theorem dX5_requireKey_12 : decode cX5_requireKey 12 = .ok (.dup, 1) := by decide +kernel
theorem dX5_requireKey_13 : decode cX5_requireKey 13 = .ok (.ldc_w 304, 3) := by decide +kernel
theorem dX5_requireKey_16 : decode cX5_requireKey 16 = .ok (.invokespecial 306, 3) := by decide +kernel
theorem dX5_requireKey_19 : decode cX5_requireKey 19 = .ok (.athrow, 1) := by decide +kernel
theorem dX5_requireKey_20 : decode cX5_requireKey 20 = .ok (.return_, 1) := by decide +kernel
theorem dX5_requirePosition_0 : decode cX5_requirePosition 0 = .ok (.iload_n 0, 1) := by decide +kernel
theorem dX5_requirePosition_1 : decode cX5_requirePosition 1 = .ok (.ifCond .lt 9, 3) := by decide +kernel
theorem dX5_requirePosition_4 : decode cX5_requirePosition 4 = .ok (.iload_n 0, 1) := by decide +kernel
theorem dX5_requirePosition_5 : decode cX5_requirePosition 5 = .ok (.bipush 6, 2) := by decide +kernel
theorem dX5_requirePosition_7 : decode cX5_requirePosition 7 = .ok (.if_icmp .lt 14, 3) := by decide +kernel
theorem dX5_requirePosition_10 : decode cX5_requirePosition 10 = .ok (.new 302, 3) := by decide +kernel
theorem dX5_requirePosition_13 : decode cX5_requirePosition 13 = .ok (.dup, 1) := by decide +kernel
theorem dX5_requirePosition_14 : decode cX5_requirePosition 14 = .ok (.ldc_w 307, 3) := by decide +kernel
theorem dX5_requirePosition_17 : decode cX5_requirePosition 17 = .ok (.invokespecial 306, 3) := by decide +kernel
theorem dX5_requirePosition_20 : decode cX5_requirePosition 20 = .ok (.athrow, 1) := by decide +kernel
theorem dX5_requirePosition_21 : decode cX5_requirePosition 21 = .ok (.return_, 1) := by decide +kernel
theorem dX5_isKeyMask_0 : decode cX5_isKeyMask 0 = .ok (.iload_n 0, 1) := by decide +kernel
theorem dX5_isKeyMask_1 : decode cX5_isKeyMask 1 = .ok (.ifCond .lt 21, 3) := by decide +kernel
theorem dX5_isKeyMask_4 : decode cX5_isKeyMask 4 = .ok (.iload_n 0, 1) := by decide +kernel
theorem dX5_isKeyMask_5 : decode cX5_isKeyMask 5 = .ok (.bipush 64, 2) := by decide +kernel
theorem dX5_isKeyMask_7 : decode cX5_isKeyMask 7 = .ok (.if_icmp .ge 15, 3) := by decide +kernel
theorem dX5_isKeyMask_10 : decode cX5_isKeyMask 10 = .ok (.iload_n 0, 1) := by decide +kernel
theorem dX5_isKeyMask_11 : decode cX5_isKeyMask 11 = .ok (.invokestatic 105, 3) := by decide +kernel
theorem dX5_isKeyMask_14 : decode cX5_isKeyMask 14 = .ok (.iconst 2, 1) := by decide +kernel
theorem dX5_isKeyMask_15 : decode cX5_isKeyMask 15 = .ok (.if_icmp .lt 7, 3) := by decide +kernel
theorem dX5_isKeyMask_18 : decode cX5_isKeyMask 18 = .ok (.iconst 1, 1) := by decide +kernel
theorem dX5_isKeyMask_19 : decode cX5_isKeyMask 19 = .ok (.goto 4, 3) := by decide +kernel
theorem dX5_isKeyMask_22 : decode cX5_isKeyMask 22 = .ok (.iconst 0, 1) := by decide +kernel
theorem dX5_isKeyMask_23 : decode cX5_isKeyMask 23 = .ok (.ireturn, 1) := by decide +kernel
theorem dX5_turnOnce_0 : decode cX5_turnOnce 0 = .ok (.iload_n 1, 1) := by decide +kernel
theorem dX5_turnOnce_1 : decode cX5_turnOnce 1 = .ok (.invokestatic 116, 3) := by decide +kernel
theorem dX5_turnOnce_4 : decode cX5_turnOnce 4 = .ok (.iload_n 1, 1) := by decide +kernel
theorem dX5_turnOnce_5 : decode cX5_turnOnce 5 = .ok (.iload_n 2, 1) := by decide +kernel
theorem dX5_turnOnce_6 : decode cX5_turnOnce 6 = .ok (.invokestatic 248, 3) := by decide +kernel
theorem dX5_turnOnce_9 : decode cX5_turnOnce 9 = .ok (.istore_n 3, 1) := by decide +kernel
theorem dX5_turnOnce_10 : decode cX5_turnOnce 10 = .ok (.aload_n 0, 1) := by decide +kernel
theorem dX5_turnOnce_11 : decode cX5_turnOnce 11 = .ok (.getfield 12, 3) := by decide +kernel
theorem dX5_turnOnce_14 : decode cX5_turnOnce 14 = .ok (.iload_n 3, 1) := by decide +kernel
theorem dX5_turnOnce_15 : decode cX5_turnOnce 15 = .ok (.invokevirtual 88, 3) := by decide +kernel
theorem dX5_turnOnce_18 : decode cX5_turnOnce 18 = .ok (.ifCond .ne 14, 3) := by decide +kernel
theorem dX5_turnOnce_21 : decode cX5_turnOnce 21 = .ok (.new 76, 3) := by decide +kernel
theorem dX5_turnOnce_24 : decode cX5_turnOnce 24 = .ok (.dup, 1) := by decide +kernel
theorem dX5_turnOnce_25 : decode cX5_turnOnce 25 = .ok (.ldc_w 309, 3) := by decide +kernel
theorem dX5_turnOnce_28 : decode cX5_turnOnce 28 = .ok (.invokespecial 80, 3) := by decide +kernel
theorem dX5_turnOnce_31 : decode cX5_turnOnce 31 = .ok (.athrow, 1) := by decide +kernel
theorem dX5_turnOnce_32 : decode cX5_turnOnce 32 = .ok (.aload_n 0, 1) := by decide +kernel
theorem dX5_turnOnce_33 : decode cX5_turnOnce 33 = .ok (.invokevirtual 81, 3) := by decide +kernel
theorem dX5_turnOnce_36 : decode cX5_turnOnce 36 = .ok (.aload_n 0, 1) := by decide +kernel
theorem dX5_turnOnce_37 : decode cX5_turnOnce 37 = .ok (.getfield 12, 3) := by decide +kernel
theorem dX5_turnOnce_40 : decode cX5_turnOnce 40 = .ok (.iload_n 3, 1) := by decide +kernel
theorem dX5_turnOnce_41 : decode cX5_turnOnce 41 = .ok (.invokevirtual 92, 3) := by decide +kernel
theorem dX5_turnOnce_44 : decode cX5_turnOnce 44 = .ok (.aload_n 0, 1) := by decide +kernel
theorem dX5_turnOnce_45 : decode cX5_turnOnce 45 = .ok (.getfield 12, 3) := by decide +kernel
theorem dX5_turnOnce_48 : decode cX5_turnOnce 48 = .ok (.aload_n 0, 1) := by decide +kernel
theorem dX5_turnOnce_49 : decode cX5_turnOnce 49 = .ok (.getfield 12, 3) := by decide +kernel
theorem dX5_turnOnce_52 : decode cX5_turnOnce 52 = .ok (.getfield 99, 3) := by decide +kernel
theorem dX5_turnOnce_55 : decode cX5_turnOnce 55 = .ok (.invokevirtual 226, 3) := by decide +kernel
theorem dX5_turnOnce_58 : decode cX5_turnOnce 58 = .ok (.ireturn, 1) := by decide +kernel
theorem dX5_save_0 : decode cX5_save 0 = .ok (.aload_n 0, 1) := by decide +kernel
theorem dX5_save_1 : decode cX5_save 1 = .ok (.getfield 27, 3) := by decide +kernel
theorem dX5_save_4 : decode cX5_save 4 = .ok (.bipush 6, 2) := by decide +kernel
theorem dX5_save_6 : decode cX5_save 6 = .ok (.if_icmp .lt 7, 3) := by decide +kernel
theorem dX5_save_9 : decode cX5_save 9 = .ok (.aload_n 0, 1) := by decide +kernel
theorem dX5_save_10 : decode cX5_save 10 = .ok (.invokevirtual 311, 3) := by decide +kernel
theorem dX5_save_13 : decode cX5_save 13 = .ok (.aload_n 0, 1) := by decide +kernel
theorem dX5_save_14 : decode cX5_save 14 = .ok (.getfield 27, 3) := by decide +kernel
theorem dX5_save_17 : decode cX5_save 17 = .ok (.ifCond .lt 25, 3) := by decide +kernel
theorem dX5_save_20 : decode cX5_save 20 = .ok (.aload_n 0, 1) := by decide +kernel
theorem dX5_save_21 : decode cX5_save 21 = .ok (.getfield 27, 3) := by decide +kernel
theorem dX5_save_24 : decode cX5_save 24 = .ok (.bipush 6, 2) := by decide +kernel
theorem dX5_save_26 : decode cX5_save 26 = .ok (.if_icmp .ge 16, 3) := by decide +kernel
theorem dX5_save_29 : decode cX5_save 29 = .ok (.aload_n 0, 1) := by decide +kernel
theorem dX5_save_30 : decode cX5_save 30 = .ok (.aload_n 0, 1) := by decide +kernel
theorem dX5_save_31 : decode cX5_save 31 = .ok (.getfield 23, 3) := by decide +kernel
theorem dX5_save_34 : decode cX5_save 34 = .ok (.aload_n 0, 1) := by decide +kernel
theorem dX5_save_35 : decode cX5_save 35 = .ok (.getfield 27, 3) := by decide +kernel
theorem dX5_save_38 : decode cX5_save 38 = .ok (.aaload, 1) := by decide +kernel
theorem dX5_save_39 : decode cX5_save 39 = .ok (.invokevirtual 314, 3) := by decide +kernel
theorem dX5_save_42 : decode cX5_save 42 = .ok (.return_, 1) := by decide +kernel
theorem dX5_writeSaved_0 : decode cX5_writeSaved 0 = .ok (.aload_n 1, 1) := by decide +kernel
theorem dX5_writeSaved_1 : decode cX5_writeSaved 1 = .ok (.ifnull 21, 3) := by decide +kernel
theorem dX5_writeSaved_4 : decode cX5_writeSaved 4 = .ok (.aload_n 1, 1) := by decide +kernel
theorem dX5_writeSaved_5 : decode cX5_writeSaved 5 = .ok (.aload_n 0, 1) := by decide +kernel
theorem dX5_writeSaved_6 : decode cX5_writeSaved 6 = .ok (.getfield 12, 3) := by decide +kernel
theorem dX5_writeSaved_9 : decode cX5_writeSaved 9 = .ok (.invokevirtual 167, 3) := by decide +kernel
theorem dX5_writeSaved_12 : decode cX5_writeSaved 12 = .ok (.aload_n 0, 1) := by decide +kernel
theorem dX5_writeSaved_13 : decode cX5_writeSaved 13 = .ok (.dup, 1) := by decide +kernel
theorem dX5_writeSaved_14 : decode cX5_writeSaved 14 = .ok (.getfield 27, 3) := by decide +kernel
theorem dX5_writeSaved_17 : decode cX5_writeSaved 17 = .ok (.iconst 1, 1) := by decide +kernel
theorem dX5_writeSaved_18 : decode cX5_writeSaved 18 = .ok (.iadd, 1) := by decide +kernel
theorem dX5_writeSaved_19 : decode cX5_writeSaved 19 = .ok (.putfield 27, 3) := by decide +kernel
theorem dX5_writeSaved_22 : decode cX5_writeSaved 22 = .ok (.return_, 1) := by decide +kernel
theorem dX5_dropOldest_0 : decode cX5_dropOldest 0 = .ok (.aload_n 0, 1) := by decide +kernel
theorem dX5_dropOldest_1 : decode cX5_dropOldest 1 = .ok (.getfield 23, 3) := by decide +kernel
theorem dX5_dropOldest_4 : decode cX5_dropOldest 4 = .ok (.iconst 0, 1) := by decide +kernel
theorem dX5_dropOldest_5 : decode cX5_dropOldest 5 = .ok (.aaload, 1) := by decide +kernel
theorem dX5_dropOldest_6 : decode cX5_dropOldest 6 = .ok (.astore_n 1, 1) := by decide +kernel
theorem dX5_dropOldest_7 : decode cX5_dropOldest 7 = .ok (.iconst 1, 1) := by decide +kernel
theorem dX5_dropOldest_8 : decode cX5_dropOldest 8 = .ok (.istore_n 2, 1) := by decide +kernel
theorem dX5_dropOldest_9 : decode cX5_dropOldest 9 = .ok (.iload_n 2, 1) := by decide +kernel
theorem dX5_dropOldest_10 : decode cX5_dropOldest 10 = .ok (.bipush 6, 2) := by decide +kernel
theorem dX5_dropOldest_12 : decode cX5_dropOldest 12 = .ok (.if_icmp .ge 23, 3) := by decide +kernel
theorem dX5_dropOldest_15 : decode cX5_dropOldest 15 = .ok (.aload_n 0, 1) := by decide +kernel
theorem dX5_dropOldest_16 : decode cX5_dropOldest 16 = .ok (.getfield 23, 3) := by decide +kernel
theorem dX5_dropOldest_19 : decode cX5_dropOldest 19 = .ok (.iload_n 2, 1) := by decide +kernel
theorem dX5_dropOldest_20 : decode cX5_dropOldest 20 = .ok (.iconst 1, 1) := by decide +kernel
theorem dX5_dropOldest_21 : decode cX5_dropOldest 21 = .ok (.isub, 1) := by decide +kernel
theorem dX5_dropOldest_22 : decode cX5_dropOldest 22 = .ok (.aload_n 0, 1) := by decide +kernel
theorem dX5_dropOldest_23 : decode cX5_dropOldest 23 = .ok (.getfield 23, 3) := by decide +kernel
theorem dX5_dropOldest_26 : decode cX5_dropOldest 26 = .ok (.iload_n 2, 1) := by decide +kernel
theorem dX5_dropOldest_27 : decode cX5_dropOldest 27 = .ok (.aaload, 1) := by decide +kernel
theorem dX5_dropOldest_28 : decode cX5_dropOldest 28 = .ok (.aastore, 1) := by decide +kernel
theorem dX5_dropOldest_29 : decode cX5_dropOldest 29 = .ok (.iinc 2 1, 3) := by decide +kernel
theorem dX5_dropOldest_32 : decode cX5_dropOldest 32 = .ok (.goto (-23), 3) := by decide +kernel
theorem dX5_dropOldest_35 : decode cX5_dropOldest 35 = .ok (.aload_n 0, 1) := by decide +kernel
theorem dX5_dropOldest_36 : decode cX5_dropOldest 36 = .ok (.getfield 23, 3) := by decide +kernel
theorem dX5_dropOldest_39 : decode cX5_dropOldest 39 = .ok (.iconst 5, 1) := by decide +kernel
theorem dX5_dropOldest_40 : decode cX5_dropOldest 40 = .ok (.aload_n 1, 1) := by decide +kernel
theorem dX5_dropOldest_41 : decode cX5_dropOldest 41 = .ok (.aastore, 1) := by decide +kernel
theorem dX5_dropOldest_42 : decode cX5_dropOldest 42 = .ok (.aload_n 0, 1) := by decide +kernel
theorem dX5_dropOldest_43 : decode cX5_dropOldest 43 = .ok (.iconst 5, 1) := by decide +kernel
theorem dX5_dropOldest_44 : decode cX5_dropOldest 44 = .ok (.putfield 27, 3) := by decide +kernel
theorem dX5_dropOldest_47 : decode cX5_dropOldest 47 = .ok (.return_, 1) := by decide +kernel
theorem dX5_showKey_0 : decode cX5_showKey 0 = .ok (.aload_n 0, 1) := by decide +kernel
theorem dX5_showKey_1 : decode cX5_showKey 1 = .ok (.getfield 41, 3) := by decide +kernel
theorem dX5_showKey_4 : decode cX5_showKey 4 = .ok (.invokevirtual 110, 3) := by decide +kernel
theorem dX5_showKey_7 : decode cX5_showKey 7 = .ok (.aload_n 0, 1) := by decide +kernel
theorem dX5_showKey_8 : decode cX5_showKey 8 = .ok (.getfield 12, 3) := by decide +kernel
theorem dX5_showKey_11 : decode cX5_showKey 11 = .ok (.getfield 124, 3) := by decide +kernel
theorem dX5_showKey_14 : decode cX5_showKey 14 = .ok (.aload_n 0, 1) := by decide +kernel
theorem dX5_showKey_15 : decode cX5_showKey 15 = .ok (.getfield 41, 3) := by decide +kernel
theorem dX5_showKey_18 : decode cX5_showKey 18 = .ok (.iload_n 1, 1) := by decide +kernel
theorem dX5_showKey_19 : decode cX5_showKey 19 = .ok (.iconst 0, 1) := by decide +kernel
theorem dX5_showKey_20 : decode cX5_showKey 20 = .ok (.invokestatic 248, 3) := by decide +kernel
theorem dX5_showKey_23 : decode cX5_showKey 23 = .ok (.invokevirtual 251, 3) := by decide +kernel
theorem dX5_showKey_26 : decode cX5_showKey 26 = .ok (.return_, 1) := by decide +kernel
theorem dX5_showPair_0 : decode cX5_showPair 0 = .ok (.aload_n 0, 1) := by decide +kernel
theorem dX5_showPair_1 : decode cX5_showPair 1 = .ok (.getfield 41, 3) := by decide +kernel
theorem dX5_showPair_4 : decode cX5_showPair 4 = .ok (.invokevirtual 110, 3) := by decide +kernel
theorem dX5_showPair_7 : decode cX5_showPair 7 = .ok (.aload_n 0, 1) := by decide +kernel
theorem dX5_showPair_8 : decode cX5_showPair 8 = .ok (.getfield 12, 3) := by decide +kernel
theorem dX5_showPair_11 : decode cX5_showPair 11 = .ok (.getfield 124, 3) := by decide +kernel
theorem dX5_showPair_14 : decode cX5_showPair 14 = .ok (.aload_n 0, 1) := by decide +kernel
theorem dX5_showPair_15 : decode cX5_showPair 15 = .ok (.getfield 41, 3) := by decide +kernel
theorem dX5_showPair_18 : decode cX5_showPair 18 = .ok (.iload_n 1, 1) := by decide +kernel
theorem dX5_showPair_19 : decode cX5_showPair 19 = .ok (.iconst 0, 1) := by decide +kernel
theorem dX5_showPair_20 : decode cX5_showPair 20 = .ok (.invokestatic 248, 3) := by decide +kernel
theorem dX5_showPair_23 : decode cX5_showPair 23 = .ok (.invokevirtual 251, 3) := by decide +kernel
theorem dX5_showPair_26 : decode cX5_showPair 26 = .ok (.aload_n 0, 1) := by decide +kernel
theorem dX5_showPair_27 : decode cX5_showPair 27 = .ok (.getfield 12, 3) := by decide +kernel
theorem dX5_showPair_30 : decode cX5_showPair 30 = .ok (.getfield 124, 3) := by decide +kernel
theorem dX5_showPair_33 : decode cX5_showPair 33 = .ok (.aload_n 0, 1) := by decide +kernel
theorem dX5_showPair_34 : decode cX5_showPair 34 = .ok (.getfield 41, 3) := by decide +kernel
theorem dX5_showPair_37 : decode cX5_showPair 37 = .ok (.iload_n 2, 1) := by decide +kernel
theorem dX5_showPair_38 : decode cX5_showPair 38 = .ok (.iconst 0, 1) := by decide +kernel
theorem dX5_showPair_39 : decode cX5_showPair 39 = .ok (.invokestatic 248, 3) := by decide +kernel
theorem dX5_showPair_42 : decode cX5_showPair 42 = .ok (.invokevirtual 251, 3) := by decide +kernel
theorem dX5_showPair_45 : decode cX5_showPair 45 = .ok (.aload_n 0, 1) := by decide +kernel
theorem dX5_showPair_46 : decode cX5_showPair 46 = .ok (.getfield 12, 3) := by decide +kernel
theorem dX5_showPair_49 : decode cX5_showPair 49 = .ok (.getfield 124, 3) := by decide +kernel
theorem dX5_showPair_52 : decode cX5_showPair 52 = .ok (.aload_n 0, 1) := by decide +kernel
theorem dX5_showPair_53 : decode cX5_showPair 53 = .ok (.getfield 41, 3) := by decide +kernel
theorem dX5_showPair_56 : decode cX5_showPair 56 = .ok (.iload_n 1, 1) := by decide +kernel
theorem dX5_showPair_57 : decode cX5_showPair 57 = .ok (.iconst 1, 1) := by decide +kernel
theorem dX5_showPair_58 : decode cX5_showPair 58 = .ok (.invokestatic 248, 3) := by decide +kernel
theorem dX5_showPair_61 : decode cX5_showPair 61 = .ok (.invokevirtual 251, 3) := by decide +kernel
theorem dX5_showPair_64 : decode cX5_showPair 64 = .ok (.aload_n 0, 1) := by decide +kernel
theorem dX5_showPair_65 : decode cX5_showPair 65 = .ok (.getfield 12, 3) := by decide +kernel
theorem dX5_showPair_68 : decode cX5_showPair 68 = .ok (.getfield 124, 3) := by decide +kernel
theorem dX5_showPair_71 : decode cX5_showPair 71 = .ok (.aload_n 0, 1) := by decide +kernel
theorem dX5_showPair_72 : decode cX5_showPair 72 = .ok (.getfield 41, 3) := by decide +kernel
theorem dX5_showPair_75 : decode cX5_showPair 75 = .ok (.iload_n 2, 1) := by decide +kernel
theorem dX5_showPair_76 : decode cX5_showPair 76 = .ok (.iconst 1, 1) := by decide +kernel
theorem dX5_showPair_77 : decode cX5_showPair 77 = .ok (.invokestatic 248, 3) := by decide +kernel
theorem dX5_showPair_80 : decode cX5_showPair 80 = .ok (.invokevirtual 251, 3) := by decide +kernel
theorem dX5_showPair_83 : decode cX5_showPair 83 = .ok (.return_, 1) := by decide +kernel
theorem dX5_periodByDoing_0 : decode cX5_periodByDoing 0 = .ok (.aload_n 0, 1) := by decide +kernel
theorem dX5_periodByDoing_1 : decode cX5_periodByDoing 1 = .ok (.getfield 45, 3) := by decide +kernel
theorem dX5_periodByDoing_4 : decode cX5_periodByDoing 4 = .ok (.aload_n 0, 1) := by decide +kernel
theorem dX5_periodByDoing_5 : decode cX5_periodByDoing 5 = .ok (.getfield 41, 3) := by decide +kernel
theorem dX5_periodByDoing_8 : decode cX5_periodByDoing 8 = .ok (.invokevirtual 149, 3) := by decide +kernel
theorem dX5_periodByDoing_11 : decode cX5_periodByDoing 11 = .ok (.iconst 1, 1) := by decide +kernel
theorem dX5_periodByDoing_12 : decode cX5_periodByDoing 12 = .ok (.istore_n 1, 1) := by decide +kernel
theorem dX5_periodByDoing_13 : decode cX5_periodByDoing 13 = .ok (.iload_n 1, 1) := by decide +kernel
theorem dX5_periodByDoing_14 : decode cX5_periodByDoing 14 = .ok (.ldc_w 323, 3) := by decide +kernel
theorem dX5_periodByDoing_17 : decode cX5_periodByDoing 17 = .ok (.if_icmp .ge 30, 3) := by decide +kernel
theorem dX5_periodByDoing_20 : decode cX5_periodByDoing 20 = .ok (.aload_n 0, 1) := by decide +kernel
theorem dX5_periodByDoing_21 : decode cX5_periodByDoing 21 = .ok (.getfield 45, 3) := by decide +kernel
theorem dX5_periodByDoing_24 : decode cX5_periodByDoing 24 = .ok (.invokevirtual 102, 3) := by decide +kernel
theorem dX5_periodByDoing_27 : decode cX5_periodByDoing 27 = .ok (.ifCond .eq 20, 3) := by decide +kernel
theorem dX5_periodByDoing_30 : decode cX5_periodByDoing 30 = .ok (.aload_n 0, 1) := by decide +kernel
theorem dX5_periodByDoing_31 : decode cX5_periodByDoing 31 = .ok (.getfield 45, 3) := by decide +kernel
theorem dX5_periodByDoing_34 : decode cX5_periodByDoing 34 = .ok (.aload_n 0, 1) := by decide +kernel
theorem dX5_periodByDoing_35 : decode cX5_periodByDoing 35 = .ok (.getfield 41, 3) := by decide +kernel
theorem dX5_periodByDoing_38 : decode cX5_periodByDoing 38 = .ok (.invokevirtual 324, 3) := by decide +kernel
theorem dX5_periodByDoing_41 : decode cX5_periodByDoing 41 = .ok (.iinc 1 1, 3) := by decide +kernel
theorem dX5_periodByDoing_44 : decode cX5_periodByDoing 44 = .ok (.goto (-31), 3) := by decide +kernel
theorem dX5_periodByDoing_47 : decode cX5_periodByDoing 47 = .ok (.iload_n 1, 1) := by decide +kernel
theorem dX5_periodByDoing_48 : decode cX5_periodByDoing 48 = .ok (.ireturn, 1) := by decide +kernel
theorem dX5_moveOf_0 : decode cX5_moveOf 0 = .ok (.iload_n 1, 1) := by decide +kernel
theorem dX5_moveOf_1 : decode cX5_moveOf 1 = .ok (.ifCond .eq 9, 3) := by decide +kernel
theorem dX5_moveOf_4 : decode cX5_moveOf 4 = .ok (.iconst 5, 1) := by decide +kernel
theorem dX5_moveOf_5 : decode cX5_moveOf 5 = .ok (.iload_n 0, 1) := by decide +kernel
theorem dX5_moveOf_6 : decode cX5_moveOf 6 = .ok (.iadd, 1) := by decide +kernel
theorem dX5_moveOf_7 : decode cX5_moveOf 7 = .ok (.goto 4, 3) := by decide +kernel
theorem dX5_moveOf_10 : decode cX5_moveOf 10 = .ok (.iload_n 0, 1) := by decide +kernel
theorem dX5_moveOf_11 : decode cX5_moveOf 11 = .ok (.ireturn, 1) := by decide +kernel
theorem dX5_isBack_0 : decode cX5_isBack 0 = .ok (.iload_n 0, 1) := by decide +kernel
theorem dX5_isBack_1 : decode cX5_isBack 1 = .ok (.iconst 5, 1) := by decide +kernel
theorem dX5_isBack_2 : decode cX5_isBack 2 = .ok (.if_icmp .lt 7, 3) := by decide +kernel
theorem dX5_isBack_5 : decode cX5_isBack 5 = .ok (.iconst 1, 1) := by decide +kernel
theorem dX5_isBack_6 : decode cX5_isBack 6 = .ok (.goto 4, 3) := by decide +kernel
theorem dX5_isBack_9 : decode cX5_isBack 9 = .ok (.iconst 0, 1) := by decide +kernel
theorem dX5_isBack_10 : decode cX5_isBack 10 = .ok (.ireturn, 1) := by decide +kernel
theorem dX5_keyOf_0 : decode cX5_keyOf 0 = .ok (.iload_n 0, 1) := by decide +kernel
theorem dX5_keyOf_1 : decode cX5_keyOf 1 = .ok (.iconst 5, 1) := by decide +kernel
theorem dX5_keyOf_2 : decode cX5_keyOf 2 = .ok (.if_icmp .lt 9, 3) := by decide +kernel
theorem dX5_keyOf_5 : decode cX5_keyOf 5 = .ok (.iload_n 0, 1) := by decide +kernel
theorem dX5_keyOf_6 : decode cX5_keyOf 6 = .ok (.iconst 5, 1) := by decide +kernel
theorem dX5_keyOf_7 : decode cX5_keyOf 7 = .ok (.isub, 1) := by decide +kernel
theorem dX5_keyOf_8 : decode cX5_keyOf 8 = .ok (.goto 4, 3) := by decide +kernel
theorem dX5_keyOf_11 : decode cX5_keyOf 11 = .ok (.iload_n 0, 1) := by decide +kernel
theorem dX5_keyOf_12 : decode cX5_keyOf 12 = .ok (.ireturn, 1) := by decide +kernel
theorem dJ6_bitCount_0f7a4_0 : decode cJ6_bitCount_0f7a4 0 = .ok (.iload_n 0, 1) := by decide +kernel
theorem dJ6_bitCount_0f7a4_1 : decode cJ6_bitCount_0f7a4 1 = .ok (.iload_n 0, 1) := by decide +kernel
theorem dJ6_bitCount_0f7a4_2 : decode cJ6_bitCount_0f7a4 2 = .ok (.iconst 1, 1) := by decide +kernel
theorem dJ6_bitCount_0f7a4_3 : decode cJ6_bitCount_0f7a4 3 = .ok (.iushr, 1) := by decide +kernel
theorem dJ6_bitCount_0f7a4_4 : decode cJ6_bitCount_0f7a4 4 = .ok (.ldc_w 265, 3) := by decide +kernel
theorem dJ6_bitCount_0f7a4_7 : decode cJ6_bitCount_0f7a4 7 = .ok (.iand, 1) := by decide +kernel
theorem dJ6_bitCount_0f7a4_8 : decode cJ6_bitCount_0f7a4 8 = .ok (.isub, 1) := by decide +kernel
theorem dJ6_bitCount_0f7a4_9 : decode cJ6_bitCount_0f7a4 9 = .ok (.istore_n 0, 1) := by decide +kernel
theorem dJ6_bitCount_0f7a4_10 : decode cJ6_bitCount_0f7a4 10 = .ok (.iload_n 0, 1) := by decide +kernel
theorem dJ6_bitCount_0f7a4_11 : decode cJ6_bitCount_0f7a4 11 = .ok (.ldc_w 266, 3) := by decide +kernel
theorem dJ6_bitCount_0f7a4_14 : decode cJ6_bitCount_0f7a4 14 = .ok (.iand, 1) := by decide +kernel
theorem dJ6_bitCount_0f7a4_15 : decode cJ6_bitCount_0f7a4 15 = .ok (.iload_n 0, 1) := by decide +kernel
theorem dJ6_bitCount_0f7a4_16 : decode cJ6_bitCount_0f7a4 16 = .ok (.iconst 2, 1) := by decide +kernel
theorem dJ6_bitCount_0f7a4_17 : decode cJ6_bitCount_0f7a4 17 = .ok (.iushr, 1) := by decide +kernel
theorem dJ6_bitCount_0f7a4_18 : decode cJ6_bitCount_0f7a4 18 = .ok (.ldc_w 266, 3) := by decide +kernel
theorem dJ6_bitCount_0f7a4_21 : decode cJ6_bitCount_0f7a4 21 = .ok (.iand, 1) := by decide +kernel
theorem dJ6_bitCount_0f7a4_22 : decode cJ6_bitCount_0f7a4 22 = .ok (.iadd, 1) := by decide +kernel
theorem dJ6_bitCount_0f7a4_23 : decode cJ6_bitCount_0f7a4 23 = .ok (.istore_n 0, 1) := by decide +kernel
theorem dJ6_bitCount_0f7a4_24 : decode cJ6_bitCount_0f7a4 24 = .ok (.iload_n 0, 1) := by decide +kernel
theorem dJ6_bitCount_0f7a4_25 : decode cJ6_bitCount_0f7a4 25 = .ok (.iload_n 0, 1) := by decide +kernel
theorem dJ6_bitCount_0f7a4_26 : decode cJ6_bitCount_0f7a4 26 = .ok (.iconst 4, 1) := by decide +kernel
theorem dJ6_bitCount_0f7a4_27 : decode cJ6_bitCount_0f7a4 27 = .ok (.iushr, 1) := by decide +kernel
theorem dJ6_bitCount_0f7a4_28 : decode cJ6_bitCount_0f7a4 28 = .ok (.iadd, 1) := by decide +kernel
theorem dJ6_bitCount_0f7a4_29 : decode cJ6_bitCount_0f7a4 29 = .ok (.ldc_w 267, 3) := by decide +kernel
theorem dJ6_bitCount_0f7a4_32 : decode cJ6_bitCount_0f7a4 32 = .ok (.iand, 1) := by decide +kernel
theorem dJ6_bitCount_0f7a4_33 : decode cJ6_bitCount_0f7a4 33 = .ok (.istore_n 0, 1) := by decide +kernel
theorem dJ6_bitCount_0f7a4_34 : decode cJ6_bitCount_0f7a4 34 = .ok (.iload_n 0, 1) := by decide +kernel
theorem dJ6_bitCount_0f7a4_35 : decode cJ6_bitCount_0f7a4 35 = .ok (.iload_n 0, 1) := by decide +kernel
theorem dJ6_bitCount_0f7a4_36 : decode cJ6_bitCount_0f7a4 36 = .ok (.bipush 8, 2) := by decide +kernel
theorem dJ6_bitCount_0f7a4_38 : decode cJ6_bitCount_0f7a4 38 = .ok (.iushr, 1) := by decide +kernel
theorem dJ6_bitCount_0f7a4_39 : decode cJ6_bitCount_0f7a4 39 = .ok (.iadd, 1) := by decide +kernel
theorem dJ6_bitCount_0f7a4_40 : decode cJ6_bitCount_0f7a4 40 = .ok (.istore_n 0, 1) := by decide +kernel
theorem dJ6_bitCount_0f7a4_41 : decode cJ6_bitCount_0f7a4 41 = .ok (.iload_n 0, 1) := by decide +kernel
theorem dJ6_bitCount_0f7a4_42 : decode cJ6_bitCount_0f7a4 42 = .ok (.iload_n 0, 1) := by decide +kernel
theorem dJ6_bitCount_0f7a4_43 : decode cJ6_bitCount_0f7a4 43 = .ok (.bipush 16, 2) := by decide +kernel
theorem dJ6_bitCount_0f7a4_45 : decode cJ6_bitCount_0f7a4 45 = .ok (.iushr, 1) := by decide +kernel
theorem dJ6_bitCount_0f7a4_46 : decode cJ6_bitCount_0f7a4 46 = .ok (.iadd, 1) := by decide +kernel
theorem dJ6_bitCount_0f7a4_47 : decode cJ6_bitCount_0f7a4 47 = .ok (.istore_n 0, 1) := by decide +kernel
theorem dJ6_bitCount_0f7a4_48 : decode cJ6_bitCount_0f7a4 48 = .ok (.iload_n 0, 1) := by decide +kernel
theorem dJ6_bitCount_0f7a4_49 : decode cJ6_bitCount_0f7a4 49 = .ok (.bipush 63, 2) := by decide +kernel
theorem dJ6_bitCount_0f7a4_51 : decode cJ6_bitCount_0f7a4 51 = .ok (.iand, 1) := by decide +kernel
theorem dJ6_bitCount_0f7a4_52 : decode cJ6_bitCount_0f7a4 52 = .ok (.ireturn, 1) := by decide +kernel
theorem dJ9_floorMod_7cf53_0 : decode cJ9_floorMod_7cf53 0 = .ok (.iload_n 0, 1) := by decide +kernel
theorem dJ9_floorMod_7cf53_1 : decode cJ9_floorMod_7cf53 1 = .ok (.iload_n 1, 1) := by decide +kernel
theorem dJ9_floorMod_7cf53_2 : decode cJ9_floorMod_7cf53 2 = .ok (.irem, 1) := by decide +kernel
theorem dJ9_floorMod_7cf53_3 : decode cJ9_floorMod_7cf53 3 = .ok (.istore_n 2, 1) := by decide +kernel
theorem dJ9_floorMod_7cf53_4 : decode cJ9_floorMod_7cf53 4 = .ok (.iload_n 0, 1) := by decide +kernel
theorem dJ9_floorMod_7cf53_5 : decode cJ9_floorMod_7cf53 5 = .ok (.iload_n 1, 1) := by decide +kernel
theorem dJ9_floorMod_7cf53_6 : decode cJ9_floorMod_7cf53 6 = .ok (.ixor, 1) := by decide +kernel
theorem dJ9_floorMod_7cf53_7 : decode cJ9_floorMod_7cf53 7 = .ok (.ifCond .ge 11, 3) := by decide +kernel
theorem dJ9_floorMod_7cf53_10 : decode cJ9_floorMod_7cf53 10 = .ok (.iload_n 2, 1) := by decide +kernel
theorem dJ9_floorMod_7cf53_11 : decode cJ9_floorMod_7cf53 11 = .ok (.ifCond .eq 7, 3) := by decide +kernel
theorem dJ9_floorMod_7cf53_14 : decode cJ9_floorMod_7cf53 14 = .ok (.iload_n 2, 1) := by decide +kernel
theorem dJ9_floorMod_7cf53_15 : decode cJ9_floorMod_7cf53 15 = .ok (.iload_n 1, 1) := by decide +kernel
theorem dJ9_floorMod_7cf53_16 : decode cJ9_floorMod_7cf53 16 = .ok (.iadd, 1) := by decide +kernel
theorem dJ9_floorMod_7cf53_17 : decode cJ9_floorMod_7cf53 17 = .ok (.ireturn, 1) := by decide +kernel
theorem dJ9_floorMod_7cf53_18 : decode cJ9_floorMod_7cf53 18 = .ok (.iload_n 2, 1) := by decide +kernel
theorem dJ9_floorMod_7cf53_19 : decode cJ9_floorMod_7cf53 19 = .ok (.ireturn, 1) := by decide +kernel
