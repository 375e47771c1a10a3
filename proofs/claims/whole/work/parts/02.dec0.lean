theorem dX0_init_0 : decode cX0_init 0 = .ok (.aload_n 0, 1) := by decide +kernel
theorem dX0_init_1 : decode cX0_init 1 = .ok (.invokespecial 3, 3) := by decide +kernel
theorem dX0_init_4 : decode cX0_init 4 = .ok (.aload_n 0, 1) := by decide +kernel
theorem dX0_init_5 : decode cX0_init 5 = .ok (.bipush 6, 2) := by decide +kernel
theorem dX0_init_7 : decode cX0_init 7 = .ok (.newarray .int, 2) := by decide +kernel
theorem dX0_init_9 : decode cX0_init 9 = .ok (.putfield 9, 3) := by decide +kernel
theorem dX0_init_12 : decode cX0_init 12 = .ok (.aload_n 0, 1) := by decide +kernel
theorem dX0_init_13 : decode cX0_init 13 = .ok (.bipush 6, 2) := by decide +kernel
theorem dX0_init_15 : decode cX0_init 15 = .ok (.newarray .int, 2) := by decide +kernel
theorem dX0_init_17 : decode cX0_init 17 = .ok (.putfield 15, 3) := by decide +kernel
theorem dX0_init_20 : decode cX0_init 20 = .ok (.aload_n 0, 1) := by decide +kernel
theorem dX0_init_21 : decode cX0_init 21 = .ok (.getfield 15, 3) := by decide +kernel
theorem dX0_init_24 : decode cX0_init 24 = .ok (.bipush (-9), 2) := by decide +kernel
theorem dX0_init_26 : decode cX0_init 26 = .ok (.invokestatic 18, 3) := by decide +kernel
theorem dX0_init_29 : decode cX0_init 29 = .ok (.return_, 1) := by decide +kernel
theorem dX0_become_0 : decode cX0_become 0 = .ok (.aload_n 1, 1) := by decide +kernel
theorem dX0_become_1 : decode cX0_become 1 = .ok (.getfield 9, 3) := by decide +kernel
theorem dX0_become_4 : decode cX0_become 4 = .ok (.iconst 0, 1) := by decide +kernel
theorem dX0_become_5 : decode cX0_become 5 = .ok (.aload_n 0, 1) := by decide +kernel
theorem dX0_become_6 : decode cX0_become 6 = .ok (.getfield 9, 3) := by decide +kernel
theorem dX0_become_9 : decode cX0_become 9 = .ok (.iconst 0, 1) := by decide +kernel
theorem dX0_become_10 : decode cX0_become 10 = .ok (.bipush 6, 2) := by decide +kernel
theorem dX0_become_12 : decode cX0_become 12 = .ok (.invokestatic 24, 3) := by decide +kernel
theorem dX0_become_15 : decode cX0_become 15 = .ok (.aload_n 1, 1) := by decide +kernel
theorem dX0_become_16 : decode cX0_become 16 = .ok (.getfield 15, 3) := by decide +kernel
theorem dX0_become_19 : decode cX0_become 19 = .ok (.iconst 0, 1) := by decide +kernel
theorem dX0_become_20 : decode cX0_become 20 = .ok (.aload_n 0, 1) := by decide +kernel
theorem dX0_become_21 : decode cX0_become 21 = .ok (.getfield 15, 3) := by decide +kernel
theorem dX0_become_24 : decode cX0_become 24 = .ok (.iconst 0, 1) := by decide +kernel
theorem dX0_become_25 : decode cX0_become 25 = .ok (.bipush 6, 2) := by decide +kernel
theorem dX0_become_27 : decode cX0_become 27 = .ok (.invokestatic 24, 3) := by decide +kernel
theorem dX0_become_30 : decode cX0_become 30 = .ok (.return_, 1) := by decide +kernel
theorem dX0_heldOf_0 : decode cX0_heldOf 0 = .ok (.iconst 0, 1) := by decide +kernel
theorem dX0_heldOf_1 : decode cX0_heldOf 1 = .ok (.istore_n 2, 1) := by decide +kernel
theorem dX0_heldOf_2 : decode cX0_heldOf 2 = .ok (.iconst 0, 1) := by decide +kernel
theorem dX0_heldOf_3 : decode cX0_heldOf 3 = .ok (.istore_n 3, 1) := by decide +kernel
theorem dX0_heldOf_4 : decode cX0_heldOf 4 = .ok (.iload_n 3, 1) := by decide +kernel
theorem dX0_heldOf_5 : decode cX0_heldOf 5 = .ok (.bipush 6, 2) := by decide +kernel
theorem dX0_heldOf_7 : decode cX0_heldOf 7 = .ok (.if_icmp .ge 28, 3) := by decide +kernel
theorem dX0_heldOf_10 : decode cX0_heldOf 10 = .ok (.aload_n 0, 1) := by decide +kernel
theorem dX0_heldOf_11 : decode cX0_heldOf 11 = .ok (.getfield 15, 3) := by decide +kernel
theorem dX0_heldOf_14 : decode cX0_heldOf 14 = .ok (.iload_n 3, 1) := by decide +kernel
theorem dX0_heldOf_15 : decode cX0_heldOf 15 = .ok (.iaload, 1) := by decide +kernel
theorem dX0_heldOf_16 : decode cX0_heldOf 16 = .ok (.iload_n 1, 1) := by decide +kernel
theorem dX0_heldOf_17 : decode cX0_heldOf 17 = .ok (.if_icmp .ne 12, 3) := by decide +kernel
theorem dX0_heldOf_20 : decode cX0_heldOf 20 = .ok (.iload_n 2, 1) := by decide +kernel
theorem dX0_heldOf_21 : decode cX0_heldOf 21 = .ok (.aload_n 0, 1) := by decide +kernel
theorem dX0_heldOf_22 : decode cX0_heldOf 22 = .ok (.getfield 9, 3) := by decide +kernel
theorem dX0_heldOf_25 : decode cX0_heldOf 25 = .ok (.iload_n 3, 1) := by decide +kernel
theorem dX0_heldOf_26 : decode cX0_heldOf 26 = .ok (.iaload, 1) := by decide +kernel
theorem dX0_heldOf_27 : decode cX0_heldOf 27 = .ok (.iadd, 1) := by decide +kernel
theorem dX0_heldOf_28 : decode cX0_heldOf 28 = .ok (.istore_n 2, 1) := by decide +kernel
theorem dX0_heldOf_29 : decode cX0_heldOf 29 = .ok (.iinc 3 1, 3) := by decide +kernel
theorem dX0_heldOf_32 : decode cX0_heldOf 32 = .ok (.goto (-28), 3) := by decide +kernel
theorem dX0_heldOf_35 : decode cX0_heldOf 35 = .ok (.iload_n 2, 1) := by decide +kernel
theorem dX0_heldOf_36 : decode cX0_heldOf 36 = .ok (.ireturn, 1) := by decide +kernel
theorem dX0_countBy_0 : decode cX0_countBy 0 = .ok (.iconst 0, 1) := by decide +kernel
theorem dX0_countBy_1 : decode cX0_countBy 1 = .ok (.istore_n 2, 1) := by decide +kernel
theorem dX0_countBy_2 : decode cX0_countBy 2 = .ok (.iconst 0, 1) := by decide +kernel
theorem dX0_countBy_3 : decode cX0_countBy 3 = .ok (.istore_n 3, 1) := by decide +kernel
theorem dX0_countBy_4 : decode cX0_countBy 4 = .ok (.iload_n 3, 1) := by decide +kernel
theorem dX0_countBy_5 : decode cX0_countBy 5 = .ok (.bipush 6, 2) := by decide +kernel
theorem dX0_countBy_7 : decode cX0_countBy 7 = .ok (.if_icmp .ge 22, 3) := by decide +kernel
theorem dX0_countBy_10 : decode cX0_countBy 10 = .ok (.aload_n 0, 1) := by decide +kernel
theorem dX0_countBy_11 : decode cX0_countBy 11 = .ok (.getfield 15, 3) := by decide +kernel
theorem dX0_countBy_14 : decode cX0_countBy 14 = .ok (.iload_n 3, 1) := by decide +kernel
theorem dX0_countBy_15 : decode cX0_countBy 15 = .ok (.iaload, 1) := by decide +kernel
theorem dX0_countBy_16 : decode cX0_countBy 16 = .ok (.iload_n 1, 1) := by decide +kernel
theorem dX0_countBy_17 : decode cX0_countBy 17 = .ok (.if_icmp .ne 6, 3) := by decide +kernel
theorem dX0_countBy_20 : decode cX0_countBy 20 = .ok (.iinc 2 1, 3) := by decide +kernel
theorem dX0_countBy_23 : decode cX0_countBy 23 = .ok (.iinc 3 1, 3) := by decide +kernel
theorem dX0_countBy_26 : decode cX0_countBy 26 = .ok (.goto (-22), 3) := by decide +kernel
theorem dX0_countBy_29 : decode cX0_countBy 29 = .ok (.iload_n 2, 1) := by decide +kernel
theorem dX0_countBy_30 : decode cX0_countBy 30 = .ok (.ireturn, 1) := by decide +kernel
theorem dX0_hasWeakAlone_0 : decode cX0_hasWeakAlone 0 = .ok (.iconst 0, 1) := by decide +kernel
theorem dX0_hasWeakAlone_1 : decode cX0_hasWeakAlone 1 = .ok (.istore_n 3, 1) := by decide +kernel
theorem dX0_hasWeakAlone_2 : decode cX0_hasWeakAlone 2 = .ok (.iload_n 3, 1) := by decide +kernel
theorem dX0_hasWeakAlone_3 : decode cX0_hasWeakAlone 3 = .ok (.bipush 6, 2) := by decide +kernel
theorem dX0_hasWeakAlone_5 : decode cX0_hasWeakAlone 5 = .ok (.if_icmp .ge 31, 3) := by decide +kernel
theorem dX0_hasWeakAlone_8 : decode cX0_hasWeakAlone 8 = .ok (.aload_n 0, 1) := by decide +kernel
theorem dX0_hasWeakAlone_9 : decode cX0_hasWeakAlone 9 = .ok (.getfield 15, 3) := by decide +kernel
theorem dX0_hasWeakAlone_12 : decode cX0_hasWeakAlone 12 = .ok (.iload_n 3, 1) := by decide +kernel
theorem dX0_hasWeakAlone_13 : decode cX0_hasWeakAlone 13 = .ok (.iaload, 1) := by decide +kernel
theorem dX0_hasWeakAlone_14 : decode cX0_hasWeakAlone 14 = .ok (.iload_n 1, 1) := by decide +kernel
theorem dX0_hasWeakAlone_15 : decode cX0_hasWeakAlone 15 = .ok (.if_icmp .ne 15, 3) := by decide +kernel
theorem dX0_hasWeakAlone_18 : decode cX0_hasWeakAlone 18 = .ok (.aload_n 0, 1) := by decide +kernel
theorem dX0_hasWeakAlone_19 : decode cX0_hasWeakAlone 19 = .ok (.getfield 9, 3) := by decide +kernel
theorem dX0_hasWeakAlone_22 : decode cX0_hasWeakAlone 22 = .ok (.iload_n 3, 1) := by decide +kernel
theorem dX0_hasWeakAlone_23 : decode cX0_hasWeakAlone 23 = .ok (.iaload, 1) := by decide +kernel
theorem dX0_hasWeakAlone_24 : decode cX0_hasWeakAlone 24 = .ok (.iload_n 2, 1) := by decide +kernel
theorem dX0_hasWeakAlone_25 : decode cX0_hasWeakAlone 25 = .ok (.if_icmp .lt 5, 3) := by decide +kernel
theorem dX0_hasWeakAlone_28 : decode cX0_hasWeakAlone 28 = .ok (.iconst 0, 1) := by decide +kernel
theorem dX0_hasWeakAlone_29 : decode cX0_hasWeakAlone 29 = .ok (.ireturn, 1) := by decide +kernel
theorem dX0_hasWeakAlone_30 : decode cX0_hasWeakAlone 30 = .ok (.iinc 3 1, 3) := by decide +kernel
theorem dX0_hasWeakAlone_33 : decode cX0_hasWeakAlone 33 = .ok (.goto (-31), 3) := by decide +kernel
theorem dX0_hasWeakAlone_36 : decode cX0_hasWeakAlone 36 = .ok (.aload_n 0, 1) := by decide +kernel
theorem dX0_hasWeakAlone_37 : decode cX0_hasWeakAlone 37 = .ok (.iload_n 1, 1) := by decide +kernel
theorem dX0_hasWeakAlone_38 : decode cX0_hasWeakAlone 38 = .ok (.invokevirtual 30, 3) := by decide +kernel
theorem dX0_hasWeakAlone_41 : decode cX0_hasWeakAlone 41 = .ok (.ifCond .le 7, 3) := by decide +kernel
theorem dX0_hasWeakAlone_44 : decode cX0_hasWeakAlone 44 = .ok (.iconst 1, 1) := by decide +kernel
theorem dX0_hasWeakAlone_45 : decode cX0_hasWeakAlone 45 = .ok (.goto 4, 3) := by decide +kernel
theorem dX0_hasWeakAlone_48 : decode cX0_hasWeakAlone 48 = .ok (.iconst 0, 1) := by decide +kernel
theorem dX0_hasWeakAlone_49 : decode cX0_hasWeakAlone 49 = .ok (.ireturn, 1) := by decide +kernel
theorem dX1_init_0 : decode cX1_init 0 = .ok (.aload_n 0, 1) := by decide +kernel
theorem dX1_init_1 : decode cX1_init 1 = .ok (.invokespecial 3, 3) := by decide +kernel
theorem dX1_init_4 : decode cX1_init 4 = .ok (.aload_n 0, 1) := by decide +kernel
theorem dX1_init_5 : decode cX1_init 5 = .ok (.getstatic 9, 3) := by decide +kernel
theorem dX1_init_8 : decode cX1_init 8 = .ok (.invokevirtual 13, 3) := by decide +kernel
theorem dX1_init_11 : decode cX1_init 11 = .ok (.checkcast 14, 3) := by decide +kernel
theorem dX1_init_14 : decode cX1_init 14 = .ok (.putfield 18, 3) := by decide +kernel
theorem dX1_init_17 : decode cX1_init 17 = .ok (.aload_n 0, 1) := by decide +kernel
theorem dX1_init_18 : decode cX1_init 18 = .ok (.getstatic 9, 3) := by decide +kernel
theorem dX1_init_21 : decode cX1_init 21 = .ok (.invokevirtual 13, 3) := by decide +kernel
theorem dX1_init_24 : decode cX1_init 24 = .ok (.checkcast 14, 3) := by decide +kernel
theorem dX1_init_27 : decode cX1_init 27 = .ok (.putfield 23, 3) := by decide +kernel
theorem dX1_init_30 : decode cX1_init 30 = .ok (.return_, 1) := by decide +kernel
theorem dX1_read_0 : decode cX1_read 0 = .ok (.getstatic 9, 3) := by decide +kernel
theorem dX1_read_3 : decode cX1_read 3 = .ok (.iconst 0, 1) := by decide +kernel
theorem dX1_read_4 : decode cX1_read 4 = .ok (.aload_n 0, 1) := by decide +kernel
theorem dX1_read_5 : decode cX1_read 5 = .ok (.getfield 23, 3) := by decide +kernel
theorem dX1_read_8 : decode cX1_read 8 = .ok (.iconst 0, 1) := by decide +kernel
theorem dX1_read_9 : decode cX1_read 9 = .ok (.iconst 5, 1) := by decide +kernel
theorem dX1_read_10 : decode cX1_read 10 = .ok (.invokestatic 26, 3) := by decide +kernel
theorem dX1_read_13 : decode cX1_read 13 = .ok (.iconst 0, 1) := by decide +kernel
theorem dX1_read_14 : decode cX1_read 14 = .ok (.istore_n 2, 1) := by decide +kernel
theorem dX1_read_15 : decode cX1_read 15 = .ok (.iconst 0, 1) := by decide +kernel
theorem dX1_read_16 : decode cX1_read 16 = .ok (.istore_n 3, 1) := by decide +kernel
theorem dX1_read_17 : decode cX1_read 17 = .ok (.aload_n 1, 1) := by decide +kernel
theorem dX1_read_18 : decode cX1_read 18 = .ok (.iconst 0, 1) := by decide +kernel
theorem dX1_read_19 : decode cX1_read 19 = .ok (.invokevirtual 32, 3) := by decide +kernel
theorem dX1_read_22 : decode cX1_read 22 = .ok (.istore 4, 2) := by decide +kernel
theorem dX1_read_24 : decode cX1_read 24 = .ok (.iload_n 3, 1) := by decide +kernel
theorem dX1_read_25 : decode cX1_read 25 = .ok (.iconst 5, 1) := by decide +kernel
theorem dX1_read_26 : decode cX1_read 26 = .ok (.if_icmp .ge 151, 3) := by decide +kernel
theorem dX1_read_29 : decode cX1_read 29 = .ok (.iload 4, 2) := by decide +kernel
theorem dX1_read_31 : decode cX1_read 31 = .ok (.aload_n 1, 1) := by decide +kernel
theorem dX1_read_32 : decode cX1_read 32 = .ok (.getfield 38, 3) := by decide +kernel
theorem dX1_read_35 : decode cX1_read 35 = .ok (.if_icmp .ge 142, 3) := by decide +kernel
theorem dX1_read_38 : decode cX1_read 38 = .ok (.aload_n 1, 1) := by decide +kernel
theorem dX1_read_39 : decode cX1_read 39 = .ok (.iload 4, 2) := by decide +kernel
theorem dX1_read_41 : decode cX1_read 41 = .ok (.invokestatic 42, 3) := by decide +kernel
theorem dX1_read_44 : decode cX1_read 44 = .ok (.istore 5, 2) := by decide +kernel
theorem dX1_read_46 : decode cX1_read 46 = .ok (.iload 5, 2) := by decide +kernel
theorem dX1_read_48 : decode cX1_read 48 = .ok (.bipush (-9), 2) := by decide +kernel
theorem dX1_read_50 : decode cX1_read 50 = .ok (.if_icmp .eq 12, 3) := by decide +kernel
theorem dX1_read_53 : decode cX1_read 53 = .ok (.iload_n 2, 1) := by decide +kernel
theorem dX1_read_54 : decode cX1_read 54 = .ok (.iload 5, 2) := by decide +kernel
theorem dX1_read_56 : decode cX1_read 56 = .ok (.invokestatic 46, 3) := by decide +kernel
theorem dX1_read_59 : decode cX1_read 59 = .ok (.ifCond .eq 9, 3) := by decide +kernel
theorem dX1_read_62 : decode cX1_read 62 = .ok (.bipush (-10), 2) := by decide +kernel
theorem dX1_read_64 : decode cX1_read 64 = .ok (.iload 4, 2) := by decide +kernel
theorem dX1_read_66 : decode cX1_read 66 = .ok (.isub, 1) := by decide +kernel
theorem dX1_read_67 : decode cX1_read 67 = .ok (.ireturn, 1) := by decide +kernel
theorem dX1_read_68 : decode cX1_read 68 = .ok (.aload_n 1, 1) := by decide +kernel
theorem dX1_read_69 : decode cX1_read 69 = .ok (.aload_n 1, 1) := by decide +kernel
theorem dX1_read_70 : decode cX1_read 70 = .ok (.iload 4, 2) := by decide +kernel
theorem dX1_read_72 : decode cX1_read 72 = .ok (.invokevirtual 50, 3) := by decide +kernel
theorem dX1_read_75 : decode cX1_read 75 = .ok (.invokevirtual 32, 3) := by decide +kernel
theorem dX1_read_78 : decode cX1_read 78 = .ok (.istore 4, 2) := by decide +kernel
theorem dX1_read_80 : decode cX1_read 80 = .ok (.aload_n 1, 1) := by decide +kernel
theorem dX1_read_81 : decode cX1_read 81 = .ok (.iload 4, 2) := by decide +kernel
theorem dX1_read_83 : decode cX1_read 83 = .ok (.invokevirtual 53, 3) := by decide +kernel
theorem dX1_read_86 : decode cX1_read 86 = .ok (.istore 6, 2) := by decide +kernel
theorem dX1_read_88 : decode cX1_read 88 = .ok (.iload 6, 2) := by decide +kernel
theorem dX1_read_90 : decode cX1_read 90 = .ok (.getstatic 56, 3) := by decide +kernel
theorem dX1_read_93 : decode cX1_read 93 = .ok (.iload 5, 2) := by decide +kernel
theorem dX1_read_95 : decode cX1_read 95 = .ok (.iaload, 1) := by decide +kernel
theorem dX1_read_96 : decode cX1_read 96 = .ok (.if_icmp .lt 14, 3) := by decide +kernel
theorem dX1_read_99 : decode cX1_read 99 = .ok (.iload 6, 2) := by decide +kernel
theorem dX1_read_101 : decode cX1_read 101 = .ok (.getstatic 59, 3) := by decide +kernel
theorem dX1_read_104 : decode cX1_read 104 = .ok (.iload 5, 2) := by decide +kernel
theorem dX1_read_106 : decode cX1_read 106 = .ok (.iaload, 1) := by decide +kernel
theorem dX1_read_107 : decode cX1_read 107 = .ok (.if_icmp .le 9, 3) := by decide +kernel
theorem dX1_read_110 : decode cX1_read 110 = .ok (.bipush (-10), 2) := by decide +kernel
theorem dX1_read_112 : decode cX1_read 112 = .ok (.iload 4, 2) := by decide +kernel
theorem dX1_read_114 : decode cX1_read 114 = .ok (.isub, 1) := by decide +kernel
theorem dX1_read_115 : decode cX1_read 115 = .ok (.ireturn, 1) := by decide +kernel
theorem dX1_read_116 : decode cX1_read 116 = .ok (.aload_n 1, 1) := by decide +kernel
theorem dX1_read_117 : decode cX1_read 117 = .ok (.aload_n 1, 1) := by decide +kernel
theorem dX1_read_118 : decode cX1_read 118 = .ok (.iload 4, 2) := by decide +kernel
theorem dX1_read_120 : decode cX1_read 120 = .ok (.invokevirtual 62, 3) := by decide +kernel
theorem dX1_read_123 : decode cX1_read 123 = .ok (.invokevirtual 32, 3) := by decide +kernel
theorem dX1_read_126 : decode cX1_read 126 = .ok (.istore 4, 2) := by decide +kernel
theorem dX1_read_128 : decode cX1_read 128 = .ok (.aload_n 1, 1) := by decide +kernel
theorem dX1_read_129 : decode cX1_read 129 = .ok (.iload 4, 2) := by decide +kernel
theorem dX1_read_131 : decode cX1_read 131 = .ok (.invokevirtual 65, 3) := by decide +kernel
theorem dX1_read_134 : decode cX1_read 134 = .ok (.bipush 59, 2) := by decide +kernel
theorem dX1_read_136 : decode cX1_read 136 = .ok (.if_icmp .eq 9, 3) := by decide +kernel
theorem dX1_read_139 : decode cX1_read 139 = .ok (.bipush (-10), 2) := by decide +kernel
theorem dX1_read_141 : decode cX1_read 141 = .ok (.iload 4, 2) := by decide +kernel
theorem dX1_read_143 : decode cX1_read 143 = .ok (.isub, 1) := by decide +kernel
theorem dX1_read_144 : decode cX1_read 144 = .ok (.ireturn, 1) := by decide +kernel
theorem dX1_read_145 : decode cX1_read 145 = .ok (.aload_n 1, 1) := by decide +kernel
theorem dX1_read_146 : decode cX1_read 146 = .ok (.iload 4, 2) := by decide +kernel
theorem dX1_read_148 : decode cX1_read 148 = .ok (.iconst 1, 1) := by decide +kernel
theorem dX1_read_149 : decode cX1_read 149 = .ok (.iadd, 1) := by decide +kernel
theorem dX1_read_150 : decode cX1_read 150 = .ok (.invokevirtual 32, 3) := by decide +kernel
theorem dX1_read_153 : decode cX1_read 153 = .ok (.istore 4, 2) := by decide +kernel
theorem dX1_read_155 : decode cX1_read 155 = .ok (.aload_n 0, 1) := by decide +kernel
theorem dX1_read_156 : decode cX1_read 156 = .ok (.getfield 23, 3) := by decide +kernel
theorem dX1_read_159 : decode cX1_read 159 = .ok (.iload 5, 2) := by decide +kernel
theorem dX1_read_161 : decode cX1_read 161 = .ok (.iload 6, 2) := by decide +kernel
theorem dX1_read_163 : decode cX1_read 163 = .ok (.iastore, 1) := by decide +kernel
theorem dX1_read_164 : decode cX1_read 164 = .ok (.iload_n 2, 1) := by decide +kernel
theorem dX1_read_165 : decode cX1_read 165 = .ok (.iconst 1, 1) := by decide +kernel
theorem dX1_read_166 : decode cX1_read 166 = .ok (.iload 5, 2) := by decide +kernel
theorem dX1_read_168 : decode cX1_read 168 = .ok (.ishl, 1) := by decide +kernel
theorem dX1_read_169 : decode cX1_read 169 = .ok (.ior, 1) := by decide +kernel
theorem dX1_read_170 : decode cX1_read 170 = .ok (.istore_n 2, 1) := by decide +kernel
theorem dX1_read_171 : decode cX1_read 171 = .ok (.iinc 3 1, 3) := by decide +kernel
theorem dX1_read_174 : decode cX1_read 174 = .ok (.goto (-150), 3) := by decide +kernel
theorem dX1_read_177 : decode cX1_read 177 = .ok (.iload 4, 2) := by decide +kernel
theorem dX1_read_179 : decode cX1_read 179 = .ok (.aload_n 1, 1) := by decide +kernel
theorem dX1_read_180 : decode cX1_read 180 = .ok (.getfield 38, 3) := by decide +kernel
theorem dX1_read_183 : decode cX1_read 183 = .ok (.if_icmp .ge 9, 3) := by decide +kernel
theorem dX1_read_186 : decode cX1_read 186 = .ok (.bipush (-10), 2) := by decide +kernel
theorem dX1_read_188 : decode cX1_read 188 = .ok (.iload 4, 2) := by decide +kernel
theorem dX1_read_190 : decode cX1_read 190 = .ok (.isub, 1) := by decide +kernel
theorem dX1_read_191 : decode cX1_read 191 = .ok (.ireturn, 1) := by decide +kernel
theorem dX1_read_192 : decode cX1_read 192 = .ok (.aload_n 0, 1) := by decide +kernel
theorem dX1_read_193 : decode cX1_read 193 = .ok (.getfield 23, 3) := by decide +kernel
theorem dX1_read_196 : decode cX1_read 196 = .ok (.iconst 0, 1) := by decide +kernel
theorem dX1_read_197 : decode cX1_read 197 = .ok (.aload_n 0, 1) := by decide +kernel
theorem dX1_read_198 : decode cX1_read 198 = .ok (.getfield 18, 3) := by decide +kernel
theorem dX1_read_201 : decode cX1_read 201 = .ok (.iconst 0, 1) := by decide +kernel
theorem dX1_read_202 : decode cX1_read 202 = .ok (.iconst 5, 1) := by decide +kernel
theorem dX1_read_203 : decode cX1_read 203 = .ok (.invokestatic 26, 3) := by decide +kernel
theorem dX1_read_206 : decode cX1_read 206 = .ok (.iload_n 3, 1) := by decide +kernel
theorem dX1_read_207 : decode cX1_read 207 = .ok (.ireturn, 1) := by decide +kernel
theorem dX1_itemAt_0 : decode cX1_itemAt 0 = .ok (.iconst 0, 1) := by decide +kernel
theorem dX1_itemAt_1 : decode cX1_itemAt 1 = .ok (.istore_n 2, 1) := by decide +kernel
theorem dX1_itemAt_2 : decode cX1_itemAt 2 = .ok (.iload_n 2, 1) := by decide +kernel
theorem dX1_itemAt_3 : decode cX1_itemAt 3 = .ok (.iconst 5, 1) := by decide +kernel
theorem dX1_itemAt_4 : decode cX1_itemAt 4 = .ok (.if_icmp .ge 23, 3) := by decide +kernel
theorem dX1_itemAt_7 : decode cX1_itemAt 7 = .ok (.aload_n 0, 1) := by decide +kernel
theorem dX1_itemAt_8 : decode cX1_itemAt 8 = .ok (.iload_n 1, 1) := by decide +kernel
theorem dX1_itemAt_9 : decode cX1_itemAt 9 = .ok (.iload_n 2, 1) := by decide +kernel
theorem dX1_itemAt_10 : decode cX1_itemAt 10 = .ok (.invokestatic 68, 3) := by decide +kernel
theorem dX1_itemAt_13 : decode cX1_itemAt 13 = .ok (.invokevirtual 72, 3) := by decide +kernel
theorem dX1_itemAt_16 : decode cX1_itemAt 16 = .ok (.ifCond .eq 5, 3) := by decide +kernel
theorem dX1_itemAt_19 : decode cX1_itemAt 19 = .ok (.iload_n 2, 1) := by decide +kernel
theorem dX1_itemAt_20 : decode cX1_itemAt 20 = .ok (.ireturn, 1) := by decide +kernel
theorem dX1_itemAt_21 : decode cX1_itemAt 21 = .ok (.iinc 2 1, 3) := by decide +kernel
theorem dX1_itemAt_24 : decode cX1_itemAt 24 = .ok (.goto (-22), 3) := by decide +kernel
theorem dX1_itemAt_27 : decode cX1_itemAt 27 = .ok (.bipush (-9), 2) := by decide +kernel
theorem dX1_itemAt_29 : decode cX1_itemAt 29 = .ok (.ireturn, 1) := by decide +kernel
theorem dX1_wordOf_0 : decode cX1_wordOf 0 = .ok (.iload_n 0, 1) := by decide +kernel
theorem dX1_wordOf_1 : decode cX1_wordOf 1 = .ok (.tableswitch 43 0 3 #[31, 34, 37, 40], 31) := by decide +kernel
theorem dX1_wordOf_32 : decode cX1_wordOf 32 = .ok (.ldc 76, 2) := by decide +kernel
theorem dX1_wordOf_34 : decode cX1_wordOf 34 = .ok (.areturn, 1) := by decide +kernel
theorem dX1_wordOf_35 : decode cX1_wordOf 35 = .ok (.ldc 78, 2) := by decide +kernel
theorem dX1_wordOf_37 : decode cX1_wordOf 37 = .ok (.areturn, 1) := by decide +kernel
theorem dX1_wordOf_38 : decode cX1_wordOf 38 = .ok (.ldc 80, 2) := by decide +kernel
theorem dX1_wordOf_40 : decode cX1_wordOf 40 = .ok (.areturn, 1) := by decide +kernel
theorem dX1_wordOf_41 : decode cX1_wordOf 41 = .ok (.ldc 82, 2) := by decide +kernel
theorem dX1_wordOf_43 : decode cX1_wordOf 43 = .ok (.areturn, 1) := by decide +kernel
theorem dX1_wordOf_44 : decode cX1_wordOf 44 = .ok (.ldc 84, 2) := by decide +kernel
theorem dX1_wordOf_46 : decode cX1_wordOf 46 = .ok (.areturn, 1) := by decide +kernel
theorem dX2_init_0 : decode cX2_init 0 = .ok (.aload_n 0, 1) := by decide +kernel
theorem dX2_init_1 : decode cX2_init 1 = .ok (.invokespecial 3, 3) := by decide +kernel
theorem dX2_init_4 : decode cX2_init 4 = .ok (.aload_n 0, 1) := by decide +kernel
theorem dX2_init_5 : decode cX2_init 5 = .ok (.iconst 4, 1) := by decide +kernel
theorem dX2_init_6 : decode cX2_init 6 = .ok (.anewarray 9, 3) := by decide +kernel
theorem dX2_init_9 : decode cX2_init 9 = .ok (.putfield 11, 3) := by decide +kernel
theorem dX2_init_12 : decode cX2_init 12 = .ok (.aload_n 0, 1) := by decide +kernel
theorem dX2_init_13 : decode cX2_init 13 = .ok (.new 17, 3) := by decide +kernel
theorem dX2_init_16 : decode cX2_init 16 = .ok (.dup, 1) := by decide +kernel
theorem dX2_init_17 : decode cX2_init 17 = .ok (.invokespecial 19, 3) := by decide +kernel
theorem dX2_init_20 : decode cX2_init 20 = .ok (.putfield 20, 3) := by decide +kernel
theorem dX2_init_23 : decode cX2_init 23 = .ok (.aload_n 0, 1) := by decide +kernel
theorem dX2_init_24 : decode cX2_init 24 = .ok (.bipush 26, 2) := by decide +kernel
theorem dX2_init_26 : decode cX2_init 26 = .ok (.newarray .int, 2) := by decide +kernel
theorem dX2_init_28 : decode cX2_init 28 = .ok (.putfield 24, 3) := by decide +kernel
theorem dX2_init_31 : decode cX2_init 31 = .ok (.aload_n 0, 1) := by decide +kernel
theorem dX2_init_32 : decode cX2_init 32 = .ok (.iconst 0, 1) := by decide +kernel
theorem dX2_init_33 : decode cX2_init 33 = .ok (.putfield 28, 3) := by decide +kernel
theorem dX2_init_36 : decode cX2_init 36 = .ok (.iconst 0, 1) := by decide +kernel
theorem dX2_init_37 : decode cX2_init 37 = .ok (.istore_n 1, 1) := by decide +kernel
theorem dX2_init_38 : decode cX2_init 38 = .ok (.iload_n 1, 1) := by decide +kernel
theorem dX2_init_39 : decode cX2_init 39 = .ok (.iconst 4, 1) := by decide +kernel
theorem dX2_init_40 : decode cX2_init 40 = .ok (.if_icmp .ge 24, 3) := by decide +kernel
theorem dX2_init_43 : decode cX2_init 43 = .ok (.aload_n 0, 1) := by decide +kernel
theorem dX2_init_44 : decode cX2_init 44 = .ok (.getfield 11, 3) := by decide +kernel
theorem dX2_init_47 : decode cX2_init 47 = .ok (.iload_n 1, 1) := by decide +kernel
theorem dX2_init_48 : decode cX2_init 48 = .ok (.new 9, 3) := by decide +kernel
theorem dX2_init_51 : decode cX2_init 51 = .ok (.dup, 1) := by decide +kernel
theorem dX2_init_52 : decode cX2_init 52 = .ok (.bipush 12, 2) := by decide +kernel
theorem dX2_init_54 : decode cX2_init 54 = .ok (.invokespecial 32, 3) := by decide +kernel
theorem dX2_init_57 : decode cX2_init 57 = .ok (.aastore, 1) := by decide +kernel
theorem dX2_init_58 : decode cX2_init 58 = .ok (.iinc 1 1, 3) := by decide +kernel
theorem dX2_init_61 : decode cX2_init 61 = .ok (.goto (-23), 3) := by decide +kernel
theorem dX2_init_64 : decode cX2_init 64 = .ok (.aload_n 0, 1) := by decide +kernel
theorem dX2_init_65 : decode cX2_init 65 = .ok (.getfield 24, 3) := by decide +kernel
theorem dX2_init_68 : decode cX2_init 68 = .ok (.bipush (-9), 2) := by decide +kernel
theorem dX2_init_70 : decode cX2_init 70 = .ok (.invokestatic 35, 3) := by decide +kernel
theorem dX2_init_73 : decode cX2_init 73 = .ok (.return_, 1) := by decide +kernel
theorem dX2_become_0 : decode cX2_become 0 = .ok (.iconst 0, 1) := by decide +kernel
theorem dX2_become_1 : decode cX2_become 1 = .ok (.istore_n 2, 1) := by decide +kernel
theorem dX2_become_2 : decode cX2_become 2 = .ok (.iload_n 2, 1) := by decide +kernel
theorem dX2_become_3 : decode cX2_become 3 = .ok (.iconst 4, 1) := by decide +kernel
theorem dX2_become_4 : decode cX2_become 4 = .ok (.if_icmp .ge 24, 3) := by decide +kernel
theorem dX2_become_7 : decode cX2_become 7 = .ok (.aload_n 0, 1) := by decide +kernel
theorem dX2_become_8 : decode cX2_become 8 = .ok (.getfield 11, 3) := by decide +kernel
theorem dX2_become_11 : decode cX2_become 11 = .ok (.iload_n 2, 1) := by decide +kernel
theorem dX2_become_12 : decode cX2_become 12 = .ok (.aaload, 1) := by decide +kernel
theorem dX2_become_13 : decode cX2_become 13 = .ok (.aload_n 1, 1) := by decide +kernel
theorem dX2_become_14 : decode cX2_become 14 = .ok (.getfield 11, 3) := by decide +kernel
theorem dX2_become_17 : decode cX2_become 17 = .ok (.iload_n 2, 1) := by decide +kernel
theorem dX2_become_18 : decode cX2_become 18 = .ok (.aaload, 1) := by decide +kernel
theorem dX2_become_19 : decode cX2_become 19 = .ok (.invokevirtual 41, 3) := by decide +kernel
theorem dX2_become_22 : decode cX2_become 22 = .ok (.iinc 2 1, 3) := by decide +kernel
theorem dX2_become_25 : decode cX2_become 25 = .ok (.goto (-23), 3) := by decide +kernel
theorem dX2_become_28 : decode cX2_become 28 = .ok (.aload_n 0, 1) := by decide +kernel
theorem dX2_become_29 : decode cX2_become 29 = .ok (.getfield 20, 3) := by decide +kernel
theorem dX2_become_32 : decode cX2_become 32 = .ok (.aload_n 1, 1) := by decide +kernel
theorem dX2_become_33 : decode cX2_become 33 = .ok (.getfield 20, 3) := by decide +kernel
theorem dX2_become_36 : decode cX2_become 36 = .ok (.invokevirtual 45, 3) := by decide +kernel
theorem dX2_become_39 : decode cX2_become 39 = .ok (.aload_n 1, 1) := by decide +kernel
theorem dX2_become_40 : decode cX2_become 40 = .ok (.getfield 24, 3) := by decide +kernel
theorem dX2_become_43 : decode cX2_become 43 = .ok (.iconst 0, 1) := by decide +kernel
theorem dX2_become_44 : decode cX2_become 44 = .ok (.aload_n 0, 1) := by decide +kernel
theorem dX2_become_45 : decode cX2_become 45 = .ok (.getfield 24, 3) := by decide +kernel
theorem dX2_become_48 : decode cX2_become 48 = .ok (.iconst 0, 1) := by decide +kernel
theorem dX2_become_49 : decode cX2_become 49 = .ok (.bipush 26, 2) := by decide +kernel
theorem dX2_become_51 : decode cX2_become 51 = .ok (.invokestatic 48, 3) := by decide +kernel
theorem dX2_become_54 : decode cX2_become 54 = .ok (.return_, 1) := by decide +kernel
theorem dX2_countNames_0 : decode cX2_countNames 0 = .ok (.iconst 0, 1) := by decide +kernel
theorem dX2_countNames_1 : decode cX2_countNames 1 = .ok (.istore_n 1, 1) := by decide +kernel
theorem dX2_countNames_2 : decode cX2_countNames 2 = .ok (.iconst 0, 1) := by decide +kernel
theorem dX2_countNames_3 : decode cX2_countNames 3 = .ok (.istore_n 2, 1) := by decide +kernel
theorem dX2_countNames_4 : decode cX2_countNames 4 = .ok (.iload_n 2, 1) := by decide +kernel
theorem dX2_countNames_5 : decode cX2_countNames 5 = .ok (.iconst 4, 1) := by decide +kernel
theorem dX2_countNames_6 : decode cX2_countNames 6 = .ok (.if_icmp .ge 21, 3) := by decide +kernel
theorem dX2_countNames_9 : decode cX2_countNames 9 = .ok (.iload_n 1, 1) := by decide +kernel
theorem dX2_countNames_10 : decode cX2_countNames 10 = .ok (.aload_n 0, 1) := by decide +kernel
theorem dX2_countNames_11 : decode cX2_countNames 11 = .ok (.getfield 11, 3) := by decide +kernel
theorem dX2_countNames_14 : decode cX2_countNames 14 = .ok (.iload_n 2, 1) := by decide +kernel
theorem dX2_countNames_15 : decode cX2_countNames 15 = .ok (.aaload, 1) := by decide +kernel
theorem dX2_countNames_16 : decode cX2_countNames 16 = .ok (.getfield 54, 3) := by decide +kernel
theorem dX2_countNames_19 : decode cX2_countNames 19 = .ok (.iadd, 1) := by decide +kernel
theorem dX2_countNames_20 : decode cX2_countNames 20 = .ok (.istore_n 1, 1) := by decide +kernel
theorem dX2_countNames_21 : decode cX2_countNames 21 = .ok (.iinc 2 1, 3) := by decide +kernel
theorem dX2_countNames_24 : decode cX2_countNames 24 = .ok (.goto (-20), 3) := by decide +kernel
theorem dX2_countNames_27 : decode cX2_countNames 27 = .ok (.iload_n 1, 1) := by decide +kernel
theorem dX2_countNames_28 : decode cX2_countNames 28 = .ok (.ireturn, 1) := by decide +kernel
theorem dX3_init_0 : decode cX3_init 0 = .ok (.aload_n 0, 1) := by decide +kernel
theorem dX3_init_1 : decode cX3_init 1 = .ok (.invokespecial 3, 3) := by decide +kernel
theorem dX3_init_4 : decode cX3_init 4 = .ok (.aload_n 0, 1) := by decide +kernel
theorem dX3_init_5 : decode cX3_init 5 = .ok (.iconst 0, 1) := by decide +kernel
theorem dX3_init_6 : decode cX3_init 6 = .ok (.putfield 9, 3) := by decide +kernel
theorem dX3_init_9 : decode cX3_init 9 = .ok (.aload_n 0, 1) := by decide +kernel
theorem dX3_init_10 : decode cX3_init 10 = .ok (.iload_n 1, 1) := by decide +kernel
theorem dX3_init_11 : decode cX3_init 11 = .ok (.iconst 0, 1) := by decide +kernel
theorem dX3_init_12 : decode cX3_init 12 = .ok (.invokestatic 15, 3) := by decide +kernel
theorem dX3_init_15 : decode cX3_init 15 = .ok (.newarray .int, 2) := by decide +kernel
theorem dX3_init_17 : decode cX3_init 17 = .ok (.putfield 21, 3) := by decide +kernel
theorem dX3_init_20 : decode cX3_init 20 = .ok (.return_, 1) := by decide +kernel
theorem dX3_has_0 : decode cX3_has 0 = .ok (.iload_n 1, 1) := by decide +kernel
theorem dX3_has_1 : decode cX3_has 1 = .ok (.ifCond .lt 15, 3) := by decide +kernel
theorem dX3_has_4 : decode cX3_has 4 = .ok (.iload_n 1, 1) := by decide +kernel
theorem dX3_has_5 : decode cX3_has 5 = .ok (.aload_n 0, 1) := by decide +kernel
theorem dX3_has_6 : decode cX3_has 6 = .ok (.getfield 9, 3) := by decide +kernel
theorem dX3_has_9 : decode cX3_has 9 = .ok (.if_icmp .ge 7, 3) := by decide +kernel
theorem dX3_has_12 : decode cX3_has 12 = .ok (.iconst 1, 1) := by decide +kernel
theorem dX3_has_13 : decode cX3_has 13 = .ok (.goto 4, 3) := by decide +kernel
theorem dX3_has_16 : decode cX3_has 16 = .ok (.iconst 0, 1) := by decide +kernel
theorem dX3_has_17 : decode cX3_has 17 = .ok (.ireturn, 1) := by decide +kernel
theorem dX3_nameAt_0 : decode cX3_nameAt 0 = .ok (.aload_n 0, 1) := by decide +kernel
theorem dX3_nameAt_1 : decode cX3_nameAt 1 = .ok (.iload_n 1, 1) := by decide +kernel
theorem dX3_nameAt_2 : decode cX3_nameAt 2 = .ok (.invokevirtual 25, 3) := by decide +kernel
theorem dX3_nameAt_5 : decode cX3_nameAt 5 = .ok (.ifCond .eq 12, 3) := by decide +kernel
theorem dX3_nameAt_8 : decode cX3_nameAt 8 = .ok (.aload_n 0, 1) := by decide +kernel
theorem dX3_nameAt_9 : decode cX3_nameAt 9 = .ok (.getfield 21, 3) := by decide +kernel
theorem dX3_nameAt_12 : decode cX3_nameAt 12 = .ok (.iload_n 1, 1) := by decide +kernel
theorem dX3_nameAt_13 : decode cX3_nameAt 13 = .ok (.iaload, 1) := by decide +kernel
theorem dX3_nameAt_14 : decode cX3_nameAt 14 = .ok (.goto 5, 3) := by decide +kernel
theorem dX3_nameAt_17 : decode cX3_nameAt 17 = .ok (.bipush (-9), 2) := by decide +kernel
theorem dX3_nameAt_19 : decode cX3_nameAt 19 = .ok (.ireturn, 1) := by decide +kernel
theorem dX3_placeOf_0 : decode cX3_placeOf 0 = .ok (.iconst 0, 1) := by decide +kernel
theorem dX3_placeOf_1 : decode cX3_placeOf 1 = .ok (.istore_n 2, 1) := by decide +kernel
theorem dX3_placeOf_2 : decode cX3_placeOf 2 = .ok (.iload_n 2, 1) := by decide +kernel
theorem dX3_placeOf_3 : decode cX3_placeOf 3 = .ok (.aload_n 0, 1) := by decide +kernel
theorem dX3_placeOf_4 : decode cX3_placeOf 4 = .ok (.getfield 9, 3) := by decide +kernel
theorem dX3_placeOf_7 : decode cX3_placeOf 7 = .ok (.if_icmp .ge 21, 3) := by decide +kernel
theorem dX3_placeOf_10 : decode cX3_placeOf 10 = .ok (.aload_n 0, 1) := by decide +kernel
theorem dX3_placeOf_11 : decode cX3_placeOf 11 = .ok (.getfield 21, 3) := by decide +kernel
theorem dX3_placeOf_14 : decode cX3_placeOf 14 = .ok (.iload_n 2, 1) := by decide +kernel
theorem dX3_placeOf_15 : decode cX3_placeOf 15 = .ok (.iaload, 1) := by decide +kernel
theorem dX3_placeOf_16 : decode cX3_placeOf 16 = .ok (.iload_n 1, 1) := by decide +kernel
theorem dX3_placeOf_17 : decode cX3_placeOf 17 = .ok (.if_icmp .ne 5, 3) := by decide +kernel
theorem dX3_placeOf_20 : decode cX3_placeOf 20 = .ok (.iload_n 2, 1) := by decide +kernel
theorem dX3_placeOf_21 : decode cX3_placeOf 21 = .ok (.ireturn, 1) := by decide +kernel
theorem dX3_placeOf_22 : decode cX3_placeOf 22 = .ok (.iinc 2 1, 3) := by decide +kernel
theorem dX3_placeOf_25 : decode cX3_placeOf 25 = .ok (.goto (-23), 3) := by decide +kernel
theorem dX3_placeOf_28 : decode cX3_placeOf 28 = .ok (.bipush (-9), 2) := by decide +kernel
theorem dX3_placeOf_30 : decode cX3_placeOf 30 = .ok (.ireturn, 1) := by decide +kernel
theorem dX3_placeOrEnd_0 : decode cX3_placeOrEnd 0 = .ok (.aload_n 0, 1) := by decide +kernel
theorem dX3_placeOrEnd_1 : decode cX3_placeOrEnd 1 = .ok (.iload_n 1, 1) := by decide +kernel
theorem dX3_placeOrEnd_2 : decode cX3_placeOrEnd 2 = .ok (.invokevirtual 29, 3) := by decide +kernel
theorem dX3_placeOrEnd_5 : decode cX3_placeOrEnd 5 = .ok (.istore_n 2, 1) := by decide +kernel
theorem dX3_placeOrEnd_6 : decode cX3_placeOrEnd 6 = .ok (.iload_n 2, 1) := by decide +kernel
theorem dX3_placeOrEnd_7 : decode cX3_placeOrEnd 7 = .ok (.bipush (-9), 2) := by decide +kernel
theorem dX3_placeOrEnd_9 : decode cX3_placeOrEnd 9 = .ok (.if_icmp .ne 10, 3) := by decide +kernel
theorem dX3_placeOrEnd_12 : decode cX3_placeOrEnd 12 = .ok (.aload_n 0, 1) := by decide +kernel
theorem dX3_placeOrEnd_13 : decode cX3_placeOrEnd 13 = .ok (.getfield 9, 3) := by decide +kernel
theorem dX3_placeOrEnd_16 : decode cX3_placeOrEnd 16 = .ok (.goto 4, 3) := by decide +kernel
theorem dX3_placeOrEnd_19 : decode cX3_placeOrEnd 19 = .ok (.iload_n 2, 1) := by decide +kernel
theorem dX3_placeOrEnd_20 : decode cX3_placeOrEnd 20 = .ok (.ireturn, 1) := by decide +kernel
theorem dX3_bits_0 : decode cX3_bits 0 = .ok (.iconst 0, 1) := by decide +kernel
theorem dX3_bits_1 : decode cX3_bits 1 = .ok (.istore_n 1, 1) := by decide +kernel
theorem dX3_bits_2 : decode cX3_bits 2 = .ok (.iconst 0, 1) := by decide +kernel
theorem dX3_bits_3 : decode cX3_bits 3 = .ok (.istore_n 2, 1) := by decide +kernel
theorem dX3_bits_4 : decode cX3_bits 4 = .ok (.iload_n 2, 1) := by decide +kernel
theorem dX3_bits_5 : decode cX3_bits 5 = .ok (.aload_n 0, 1) := by decide +kernel
theorem dX3_bits_6 : decode cX3_bits 6 = .ok (.getfield 9, 3) := by decide +kernel
theorem dX3_bits_9 : decode cX3_bits 9 = .ok (.if_icmp .ge 20, 3) := by decide +kernel
theorem dX3_bits_12 : decode cX3_bits 12 = .ok (.iload_n 1, 1) := by decide +kernel
theorem dX3_bits_13 : decode cX3_bits 13 = .ok (.iconst 1, 1) := by decide +kernel
theorem dX3_bits_14 : decode cX3_bits 14 = .ok (.aload_n 0, 1) := by decide +kernel
theorem dX3_bits_15 : decode cX3_bits 15 = .ok (.getfield 21, 3) := by decide +kernel
theorem dX3_bits_18 : decode cX3_bits 18 = .ok (.iload_n 2, 1) := by decide +kernel
theorem dX3_bits_19 : decode cX3_bits 19 = .ok (.iaload, 1) := by decide +kernel
theorem dX3_bits_20 : decode cX3_bits 20 = .ok (.ishl, 1) := by decide +kernel
theorem dX3_bits_21 : decode cX3_bits 21 = .ok (.ior, 1) := by decide +kernel
theorem dX3_bits_22 : decode cX3_bits 22 = .ok (.istore_n 1, 1) := by decide +kernel
theorem dX3_bits_23 : decode cX3_bits 23 = .ok (.iinc 2 1, 3) := by decide +kernel
theorem dX3_bits_26 : decode cX3_bits 26 = .ok (.goto (-22), 3) := by decide +kernel
theorem dX3_bits_29 : decode cX3_bits 29 = .ok (.iload_n 1, 1) := by decide +kernel
theorem dX3_bits_30 : decode cX3_bits 30 = .ok (.ireturn, 1) := by decide +kernel
theorem dX3_read_0 : decode cX3_read 0 = .ok (.aload_n 0, 1) := by decide +kernel
theorem dX3_read_1 : decode cX3_read 1 = .ok (.iconst 0, 1) := by decide +kernel
theorem dX3_read_2 : decode cX3_read 2 = .ok (.putfield 9, 3) := by decide +kernel
theorem dX3_read_5 : decode cX3_read 5 = .ok (.iconst 0, 1) := by decide +kernel
theorem dX3_read_6 : decode cX3_read 6 = .ok (.istore_n 2, 1) := by decide +kernel
theorem dX3_read_7 : decode cX3_read 7 = .ok (.iload_n 2, 1) := by decide +kernel
theorem dX3_read_8 : decode cX3_read 8 = .ok (.aload_n 1, 1) := by decide +kernel
theorem dX3_read_9 : decode cX3_read 9 = .ok (.getfield 33, 3) := by decide +kernel
theorem dX3_read_12 : decode cX3_read 12 = .ok (.if_icmp .ge 22, 3) := by decide +kernel
theorem dX3_read_15 : decode cX3_read 15 = .ok (.aload_n 0, 1) := by decide +kernel
theorem dX3_read_16 : decode cX3_read 16 = .ok (.iload_n 2, 1) := by decide +kernel
theorem dX3_read_17 : decode cX3_read 17 = .ok (.aload_n 1, 1) := by decide +kernel
theorem dX3_read_18 : decode cX3_read 18 = .ok (.iload_n 2, 1) := by decide +kernel
theorem dX3_read_19 : decode cX3_read 19 = .ok (.invokevirtual 36, 3) := by decide +kernel
theorem dX3_read_22 : decode cX3_read 22 = .ok (.bipush 97, 2) := by decide +kernel
theorem dX3_read_24 : decode cX3_read 24 = .ok (.isub, 1) := by decide +kernel
theorem dX3_read_25 : decode cX3_read 25 = .ok (.invokevirtual 39, 3) := by decide +kernel
theorem dX3_read_28 : decode cX3_read 28 = .ok (.iinc 2 1, 3) := by decide +kernel
theorem dX3_read_31 : decode cX3_read 31 = .ok (.goto (-24), 3) := by decide +kernel
theorem dX3_read_34 : decode cX3_read 34 = .ok (.return_, 1) := by decide +kernel
theorem dX3_become_0 : decode cX3_become 0 = .ok (.aload_n 0, 1) := by decide +kernel
theorem dX3_become_1 : decode cX3_become 1 = .ok (.aload_n 1, 1) := by decide +kernel
theorem dX3_become_2 : decode cX3_become 2 = .ok (.getfield 9, 3) := by decide +kernel
theorem dX3_become_5 : decode cX3_become 5 = .ok (.aload_n 0, 1) := by decide +kernel
theorem dX3_become_6 : decode cX3_become 6 = .ok (.getfield 21, 3) := by decide +kernel
theorem dX3_become_9 : decode cX3_become 9 = .ok (.arraylength, 1) := by decide +kernel
theorem dX3_become_10 : decode cX3_become 10 = .ok (.invokestatic 43, 3) := by decide +kernel
theorem dX3_become_13 : decode cX3_become 13 = .ok (.putfield 9, 3) := by decide +kernel
theorem dX3_become_16 : decode cX3_become 16 = .ok (.aload_n 1, 1) := by decide +kernel
theorem dX3_become_17 : decode cX3_become 17 = .ok (.getfield 21, 3) := by decide +kernel
theorem dX3_become_20 : decode cX3_become 20 = .ok (.iconst 0, 1) := by decide +kernel
theorem dX3_become_21 : decode cX3_become 21 = .ok (.aload_n 0, 1) := by decide +kernel
theorem dX3_become_22 : decode cX3_become 22 = .ok (.getfield 21, 3) := by decide +kernel
theorem dX3_become_25 : decode cX3_become 25 = .ok (.iconst 0, 1) := by decide +kernel
theorem dX3_become_26 : decode cX3_become 26 = .ok (.aload_n 0, 1) := by decide +kernel
theorem dX3_become_27 : decode cX3_become 27 = .ok (.getfield 9, 3) := by decide +kernel
theorem dX3_become_30 : decode cX3_become 30 = .ok (.invokestatic 46, 3) := by decide +kernel
theorem dX3_become_33 : decode cX3_become 33 = .ok (.return_, 1) := by decide +kernel
theorem dX3_insert_0 : decode cX3_insert 0 = .ok (.iload_n 1, 1) := by decide +kernel
theorem dX3_insert_1 : decode cX3_insert 1 = .ok (.ifCond .lt 23, 3) := by decide +kernel
theorem dX3_insert_4 : decode cX3_insert 4 = .ok (.iload_n 1, 1) := by decide +kernel
theorem dX3_insert_5 : decode cX3_insert 5 = .ok (.aload_n 0, 1) := by decide +kernel
theorem dX3_insert_6 : decode cX3_insert 6 = .ok (.getfield 9, 3) := by decide +kernel
theorem dX3_insert_9 : decode cX3_insert 9 = .ok (.if_icmp .gt 15, 3) := by decide +kernel
theorem dX3_insert_12 : decode cX3_insert 12 = .ok (.aload_n 0, 1) := by decide +kernel
theorem dX3_insert_13 : decode cX3_insert 13 = .ok (.getfield 9, 3) := by decide +kernel
theorem dX3_insert_16 : decode cX3_insert 16 = .ok (.aload_n 0, 1) := by decide +kernel
theorem dX3_insert_17 : decode cX3_insert 17 = .ok (.getfield 21, 3) := by decide +kernel
theorem dX3_insert_20 : decode cX3_insert 20 = .ok (.arraylength, 1) := by decide +kernel
theorem dX3_insert_21 : decode cX3_insert 21 = .ok (.if_icmp .lt 4, 3) := by decide +kernel
theorem dX3_insert_24 : decode cX3_insert 24 = .ok (.return_, 1) := by decide +kernel
theorem dX3_insert_25 : decode cX3_insert 25 = .ok (.aload_n 0, 1) := by decide +kernel
theorem dX3_insert_26 : decode cX3_insert 26 = .ok (.getfield 21, 3) := by decide +kernel
theorem dX3_insert_29 : decode cX3_insert 29 = .ok (.iload_n 1, 1) := by decide +kernel
theorem dX3_insert_30 : decode cX3_insert 30 = .ok (.aload_n 0, 1) := by decide +kernel
theorem dX3_insert_31 : decode cX3_insert 31 = .ok (.getfield 21, 3) := by decide +kernel
theorem dX3_insert_34 : decode cX3_insert 34 = .ok (.iload_n 1, 1) := by decide +kernel
theorem dX3_insert_35 : decode cX3_insert 35 = .ok (.iconst 1, 1) := by decide +kernel
theorem dX3_insert_36 : decode cX3_insert 36 = .ok (.iadd, 1) := by decide +kernel
theorem dX3_insert_37 : decode cX3_insert 37 = .ok (.aload_n 0, 1) := by decide +kernel
theorem dX3_insert_38 : decode cX3_insert 38 = .ok (.getfield 9, 3) := by decide +kernel
theorem dX3_insert_41 : decode cX3_insert 41 = .ok (.iload_n 1, 1) := by decide +kernel
theorem dX3_insert_42 : decode cX3_insert 42 = .ok (.isub, 1) := by decide +kernel
theorem dX3_insert_43 : decode cX3_insert 43 = .ok (.invokestatic 46, 3) := by decide +kernel
theorem dX3_insert_46 : decode cX3_insert 46 = .ok (.aload_n 0, 1) := by decide +kernel
theorem dX3_insert_47 : decode cX3_insert 47 = .ok (.getfield 21, 3) := by decide +kernel
theorem dX3_insert_50 : decode cX3_insert 50 = .ok (.iload_n 1, 1) := by decide +kernel
theorem dX3_insert_51 : decode cX3_insert 51 = .ok (.iload_n 2, 1) := by decide +kernel
theorem dX3_insert_52 : decode cX3_insert 52 = .ok (.iastore, 1) := by decide +kernel
theorem dX3_insert_53 : decode cX3_insert 53 = .ok (.aload_n 0, 1) := by decide +kernel
theorem dX3_insert_54 : decode cX3_insert 54 = .ok (.dup, 1) := by decide +kernel
theorem dX3_insert_55 : decode cX3_insert 55 = .ok (.getfield 9, 3) := by decide +kernel
theorem dX3_insert_58 : decode cX3_insert 58 = .ok (.iconst 1, 1) := by decide +kernel
theorem dX3_insert_59 : decode cX3_insert 59 = .ok (.iadd, 1) := by decide +kernel
theorem dX3_insert_60 : decode cX3_insert 60 = .ok (.putfield 9, 3) := by decide +kernel
theorem dX3_insert_63 : decode cX3_insert 63 = .ok (.return_, 1) := by decide +kernel
theorem dX3_remove_0 : decode cX3_remove 0 = .ok (.aload_n 0, 1) := by decide +kernel
theorem dX3_remove_1 : decode cX3_remove 1 = .ok (.iload_n 1, 1) := by decide +kernel
theorem dX3_remove_2 : decode cX3_remove 2 = .ok (.invokevirtual 25, 3) := by decide +kernel
theorem dX3_remove_5 : decode cX3_remove 5 = .ok (.ifCond .ne 4, 3) := by decide +kernel
theorem dX3_remove_8 : decode cX3_remove 8 = .ok (.return_, 1) := by decide +kernel
theorem dX3_remove_9 : decode cX3_remove 9 = .ok (.aload_n 0, 1) := by decide +kernel
theorem dX3_remove_10 : decode cX3_remove 10 = .ok (.dup, 1) := by decide +kernel
theorem dX3_remove_11 : decode cX3_remove 11 = .ok (.getfield 9, 3) := by decide +kernel
theorem dX3_remove_14 : decode cX3_remove 14 = .ok (.iconst 1, 1) := by decide +kernel
theorem dX3_remove_15 : decode cX3_remove 15 = .ok (.isub, 1) := by decide +kernel
theorem dX3_remove_16 : decode cX3_remove 16 = .ok (.putfield 9, 3) := by decide +kernel
theorem dX3_remove_19 : decode cX3_remove 19 = .ok (.aload_n 0, 1) := by decide +kernel
theorem dX3_remove_20 : decode cX3_remove 20 = .ok (.getfield 21, 3) := by decide +kernel
theorem dX3_remove_23 : decode cX3_remove 23 = .ok (.iload_n 1, 1) := by decide +kernel
theorem dX3_remove_24 : decode cX3_remove 24 = .ok (.iconst 1, 1) := by decide +kernel
theorem dX3_remove_25 : decode cX3_remove 25 = .ok (.iadd, 1) := by decide +kernel
theorem dX3_remove_26 : decode cX3_remove 26 = .ok (.aload_n 0, 1) := by decide +kernel
theorem dX3_remove_27 : decode cX3_remove 27 = .ok (.getfield 21, 3) := by decide +kernel
theorem dX3_remove_30 : decode cX3_remove 30 = .ok (.iload_n 1, 1) := by decide +kernel
theorem dX3_remove_31 : decode cX3_remove 31 = .ok (.aload_n 0, 1) := by decide +kernel
theorem dX3_remove_32 : decode cX3_remove 32 = .ok (.getfield 9, 3) := by decide +kernel
theorem dX3_remove_35 : decode cX3_remove 35 = .ok (.iload_n 1, 1) := by decide +kernel
theorem dX3_remove_36 : decode cX3_remove 36 = .ok (.isub, 1) := by decide +kernel
theorem dX3_remove_37 : decode cX3_remove 37 = .ok (.invokestatic 46, 3) := by decide +kernel
theorem dX3_remove_40 : decode cX3_remove 40 = .ok (.return_, 1) := by decide +kernel
theorem dX3_swapWithAhead_0 : decode cX3_swapWithAhead 0 = .ok (.iload_n 1, 1) := by decide +kernel
theorem dX3_swapWithAhead_1 : decode cX3_swapWithAhead 1 = .ok (.iconst 1, 1) := by decide +kernel
theorem dX3_swapWithAhead_2 : decode cX3_swapWithAhead 2 = .ok (.if_icmp .lt 41, 3) := by decide +kernel
theorem dX3_swapWithAhead_5 : decode cX3_swapWithAhead 5 = .ok (.iload_n 1, 1) := by decide +kernel
theorem dX3_swapWithAhead_6 : decode cX3_swapWithAhead 6 = .ok (.aload_n 0, 1) := by decide +kernel
theorem dX3_swapWithAhead_7 : decode cX3_swapWithAhead 7 = .ok (.getfield 9, 3) := by decide +kernel
theorem dX3_swapWithAhead_10 : decode cX3_swapWithAhead 10 = .ok (.if_icmp .ge 33, 3) := by decide +kernel
theorem dX3_swapWithAhead_13 : decode cX3_swapWithAhead 13 = .ok (.aload_n 0, 1) := by decide +kernel
theorem dX3_swapWithAhead_14 : decode cX3_swapWithAhead 14 = .ok (.getfield 21, 3) := by decide +kernel
theorem dX3_swapWithAhead_17 : decode cX3_swapWithAhead 17 = .ok (.iload_n 1, 1) := by decide +kernel
theorem dX3_swapWithAhead_18 : decode cX3_swapWithAhead 18 = .ok (.iaload, 1) := by decide +kernel
theorem dX3_swapWithAhead_19 : decode cX3_swapWithAhead 19 = .ok (.istore_n 2, 1) := by decide +kernel
theorem dX3_swapWithAhead_20 : decode cX3_swapWithAhead 20 = .ok (.aload_n 0, 1) := by decide +kernel
theorem dX3_swapWithAhead_21 : decode cX3_swapWithAhead 21 = .ok (.getfield 21, 3) := by decide +kernel
theorem dX3_swapWithAhead_24 : decode cX3_swapWithAhead 24 = .ok (.iload_n 1, 1) := by decide +kernel
theorem dX3_swapWithAhead_25 : decode cX3_swapWithAhead 25 = .ok (.aload_n 0, 1) := by decide +kernel
theorem dX3_swapWithAhead_26 : decode cX3_swapWithAhead 26 = .ok (.getfield 21, 3) := by decide +kernel
theorem dX3_swapWithAhead_29 : decode cX3_swapWithAhead 29 = .ok (.iload_n 1, 1) := by decide +kernel
theorem dX3_swapWithAhead_30 : decode cX3_swapWithAhead 30 = .ok (.iconst 1, 1) := by decide +kernel
theorem dX3_swapWithAhead_31 : decode cX3_swapWithAhead 31 = .ok (.isub, 1) := by decide +kernel
theorem dX3_swapWithAhead_32 : decode cX3_swapWithAhead 32 = .ok (.iaload, 1) := by decide +kernel
theorem dX3_swapWithAhead_33 : decode cX3_swapWithAhead 33 = .ok (.iastore, 1) := by decide +kernel
theorem dX3_swapWithAhead_34 : decode cX3_swapWithAhead 34 = .ok (.aload_n 0, 1) := by decide +kernel
theorem dX3_swapWithAhead_35 : decode cX3_swapWithAhead 35 = .ok (.getfield 21, 3) := by decide +kernel
theorem dX3_swapWithAhead_38 : decode cX3_swapWithAhead 38 = .ok (.iload_n 1, 1) := by decide +kernel
theorem dX3_swapWithAhead_39 : decode cX3_swapWithAhead 39 = .ok (.iconst 1, 1) := by decide +kernel
theorem dX3_swapWithAhead_40 : decode cX3_swapWithAhead 40 = .ok (.isub, 1) := by decide +kernel
theorem dX3_swapWithAhead_41 : decode cX3_swapWithAhead 41 = .ok (.iload_n 2, 1) := by decide +kernel
theorem dX3_swapWithAhead_42 : decode cX3_swapWithAhead 42 = .ok (.iastore, 1) := by decide +kernel
theorem dX3_swapWithAhead_43 : decode cX3_swapWithAhead 43 = .ok (.return_, 1) := by decide +kernel
theorem dX4_init_0 : decode cX4_init 0 = .ok (.aload_n 0, 1) := by decide +kernel
theorem dX4_init_1 : decode cX4_init 1 = .ok (.invokespecial 3, 3) := by decide +kernel
theorem dX4_init_4 : decode cX4_init 4 = .ok (.aload_n 0, 1) := by decide +kernel
theorem dX4_init_5 : decode cX4_init 5 = .ok (.new 9, 3) := by decide +kernel
theorem dX4_init_8 : decode cX4_init 8 = .ok (.dup, 1) := by decide +kernel
theorem dX4_init_9 : decode cX4_init 9 = .ok (.bipush 19, 2) := by decide +kernel
theorem dX4_init_11 : decode cX4_init 11 = .ok (.invokespecial 11, 3) := by decide +kernel
theorem dX4_init_14 : decode cX4_init 14 = .ok (.putfield 14, 3) := by decide +kernel
theorem dX4_init_17 : decode cX4_init 17 = .ok (.aload_n 0, 1) := by decide +kernel
theorem dX4_init_18 : decode cX4_init 18 = .ok (.new 20, 3) := by decide +kernel
theorem dX4_init_21 : decode cX4_init 21 = .ok (.dup, 1) := by decide +kernel
theorem dX4_init_22 : decode cX4_init 22 = .ok (.invokespecial 22, 3) := by decide +kernel
theorem dX4_init_25 : decode cX4_init 25 = .ok (.putfield 23, 3) := by decide +kernel
theorem dX4_init_28 : decode cX4_init 28 = .ok (.aload_n 0, 1) := by decide +kernel
theorem dX4_init_29 : decode cX4_init 29 = .ok (.iconst 0, 1) := by decide +kernel
theorem dX4_init_30 : decode cX4_init 30 = .ok (.putfield 27, 3) := by decide +kernel
theorem dX4_init_33 : decode cX4_init 33 = .ok (.aload_n 0, 1) := by decide +kernel
theorem dX4_init_34 : decode cX4_init 34 = .ok (.iconst 0, 1) := by decide +kernel
theorem dX4_init_35 : decode cX4_init 35 = .ok (.putfield 31, 3) := by decide +kernel
theorem dX4_init_38 : decode cX4_init 38 = .ok (.aload_n 0, 1) := by decide +kernel
theorem dX4_init_39 : decode cX4_init 39 = .ok (.iconst 0, 1) := by decide +kernel
theorem dX4_init_40 : decode cX4_init 40 = .ok (.putfield 34, 3) := by decide +kernel
theorem dX4_init_43 : decode cX4_init 43 = .ok (.return_, 1) := by decide +kernel
theorem dX4_begin_0 : decode cX4_begin 0 = .ok (.aload_n 0, 1) := by decide +kernel
theorem dX4_begin_1 : decode cX4_begin 1 = .ok (.getfield 14, 3) := by decide +kernel
theorem dX4_begin_4 : decode cX4_begin 4 = .ok (.aload_n 1, 1) := by decide +kernel
theorem dX4_begin_5 : decode cX4_begin 5 = .ok (.invokevirtual 37, 3) := by decide +kernel
theorem dX4_begin_8 : decode cX4_begin 8 = .ok (.aload_n 0, 1) := by decide +kernel
theorem dX4_begin_9 : decode cX4_begin 9 = .ok (.getfield 23, 3) := by decide +kernel
theorem dX4_begin_12 : decode cX4_begin 12 = .ok (.aload_n 2, 1) := by decide +kernel
theorem dX4_begin_13 : decode cX4_begin 13 = .ok (.invokevirtual 41, 3) := by decide +kernel
theorem dX4_begin_16 : decode cX4_begin 16 = .ok (.aload_n 0, 1) := by decide +kernel
theorem dX4_begin_17 : decode cX4_begin 17 = .ok (.iconst 0, 1) := by decide +kernel
theorem dX4_begin_18 : decode cX4_begin 18 = .ok (.putfield 27, 3) := by decide +kernel
theorem dX4_begin_21 : decode cX4_begin 21 = .ok (.aload_n 0, 1) := by decide +kernel
theorem dX4_begin_22 : decode cX4_begin 22 = .ok (.iconst 0, 1) := by decide +kernel
theorem dX4_begin_23 : decode cX4_begin 23 = .ok (.putfield 31, 3) := by decide +kernel
theorem dX4_begin_26 : decode cX4_begin 26 = .ok (.aload_n 0, 1) := by decide +kernel
theorem dX4_begin_27 : decode cX4_begin 27 = .ok (.iconst 0, 1) := by decide +kernel
theorem dX4_begin_28 : decode cX4_begin 28 = .ok (.putfield 34, 3) := by decide +kernel
theorem dX4_begin_31 : decode cX4_begin 31 = .ok (.return_, 1) := by decide +kernel
theorem dX4_speak_0 : decode cX4_speak 0 = .ok (.aload_n 1, 1) := by decide +kernel
theorem dX4_speak_1 : decode cX4_speak 1 = .ok (.getfield 44, 3) := by decide +kernel
theorem dX4_speak_4 : decode cX4_speak 4 = .ok (.iconst 1, 1) := by decide +kernel
theorem dX4_speak_5 : decode cX4_speak 5 = .ok (.iaload, 1) := by decide +kernel
theorem dX4_speak_6 : decode cX4_speak 6 = .ok (.istore_n 3, 1) := by decide +kernel
theorem dX4_speak_7 : decode cX4_speak 7 = .ok (.aload_n 0, 1) := by decide +kernel
theorem dX4_speak_8 : decode cX4_speak 8 = .ok (.iload_n 3, 1) := by decide +kernel
theorem dX4_speak_9 : decode cX4_speak 9 = .ok (.aload_n 1, 1) := by decide +kernel
theorem dX4_speak_10 : decode cX4_speak 10 = .ok (.getfield 44, 3) := by decide +kernel
theorem dX4_speak_13 : decode cX4_speak 13 = .ok (.iconst 3, 1) := by decide +kernel
theorem dX4_speak_14 : decode cX4_speak 14 = .ok (.iaload, 1) := by decide +kernel
theorem dX4_speak_15 : decode cX4_speak 15 = .ok (.iload_n 2, 1) := by decide +kernel
theorem dX4_speak_16 : decode cX4_speak 16 = .ok (.invokevirtual 50, 3) := by decide +kernel
theorem dX4_speak_19 : decode cX4_speak 19 = .ok (.aload_n 0, 1) := by decide +kernel
theorem dX4_speak_20 : decode cX4_speak 20 = .ok (.iload_n 3, 1) := by decide +kernel
theorem dX4_speak_21 : decode cX4_speak 21 = .ok (.aload_n 1, 1) := by decide +kernel
theorem dX4_speak_22 : decode cX4_speak 22 = .ok (.getfield 44, 3) := by decide +kernel
theorem dX4_speak_25 : decode cX4_speak 25 = .ok (.iconst 4, 1) := by decide +kernel
theorem dX4_speak_26 : decode cX4_speak 26 = .ok (.iaload, 1) := by decide +kernel
theorem dX4_speak_27 : decode cX4_speak 27 = .ok (.invokevirtual 54, 3) := by decide +kernel
theorem dX4_speak_30 : decode cX4_speak 30 = .ok (.aload_n 0, 1) := by decide +kernel
theorem dX4_speak_31 : decode cX4_speak 31 = .ok (.iload_n 3, 1) := by decide +kernel
theorem dX4_speak_32 : decode cX4_speak 32 = .ok (.aload_n 1, 1) := by decide +kernel
theorem dX4_speak_33 : decode cX4_speak 33 = .ok (.getfield 44, 3) := by decide +kernel
theorem dX4_speak_36 : decode cX4_speak 36 = .ok (.iconst 2, 1) := by decide +kernel
theorem dX4_speak_37 : decode cX4_speak 37 = .ok (.iaload, 1) := by decide +kernel
theorem dX4_speak_38 : decode cX4_speak 38 = .ok (.invokevirtual 58, 3) := by decide +kernel
theorem dX4_speak_41 : decode cX4_speak 41 = .ok (.iload_n 2, 1) := by decide +kernel
theorem dX4_speak_42 : decode cX4_speak 42 = .ok (.bipush (-9), 2) := by decide +kernel
theorem dX4_speak_44 : decode cX4_speak 44 = .ok (.if_icmp .eq 18, 3) := by decide +kernel
theorem dX4_speak_47 : decode cX4_speak 47 = .ok (.aload_n 0, 1) := by decide +kernel
theorem dX4_speak_48 : decode cX4_speak 48 = .ok (.getfield 14, 3) := by decide +kernel
theorem dX4_speak_51 : decode cX4_speak 51 = .ok (.aload_n 0, 1) := by decide +kernel
theorem dX4_speak_52 : decode cX4_speak 52 = .ok (.getfield 14, 3) := by decide +kernel
theorem dX4_speak_55 : decode cX4_speak 55 = .ok (.getfield 61, 3) := by decide +kernel
theorem dX4_speak_58 : decode cX4_speak 58 = .ok (.iload_n 2, 1) := by decide +kernel
theorem dX4_speak_59 : decode cX4_speak 59 = .ok (.invokevirtual 64, 3) := by decide +kernel
theorem dX4_speak_62 : decode cX4_speak 62 = .ok (.aload_n 0, 1) := by decide +kernel
theorem dX4_speak_63 : decode cX4_speak 63 = .ok (.iload_n 3, 1) := by decide +kernel
theorem dX4_speak_64 : decode cX4_speak 64 = .ok (.aload_n 1, 1) := by decide +kernel
theorem dX4_speak_65 : decode cX4_speak 65 = .ok (.getfield 44, 3) := by decide +kernel
theorem dX4_speak_68 : decode cX4_speak 68 = .ok (.iconst 0, 1) := by decide +kernel
theorem dX4_speak_69 : decode cX4_speak 69 = .ok (.iaload, 1) := by decide +kernel
theorem dX4_speak_70 : decode cX4_speak 70 = .ok (.invokevirtual 67, 3) := by decide +kernel
theorem dX4_speak_73 : decode cX4_speak 73 = .ok (.return_, 1) := by decide +kernel
theorem dX4_changed_0 : decode cX4_changed 0 = .ok (.iload_n 1, 1) := by decide +kernel
theorem dX4_changed_1 : decode cX4_changed 1 = .ok (.ifCond .ne 10, 3) := by decide +kernel
theorem dX4_changed_4 : decode cX4_changed 4 = .ok (.aload_n 0, 1) := by decide +kernel
theorem dX4_changed_5 : decode cX4_changed 5 = .ok (.getfield 27, 3) := by decide +kernel
theorem dX4_changed_8 : decode cX4_changed 8 = .ok (.goto 19, 3) := by decide +kernel
theorem dX4_changed_11 : decode cX4_changed 11 = .ok (.iload_n 1, 1) := by decide +kernel
theorem dX4_changed_12 : decode cX4_changed 12 = .ok (.iconst 1, 1) := by decide +kernel
theorem dX4_changed_13 : decode cX4_changed 13 = .ok (.if_icmp .ne 10, 3) := by decide +kernel
theorem dX4_changed_16 : decode cX4_changed 16 = .ok (.aload_n 0, 1) := by decide +kernel
theorem dX4_changed_17 : decode cX4_changed 17 = .ok (.getfield 31, 3) := by decide +kernel
theorem dX4_changed_20 : decode cX4_changed 20 = .ok (.goto 7, 3) := by decide +kernel
theorem dX4_changed_23 : decode cX4_changed 23 = .ok (.aload_n 0, 1) := by decide +kernel
theorem dX4_changed_24 : decode cX4_changed 24 = .ok (.getfield 34, 3) := by decide +kernel
theorem dX4_changed_27 : decode cX4_changed 27 = .ok (.ireturn, 1) := by decide +kernel
theorem dX4_takeStrong_0 : decode cX4_takeStrong 0 = .ok (.iconst 0, 1) := by decide +kernel
theorem dX4_takeStrong_1 : decode cX4_takeStrong 1 = .ok (.istore 4, 2) := by decide +kernel
theorem dX4_takeStrong_3 : decode cX4_takeStrong 3 = .ok (.iload 4, 2) := by decide +kernel
theorem dX4_takeStrong_5 : decode cX4_takeStrong 5 = .ok (.bipush 6, 2) := by decide +kernel
theorem dX4_takeStrong_7 : decode cX4_takeStrong 7 = .ok (.if_icmp .ge 98, 3) := by decide +kernel
theorem dX4_takeStrong_10 : decode cX4_takeStrong 10 = .ok (.aload_n 0, 1) := by decide +kernel
theorem dX4_takeStrong_11 : decode cX4_takeStrong 11 = .ok (.getfield 23, 3) := by decide +kernel
theorem dX4_takeStrong_14 : decode cX4_takeStrong 14 = .ok (.getfield 70, 3) := by decide +kernel
theorem dX4_takeStrong_17 : decode cX4_takeStrong 17 = .ok (.iload 4, 2) := by decide +kernel
theorem dX4_takeStrong_19 : decode cX4_takeStrong 19 = .ok (.iaload, 1) := by decide +kernel
theorem dX4_takeStrong_20 : decode cX4_takeStrong 20 = .ok (.istore 5, 2) := by decide +kernel
theorem dX4_takeStrong_22 : decode cX4_takeStrong 22 = .ok (.iload 5, 2) := by decide +kernel
theorem dX4_takeStrong_24 : decode cX4_takeStrong 24 = .ok (.bipush (-9), 2) := by decide +kernel
theorem dX4_takeStrong_26 : decode cX4_takeStrong 26 = .ok (.if_icmp .eq 73, 3) := by decide +kernel
theorem dX4_takeStrong_29 : decode cX4_takeStrong 29 = .ok (.iload 5, 2) := by decide +kernel
theorem dX4_takeStrong_31 : decode cX4_takeStrong 31 = .ok (.iload_n 3, 1) := by decide +kernel
theorem dX4_takeStrong_32 : decode cX4_takeStrong 32 = .ok (.if_icmp .eq 67, 3) := by decide +kernel
theorem dX4_takeStrong_35 : decode cX4_takeStrong 35 = .ok (.aload_n 0, 1) := by decide +kernel
theorem dX4_takeStrong_36 : decode cX4_takeStrong 36 = .ok (.getfield 23, 3) := by decide +kernel
theorem dX4_takeStrong_39 : decode cX4_takeStrong 39 = .ok (.getfield 73, 3) := by decide +kernel
theorem dX4_takeStrong_42 : decode cX4_takeStrong 42 = .ok (.iload 4, 2) := by decide +kernel
theorem dX4_takeStrong_44 : decode cX4_takeStrong 44 = .ok (.iaload, 1) := by decide +kernel
theorem dX4_takeStrong_45 : decode cX4_takeStrong 45 = .ok (.iload_n 2, 1) := by decide +kernel
theorem dX4_takeStrong_46 : decode cX4_takeStrong 46 = .ok (.if_icmp .ge 6, 3) := by decide +kernel
theorem dX4_takeStrong_49 : decode cX4_takeStrong 49 = .ok (.goto 50, 3) := by decide +kernel
theorem dX4_takeStrong_52 : decode cX4_takeStrong 52 = .ok (.aload_n 0, 1) := by decide +kernel
theorem dX4_takeStrong_53 : decode cX4_takeStrong 53 = .ok (.getfield 14, 3) := by decide +kernel
theorem dX4_takeStrong_56 : decode cX4_takeStrong 56 = .ok (.iload 5, 2) := by decide +kernel
theorem dX4_takeStrong_58 : decode cX4_takeStrong 58 = .ok (.invokevirtual 76, 3) := by decide +kernel
theorem dX4_takeStrong_61 : decode cX4_takeStrong 61 = .ok (.bipush (-9), 2) := by decide +kernel
theorem dX4_takeStrong_63 : decode cX4_takeStrong 63 = .ok (.if_icmp .ne 36, 3) := by decide +kernel
theorem dX4_takeStrong_66 : decode cX4_takeStrong 66 = .ok (.aload_n 0, 1) := by decide +kernel
theorem dX4_takeStrong_67 : decode cX4_takeStrong 67 = .ok (.getfield 14, 3) := by decide +kernel
theorem dX4_takeStrong_70 : decode cX4_takeStrong 70 = .ok (.iload_n 1, 1) := by decide +kernel
theorem dX4_takeStrong_71 : decode cX4_takeStrong 71 = .ok (.aload_n 0, 1) := by decide +kernel
theorem dX4_takeStrong_72 : decode cX4_takeStrong 72 = .ok (.getfield 14, 3) := by decide +kernel
theorem dX4_takeStrong_75 : decode cX4_takeStrong 75 = .ok (.getfield 61, 3) := by decide +kernel
theorem dX4_takeStrong_78 : decode cX4_takeStrong 78 = .ok (.invokestatic 80, 3) := by decide +kernel
theorem dX4_takeStrong_81 : decode cX4_takeStrong 81 = .ok (.iload 5, 2) := by decide +kernel
theorem dX4_takeStrong_83 : decode cX4_takeStrong 83 = .ok (.invokevirtual 64, 3) := by decide +kernel
theorem dX4_takeStrong_86 : decode cX4_takeStrong 86 = .ok (.aload_n 0, 1) := by decide +kernel
theorem dX4_takeStrong_87 : decode cX4_takeStrong 87 = .ok (.dup, 1) := by decide +kernel
theorem dX4_takeStrong_88 : decode cX4_takeStrong 88 = .ok (.getfield 27, 3) := by decide +kernel
theorem dX4_takeStrong_91 : decode cX4_takeStrong 91 = .ok (.iconst 1, 1) := by decide +kernel
theorem dX4_takeStrong_92 : decode cX4_takeStrong 92 = .ok (.iload 5, 2) := by decide +kernel
theorem dX4_takeStrong_94 : decode cX4_takeStrong 94 = .ok (.ishl, 1) := by decide +kernel
theorem dX4_takeStrong_95 : decode cX4_takeStrong 95 = .ok (.ior, 1) := by decide +kernel
theorem dX4_takeStrong_96 : decode cX4_takeStrong 96 = .ok (.putfield 27, 3) := by decide +kernel
theorem dX4_takeStrong_99 : decode cX4_takeStrong 99 = .ok (.iinc 4 1, 3) := by decide +kernel
theorem dX4_takeStrong_102 : decode cX4_takeStrong 102 = .ok (.goto (-99), 3) := by decide +kernel
theorem dX4_takeStrong_105 : decode cX4_takeStrong 105 = .ok (.return_, 1) := by decide +kernel
theorem dX4_moveStrong_0 : decode cX4_moveStrong 0 = .ok (.iconst 0, 1) := by decide +kernel
theorem dX4_moveStrong_1 : decode cX4_moveStrong 1 = .ok (.istore_n 3, 1) := by decide +kernel
theorem dX4_moveStrong_2 : decode cX4_moveStrong 2 = .ok (.iload_n 3, 1) := by decide +kernel
theorem dX4_moveStrong_3 : decode cX4_moveStrong 3 = .ok (.bipush 6, 2) := by decide +kernel
theorem dX4_moveStrong_5 : decode cX4_moveStrong 5 = .ok (.if_icmp .ge 82, 3) := by decide +kernel
theorem dX4_moveStrong_8 : decode cX4_moveStrong 8 = .ok (.aload_n 0, 1) := by decide +kernel
theorem dX4_moveStrong_9 : decode cX4_moveStrong 9 = .ok (.getfield 23, 3) := by decide +kernel
theorem dX4_moveStrong_12 : decode cX4_moveStrong 12 = .ok (.getfield 70, 3) := by decide +kernel
theorem dX4_moveStrong_15 : decode cX4_moveStrong 15 = .ok (.iload_n 3, 1) := by decide +kernel
theorem dX4_moveStrong_16 : decode cX4_moveStrong 16 = .ok (.iaload, 1) := by decide +kernel
theorem dX4_moveStrong_17 : decode cX4_moveStrong 17 = .ok (.istore 4, 2) := by decide +kernel
theorem dX4_moveStrong_19 : decode cX4_moveStrong 19 = .ok (.iload 4, 2) := by decide +kernel
theorem dX4_moveStrong_21 : decode cX4_moveStrong 21 = .ok (.bipush (-9), 2) := by decide +kernel
theorem dX4_moveStrong_23 : decode cX4_moveStrong 23 = .ok (.if_icmp .eq 58, 3) := by decide +kernel
theorem dX4_moveStrong_26 : decode cX4_moveStrong 26 = .ok (.aload_n 0, 1) := by decide +kernel
theorem dX4_moveStrong_27 : decode cX4_moveStrong 27 = .ok (.getfield 23, 3) := by decide +kernel
theorem dX4_moveStrong_30 : decode cX4_moveStrong 30 = .ok (.getfield 73, 3) := by decide +kernel
theorem dX4_moveStrong_33 : decode cX4_moveStrong 33 = .ok (.iload_n 3, 1) := by decide +kernel
theorem dX4_moveStrong_34 : decode cX4_moveStrong 34 = .ok (.iaload, 1) := by decide +kernel
theorem dX4_moveStrong_35 : decode cX4_moveStrong 35 = .ok (.iload_n 2, 1) := by decide +kernel
theorem dX4_moveStrong_36 : decode cX4_moveStrong 36 = .ok (.if_icmp .ge 6, 3) := by decide +kernel
theorem dX4_moveStrong_39 : decode cX4_moveStrong 39 = .ok (.goto 42, 3) := by decide +kernel
theorem dX4_moveStrong_42 : decode cX4_moveStrong 42 = .ok (.aload_n 0, 1) := by decide +kernel
theorem dX4_moveStrong_43 : decode cX4_moveStrong 43 = .ok (.getfield 14, 3) := by decide +kernel
theorem dX4_moveStrong_46 : decode cX4_moveStrong 46 = .ok (.iload 4, 2) := by decide +kernel
theorem dX4_moveStrong_48 : decode cX4_moveStrong 48 = .ok (.invokevirtual 76, 3) := by decide +kernel
theorem dX4_moveStrong_51 : decode cX4_moveStrong 51 = .ok (.istore 5, 2) := by decide +kernel
theorem dX4_moveStrong_53 : decode cX4_moveStrong 53 = .ok (.iload 5, 2) := by decide +kernel
theorem dX4_moveStrong_55 : decode cX4_moveStrong 55 = .ok (.iload_n 1, 1) := by decide +kernel
theorem dX4_moveStrong_56 : decode cX4_moveStrong 56 = .ok (.if_icmp .le 25, 3) := by decide +kernel
theorem dX4_moveStrong_59 : decode cX4_moveStrong 59 = .ok (.aload_n 0, 1) := by decide +kernel
theorem dX4_moveStrong_60 : decode cX4_moveStrong 60 = .ok (.getfield 14, 3) := by decide +kernel
theorem dX4_moveStrong_63 : decode cX4_moveStrong 63 = .ok (.iload 5, 2) := by decide +kernel
theorem dX4_moveStrong_65 : decode cX4_moveStrong 65 = .ok (.invokevirtual 86, 3) := by decide +kernel
theorem dX4_moveStrong_68 : decode cX4_moveStrong 68 = .ok (.aload_n 0, 1) := by decide +kernel
theorem dX4_moveStrong_69 : decode cX4_moveStrong 69 = .ok (.dup, 1) := by decide +kernel
theorem dX4_moveStrong_70 : decode cX4_moveStrong 70 = .ok (.getfield 31, 3) := by decide +kernel
theorem dX4_moveStrong_73 : decode cX4_moveStrong 73 = .ok (.iconst 1, 1) := by decide +kernel
theorem dX4_moveStrong_74 : decode cX4_moveStrong 74 = .ok (.iload 4, 2) := by decide +kernel
theorem dX4_moveStrong_76 : decode cX4_moveStrong 76 = .ok (.ishl, 1) := by decide +kernel
theorem dX4_moveStrong_77 : decode cX4_moveStrong 77 = .ok (.ior, 1) := by decide +kernel
theorem dX4_moveStrong_78 : decode cX4_moveStrong 78 = .ok (.putfield 31, 3) := by decide +kernel
theorem dX4_moveStrong_81 : decode cX4_moveStrong 81 = .ok (.iinc 3 1, 3) := by decide +kernel
theorem dX4_moveStrong_84 : decode cX4_moveStrong 84 = .ok (.goto (-82), 3) := by decide +kernel
theorem dX4_moveStrong_87 : decode cX4_moveStrong 87 = .ok (.return_, 1) := by decide +kernel
theorem dX4_dropWeak_0 : decode cX4_dropWeak 0 = .ok (.aload_n 0, 1) := by decide +kernel
theorem dX4_dropWeak_1 : decode cX4_dropWeak 1 = .ok (.getfield 14, 3) := by decide +kernel
theorem dX4_dropWeak_4 : decode cX4_dropWeak 4 = .ok (.getfield 61, 3) := by decide +kernel
theorem dX4_dropWeak_7 : decode cX4_dropWeak 7 = .ok (.iconst 1, 1) := by decide +kernel
theorem dX4_dropWeak_8 : decode cX4_dropWeak 8 = .ok (.isub, 1) := by decide +kernel
theorem dX4_dropWeak_9 : decode cX4_dropWeak 9 = .ok (.istore_n 3, 1) := by decide +kernel
theorem dX4_dropWeak_10 : decode cX4_dropWeak 10 = .ok (.iload_n 3, 1) := by decide +kernel
theorem dX4_dropWeak_11 : decode cX4_dropWeak 11 = .ok (.iload_n 1, 1) := by decide +kernel
theorem dX4_dropWeak_12 : decode cX4_dropWeak 12 = .ok (.if_icmp .lt 33, 3) := by decide +kernel
theorem dX4_dropWeak_15 : decode cX4_dropWeak 15 = .ok (.aload_n 0, 1) := by decide +kernel
theorem dX4_dropWeak_16 : decode cX4_dropWeak 16 = .ok (.getfield 23, 3) := by decide +kernel
theorem dX4_dropWeak_19 : decode cX4_dropWeak 19 = .ok (.aload_n 0, 1) := by decide +kernel
theorem dX4_dropWeak_20 : decode cX4_dropWeak 20 = .ok (.getfield 14, 3) := by decide +kernel
theorem dX4_dropWeak_23 : decode cX4_dropWeak 23 = .ok (.iload_n 3, 1) := by decide +kernel
theorem dX4_dropWeak_24 : decode cX4_dropWeak 24 = .ok (.invokevirtual 89, 3) := by decide +kernel
theorem dX4_dropWeak_27 : decode cX4_dropWeak 27 = .ok (.iload_n 2, 1) := by decide +kernel
theorem dX4_dropWeak_28 : decode cX4_dropWeak 28 = .ok (.invokevirtual 92, 3) := by decide +kernel
theorem dX4_dropWeak_31 : decode cX4_dropWeak 31 = .ok (.ifCond .eq 8, 3) := by decide +kernel
theorem dX4_dropWeak_34 : decode cX4_dropWeak 34 = .ok (.aload_n 0, 1) := by decide +kernel
theorem dX4_dropWeak_35 : decode cX4_dropWeak 35 = .ok (.iload_n 3, 1) := by decide +kernel
theorem dX4_dropWeak_36 : decode cX4_dropWeak 36 = .ok (.invokevirtual 96, 3) := by decide +kernel
theorem dX4_dropWeak_39 : decode cX4_dropWeak 39 = .ok (.iinc 3 (-1), 3) := by decide +kernel
theorem dX4_dropWeak_42 : decode cX4_dropWeak 42 = .ok (.goto (-32), 3) := by decide +kernel
theorem dX4_dropWeak_45 : decode cX4_dropWeak 45 = .ok (.return_, 1) := by decide +kernel
theorem dX4_dropBeyond_0 : decode cX4_dropBeyond 0 = .ok (.aload_n 0, 1) := by decide +kernel
theorem dX4_dropBeyond_1 : decode cX4_dropBeyond 1 = .ok (.getfield 14, 3) := by decide +kernel
theorem dX4_dropBeyond_4 : decode cX4_dropBeyond 4 = .ok (.getfield 61, 3) := by decide +kernel
theorem dX4_dropBeyond_7 : decode cX4_dropBeyond 7 = .ok (.iload_n 2, 1) := by decide +kernel
theorem dX4_dropBeyond_8 : decode cX4_dropBeyond 8 = .ok (.isub, 1) := by decide +kernel
theorem dX4_dropBeyond_9 : decode cX4_dropBeyond 9 = .ok (.istore_n 3, 1) := by decide +kernel
theorem dX4_dropBeyond_10 : decode cX4_dropBeyond 10 = .ok (.iload_n 3, 1) := by decide +kernel
theorem dX4_dropBeyond_11 : decode cX4_dropBeyond 11 = .ok (.ifCond .le 31, 3) := by decide +kernel
theorem dX4_dropBeyond_14 : decode cX4_dropBeyond 14 = .ok (.aload_n 0, 1) := by decide +kernel
theorem dX4_dropBeyond_15 : decode cX4_dropBeyond 15 = .ok (.getfield 14, 3) := by decide +kernel
theorem dX4_dropBeyond_18 : decode cX4_dropBeyond 18 = .ok (.getfield 61, 3) := by decide +kernel
theorem dX4_dropBeyond_21 : decode cX4_dropBeyond 21 = .ok (.iconst 1, 1) := by decide +kernel
theorem dX4_dropBeyond_22 : decode cX4_dropBeyond 22 = .ok (.isub, 1) := by decide +kernel
theorem dX4_dropBeyond_23 : decode cX4_dropBeyond 23 = .ok (.iload_n 1, 1) := by decide +kernel
theorem dX4_dropBeyond_24 : decode cX4_dropBeyond 24 = .ok (.if_icmp .le 18, 3) := by decide +kernel
theorem dX4_dropBeyond_27 : decode cX4_dropBeyond 27 = .ok (.aload_n 0, 1) := by decide +kernel
theorem dX4_dropBeyond_28 : decode cX4_dropBeyond 28 = .ok (.aload_n 0, 1) := by decide +kernel
theorem dX4_dropBeyond_29 : decode cX4_dropBeyond 29 = .ok (.iload_n 1, 1) := by decide +kernel
theorem dX4_dropBeyond_30 : decode cX4_dropBeyond 30 = .ok (.invokevirtual 99, 3) := by decide +kernel
theorem dX4_dropBeyond_33 : decode cX4_dropBeyond 33 = .ok (.invokevirtual 96, 3) := by decide +kernel
theorem dX4_dropBeyond_36 : decode cX4_dropBeyond 36 = .ok (.iinc 3 (-1), 3) := by decide +kernel
theorem dX4_dropBeyond_39 : decode cX4_dropBeyond 39 = .ok (.goto (-29), 3) := by decide +kernel
theorem dX4_dropBeyond_42 : decode cX4_dropBeyond 42 = .ok (.return_, 1) := by decide +kernel
theorem dX4_leastHeld_0 : decode cX4_leastHeld 0 = .ok (.iload_n 1, 1) := by decide +kernel
theorem dX4_leastHeld_1 : decode cX4_leastHeld 1 = .ok (.istore_n 2, 1) := by decide +kernel
theorem dX4_leastHeld_2 : decode cX4_leastHeld 2 = .ok (.iload_n 1, 1) := by decide +kernel
theorem dX4_leastHeld_3 : decode cX4_leastHeld 3 = .ok (.iconst 1, 1) := by decide +kernel
theorem dX4_leastHeld_4 : decode cX4_leastHeld 4 = .ok (.iadd, 1) := by decide +kernel
theorem dX4_leastHeld_5 : decode cX4_leastHeld 5 = .ok (.istore_n 3, 1) := by decide +kernel
theorem dX4_leastHeld_6 : decode cX4_leastHeld 6 = .ok (.iload_n 3, 1) := by decide +kernel
theorem dX4_leastHeld_7 : decode cX4_leastHeld 7 = .ok (.aload_n 0, 1) := by decide +kernel
theorem dX4_leastHeld_8 : decode cX4_leastHeld 8 = .ok (.getfield 14, 3) := by decide +kernel
theorem dX4_leastHeld_11 : decode cX4_leastHeld 11 = .ok (.getfield 61, 3) := by decide +kernel
theorem dX4_leastHeld_14 : decode cX4_leastHeld 14 = .ok (.iconst 1, 1) := by decide +kernel
theorem dX4_leastHeld_15 : decode cX4_leastHeld 15 = .ok (.isub, 1) := by decide +kernel
theorem dX4_leastHeld_16 : decode cX4_leastHeld 16 = .ok (.if_icmp .ge 44, 3) := by decide +kernel
theorem dX4_leastHeld_19 : decode cX4_leastHeld 19 = .ok (.aload_n 0, 1) := by decide +kernel
theorem dX4_leastHeld_20 : decode cX4_leastHeld 20 = .ok (.getfield 23, 3) := by decide +kernel
theorem dX4_leastHeld_23 : decode cX4_leastHeld 23 = .ok (.aload_n 0, 1) := by decide +kernel
theorem dX4_leastHeld_24 : decode cX4_leastHeld 24 = .ok (.getfield 14, 3) := by decide +kernel
theorem dX4_leastHeld_27 : decode cX4_leastHeld 27 = .ok (.iload_n 3, 1) := by decide +kernel
theorem dX4_leastHeld_28 : decode cX4_leastHeld 28 = .ok (.invokevirtual 89, 3) := by decide +kernel
theorem dX4_leastHeld_31 : decode cX4_leastHeld 31 = .ok (.invokevirtual 102, 3) := by decide +kernel
theorem dX4_leastHeld_34 : decode cX4_leastHeld 34 = .ok (.aload_n 0, 1) := by decide +kernel
theorem dX4_leastHeld_35 : decode cX4_leastHeld 35 = .ok (.getfield 23, 3) := by decide +kernel
theorem dX4_leastHeld_38 : decode cX4_leastHeld 38 = .ok (.aload_n 0, 1) := by decide +kernel
theorem dX4_leastHeld_39 : decode cX4_leastHeld 39 = .ok (.getfield 14, 3) := by decide +kernel
theorem dX4_leastHeld_42 : decode cX4_leastHeld 42 = .ok (.iload_n 2, 1) := by decide +kernel
theorem dX4_leastHeld_43 : decode cX4_leastHeld 43 = .ok (.invokevirtual 89, 3) := by decide +kernel
theorem dX4_leastHeld_46 : decode cX4_leastHeld 46 = .ok (.invokevirtual 102, 3) := by decide +kernel
theorem dX4_leastHeld_49 : decode cX4_leastHeld 49 = .ok (.if_icmp .ge 5, 3) := by decide +kernel
theorem dX4_leastHeld_52 : decode cX4_leastHeld 52 = .ok (.iload_n 3, 1) := by decide +kernel
theorem dX4_leastHeld_53 : decode cX4_leastHeld 53 = .ok (.istore_n 2, 1) := by decide +kernel
theorem dX4_leastHeld_54 : decode cX4_leastHeld 54 = .ok (.iinc 3 1, 3) := by decide +kernel
theorem dX4_leastHeld_57 : decode cX4_leastHeld 57 = .ok (.goto (-51), 3) := by decide +kernel
theorem dX4_leastHeld_60 : decode cX4_leastHeld 60 = .ok (.iload_n 2, 1) := by decide +kernel
theorem dX4_leastHeld_61 : decode cX4_leastHeld 61 = .ok (.ireturn, 1) := by decide +kernel
theorem dX4_drop_0 : decode cX4_drop 0 = .ok (.aload_n 0, 1) := by decide +kernel
theorem dX4_drop_1 : decode cX4_drop 1 = .ok (.getfield 14, 3) := by decide +kernel
theorem dX4_drop_4 : decode cX4_drop 4 = .ok (.iload_n 1, 1) := by decide +kernel
theorem dX4_drop_5 : decode cX4_drop 5 = .ok (.invokevirtual 105, 3) := by decide +kernel
theorem dX4_drop_8 : decode cX4_drop 8 = .ok (.ifCond .eq 30, 3) := by decide +kernel
theorem dX4_drop_11 : decode cX4_drop 11 = .ok (.aload_n 0, 1) := by decide +kernel
theorem dX4_drop_12 : decode cX4_drop 12 = .ok (.dup, 1) := by decide +kernel
theorem dX4_drop_13 : decode cX4_drop 13 = .ok (.getfield 34, 3) := by decide +kernel
theorem dX4_drop_16 : decode cX4_drop 16 = .ok (.iconst 1, 1) := by decide +kernel
theorem dX4_drop_17 : decode cX4_drop 17 = .ok (.aload_n 0, 1) := by decide +kernel
theorem dX4_drop_18 : decode cX4_drop 18 = .ok (.getfield 14, 3) := by decide +kernel
theorem dX4_drop_21 : decode cX4_drop 21 = .ok (.iload_n 1, 1) := by decide +kernel
theorem dX4_drop_22 : decode cX4_drop 22 = .ok (.invokevirtual 89, 3) := by decide +kernel
theorem dX4_drop_25 : decode cX4_drop 25 = .ok (.ishl, 1) := by decide +kernel
theorem dX4_drop_26 : decode cX4_drop 26 = .ok (.ior, 1) := by decide +kernel
theorem dX4_drop_27 : decode cX4_drop 27 = .ok (.putfield 34, 3) := by decide +kernel
theorem dX4_drop_30 : decode cX4_drop 30 = .ok (.aload_n 0, 1) := by decide +kernel
theorem dX4_drop_31 : decode cX4_drop 31 = .ok (.getfield 14, 3) := by decide +kernel
theorem dX4_drop_34 : decode cX4_drop 34 = .ok (.iload_n 1, 1) := by decide +kernel
theorem dX4_drop_35 : decode cX4_drop 35 = .ok (.invokevirtual 109, 3) := by decide +kernel
theorem dX4_drop_38 : decode cX4_drop 38 = .ok (.return_, 1) := by decide +kernel
theorem dX5_init_0 : decode cX5_init 0 = .ok (.aload_n 0, 1) := by decide +kernel
theorem dX5_init_1 : decode cX5_init 1 = .ok (.invokespecial 3, 3) := by decide +kernel
theorem dX5_init_4 : decode cX5_init 4 = .ok (.aload_n 0, 1) := by decide +kernel
theorem dX5_init_5 : decode cX5_init 5 = .ok (.bipush 26, 2) := by decide +kernel
theorem dX5_init_7 : decode cX5_init 7 = .ok (.newarray .int, 2) := by decide +kernel
theorem dX5_init_9 : decode cX5_init 9 = .ok (.putfield 9, 3) := by decide +kernel
theorem dX5_init_12 : decode cX5_init 12 = .ok (.aload_n 0, 1) := by decide +kernel
theorem dX5_init_13 : decode cX5_init 13 = .ok (.bipush 12, 2) := by decide +kernel
theorem dX5_init_15 : decode cX5_init 15 = .ok (.newarray .int, 2) := by decide +kernel
theorem dX5_init_17 : decode cX5_init 17 = .ok (.putfield 15, 3) := by decide +kernel
theorem dX5_init_20 : decode cX5_init 20 = .ok (.aload_n 0, 1) := by decide +kernel
theorem dX5_init_21 : decode cX5_init 21 = .ok (.sipush 4096, 3) := by decide +kernel
theorem dX5_init_24 : decode cX5_init 24 = .ok (.newarray .long, 2) := by decide +kernel
theorem dX5_init_26 : decode cX5_init 26 = .ok (.putfield 18, 3) := by decide +kernel
theorem dX5_init_29 : decode cX5_init 29 = .ok (.aload_n 0, 1) := by decide +kernel
theorem dX5_init_30 : decode cX5_init 30 = .ok (.iconst 0, 1) := by decide +kernel
theorem dX5_init_31 : decode cX5_init 31 = .ok (.putfield 22, 3) := by decide +kernel
theorem dX5_init_34 : decode cX5_init 34 = .ok (.return_, 1) := by decide +kernel
theorem dX5_look_0 : decode cX5_look 0 = .ok (.aload_n 0, 1) := by decide +kernel
theorem dX5_look_1 : decode cX5_look 1 = .ok (.getfield 9, 3) := by decide +kernel
theorem dX5_look_4 : decode cX5_look 4 = .ok (.iconst 0, 1) := by decide +kernel
theorem dX5_look_5 : decode cX5_look 5 = .ok (.invokestatic 26, 3) := by decide +kernel
theorem dX5_look_8 : decode cX5_look 8 = .ok (.aload_n 0, 1) := by decide +kernel
theorem dX5_look_9 : decode cX5_look 9 = .ok (.iconst 0, 1) := by decide +kernel
theorem dX5_look_10 : decode cX5_look 10 = .ok (.putfield 22, 3) := by decide +kernel
theorem dX5_look_13 : decode cX5_look 13 = .ok (.iconst 0, 1) := by decide +kernel
theorem dX5_look_14 : decode cX5_look 14 = .ok (.istore_n 3, 1) := by decide +kernel
theorem dX5_look_15 : decode cX5_look 15 = .ok (.iload_n 3, 1) := by decide +kernel
theorem dX5_look_16 : decode cX5_look 16 = .ok (.iconst 4, 1) := by decide +kernel
theorem dX5_look_17 : decode cX5_look 17 = .ok (.if_icmp .ge 27, 3) := by decide +kernel
theorem dX5_look_20 : decode cX5_look 20 = .ok (.iload_n 2, 1) := by decide +kernel
theorem dX5_look_21 : decode cX5_look 21 = .ok (.iload_n 3, 1) := by decide +kernel
theorem dX5_look_22 : decode cX5_look 22 = .ok (.invokestatic 32, 3) := by decide +kernel
theorem dX5_look_25 : decode cX5_look 25 = .ok (.ifCond .eq 13, 3) := by decide +kernel
theorem dX5_look_28 : decode cX5_look 28 = .ok (.aload_n 0, 1) := by decide +kernel
theorem dX5_look_29 : decode cX5_look 29 = .ok (.aload_n 1, 1) := by decide +kernel
theorem dX5_look_30 : decode cX5_look 30 = .ok (.getfield 36, 3) := by decide +kernel
theorem dX5_look_33 : decode cX5_look 33 = .ok (.iload_n 3, 1) := by decide +kernel
theorem dX5_look_34 : decode cX5_look 34 = .ok (.aaload, 1) := by decide +kernel
theorem dX5_look_35 : decode cX5_look 35 = .ok (.invokevirtual 42, 3) := by decide +kernel
theorem dX5_look_38 : decode cX5_look 38 = .ok (.iinc 3 1, 3) := by decide +kernel
theorem dX5_look_41 : decode cX5_look 41 = .ok (.goto (-26), 3) := by decide +kernel
theorem dX5_look_44 : decode cX5_look 44 = .ok (.return_, 1) := by decide +kernel
theorem dX5_lookAt_0 : decode cX5_lookAt 0 = .ok (.iconst 0, 1) := by decide +kernel
theorem dX5_lookAt_1 : decode cX5_lookAt 1 = .ok (.istore_n 2, 1) := by decide +kernel
theorem dX5_lookAt_2 : decode cX5_lookAt 2 = .ok (.iconst 0, 1) := by decide +kernel
theorem dX5_lookAt_3 : decode cX5_lookAt 3 = .ok (.istore_n 3, 1) := by decide +kernel
theorem dX5_lookAt_4 : decode cX5_lookAt 4 = .ok (.iload_n 3, 1) := by decide +kernel
theorem dX5_lookAt_5 : decode cX5_lookAt 5 = .ok (.aload_n 1, 1) := by decide +kernel
theorem dX5_lookAt_6 : decode cX5_lookAt 6 = .ok (.getfield 46, 3) := by decide +kernel
theorem dX5_lookAt_9 : decode cX5_lookAt 9 = .ok (.if_icmp .ge 42, 3) := by decide +kernel
theorem dX5_lookAt_12 : decode cX5_lookAt 12 = .ok (.aload_n 1, 1) := by decide +kernel
theorem dX5_lookAt_13 : decode cX5_lookAt 13 = .ok (.iload_n 3, 1) := by decide +kernel
theorem dX5_lookAt_14 : decode cX5_lookAt 14 = .ok (.invokevirtual 51, 3) := by decide +kernel
theorem dX5_lookAt_17 : decode cX5_lookAt 17 = .ok (.istore 4, 2) := by decide +kernel
theorem dX5_lookAt_19 : decode cX5_lookAt 19 = .ok (.iload 4, 2) := by decide +kernel
theorem dX5_lookAt_21 : decode cX5_lookAt 21 = .ok (.invokestatic 55, 3) := by decide +kernel
theorem dX5_lookAt_24 : decode cX5_lookAt 24 = .ok (.ifCond .eq 21, 3) := by decide +kernel
theorem dX5_lookAt_27 : decode cX5_lookAt 27 = .ok (.aload_n 0, 1) := by decide +kernel
theorem dX5_lookAt_28 : decode cX5_lookAt 28 = .ok (.getfield 9, 3) := by decide +kernel
theorem dX5_lookAt_31 : decode cX5_lookAt 31 = .ok (.iload 4, 2) := by decide +kernel
theorem dX5_lookAt_33 : decode cX5_lookAt 33 = .ok (.dup2, 1) := by decide +kernel
theorem dX5_lookAt_34 : decode cX5_lookAt 34 = .ok (.iaload, 1) := by decide +kernel
theorem dX5_lookAt_35 : decode cX5_lookAt 35 = .ok (.iload_n 2, 1) := by decide +kernel
theorem dX5_lookAt_36 : decode cX5_lookAt 36 = .ok (.ior, 1) := by decide +kernel
theorem dX5_lookAt_37 : decode cX5_lookAt 37 = .ok (.iastore, 1) := by decide +kernel
theorem dX5_lookAt_38 : decode cX5_lookAt 38 = .ok (.iload_n 2, 1) := by decide +kernel
theorem dX5_lookAt_39 : decode cX5_lookAt 39 = .ok (.iconst 1, 1) := by decide +kernel
theorem dX5_lookAt_40 : decode cX5_lookAt 40 = .ok (.iload 4, 2) := by decide +kernel
theorem dX5_lookAt_42 : decode cX5_lookAt 42 = .ok (.ishl, 1) := by decide +kernel
theorem dX5_lookAt_43 : decode cX5_lookAt 43 = .ok (.ior, 1) := by decide +kernel
theorem dX5_lookAt_44 : decode cX5_lookAt 44 = .ok (.istore_n 2, 1) := by decide +kernel
theorem dX5_lookAt_45 : decode cX5_lookAt 45 = .ok (.iinc 3 1, 3) := by decide +kernel
theorem dX5_lookAt_48 : decode cX5_lookAt 48 = .ok (.goto (-44), 3) := by decide +kernel
theorem dX5_lookAt_51 : decode cX5_lookAt 51 = .ok (.aload_n 0, 1) := by decide +kernel
theorem dX5_lookAt_52 : decode cX5_lookAt 52 = .ok (.dup, 1) := by decide +kernel
theorem dX5_lookAt_53 : decode cX5_lookAt 53 = .ok (.getfield 22, 3) := by decide +kernel
theorem dX5_lookAt_56 : decode cX5_lookAt 56 = .ok (.iload_n 2, 1) := by decide +kernel
theorem dX5_lookAt_57 : decode cX5_lookAt 57 = .ok (.ior, 1) := by decide +kernel
theorem dX5_lookAt_58 : decode cX5_lookAt 58 = .ok (.putfield 22, 3) := by decide +kernel
theorem dX5_lookAt_61 : decode cX5_lookAt 61 = .ok (.return_, 1) := by decide +kernel
theorem dX5_areTooMany_0 : decode cX5_areTooMany 0 = .ok (.aload_n 0, 1) := by decide +kernel
theorem dX5_areTooMany_1 : decode cX5_areTooMany 1 = .ok (.getfield 22, 3) := by decide +kernel
theorem dX5_areTooMany_4 : decode cX5_areTooMany 4 = .ok (.invokestatic 59, 3) := by decide +kernel
theorem dX5_areTooMany_7 : decode cX5_areTooMany 7 = .ok (.bipush 12, 2) := by decide +kernel
theorem dX5_areTooMany_9 : decode cX5_areTooMany 9 = .ok (.if_icmp .le 7, 3) := by decide +kernel
theorem dX5_areTooMany_12 : decode cX5_areTooMany 12 = .ok (.iconst 1, 1) := by decide +kernel
theorem dX5_areTooMany_13 : decode cX5_areTooMany 13 = .ok (.goto 4, 3) := by decide +kernel
theorem dX5_areTooMany_16 : decode cX5_areTooMany 16 = .ok (.iconst 0, 1) := by decide +kernel
theorem dX5_areTooMany_17 : decode cX5_areTooMany 17 = .ok (.ireturn, 1) := by decide +kernel
theorem dX5_haveOrder_0 : decode cX5_haveOrder 0 = .ok (.iconst 0, 1) := by decide +kernel
theorem dX5_haveOrder_1 : decode cX5_haveOrder 1 = .ok (.istore_n 1, 1) := by decide +kernel
theorem dX5_haveOrder_2 : decode cX5_haveOrder 2 = .ok (.iconst 0, 1) := by decide +kernel
theorem dX5_haveOrder_3 : decode cX5_haveOrder 3 = .ok (.istore_n 2, 1) := by decide +kernel
theorem dX5_haveOrder_4 : decode cX5_haveOrder 4 = .ok (.iload_n 2, 1) := by decide +kernel
theorem dX5_haveOrder_5 : decode cX5_haveOrder 5 = .ok (.bipush 26, 2) := by decide +kernel
theorem dX5_haveOrder_7 : decode cX5_haveOrder 7 = .ok (.if_icmp .ge 32, 3) := by decide +kernel
theorem dX5_haveOrder_10 : decode cX5_haveOrder 10 = .ok (.iload_n 1, 1) := by decide +kernel
theorem dX5_haveOrder_11 : decode cX5_haveOrder 11 = .ok (.aload_n 0, 1) := by decide +kernel
theorem dX5_haveOrder_12 : decode cX5_haveOrder 12 = .ok (.getfield 22, 3) := by decide +kernel
theorem dX5_haveOrder_15 : decode cX5_haveOrder 15 = .ok (.if_icmp .eq 24, 3) := by decide +kernel
theorem dX5_haveOrder_18 : decode cX5_haveOrder 18 = .ok (.aload_n 0, 1) := by decide +kernel
theorem dX5_haveOrder_19 : decode cX5_haveOrder 19 = .ok (.iload_n 1, 1) := by decide +kernel
theorem dX5_haveOrder_20 : decode cX5_haveOrder 20 = .ok (.invokevirtual 64, 3) := by decide +kernel
theorem dX5_haveOrder_23 : decode cX5_haveOrder 23 = .ok (.istore_n 3, 1) := by decide +kernel
theorem dX5_haveOrder_24 : decode cX5_haveOrder 24 = .ok (.iload_n 3, 1) := by decide +kernel
theorem dX5_haveOrder_25 : decode cX5_haveOrder 25 = .ok (.iload_n 1, 1) := by decide +kernel
theorem dX5_haveOrder_26 : decode cX5_haveOrder 26 = .ok (.if_icmp .ne 5, 3) := by decide +kernel
theorem dX5_haveOrder_29 : decode cX5_haveOrder 29 = .ok (.iconst 0, 1) := by decide +kernel
theorem dX5_haveOrder_30 : decode cX5_haveOrder 30 = .ok (.ireturn, 1) := by decide +kernel
theorem dX5_haveOrder_31 : decode cX5_haveOrder 31 = .ok (.iload_n 3, 1) := by decide +kernel
theorem dX5_haveOrder_32 : decode cX5_haveOrder 32 = .ok (.istore_n 1, 1) := by decide +kernel
theorem dX5_haveOrder_33 : decode cX5_haveOrder 33 = .ok (.iinc 2 1, 3) := by decide +kernel
theorem dX5_haveOrder_36 : decode cX5_haveOrder 36 = .ok (.goto (-32), 3) := by decide +kernel
theorem dX5_haveOrder_39 : decode cX5_haveOrder 39 = .ok (.iload_n 1, 1) := by decide +kernel
theorem dX5_haveOrder_40 : decode cX5_haveOrder 40 = .ok (.aload_n 0, 1) := by decide +kernel
theorem dX5_haveOrder_41 : decode cX5_haveOrder 41 = .ok (.getfield 22, 3) := by decide +kernel
theorem dX5_haveOrder_44 : decode cX5_haveOrder 44 = .ok (.if_icmp .ne 7, 3) := by decide +kernel
theorem dX5_haveOrder_47 : decode cX5_haveOrder 47 = .ok (.iconst 1, 1) := by decide +kernel
theorem dX5_haveOrder_48 : decode cX5_haveOrder 48 = .ok (.goto 4, 3) := by decide +kernel
theorem dX5_haveOrder_51 : decode cX5_haveOrder 51 = .ok (.iconst 0, 1) := by decide +kernel
theorem dX5_haveOrder_52 : decode cX5_haveOrder 52 = .ok (.ireturn, 1) := by decide +kernel
theorem dX5_withAllThatCanBeNext_0 : decode cX5_withAllThatCanBeNext 0 = .ok (.iload_n 1, 1) := by decide +kernel
theorem dX5_withAllThatCanBeNext_1 : decode cX5_withAllThatCanBeNext 1 = .ok (.istore_n 2, 1) := by decide +kernel
theorem dX5_withAllThatCanBeNext_2 : decode cX5_withAllThatCanBeNext 2 = .ok (.iconst 0, 1) := by decide +kernel
theorem dX5_withAllThatCanBeNext_3 : decode cX5_withAllThatCanBeNext 3 = .ok (.istore_n 3, 1) := by decide +kernel
theorem dX5_withAllThatCanBeNext_4 : decode cX5_withAllThatCanBeNext 4 = .ok (.iload_n 3, 1) := by decide +kernel
theorem dX5_withAllThatCanBeNext_5 : decode cX5_withAllThatCanBeNext 5 = .ok (.bipush 26, 2) := by decide +kernel
theorem dX5_withAllThatCanBeNext_7 : decode cX5_withAllThatCanBeNext 7 = .ok (.if_icmp .ge 39, 3) := by decide +kernel
theorem dX5_withAllThatCanBeNext_10 : decode cX5_withAllThatCanBeNext 10 = .ok (.aload_n 0, 1) := by decide +kernel
theorem dX5_withAllThatCanBeNext_11 : decode cX5_withAllThatCanBeNext 11 = .ok (.getfield 22, 3) := by decide +kernel
theorem dX5_withAllThatCanBeNext_14 : decode cX5_withAllThatCanBeNext 14 = .ok (.iload_n 3, 1) := by decide +kernel
theorem dX5_withAllThatCanBeNext_15 : decode cX5_withAllThatCanBeNext 15 = .ok (.invokestatic 32, 3) := by decide +kernel
theorem dX5_withAllThatCanBeNext_18 : decode cX5_withAllThatCanBeNext 18 = .ok (.ifCond .eq 22, 3) := by decide +kernel
theorem dX5_withAllThatCanBeNext_21 : decode cX5_withAllThatCanBeNext 21 = .ok (.aload_n 0, 1) := by decide +kernel
theorem dX5_withAllThatCanBeNext_22 : decode cX5_withAllThatCanBeNext 22 = .ok (.getfield 9, 3) := by decide +kernel
theorem dX5_withAllThatCanBeNext_25 : decode cX5_withAllThatCanBeNext 25 = .ok (.iload_n 3, 1) := by decide +kernel
theorem dX5_withAllThatCanBeNext_26 : decode cX5_withAllThatCanBeNext 26 = .ok (.iaload, 1) := by decide +kernel
theorem dX5_withAllThatCanBeNext_27 : decode cX5_withAllThatCanBeNext 27 = .ok (.iload_n 1, 1) := by decide +kernel
theorem dX5_withAllThatCanBeNext_28 : decode cX5_withAllThatCanBeNext 28 = .ok (.iconst (-1), 1) := by decide +kernel
theorem dX5_withAllThatCanBeNext_29 : decode cX5_withAllThatCanBeNext 29 = .ok (.ixor, 1) := by decide +kernel
theorem dX5_withAllThatCanBeNext_30 : decode cX5_withAllThatCanBeNext 30 = .ok (.iand, 1) := by decide +kernel
theorem dX5_withAllThatCanBeNext_31 : decode cX5_withAllThatCanBeNext 31 = .ok (.ifCond .ne 9, 3) := by decide +kernel
theorem dX5_withAllThatCanBeNext_34 : decode cX5_withAllThatCanBeNext 34 = .ok (.iload_n 2, 1) := by decide +kernel
theorem dX5_withAllThatCanBeNext_35 : decode cX5_withAllThatCanBeNext 35 = .ok (.iconst 1, 1) := by decide +kernel
theorem dX5_withAllThatCanBeNext_36 : decode cX5_withAllThatCanBeNext 36 = .ok (.iload_n 3, 1) := by decide +kernel
theorem dX5_withAllThatCanBeNext_37 : decode cX5_withAllThatCanBeNext 37 = .ok (.ishl, 1) := by decide +kernel
theorem dX5_withAllThatCanBeNext_38 : decode cX5_withAllThatCanBeNext 38 = .ok (.ior, 1) := by decide +kernel
theorem dX5_withAllThatCanBeNext_39 : decode cX5_withAllThatCanBeNext 39 = .ok (.istore_n 2, 1) := by decide +kernel
theorem dX5_withAllThatCanBeNext_40 : decode cX5_withAllThatCanBeNext 40 = .ok (.iinc 3 1, 3) := by decide +kernel
theorem dX5_withAllThatCanBeNext_43 : decode cX5_withAllThatCanBeNext 43 = .ok (.goto (-39), 3) := by decide +kernel
theorem dX5_withAllThatCanBeNext_46 : decode cX5_withAllThatCanBeNext 46 = .ok (.iload_n 2, 1) := by decide +kernel
theorem dX5_withAllThatCanBeNext_47 : decode cX5_withAllThatCanBeNext 47 = .ok (.ireturn, 1) := by decide +kernel
theorem dX5_allAheadOf_0 : decode cX5_allAheadOf 0 = .ok (.iload_n 1, 1) := by decide +kernel
theorem dX5_allAheadOf_1 : decode cX5_allAheadOf 1 = .ok (.invokestatic 55, 3) := by decide +kernel
theorem dX5_allAheadOf_4 : decode cX5_allAheadOf 4 = .ok (.ifCond .eq 12, 3) := by decide +kernel
theorem dX5_allAheadOf_7 : decode cX5_allAheadOf 7 = .ok (.aload_n 0, 1) := by decide +kernel
theorem dX5_allAheadOf_8 : decode cX5_allAheadOf 8 = .ok (.getfield 9, 3) := by decide +kernel
theorem dX5_allAheadOf_11 : decode cX5_allAheadOf 11 = .ok (.iload_n 1, 1) := by decide +kernel
theorem dX5_allAheadOf_12 : decode cX5_allAheadOf 12 = .ok (.iaload, 1) := by decide +kernel
theorem dX5_allAheadOf_13 : decode cX5_allAheadOf 13 = .ok (.goto 4, 3) := by decide +kernel
theorem dX5_allAheadOf_16 : decode cX5_allAheadOf 16 = .ok (.iconst 0, 1) := by decide +kernel
theorem dX5_allAheadOf_17 : decode cX5_allAheadOf 17 = .ok (.istore_n 2, 1) := by decide +kernel
theorem dX5_allAheadOf_18 : decode cX5_allAheadOf 18 = .ok (.iconst 0, 1) := by decide +kernel
theorem dX5_allAheadOf_19 : decode cX5_allAheadOf 19 = .ok (.istore_n 3, 1) := by decide +kernel
theorem dX5_allAheadOf_20 : decode cX5_allAheadOf 20 = .ok (.iload_n 3, 1) := by decide +kernel
theorem dX5_allAheadOf_21 : decode cX5_allAheadOf 21 = .ok (.bipush 26, 2) := by decide +kernel
theorem dX5_allAheadOf_23 : decode cX5_allAheadOf 23 = .ok (.if_icmp .ge 27, 3) := by decide +kernel
theorem dX5_allAheadOf_26 : decode cX5_allAheadOf 26 = .ok (.aload_n 0, 1) := by decide +kernel
theorem dX5_allAheadOf_27 : decode cX5_allAheadOf 27 = .ok (.iload_n 2, 1) := by decide +kernel
theorem dX5_allAheadOf_28 : decode cX5_allAheadOf 28 = .ok (.invokevirtual 67, 3) := by decide +kernel
theorem dX5_allAheadOf_31 : decode cX5_allAheadOf 31 = .ok (.istore 4, 2) := by decide +kernel
theorem dX5_allAheadOf_33 : decode cX5_allAheadOf 33 = .ok (.iload 4, 2) := by decide +kernel
theorem dX5_allAheadOf_35 : decode cX5_allAheadOf 35 = .ok (.iload_n 2, 1) := by decide +kernel
theorem dX5_allAheadOf_36 : decode cX5_allAheadOf 36 = .ok (.if_icmp .ne 5, 3) := by decide +kernel
theorem dX5_allAheadOf_39 : decode cX5_allAheadOf 39 = .ok (.iload_n 2, 1) := by decide +kernel
theorem dX5_allAheadOf_40 : decode cX5_allAheadOf 40 = .ok (.ireturn, 1) := by decide +kernel
theorem dX5_allAheadOf_41 : decode cX5_allAheadOf 41 = .ok (.iload 4, 2) := by decide +kernel
theorem dX5_allAheadOf_43 : decode cX5_allAheadOf 43 = .ok (.istore_n 2, 1) := by decide +kernel
theorem dX5_allAheadOf_44 : decode cX5_allAheadOf 44 = .ok (.iinc 3 1, 3) := by decide +kernel
theorem dX5_allAheadOf_47 : decode cX5_allAheadOf 47 = .ok (.goto (-27), 3) := by decide +kernel
theorem dX5_allAheadOf_50 : decode cX5_allAheadOf 50 = .ok (.iload_n 2, 1) := by decide +kernel
theorem dX5_allAheadOf_51 : decode cX5_allAheadOf 51 = .ok (.ireturn, 1) := by decide +kernel
theorem dX5_withAllAhead_0 : decode cX5_withAllAhead 0 = .ok (.iload_n 1, 1) := by decide +kernel
theorem dX5_withAllAhead_1 : decode cX5_withAllAhead 1 = .ok (.istore_n 2, 1) := by decide +kernel
theorem dX5_withAllAhead_2 : decode cX5_withAllAhead 2 = .ok (.iconst 0, 1) := by decide +kernel
theorem dX5_withAllAhead_3 : decode cX5_withAllAhead 3 = .ok (.istore_n 3, 1) := by decide +kernel
theorem dX5_withAllAhead_4 : decode cX5_withAllAhead 4 = .ok (.iload_n 3, 1) := by decide +kernel
theorem dX5_withAllAhead_5 : decode cX5_withAllAhead 5 = .ok (.bipush 26, 2) := by decide +kernel
theorem dX5_withAllAhead_7 : decode cX5_withAllAhead 7 = .ok (.if_icmp .ge 26, 3) := by decide +kernel
theorem dX5_withAllAhead_10 : decode cX5_withAllAhead 10 = .ok (.iload_n 1, 1) := by decide +kernel
theorem dX5_withAllAhead_11 : decode cX5_withAllAhead 11 = .ok (.iload_n 3, 1) := by decide +kernel
theorem dX5_withAllAhead_12 : decode cX5_withAllAhead 12 = .ok (.invokestatic 32, 3) := by decide +kernel
theorem dX5_withAllAhead_15 : decode cX5_withAllAhead 15 = .ok (.ifCond .eq 12, 3) := by decide +kernel
theorem dX5_withAllAhead_18 : decode cX5_withAllAhead 18 = .ok (.iload_n 2, 1) := by decide +kernel
theorem dX5_withAllAhead_19 : decode cX5_withAllAhead 19 = .ok (.aload_n 0, 1) := by decide +kernel
theorem dX5_withAllAhead_20 : decode cX5_withAllAhead 20 = .ok (.getfield 9, 3) := by decide +kernel
theorem dX5_withAllAhead_23 : decode cX5_withAllAhead 23 = .ok (.iload_n 3, 1) := by decide +kernel
theorem dX5_withAllAhead_24 : decode cX5_withAllAhead 24 = .ok (.iaload, 1) := by decide +kernel
theorem dX5_withAllAhead_25 : decode cX5_withAllAhead 25 = .ok (.ior, 1) := by decide +kernel
theorem dX5_withAllAhead_26 : decode cX5_withAllAhead 26 = .ok (.istore_n 2, 1) := by decide +kernel
theorem dX5_withAllAhead_27 : decode cX5_withAllAhead 27 = .ok (.iinc 3 1, 3) := by decide +kernel
theorem dX5_withAllAhead_30 : decode cX5_withAllAhead 30 = .ok (.goto (-26), 3) := by decide +kernel
theorem dX5_withAllAhead_33 : decode cX5_withAllAhead 33 = .ok (.iload_n 2, 1) := by decide +kernel
theorem dX5_withAllAhead_34 : decode cX5_withAllAhead 34 = .ok (.ireturn, 1) := by decide +kernel
theorem dX5_fewestWithoutOrder_0 : decode cX5_fewestWithoutOrder 0 = .ok (.iconst 2, 1) := by decide +kernel
theorem dX5_fewestWithoutOrder_1 : decode cX5_fewestWithoutOrder 1 = .ok (.istore_n 3, 1) := by decide +kernel
theorem dX5_fewestWithoutOrder_2 : decode cX5_fewestWithoutOrder 2 = .ok (.iload_n 3, 1) := by decide +kernel
theorem dX5_fewestWithoutOrder_3 : decode cX5_fewestWithoutOrder 3 = .ok (.iconst 4, 1) := by decide +kernel
theorem dX5_fewestWithoutOrder_4 : decode cX5_fewestWithoutOrder 4 = .ok (.if_icmp .gt 59, 3) := by decide +kernel
theorem dX5_fewestWithoutOrder_7 : decode cX5_fewestWithoutOrder 7 = .ok (.iconst 1, 1) := by decide +kernel
theorem dX5_fewestWithoutOrder_8 : decode cX5_fewestWithoutOrder 8 = .ok (.istore 4, 2) := by decide +kernel
theorem dX5_fewestWithoutOrder_10 : decode cX5_fewestWithoutOrder 10 = .ok (.iload 4, 2) := by decide +kernel
theorem dX5_fewestWithoutOrder_12 : decode cX5_fewestWithoutOrder 12 = .ok (.iload_n 2, 1) := by decide +kernel
theorem dX5_fewestWithoutOrder_13 : decode cX5_fewestWithoutOrder 13 = .ok (.if_icmp .gt 44, 3) := by decide +kernel
theorem dX5_fewestWithoutOrder_16 : decode cX5_fewestWithoutOrder 16 = .ok (.iload 4, 2) := by decide +kernel
theorem dX5_fewestWithoutOrder_18 : decode cX5_fewestWithoutOrder 18 = .ok (.iload_n 2, 1) := by decide +kernel
theorem dX5_fewestWithoutOrder_19 : decode cX5_fewestWithoutOrder 19 = .ok (.iconst (-1), 1) := by decide +kernel
theorem dX5_fewestWithoutOrder_20 : decode cX5_fewestWithoutOrder 20 = .ok (.ixor, 1) := by decide +kernel
theorem dX5_fewestWithoutOrder_21 : decode cX5_fewestWithoutOrder 21 = .ok (.iand, 1) := by decide +kernel
theorem dX5_fewestWithoutOrder_22 : decode cX5_fewestWithoutOrder 22 = .ok (.ifCond .ne 29, 3) := by decide +kernel
theorem dX5_fewestWithoutOrder_25 : decode cX5_fewestWithoutOrder 25 = .ok (.iload 4, 2) := by decide +kernel
theorem dX5_fewestWithoutOrder_27 : decode cX5_fewestWithoutOrder 27 = .ok (.invokestatic 59, 3) := by decide +kernel
theorem dX5_fewestWithoutOrder_30 : decode cX5_fewestWithoutOrder 30 = .ok (.iload_n 3, 1) := by decide +kernel
theorem dX5_fewestWithoutOrder_31 : decode cX5_fewestWithoutOrder 31 = .ok (.if_icmp .ne 20, 3) := by decide +kernel
theorem dX5_fewestWithoutOrder_34 : decode cX5_fewestWithoutOrder 34 = .ok (.aload_n 0, 1) := by decide +kernel
theorem dX5_fewestWithoutOrder_35 : decode cX5_fewestWithoutOrder 35 = .ok (.aload_n 1, 1) := by decide +kernel
theorem dX5_fewestWithoutOrder_36 : decode cX5_fewestWithoutOrder 36 = .ok (.iload 4, 2) := by decide +kernel
theorem dX5_fewestWithoutOrder_38 : decode cX5_fewestWithoutOrder 38 = .ok (.invokevirtual 70, 3) := by decide +kernel
theorem dX5_fewestWithoutOrder_41 : decode cX5_fewestWithoutOrder 41 = .ok (.aload_n 0, 1) := by decide +kernel
theorem dX5_fewestWithoutOrder_42 : decode cX5_fewestWithoutOrder 42 = .ok (.invokevirtual 74, 3) := by decide +kernel
theorem dX5_fewestWithoutOrder_45 : decode cX5_fewestWithoutOrder 45 = .ok (.ifCond .ne 6, 3) := by decide +kernel
theorem dX5_fewestWithoutOrder_48 : decode cX5_fewestWithoutOrder 48 = .ok (.iload 4, 2) := by decide +kernel
theorem dX5_fewestWithoutOrder_50 : decode cX5_fewestWithoutOrder 50 = .ok (.ireturn, 1) := by decide +kernel
theorem dX5_fewestWithoutOrder_51 : decode cX5_fewestWithoutOrder 51 = .ok (.iinc 4 1, 3) := by decide +kernel
theorem dX5_fewestWithoutOrder_54 : decode cX5_fewestWithoutOrder 54 = .ok (.goto (-44), 3) := by decide +kernel
theorem dX5_fewestWithoutOrder_57 : decode cX5_fewestWithoutOrder 57 = .ok (.iinc 3 1, 3) := by decide +kernel
theorem dX5_fewestWithoutOrder_60 : decode cX5_fewestWithoutOrder 60 = .ok (.goto (-58), 3) := by decide +kernel
theorem dX5_fewestWithoutOrder_63 : decode cX5_fewestWithoutOrder 63 = .ok (.iconst 0, 1) := by decide +kernel
theorem dX5_fewestWithoutOrder_64 : decode cX5_fewestWithoutOrder 64 = .ok (.ireturn, 1) := by decide +kernel
theorem dX5_countOrders_0 : decode cX5_countOrders 0 = .ok (.aload_n 0, 1) := by decide +kernel
theorem dX5_countOrders_1 : decode cX5_countOrders 1 = .ok (.invokevirtual 78, 3) := by decide +kernel
theorem dX5_countOrders_4 : decode cX5_countOrders 4 = .ok (.istore_n 1, 1) := by decide +kernel
theorem dX5_countOrders_5 : decode cX5_countOrders 5 = .ok (.iconst 1, 1) := by decide +kernel
theorem dX5_countOrders_6 : decode cX5_countOrders 6 = .ok (.iload_n 1, 1) := by decide +kernel
theorem dX5_countOrders_7 : decode cX5_countOrders 7 = .ok (.ishl, 1) := by decide +kernel
theorem dX5_countOrders_8 : decode cX5_countOrders 8 = .ok (.iconst 1, 1) := by decide +kernel
theorem dX5_countOrders_9 : decode cX5_countOrders 9 = .ok (.isub, 1) := by decide +kernel
theorem dX5_countOrders_10 : decode cX5_countOrders 10 = .ok (.istore_n 2, 1) := by decide +kernel
theorem dX5_countOrders_11 : decode cX5_countOrders 11 = .ok (.iconst 0, 1) := by decide +kernel
theorem dX5_countOrders_12 : decode cX5_countOrders 12 = .ok (.istore_n 3, 1) := by decide +kernel
theorem dX5_countOrders_13 : decode cX5_countOrders 13 = .ok (.iload_n 3, 1) := by decide +kernel
theorem dX5_countOrders_14 : decode cX5_countOrders 14 = .ok (.iload_n 2, 1) := by decide +kernel
theorem dX5_countOrders_15 : decode cX5_countOrders 15 = .ok (.if_icmp .gt 16, 3) := by decide +kernel
theorem dX5_countOrders_18 : decode cX5_countOrders 18 = .ok (.aload_n 0, 1) := by decide +kernel
theorem dX5_countOrders_19 : decode cX5_countOrders 19 = .ok (.getfield 18, 3) := by decide +kernel
theorem dX5_countOrders_22 : decode cX5_countOrders 22 = .ok (.iload_n 3, 1) := by decide +kernel
theorem dX5_countOrders_23 : decode cX5_countOrders 23 = .ok (.lconst 0, 1) := by decide +kernel
theorem dX5_countOrders_24 : decode cX5_countOrders 24 = .ok (.lastore, 1) := by decide +kernel
theorem dX5_countOrders_25 : decode cX5_countOrders 25 = .ok (.iinc 3 1, 3) := by decide +kernel
theorem dX5_countOrders_28 : decode cX5_countOrders 28 = .ok (.goto (-15), 3) := by decide +kernel
theorem dX5_countOrders_31 : decode cX5_countOrders 31 = .ok (.aload_n 0, 1) := by decide +kernel
theorem dX5_countOrders_32 : decode cX5_countOrders 32 = .ok (.getfield 18, 3) := by decide +kernel
theorem dX5_countOrders_35 : decode cX5_countOrders 35 = .ok (.iconst 0, 1) := by decide +kernel
theorem dX5_countOrders_36 : decode cX5_countOrders 36 = .ok (.lconst 1, 1) := by decide +kernel
theorem dX5_countOrders_37 : decode cX5_countOrders 37 = .ok (.lastore, 1) := by decide +kernel
theorem dX5_countOrders_38 : decode cX5_countOrders 38 = .ok (.iconst 0, 1) := by decide +kernel
theorem dX5_countOrders_39 : decode cX5_countOrders 39 = .ok (.istore_n 3, 1) := by decide +kernel
theorem dX5_countOrders_40 : decode cX5_countOrders 40 = .ok (.iload_n 3, 1) := by decide +kernel
theorem dX5_countOrders_41 : decode cX5_countOrders 41 = .ok (.iload_n 2, 1) := by decide +kernel
theorem dX5_countOrders_42 : decode cX5_countOrders 42 = .ok (.if_icmp .ge 26, 3) := by decide +kernel
theorem dX5_countOrders_45 : decode cX5_countOrders 45 = .ok (.aload_n 0, 1) := by decide +kernel
theorem dX5_countOrders_46 : decode cX5_countOrders 46 = .ok (.getfield 18, 3) := by decide +kernel
theorem dX5_countOrders_49 : decode cX5_countOrders 49 = .ok (.iload_n 3, 1) := by decide +kernel
theorem dX5_countOrders_50 : decode cX5_countOrders 50 = .ok (.laload, 1) := by decide +kernel
theorem dX5_countOrders_51 : decode cX5_countOrders 51 = .ok (.lconst 0, 1) := by decide +kernel
theorem dX5_countOrders_52 : decode cX5_countOrders 52 = .ok (.lcmp, 1) := by decide +kernel
theorem dX5_countOrders_53 : decode cX5_countOrders 53 = .ok (.ifCond .eq 9, 3) := by decide +kernel
theorem dX5_countOrders_56 : decode cX5_countOrders 56 = .ok (.aload_n 0, 1) := by decide +kernel
theorem dX5_countOrders_57 : decode cX5_countOrders 57 = .ok (.iload_n 3, 1) := by decide +kernel
theorem dX5_countOrders_58 : decode cX5_countOrders 58 = .ok (.iload_n 1, 1) := by decide +kernel
theorem dX5_countOrders_59 : decode cX5_countOrders 59 = .ok (.invokevirtual 82, 3) := by decide +kernel
theorem dX5_countOrders_62 : decode cX5_countOrders 62 = .ok (.iinc 3 1, 3) := by decide +kernel
theorem dX5_countOrders_65 : decode cX5_countOrders 65 = .ok (.goto (-25), 3) := by decide +kernel
theorem dX5_countOrders_68 : decode cX5_countOrders 68 = .ok (.aload_n 0, 1) := by decide +kernel
theorem dX5_countOrders_69 : decode cX5_countOrders 69 = .ok (.getfield 18, 3) := by decide +kernel
theorem dX5_countOrders_72 : decode cX5_countOrders 72 = .ok (.iload_n 2, 1) := by decide +kernel
theorem dX5_countOrders_73 : decode cX5_countOrders 73 = .ok (.laload, 1) := by decide +kernel
theorem dX5_countOrders_74 : decode cX5_countOrders 74 = .ok (.lreturn, 1) := by decide +kernel
theorem dX5_goOnFrom_0 : decode cX5_goOnFrom 0 = .ok (.iconst 0, 1) := by decide +kernel
theorem dX5_goOnFrom_1 : decode cX5_goOnFrom 1 = .ok (.istore_n 3, 1) := by decide +kernel
theorem dX5_goOnFrom_2 : decode cX5_goOnFrom 2 = .ok (.iload_n 3, 1) := by decide +kernel
theorem dX5_goOnFrom_3 : decode cX5_goOnFrom 3 = .ok (.iload_n 2, 1) := by decide +kernel
theorem dX5_goOnFrom_4 : decode cX5_goOnFrom 4 = .ok (.if_icmp .ge 49, 3) := by decide +kernel
theorem dX5_goOnFrom_7 : decode cX5_goOnFrom 7 = .ok (.iload_n 1, 1) := by decide +kernel
theorem dX5_goOnFrom_8 : decode cX5_goOnFrom 8 = .ok (.iload_n 3, 1) := by decide +kernel
theorem dX5_goOnFrom_9 : decode cX5_goOnFrom 9 = .ok (.invokestatic 32, 3) := by decide +kernel
theorem dX5_goOnFrom_12 : decode cX5_goOnFrom 12 = .ok (.ifCond .ne 35, 3) := by decide +kernel
theorem dX5_goOnFrom_15 : decode cX5_goOnFrom 15 = .ok (.aload_n 0, 1) := by decide +kernel
theorem dX5_goOnFrom_16 : decode cX5_goOnFrom 16 = .ok (.getfield 15, 3) := by decide +kernel
theorem dX5_goOnFrom_19 : decode cX5_goOnFrom 19 = .ok (.iload_n 3, 1) := by decide +kernel
theorem dX5_goOnFrom_20 : decode cX5_goOnFrom 20 = .ok (.iaload, 1) := by decide +kernel
theorem dX5_goOnFrom_21 : decode cX5_goOnFrom 21 = .ok (.iload_n 1, 1) := by decide +kernel
theorem dX5_goOnFrom_22 : decode cX5_goOnFrom 22 = .ok (.iconst (-1), 1) := by decide +kernel
theorem dX5_goOnFrom_23 : decode cX5_goOnFrom 23 = .ok (.ixor, 1) := by decide +kernel
theorem dX5_goOnFrom_24 : decode cX5_goOnFrom 24 = .ok (.iand, 1) := by decide +kernel
theorem dX5_goOnFrom_25 : decode cX5_goOnFrom 25 = .ok (.ifCond .ne 22, 3) := by decide +kernel
theorem dX5_goOnFrom_28 : decode cX5_goOnFrom 28 = .ok (.aload_n 0, 1) := by decide +kernel
theorem dX5_goOnFrom_29 : decode cX5_goOnFrom 29 = .ok (.getfield 18, 3) := by decide +kernel
theorem dX5_goOnFrom_32 : decode cX5_goOnFrom 32 = .ok (.iload_n 1, 1) := by decide +kernel
theorem dX5_goOnFrom_33 : decode cX5_goOnFrom 33 = .ok (.iconst 1, 1) := by decide +kernel
theorem dX5_goOnFrom_34 : decode cX5_goOnFrom 34 = .ok (.iload_n 3, 1) := by decide +kernel
theorem dX5_goOnFrom_35 : decode cX5_goOnFrom 35 = .ok (.ishl, 1) := by decide +kernel
theorem dX5_goOnFrom_36 : decode cX5_goOnFrom 36 = .ok (.ior, 1) := by decide +kernel
theorem dX5_goOnFrom_37 : decode cX5_goOnFrom 37 = .ok (.dup2, 1) := by decide +kernel
theorem dX5_goOnFrom_38 : decode cX5_goOnFrom 38 = .ok (.laload, 1) := by decide +kernel
theorem dX5_goOnFrom_39 : decode cX5_goOnFrom 39 = .ok (.aload_n 0, 1) := by decide +kernel
theorem dX5_goOnFrom_40 : decode cX5_goOnFrom 40 = .ok (.getfield 18, 3) := by decide +kernel
theorem dX5_goOnFrom_43 : decode cX5_goOnFrom 43 = .ok (.iload_n 1, 1) := by decide +kernel
theorem dX5_goOnFrom_44 : decode cX5_goOnFrom 44 = .ok (.laload, 1) := by decide +kernel
theorem dX5_goOnFrom_45 : decode cX5_goOnFrom 45 = .ok (.ladd, 1) := by decide +kernel
theorem dX5_goOnFrom_46 : decode cX5_goOnFrom 46 = .ok (.lastore, 1) := by decide +kernel
theorem dX5_goOnFrom_47 : decode cX5_goOnFrom 47 = .ok (.iinc 3 1, 3) := by decide +kernel
theorem dX5_goOnFrom_50 : decode cX5_goOnFrom 50 = .ok (.goto (-48), 3) := by decide +kernel
theorem dX5_goOnFrom_53 : decode cX5_goOnFrom 53 = .ok (.return_, 1) := by decide +kernel
theorem dX5_fillNeeded_0 : decode cX5_fillNeeded 0 = .ok (.iconst 0, 1) := by decide +kernel
theorem dX5_fillNeeded_1 : decode cX5_fillNeeded 1 = .ok (.istore_n 1, 1) := by decide +kernel
theorem dX5_fillNeeded_2 : decode cX5_fillNeeded 2 = .ok (.iconst 0, 1) := by decide +kernel
theorem dX5_fillNeeded_3 : decode cX5_fillNeeded 3 = .ok (.istore_n 2, 1) := by decide +kernel
theorem dX5_fillNeeded_4 : decode cX5_fillNeeded 4 = .ok (.iload_n 2, 1) := by decide +kernel
theorem dX5_fillNeeded_5 : decode cX5_fillNeeded 5 = .ok (.bipush 26, 2) := by decide +kernel
theorem dX5_fillNeeded_7 : decode cX5_fillNeeded 7 = .ok (.if_icmp .ge 45, 3) := by decide +kernel
theorem dX5_fillNeeded_10 : decode cX5_fillNeeded 10 = .ok (.iload_n 1, 1) := by decide +kernel
theorem dX5_fillNeeded_11 : decode cX5_fillNeeded 11 = .ok (.bipush 12, 2) := by decide +kernel
theorem dX5_fillNeeded_13 : decode cX5_fillNeeded 13 = .ok (.if_icmp .ge 39, 3) := by decide +kernel
theorem dX5_fillNeeded_16 : decode cX5_fillNeeded 16 = .ok (.aload_n 0, 1) := by decide +kernel
theorem dX5_fillNeeded_17 : decode cX5_fillNeeded 17 = .ok (.getfield 22, 3) := by decide +kernel
theorem dX5_fillNeeded_20 : decode cX5_fillNeeded 20 = .ok (.iload_n 2, 1) := by decide +kernel
theorem dX5_fillNeeded_21 : decode cX5_fillNeeded 21 = .ok (.invokestatic 32, 3) := by decide +kernel
theorem dX5_fillNeeded_24 : decode cX5_fillNeeded 24 = .ok (.ifCond .eq 22, 3) := by decide +kernel
theorem dX5_fillNeeded_27 : decode cX5_fillNeeded 27 = .ok (.aload_n 0, 1) := by decide +kernel
theorem dX5_fillNeeded_28 : decode cX5_fillNeeded 28 = .ok (.getfield 15, 3) := by decide +kernel
theorem dX5_fillNeeded_31 : decode cX5_fillNeeded 31 = .ok (.iload_n 1, 1) := by decide +kernel
theorem dX5_fillNeeded_32 : decode cX5_fillNeeded 32 = .ok (.aload_n 0, 1) := by decide +kernel
theorem dX5_fillNeeded_33 : decode cX5_fillNeeded 33 = .ok (.aload_n 0, 1) := by decide +kernel
theorem dX5_fillNeeded_34 : decode cX5_fillNeeded 34 = .ok (.getfield 9, 3) := by decide +kernel
theorem dX5_fillNeeded_37 : decode cX5_fillNeeded 37 = .ok (.iload_n 2, 1) := by decide +kernel
theorem dX5_fillNeeded_38 : decode cX5_fillNeeded 38 = .ok (.iaload, 1) := by decide +kernel
theorem dX5_fillNeeded_39 : decode cX5_fillNeeded 39 = .ok (.invokevirtual 86, 3) := by decide +kernel
theorem dX5_fillNeeded_42 : decode cX5_fillNeeded 42 = .ok (.iastore, 1) := by decide +kernel
theorem dX5_fillNeeded_43 : decode cX5_fillNeeded 43 = .ok (.iinc 1 1, 3) := by decide +kernel
theorem dX5_fillNeeded_46 : decode cX5_fillNeeded 46 = .ok (.iinc 2 1, 3) := by decide +kernel
theorem dX5_fillNeeded_49 : decode cX5_fillNeeded 49 = .ok (.goto (-45), 3) := by decide +kernel
theorem dX5_fillNeeded_52 : decode cX5_fillNeeded 52 = .ok (.iload_n 1, 1) := by decide +kernel
theorem dX5_fillNeeded_53 : decode cX5_fillNeeded 53 = .ok (.ireturn, 1) := by decide +kernel
theorem dX5_withoutGaps_0 : decode cX5_withoutGaps 0 = .ok (.iconst 0, 1) := by decide +kernel
theorem dX5_withoutGaps_1 : decode cX5_withoutGaps 1 = .ok (.istore_n 2, 1) := by decide +kernel
theorem dX5_withoutGaps_2 : decode cX5_withoutGaps 2 = .ok (.iconst 0, 1) := by decide +kernel
theorem dX5_withoutGaps_3 : decode cX5_withoutGaps 3 = .ok (.istore_n 3, 1) := by decide +kernel
theorem dX5_withoutGaps_4 : decode cX5_withoutGaps 4 = .ok (.iconst 0, 1) := by decide +kernel
theorem dX5_withoutGaps_5 : decode cX5_withoutGaps 5 = .ok (.istore 4, 2) := by decide +kernel
theorem dX5_withoutGaps_7 : decode cX5_withoutGaps 7 = .ok (.iload 4, 2) := by decide +kernel
theorem dX5_withoutGaps_9 : decode cX5_withoutGaps 9 = .ok (.bipush 26, 2) := by decide +kernel
theorem dX5_withoutGaps_11 : decode cX5_withoutGaps 11 = .ok (.if_icmp .ge 43, 3) := by decide +kernel
theorem dX5_withoutGaps_14 : decode cX5_withoutGaps 14 = .ok (.aload_n 0, 1) := by decide +kernel
theorem dX5_withoutGaps_15 : decode cX5_withoutGaps 15 = .ok (.getfield 22, 3) := by decide +kernel
theorem dX5_withoutGaps_18 : decode cX5_withoutGaps 18 = .ok (.iload 4, 2) := by decide +kernel
theorem dX5_withoutGaps_20 : decode cX5_withoutGaps 20 = .ok (.invokestatic 32, 3) := by decide +kernel
theorem dX5_withoutGaps_23 : decode cX5_withoutGaps 23 = .ok (.ifCond .eq 25, 3) := by decide +kernel
theorem dX5_withoutGaps_26 : decode cX5_withoutGaps 26 = .ok (.iload_n 2, 1) := by decide +kernel
theorem dX5_withoutGaps_27 : decode cX5_withoutGaps 27 = .ok (.iload_n 1, 1) := by decide +kernel
theorem dX5_withoutGaps_28 : decode cX5_withoutGaps 28 = .ok (.iload 4, 2) := by decide +kernel
theorem dX5_withoutGaps_30 : decode cX5_withoutGaps 30 = .ok (.invokestatic 32, 3) := by decide +kernel
theorem dX5_withoutGaps_33 : decode cX5_withoutGaps 33 = .ok (.ifCond .eq 9, 3) := by decide +kernel
theorem dX5_withoutGaps_36 : decode cX5_withoutGaps 36 = .ok (.iconst 1, 1) := by decide +kernel
theorem dX5_withoutGaps_37 : decode cX5_withoutGaps 37 = .ok (.iload_n 3, 1) := by decide +kernel
theorem dX5_withoutGaps_38 : decode cX5_withoutGaps 38 = .ok (.ishl, 1) := by decide +kernel
theorem dX5_withoutGaps_39 : decode cX5_withoutGaps 39 = .ok (.goto 4, 3) := by decide +kernel
theorem dX5_withoutGaps_42 : decode cX5_withoutGaps 42 = .ok (.iconst 0, 1) := by decide +kernel
theorem dX5_withoutGaps_43 : decode cX5_withoutGaps 43 = .ok (.ior, 1) := by decide +kernel
theorem dX5_withoutGaps_44 : decode cX5_withoutGaps 44 = .ok (.istore_n 2, 1) := by decide +kernel
theorem dX5_withoutGaps_45 : decode cX5_withoutGaps 45 = .ok (.iinc 3 1, 3) := by decide +kernel
theorem dX5_withoutGaps_48 : decode cX5_withoutGaps 48 = .ok (.iinc 4 1, 3) := by decide +kernel
theorem dX5_withoutGaps_51 : decode cX5_withoutGaps 51 = .ok (.goto (-44), 3) := by decide +kernel
theorem dX5_withoutGaps_54 : decode cX5_withoutGaps 54 = .ok (.iload_n 2, 1) := by decide +kernel
theorem dX5_withoutGaps_55 : decode cX5_withoutGaps 55 = .ok (.ireturn, 1) := by decide +kernel
theorem dX6_init_0 : decode cX6_init 0 = .ok (.aload_n 0, 1) := by decide +kernel
theorem dX6_init_1 : decode cX6_init 1 = .ok (.invokespecial 3, 3) := by decide +kernel
theorem dX6_init_4 : decode cX6_init 4 = .ok (.aload_n 0, 1) := by decide +kernel
theorem dX6_init_5 : decode cX6_init 5 = .ok (.sipush 200, 3) := by decide +kernel
theorem dX6_init_8 : decode cX6_init 8 = .ok (.newarray .int, 2) := by decide +kernel
theorem dX6_init_10 : decode cX6_init 10 = .ok (.putfield 9, 3) := by decide +kernel
theorem dX6_init_13 : decode cX6_init 13 = .ok (.aload_n 0, 1) := by decide +kernel
theorem dX6_init_14 : decode cX6_init 14 = .ok (.iconst 0, 1) := by decide +kernel
theorem dX6_init_15 : decode cX6_init 15 = .ok (.putfield 15, 3) := by decide +kernel
theorem dX6_init_18 : decode cX6_init 18 = .ok (.return_, 1) := by decide +kernel
theorem dX6_add_0 : decode cX6_add 0 = .ok (.aload_n 0, 1) := by decide +kernel
theorem dX6_add_1 : decode cX6_add 1 = .ok (.getfield 15, 3) := by decide +kernel
theorem dX6_add_4 : decode cX6_add 4 = .ok (.aload_n 0, 1) := by decide +kernel
theorem dX6_add_5 : decode cX6_add 5 = .ok (.getfield 9, 3) := by decide +kernel
theorem dX6_add_8 : decode cX6_add 8 = .ok (.arraylength, 1) := by decide +kernel
theorem dX6_add_9 : decode cX6_add 9 = .ok (.if_icmp .ge 23, 3) := by decide +kernel
theorem dX6_add_12 : decode cX6_add 12 = .ok (.aload_n 0, 1) := by decide +kernel
theorem dX6_add_13 : decode cX6_add 13 = .ok (.getfield 9, 3) := by decide +kernel
theorem dX6_add_16 : decode cX6_add 16 = .ok (.aload_n 0, 1) := by decide +kernel
theorem dX6_add_17 : decode cX6_add 17 = .ok (.getfield 15, 3) := by decide +kernel
theorem dX6_add_20 : decode cX6_add 20 = .ok (.iload_n 1, 1) := by decide +kernel
theorem dX6_add_21 : decode cX6_add 21 = .ok (.iastore, 1) := by decide +kernel
theorem dX6_add_22 : decode cX6_add 22 = .ok (.aload_n 0, 1) := by decide +kernel
theorem dX6_add_23 : decode cX6_add 23 = .ok (.dup, 1) := by decide +kernel
theorem dX6_add_24 : decode cX6_add 24 = .ok (.getfield 15, 3) := by decide +kernel
theorem dX6_add_27 : decode cX6_add 27 = .ok (.iconst 1, 1) := by decide +kernel
theorem dX6_add_28 : decode cX6_add 28 = .ok (.iadd, 1) := by decide +kernel
theorem dX6_add_29 : decode cX6_add 29 = .ok (.putfield 15, 3) := by decide +kernel
theorem dX6_add_32 : decode cX6_add 32 = .ok (.return_, 1) := by decide +kernel
theorem dX6_empty_0 : decode cX6_empty 0 = .ok (.aload_n 0, 1) := by decide +kernel
theorem dX6_empty_1 : decode cX6_empty 1 = .ok (.getfield 15, 3) := by decide +kernel
theorem dX6_empty_4 : decode cX6_empty 4 = .ok (.istore_n 1, 1) := by decide +kernel
theorem dX6_empty_5 : decode cX6_empty 5 = .ok (.aload_n 0, 1) := by decide +kernel
theorem dX6_empty_6 : decode cX6_empty 6 = .ok (.iconst 0, 1) := by decide +kernel
theorem dX6_empty_7 : decode cX6_empty 7 = .ok (.putfield 15, 3) := by decide +kernel
theorem dX6_empty_10 : decode cX6_empty 10 = .ok (.iload_n 1, 1) := by decide +kernel
theorem dX6_empty_11 : decode cX6_empty 11 = .ok (.ireturn, 1) := by decide +kernel
theorem dX6_byteAt_0 : decode cX6_byteAt 0 = .ok (.iload_n 1, 1) := by decide +kernel
theorem dX6_byteAt_1 : decode cX6_byteAt 1 = .ok (.ifCond .lt 20, 3) := by decide +kernel
theorem dX6_byteAt_4 : decode cX6_byteAt 4 = .ok (.iload_n 1, 1) := by decide +kernel
theorem dX6_byteAt_5 : decode cX6_byteAt 5 = .ok (.aload_n 0, 1) := by decide +kernel
theorem dX6_byteAt_6 : decode cX6_byteAt 6 = .ok (.getfield 15, 3) := by decide +kernel
theorem dX6_byteAt_9 : decode cX6_byteAt 9 = .ok (.if_icmp .ge 12, 3) := by decide +kernel
theorem dX6_byteAt_12 : decode cX6_byteAt 12 = .ok (.aload_n 0, 1) := by decide +kernel
theorem dX6_byteAt_13 : decode cX6_byteAt 13 = .ok (.getfield 9, 3) := by decide +kernel
theorem dX6_byteAt_16 : decode cX6_byteAt 16 = .ok (.iload_n 1, 1) := by decide +kernel
theorem dX6_byteAt_17 : decode cX6_byteAt 17 = .ok (.iaload, 1) := by decide +kernel
theorem dX6_byteAt_18 : decode cX6_byteAt 18 = .ok (.goto 5, 3) := by decide +kernel
theorem dX6_byteAt_21 : decode cX6_byteAt 21 = .ok (.bipush (-9), 2) := by decide +kernel
theorem dX6_byteAt_23 : decode cX6_byteAt 23 = .ok (.ireturn, 1) := by decide +kernel
theorem dX6_afterBlanks_0 : decode cX6_afterBlanks 0 = .ok (.iload_n 1, 1) := by decide +kernel
theorem dX6_afterBlanks_1 : decode cX6_afterBlanks 1 = .ok (.istore_n 2, 1) := by decide +kernel
theorem dX6_afterBlanks_2 : decode cX6_afterBlanks 2 = .ok (.iload_n 2, 1) := by decide +kernel
theorem dX6_afterBlanks_3 : decode cX6_afterBlanks 3 = .ok (.aload_n 0, 1) := by decide +kernel
theorem dX6_afterBlanks_4 : decode cX6_afterBlanks 4 = .ok (.getfield 15, 3) := by decide +kernel
theorem dX6_afterBlanks_7 : decode cX6_afterBlanks 7 = .ok (.if_icmp .ge 19, 3) := by decide +kernel
theorem dX6_afterBlanks_10 : decode cX6_afterBlanks 10 = .ok (.aload_n 0, 1) := by decide +kernel
theorem dX6_afterBlanks_11 : decode cX6_afterBlanks 11 = .ok (.iload_n 2, 1) := by decide +kernel
theorem dX6_afterBlanks_12 : decode cX6_afterBlanks 12 = .ok (.invokevirtual 19, 3) := by decide +kernel
theorem dX6_afterBlanks_15 : decode cX6_afterBlanks 15 = .ok (.bipush 32, 2) := by decide +kernel
theorem dX6_afterBlanks_17 : decode cX6_afterBlanks 17 = .ok (.if_icmp .ne 9, 3) := by decide +kernel
theorem dX6_afterBlanks_20 : decode cX6_afterBlanks 20 = .ok (.iinc 2 1, 3) := by decide +kernel
theorem dX6_afterBlanks_23 : decode cX6_afterBlanks 23 = .ok (.goto (-21), 3) := by decide +kernel
theorem dX6_afterBlanks_26 : decode cX6_afterBlanks 26 = .ok (.iload_n 2, 1) := by decide +kernel
theorem dX6_afterBlanks_27 : decode cX6_afterBlanks 27 = .ok (.ireturn, 1) := by decide +kernel
theorem dX6_afterLetters_0 : decode cX6_afterLetters 0 = .ok (.iload_n 1, 1) := by decide +kernel
theorem dX6_afterLetters_1 : decode cX6_afterLetters 1 = .ok (.istore_n 2, 1) := by decide +kernel
theorem dX6_afterLetters_2 : decode cX6_afterLetters 2 = .ok (.iload_n 2, 1) := by decide +kernel
theorem dX6_afterLetters_3 : decode cX6_afterLetters 3 = .ok (.aload_n 0, 1) := by decide +kernel
theorem dX6_afterLetters_4 : decode cX6_afterLetters 4 = .ok (.getfield 15, 3) := by decide +kernel
theorem dX6_afterLetters_7 : decode cX6_afterLetters 7 = .ok (.if_icmp .ge 20, 3) := by decide +kernel
theorem dX6_afterLetters_10 : decode cX6_afterLetters 10 = .ok (.aload_n 0, 1) := by decide +kernel
theorem dX6_afterLetters_11 : decode cX6_afterLetters 11 = .ok (.iload_n 2, 1) := by decide +kernel
theorem dX6_afterLetters_12 : decode cX6_afterLetters 12 = .ok (.invokevirtual 19, 3) := by decide +kernel
theorem dX6_afterLetters_15 : decode cX6_afterLetters 15 = .ok (.invokestatic 23, 3) := by decide +kernel
theorem dX6_afterLetters_18 : decode cX6_afterLetters 18 = .ok (.ifCond .eq 9, 3) := by decide +kernel
theorem dX6_afterLetters_21 : decode cX6_afterLetters 21 = .ok (.iinc 2 1, 3) := by decide +kernel
theorem dX6_afterLetters_24 : decode cX6_afterLetters 24 = .ok (.goto (-22), 3) := by decide +kernel
theorem dX6_afterLetters_27 : decode cX6_afterLetters 27 = .ok (.iload_n 2, 1) := by decide +kernel
theorem dX6_afterLetters_28 : decode cX6_afterLetters 28 = .ok (.ireturn, 1) := by decide +kernel
theorem dX6_afterDigits_0 : decode cX6_afterDigits 0 = .ok (.iload_n 1, 1) := by decide +kernel
theorem dX6_afterDigits_1 : decode cX6_afterDigits 1 = .ok (.istore_n 2, 1) := by decide +kernel
theorem dX6_afterDigits_2 : decode cX6_afterDigits 2 = .ok (.iload_n 2, 1) := by decide +kernel
theorem dX6_afterDigits_3 : decode cX6_afterDigits 3 = .ok (.aload_n 0, 1) := by decide +kernel
theorem dX6_afterDigits_4 : decode cX6_afterDigits 4 = .ok (.getfield 15, 3) := by decide +kernel
theorem dX6_afterDigits_7 : decode cX6_afterDigits 7 = .ok (.if_icmp .ge 20, 3) := by decide +kernel
theorem dX6_afterDigits_10 : decode cX6_afterDigits 10 = .ok (.aload_n 0, 1) := by decide +kernel
theorem dX6_afterDigits_11 : decode cX6_afterDigits 11 = .ok (.iload_n 2, 1) := by decide +kernel
theorem dX6_afterDigits_12 : decode cX6_afterDigits 12 = .ok (.invokevirtual 19, 3) := by decide +kernel
theorem dX6_afterDigits_15 : decode cX6_afterDigits 15 = .ok (.invokestatic 27, 3) := by decide +kernel
theorem dX6_afterDigits_18 : decode cX6_afterDigits 18 = .ok (.ifCond .eq 9, 3) := by decide +kernel
theorem dX6_afterDigits_21 : decode cX6_afterDigits 21 = .ok (.iinc 2 1, 3) := by decide +kernel
theorem dX6_afterDigits_24 : decode cX6_afterDigits 24 = .ok (.goto (-22), 3) := by decide +kernel
theorem dX6_afterDigits_27 : decode cX6_afterDigits 27 = .ok (.iload_n 2, 1) := by decide +kernel
theorem dX6_afterDigits_28 : decode cX6_afterDigits 28 = .ok (.ireturn, 1) := by decide +kernel
theorem dX6_numberAt_0 : decode cX6_numberAt 0 = .ok (.aload_n 0, 1) := by decide +kernel
theorem dX6_numberAt_1 : decode cX6_numberAt 1 = .ok (.iload_n 1, 1) := by decide +kernel
theorem dX6_numberAt_2 : decode cX6_numberAt 2 = .ok (.invokevirtual 30, 3) := by decide +kernel
theorem dX6_numberAt_5 : decode cX6_numberAt 5 = .ok (.iload_n 1, 1) := by decide +kernel
theorem dX6_numberAt_6 : decode cX6_numberAt 6 = .ok (.isub, 1) := by decide +kernel
theorem dX6_numberAt_7 : decode cX6_numberAt 7 = .ok (.istore_n 2, 1) := by decide +kernel
theorem dX6_numberAt_8 : decode cX6_numberAt 8 = .ok (.iload_n 2, 1) := by decide +kernel
theorem dX6_numberAt_9 : decode cX6_numberAt 9 = .ok (.iconst 1, 1) := by decide +kernel
theorem dX6_numberAt_10 : decode cX6_numberAt 10 = .ok (.if_icmp .ne 12, 3) := by decide +kernel
theorem dX6_numberAt_13 : decode cX6_numberAt 13 = .ok (.aload_n 0, 1) := by decide +kernel
theorem dX6_numberAt_14 : decode cX6_numberAt 14 = .ok (.iload_n 1, 1) := by decide +kernel
theorem dX6_numberAt_15 : decode cX6_numberAt 15 = .ok (.invokevirtual 19, 3) := by decide +kernel
theorem dX6_numberAt_18 : decode cX6_numberAt 18 = .ok (.bipush 48, 2) := by decide +kernel
theorem dX6_numberAt_20 : decode cX6_numberAt 20 = .ok (.isub, 1) := by decide +kernel
theorem dX6_numberAt_21 : decode cX6_numberAt 21 = .ok (.ireturn, 1) := by decide +kernel
theorem dX6_numberAt_22 : decode cX6_numberAt 22 = .ok (.iload_n 2, 1) := by decide +kernel
theorem dX6_numberAt_23 : decode cX6_numberAt 23 = .ok (.iconst 2, 1) := by decide +kernel
theorem dX6_numberAt_24 : decode cX6_numberAt 24 = .ok (.if_icmp .ne 36, 3) := by decide +kernel
theorem dX6_numberAt_27 : decode cX6_numberAt 27 = .ok (.aload_n 0, 1) := by decide +kernel
theorem dX6_numberAt_28 : decode cX6_numberAt 28 = .ok (.iload_n 1, 1) := by decide +kernel
theorem dX6_numberAt_29 : decode cX6_numberAt 29 = .ok (.invokevirtual 19, 3) := by decide +kernel
theorem dX6_numberAt_32 : decode cX6_numberAt 32 = .ok (.bipush 48, 2) := by decide +kernel
theorem dX6_numberAt_34 : decode cX6_numberAt 34 = .ok (.if_icmp .eq 26, 3) := by decide +kernel
theorem dX6_numberAt_37 : decode cX6_numberAt 37 = .ok (.bipush 10, 2) := by decide +kernel
theorem dX6_numberAt_39 : decode cX6_numberAt 39 = .ok (.aload_n 0, 1) := by decide +kernel
theorem dX6_numberAt_40 : decode cX6_numberAt 40 = .ok (.iload_n 1, 1) := by decide +kernel
theorem dX6_numberAt_41 : decode cX6_numberAt 41 = .ok (.invokevirtual 19, 3) := by decide +kernel
theorem dX6_numberAt_44 : decode cX6_numberAt 44 = .ok (.bipush 48, 2) := by decide +kernel
theorem dX6_numberAt_46 : decode cX6_numberAt 46 = .ok (.isub, 1) := by decide +kernel
theorem dX6_numberAt_47 : decode cX6_numberAt 47 = .ok (.imul, 1) := by decide +kernel
theorem dX6_numberAt_48 : decode cX6_numberAt 48 = .ok (.aload_n 0, 1) := by decide +kernel
theorem dX6_numberAt_49 : decode cX6_numberAt 49 = .ok (.iload_n 1, 1) := by decide +kernel
theorem dX6_numberAt_50 : decode cX6_numberAt 50 = .ok (.iconst 1, 1) := by decide +kernel
theorem dX6_numberAt_51 : decode cX6_numberAt 51 = .ok (.iadd, 1) := by decide +kernel
theorem dX6_numberAt_52 : decode cX6_numberAt 52 = .ok (.invokevirtual 19, 3) := by decide +kernel
theorem dX6_numberAt_55 : decode cX6_numberAt 55 = .ok (.iadd, 1) := by decide +kernel
theorem dX6_numberAt_56 : decode cX6_numberAt 56 = .ok (.bipush 48, 2) := by decide +kernel
theorem dX6_numberAt_58 : decode cX6_numberAt 58 = .ok (.isub, 1) := by decide +kernel
theorem dX6_numberAt_59 : decode cX6_numberAt 59 = .ok (.ireturn, 1) := by decide +kernel
theorem dX6_numberAt_60 : decode cX6_numberAt 60 = .ok (.bipush (-9), 2) := by decide +kernel
theorem dX6_numberAt_62 : decode cX6_numberAt 62 = .ok (.ireturn, 1) := by decide +kernel
theorem dX6_isWordAt_0 : decode cX6_isWordAt 0 = .ok (.aload_n 0, 1) := by decide +kernel
theorem dX6_isWordAt_1 : decode cX6_isWordAt 1 = .ok (.iload_n 1, 1) := by decide +kernel
theorem dX6_isWordAt_2 : decode cX6_isWordAt 2 = .ok (.invokevirtual 33, 3) := by decide +kernel
theorem dX6_isWordAt_5 : decode cX6_isWordAt 5 = .ok (.iload_n 1, 1) := by decide +kernel
theorem dX6_isWordAt_6 : decode cX6_isWordAt 6 = .ok (.isub, 1) := by decide +kernel
theorem dX6_isWordAt_7 : decode cX6_isWordAt 7 = .ok (.aload_n 2, 1) := by decide +kernel
theorem dX6_isWordAt_8 : decode cX6_isWordAt 8 = .ok (.invokevirtual 36, 3) := by decide +kernel
theorem dX6_isWordAt_11 : decode cX6_isWordAt 11 = .ok (.if_icmp .eq 5, 3) := by decide +kernel
theorem dX6_isWordAt_14 : decode cX6_isWordAt 14 = .ok (.iconst 0, 1) := by decide +kernel
theorem dX6_isWordAt_15 : decode cX6_isWordAt 15 = .ok (.ireturn, 1) := by decide +kernel
theorem dX6_isWordAt_16 : decode cX6_isWordAt 16 = .ok (.iconst 0, 1) := by decide +kernel
theorem dX6_isWordAt_17 : decode cX6_isWordAt 17 = .ok (.istore_n 3, 1) := by decide +kernel
theorem dX6_isWordAt_18 : decode cX6_isWordAt 18 = .ok (.iload_n 3, 1) := by decide +kernel
theorem dX6_isWordAt_19 : decode cX6_isWordAt 19 = .ok (.aload_n 2, 1) := by decide +kernel
theorem dX6_isWordAt_20 : decode cX6_isWordAt 20 = .ok (.invokevirtual 36, 3) := by decide +kernel
theorem dX6_isWordAt_23 : decode cX6_isWordAt 23 = .ok (.if_icmp .ge 26, 3) := by decide +kernel
theorem dX6_isWordAt_26 : decode cX6_isWordAt 26 = .ok (.aload_n 0, 1) := by decide +kernel
theorem dX6_isWordAt_27 : decode cX6_isWordAt 27 = .ok (.iload_n 1, 1) := by decide +kernel
theorem dX6_isWordAt_28 : decode cX6_isWordAt 28 = .ok (.iload_n 3, 1) := by decide +kernel
theorem dX6_isWordAt_29 : decode cX6_isWordAt 29 = .ok (.iadd, 1) := by decide +kernel
theorem dX6_isWordAt_30 : decode cX6_isWordAt 30 = .ok (.invokevirtual 19, 3) := by decide +kernel
theorem dX6_isWordAt_33 : decode cX6_isWordAt 33 = .ok (.aload_n 2, 1) := by decide +kernel
theorem dX6_isWordAt_34 : decode cX6_isWordAt 34 = .ok (.iload_n 3, 1) := by decide +kernel
theorem dX6_isWordAt_35 : decode cX6_isWordAt 35 = .ok (.invokevirtual 42, 3) := by decide +kernel
theorem dX6_isWordAt_38 : decode cX6_isWordAt 38 = .ok (.if_icmp .eq 5, 3) := by decide +kernel
theorem dX6_isWordAt_41 : decode cX6_isWordAt 41 = .ok (.iconst 0, 1) := by decide +kernel
theorem dX6_isWordAt_42 : decode cX6_isWordAt 42 = .ok (.ireturn, 1) := by decide +kernel
theorem dX6_isWordAt_43 : decode cX6_isWordAt 43 = .ok (.iinc 3 1, 3) := by decide +kernel
theorem dX6_isWordAt_46 : decode cX6_isWordAt 46 = .ok (.goto (-28), 3) := by decide +kernel
theorem dX6_isWordAt_49 : decode cX6_isWordAt 49 = .ok (.iconst 1, 1) := by decide +kernel
theorem dX6_isWordAt_50 : decode cX6_isWordAt 50 = .ok (.ireturn, 1) := by decide +kernel
theorem dX6_faultAsList_0 : decode cX6_faultAsList 0 = .ok (.iconst 0, 1) := by decide +kernel
theorem dX6_faultAsList_1 : decode cX6_faultAsList 1 = .ok (.istore_n 1, 1) := by decide +kernel
theorem dX6_faultAsList_2 : decode cX6_faultAsList 2 = .ok (.iconst 0, 1) := by decide +kernel
theorem dX6_faultAsList_3 : decode cX6_faultAsList 3 = .ok (.istore_n 2, 1) := by decide +kernel
theorem dX6_faultAsList_4 : decode cX6_faultAsList 4 = .ok (.iload_n 2, 1) := by decide +kernel
theorem dX6_faultAsList_5 : decode cX6_faultAsList 5 = .ok (.aload_n 0, 1) := by decide +kernel
theorem dX6_faultAsList_6 : decode cX6_faultAsList 6 = .ok (.getfield 15, 3) := by decide +kernel
theorem dX6_faultAsList_9 : decode cX6_faultAsList 9 = .ok (.if_icmp .ge 50, 3) := by decide +kernel
theorem dX6_faultAsList_12 : decode cX6_faultAsList 12 = .ok (.aload_n 0, 1) := by decide +kernel
theorem dX6_faultAsList_13 : decode cX6_faultAsList 13 = .ok (.iload_n 2, 1) := by decide +kernel
theorem dX6_faultAsList_14 : decode cX6_faultAsList 14 = .ok (.invokevirtual 19, 3) := by decide +kernel
theorem dX6_faultAsList_17 : decode cX6_faultAsList 17 = .ok (.istore_n 3, 1) := by decide +kernel
theorem dX6_faultAsList_18 : decode cX6_faultAsList 18 = .ok (.iload_n 3, 1) := by decide +kernel
theorem dX6_faultAsList_19 : decode cX6_faultAsList 19 = .ok (.invokestatic 23, 3) := by decide +kernel
theorem dX6_faultAsList_22 : decode cX6_faultAsList 22 = .ok (.ifCond .eq 20, 3) := by decide +kernel
theorem dX6_faultAsList_25 : decode cX6_faultAsList 25 = .ok (.iload_n 1, 1) := by decide +kernel
theorem dX6_faultAsList_26 : decode cX6_faultAsList 26 = .ok (.iload_n 3, 1) := by decide +kernel
theorem dX6_faultAsList_27 : decode cX6_faultAsList 27 = .ok (.bipush 97, 2) := by decide +kernel
theorem dX6_faultAsList_29 : decode cX6_faultAsList 29 = .ok (.isub, 1) := by decide +kernel
theorem dX6_faultAsList_30 : decode cX6_faultAsList 30 = .ok (.invokestatic 46, 3) := by decide +kernel
theorem dX6_faultAsList_33 : decode cX6_faultAsList 33 = .ok (.ifCond .ne 9, 3) := by decide +kernel
theorem dX6_faultAsList_36 : decode cX6_faultAsList 36 = .ok (.iload_n 2, 1) := by decide +kernel
theorem dX6_faultAsList_37 : decode cX6_faultAsList 37 = .ok (.bipush 12, 2) := by decide +kernel
theorem dX6_faultAsList_39 : decode cX6_faultAsList 39 = .ok (.if_icmp .lt 5, 3) := by decide +kernel
theorem dX6_faultAsList_42 : decode cX6_faultAsList 42 = .ok (.iload_n 2, 1) := by decide +kernel
theorem dX6_faultAsList_43 : decode cX6_faultAsList 43 = .ok (.ireturn, 1) := by decide +kernel
theorem dX6_faultAsList_44 : decode cX6_faultAsList 44 = .ok (.iload_n 1, 1) := by decide +kernel
theorem dX6_faultAsList_45 : decode cX6_faultAsList 45 = .ok (.iconst 1, 1) := by decide +kernel
theorem dX6_faultAsList_46 : decode cX6_faultAsList 46 = .ok (.iload_n 3, 1) := by decide +kernel
theorem dX6_faultAsList_47 : decode cX6_faultAsList 47 = .ok (.bipush 97, 2) := by decide +kernel
theorem dX6_faultAsList_49 : decode cX6_faultAsList 49 = .ok (.isub, 1) := by decide +kernel
theorem dX6_faultAsList_50 : decode cX6_faultAsList 50 = .ok (.ishl, 1) := by decide +kernel
theorem dX6_faultAsList_51 : decode cX6_faultAsList 51 = .ok (.ior, 1) := by decide +kernel
theorem dX6_faultAsList_52 : decode cX6_faultAsList 52 = .ok (.istore_n 1, 1) := by decide +kernel
theorem dX6_faultAsList_53 : decode cX6_faultAsList 53 = .ok (.iinc 2 1, 3) := by decide +kernel
theorem dX6_faultAsList_56 : decode cX6_faultAsList 56 = .ok (.goto (-52), 3) := by decide +kernel
theorem dX6_faultAsList_59 : decode cX6_faultAsList 59 = .ok (.bipush (-9), 2) := by decide +kernel
theorem dX6_faultAsList_61 : decode cX6_faultAsList 61 = .ok (.ireturn, 1) := by decide +kernel
theorem dX7_init_0 : decode cX7_init 0 = .ok (.aload_n 0, 1) := by decide +kernel
theorem dX7_init_1 : decode cX7_init 1 = .ok (.invokespecial 3, 3) := by decide +kernel
theorem dX7_init_4 : decode cX7_init 4 = .ok (.aload_n 0, 1) := by decide +kernel
theorem dX7_init_5 : decode cX7_init 5 = .ok (.new 9, 3) := by decide +kernel
theorem dX7_init_8 : decode cX7_init 8 = .ok (.dup, 1) := by decide +kernel
theorem dX7_init_9 : decode cX7_init 9 = .ok (.invokespecial 11, 3) := by decide +kernel
theorem dX7_init_12 : decode cX7_init 12 = .ok (.putfield 12, 3) := by decide +kernel
theorem dX7_init_15 : decode cX7_init 15 = .ok (.aload_n 0, 1) := by decide +kernel
theorem dX7_init_16 : decode cX7_init 16 = .ok (.new 16, 3) := by decide +kernel
theorem dX7_init_19 : decode cX7_init 19 = .ok (.dup, 1) := by decide +kernel
theorem dX7_init_20 : decode cX7_init 20 = .ok (.invokespecial 18, 3) := by decide +kernel
theorem dX7_init_23 : decode cX7_init 23 = .ok (.putfield 19, 3) := by decide +kernel
theorem dX7_init_26 : decode cX7_init 26 = .ok (.aload_n 0, 1) := by decide +kernel
theorem dX7_init_27 : decode cX7_init 27 = .ok (.new 23, 3) := by decide +kernel
theorem dX7_init_30 : decode cX7_init 30 = .ok (.dup, 1) := by decide +kernel
theorem dX7_init_31 : decode cX7_init 31 = .ok (.invokespecial 25, 3) := by decide +kernel
theorem dX7_init_34 : decode cX7_init 34 = .ok (.putfield 26, 3) := by decide +kernel
theorem dX7_init_37 : decode cX7_init 37 = .ok (.aload_n 0, 1) := by decide +kernel
theorem dX7_init_38 : decode cX7_init 38 = .ok (.new 23, 3) := by decide +kernel
theorem dX7_init_41 : decode cX7_init 41 = .ok (.dup, 1) := by decide +kernel
theorem dX7_init_42 : decode cX7_init 42 = .ok (.invokespecial 25, 3) := by decide +kernel
theorem dX7_init_45 : decode cX7_init 45 = .ok (.putfield 30, 3) := by decide +kernel
theorem dX7_init_48 : decode cX7_init 48 = .ok (.aload_n 0, 1) := by decide +kernel
theorem dX7_init_49 : decode cX7_init 49 = .ok (.new 23, 3) := by decide +kernel
theorem dX7_init_52 : decode cX7_init 52 = .ok (.dup, 1) := by decide +kernel
theorem dX7_init_53 : decode cX7_init 53 = .ok (.invokespecial 25, 3) := by decide +kernel
theorem dX7_init_56 : decode cX7_init 56 = .ok (.putfield 33, 3) := by decide +kernel
theorem dX7_init_59 : decode cX7_init 59 = .ok (.aload_n 0, 1) := by decide +kernel
theorem dX7_init_60 : decode cX7_init 60 = .ok (.new 36, 3) := by decide +kernel
theorem dX7_init_63 : decode cX7_init 63 = .ok (.dup, 1) := by decide +kernel
theorem dX7_init_64 : decode cX7_init 64 = .ok (.invokespecial 38, 3) := by decide +kernel
theorem dX7_init_67 : decode cX7_init 67 = .ok (.putfield 39, 3) := by decide +kernel
theorem dX7_init_70 : decode cX7_init 70 = .ok (.aload_n 0, 1) := by decide +kernel
theorem dX7_init_71 : decode cX7_init 71 = .ok (.new 36, 3) := by decide +kernel
theorem dX7_init_74 : decode cX7_init 74 = .ok (.dup, 1) := by decide +kernel
theorem dX7_init_75 : decode cX7_init 75 = .ok (.invokespecial 38, 3) := by decide +kernel
theorem dX7_init_78 : decode cX7_init 78 = .ok (.putfield 43, 3) := by decide +kernel
theorem dX7_init_81 : decode cX7_init 81 = .ok (.aload_n 0, 1) := by decide +kernel
theorem dX7_init_82 : decode cX7_init 82 = .ok (.new 46, 3) := by decide +kernel
theorem dX7_init_85 : decode cX7_init 85 = .ok (.dup, 1) := by decide +kernel
theorem dX7_init_86 : decode cX7_init 86 = .ok (.invokespecial 48, 3) := by decide +kernel
theorem dX7_init_89 : decode cX7_init 89 = .ok (.putfield 49, 3) := by decide +kernel
theorem dX7_init_92 : decode cX7_init 92 = .ok (.aload_n 0, 1) := by decide +kernel
theorem dX7_init_93 : decode cX7_init 93 = .ok (.bipush 12, 2) := by decide +kernel
theorem dX7_init_95 : decode cX7_init 95 = .ok (.newarray .int, 2) := by decide +kernel
theorem dX7_init_97 : decode cX7_init 97 = .ok (.putfield 53, 3) := by decide +kernel
theorem dX7_init_100 : decode cX7_init 100 = .ok (.aload_n 0, 1) := by decide +kernel
theorem dX7_init_101 : decode cX7_init 101 = .ok (.bipush 20, 2) := by decide +kernel
theorem dX7_init_103 : decode cX7_init 103 = .ok (.putfield 57, 3) := by decide +kernel
theorem dX7_init_106 : decode cX7_init 106 = .ok (.aload_n 0, 1) := by decide +kernel
theorem dX7_init_107 : decode cX7_init 107 = .ok (.bipush 35, 2) := by decide +kernel
theorem dX7_init_109 : decode cX7_init 109 = .ok (.putfield 61, 3) := by decide +kernel
theorem dX7_init_112 : decode cX7_init 112 = .ok (.aload_n 0, 1) := by decide +kernel
theorem dX7_init_113 : decode cX7_init 113 = .ok (.lconst 0, 1) := by decide +kernel
theorem dX7_init_114 : decode cX7_init 114 = .ok (.putfield 64, 3) := by decide +kernel
theorem dX7_init_117 : decode cX7_init 117 = .ok (.return_, 1) := by decide +kernel
theorem dX7_type_0 : decode cX7_type 0 = .ok (.iload_n 3, 1) := by decide +kernel
theorem dX7_type_1 : decode cX7_type 1 = .ok (.iconst 1, 1) := by decide +kernel
theorem dX7_type_2 : decode cX7_type 2 = .ok (.if_icmp .lt 9, 3) := by decide +kernel
theorem dX7_type_5 : decode cX7_type 5 = .ok (.iload_n 3, 1) := by decide +kernel
theorem dX7_type_6 : decode cX7_type 6 = .ok (.bipush 8, 2) := by decide +kernel
theorem dX7_type_8 : decode cX7_type 8 = .ok (.if_icmp .le 5, 3) := by decide +kernel
theorem dX7_type_11 : decode cX7_type 11 = .ok (.iconst (-1), 1) := by decide +kernel
theorem dX7_type_12 : decode cX7_type 12 = .ok (.ireturn, 1) := by decide +kernel
theorem dX7_type_13 : decode cX7_type 13 = .ok (.aload_n 0, 1) := by decide +kernel
theorem dX7_type_14 : decode cX7_type 14 = .ok (.getfield 12, 3) := by decide +kernel
theorem dX7_type_17 : decode cX7_type 17 = .ok (.getfield 68, 3) := by decide +kernel
theorem dX7_type_20 : decode cX7_type 20 = .ok (.iload_n 3, 1) := by decide +kernel
theorem dX7_type_21 : decode cX7_type 21 = .ok (.iadd, 1) := by decide +kernel
theorem dX7_type_22 : decode cX7_type 22 = .ok (.sipush 200, 3) := by decide +kernel
theorem dX7_type_25 : decode cX7_type 25 = .ok (.if_icmp .le 6, 3) := by decide +kernel
theorem dX7_type_28 : decode cX7_type 28 = .ok (.bipush (-3), 2) := by decide +kernel
theorem dX7_type_30 : decode cX7_type 30 = .ok (.ireturn, 1) := by decide +kernel
theorem dX7_type_31 : decode cX7_type 31 = .ok (.iload_n 3, 1) := by decide +kernel
theorem dX7_type_32 : decode cX7_type 32 = .ok (.iconst 1, 1) := by decide +kernel
theorem dX7_type_33 : decode cX7_type 33 = .ok (.isub, 1) := by decide +kernel
theorem dX7_type_34 : decode cX7_type 34 = .ok (.istore 4, 2) := by decide +kernel
theorem dX7_type_36 : decode cX7_type 36 = .ok (.iload 4, 2) := by decide +kernel
theorem dX7_type_38 : decode cX7_type 38 = .ok (.ifCond .lt 28, 3) := by decide +kernel
theorem dX7_type_41 : decode cX7_type 41 = .ok (.aload_n 0, 1) := by decide +kernel
theorem dX7_type_42 : decode cX7_type 42 = .ok (.getfield 12, 3) := by decide +kernel
theorem dX7_type_45 : decode cX7_type 45 = .ok (.lload_n 1, 1) := by decide +kernel
theorem dX7_type_46 : decode cX7_type 46 = .ok (.bipush 8, 2) := by decide +kernel
theorem dX7_type_48 : decode cX7_type 48 = .ok (.iload 4, 2) := by decide +kernel
theorem dX7_type_50 : decode cX7_type 50 = .ok (.imul, 1) := by decide +kernel
theorem dX7_type_51 : decode cX7_type 51 = .ok (.lushr, 1) := by decide +kernel
theorem dX7_type_52 : decode cX7_type 52 = .ok (.l2i, 1) := by decide +kernel
theorem dX7_type_53 : decode cX7_type 53 = .ok (.sipush 255, 3) := by decide +kernel
theorem dX7_type_56 : decode cX7_type 56 = .ok (.iand, 1) := by decide +kernel
theorem dX7_type_57 : decode cX7_type 57 = .ok (.invokevirtual 71, 3) := by decide +kernel
theorem dX7_type_60 : decode cX7_type 60 = .ok (.iinc 4 (-1), 3) := by decide +kernel
theorem dX7_type_63 : decode cX7_type 63 = .ok (.goto (-27), 3) := by decide +kernel
theorem dX7_type_66 : decode cX7_type 66 = .ok (.aload_n 0, 1) := by decide +kernel
theorem dX7_type_67 : decode cX7_type 67 = .ok (.getfield 12, 3) := by decide +kernel
theorem dX7_type_70 : decode cX7_type 70 = .ok (.getfield 68, 3) := by decide +kernel
theorem dX7_type_73 : decode cX7_type 73 = .ok (.ireturn, 1) := by decide +kernel
theorem dX7_clear_0 : decode cX7_clear 0 = .ok (.aload_n 0, 1) := by decide +kernel
theorem dX7_clear_1 : decode cX7_clear 1 = .ok (.getfield 12, 3) := by decide +kernel
theorem dX7_clear_4 : decode cX7_clear 4 = .ok (.invokevirtual 75, 3) := by decide +kernel
theorem dX7_clear_7 : decode cX7_clear 7 = .ok (.ireturn, 1) := by decide +kernel
theorem dX7_law_0 : decode cX7_law 0 = .ok (.aload_n 0, 1) := by decide +kernel
theorem dX7_law_1 : decode cX7_law 1 = .ok (.getfield 19, 3) := by decide +kernel
theorem dX7_law_4 : decode cX7_law 4 = .ok (.aload_n 0, 1) := by decide +kernel
theorem dX7_law_5 : decode cX7_law 5 = .ok (.getfield 12, 3) := by decide +kernel
theorem dX7_law_8 : decode cX7_law 8 = .ok (.invokevirtual 79, 3) := by decide +kernel
theorem dX7_law_11 : decode cX7_law 11 = .ok (.istore_n 1, 1) := by decide +kernel
theorem dX7_law_12 : decode cX7_law 12 = .ok (.iload_n 1, 1) := by decide +kernel
theorem dX7_law_13 : decode cX7_law 13 = .ok (.ifCond .lt 11, 3) := by decide +kernel
theorem dX7_law_16 : decode cX7_law 16 = .ok (.aload_n 0, 1) := by decide +kernel
theorem dX7_law_17 : decode cX7_law 17 = .ok (.getfield 12, 3) := by decide +kernel
theorem dX7_law_20 : decode cX7_law 20 = .ok (.invokevirtual 75, 3) := by decide +kernel
theorem dX7_law_23 : decode cX7_law 23 = .ok (.pop, 1) := by decide +kernel
theorem dX7_law_24 : decode cX7_law 24 = .ok (.iload_n 1, 1) := by decide +kernel
theorem dX7_law_25 : decode cX7_law 25 = .ok (.ireturn, 1) := by decide +kernel
theorem dX7_list_0 : decode cX7_list 0 = .ok (.iload_n 1, 1) := by decide +kernel
theorem dX7_list_1 : decode cX7_list 1 = .ok (.invokestatic 83, 3) := by decide +kernel
theorem dX7_list_4 : decode cX7_list 4 = .ok (.ifCond .ne 5, 3) := by decide +kernel
theorem dX7_list_7 : decode cX7_list 7 = .ok (.iconst (-1), 1) := by decide +kernel
theorem dX7_list_8 : decode cX7_list 8 = .ok (.ireturn, 1) := by decide +kernel
theorem dX7_list_9 : decode cX7_list 9 = .ok (.aload_n 0, 1) := by decide +kernel
theorem dX7_list_10 : decode cX7_list 10 = .ok (.getfield 12, 3) := by decide +kernel
theorem dX7_list_13 : decode cX7_list 13 = .ok (.invokevirtual 87, 3) := by decide +kernel
theorem dX7_list_16 : decode cX7_list 16 = .ok (.istore_n 2, 1) := by decide +kernel
theorem dX7_list_17 : decode cX7_list 17 = .ok (.iload_n 2, 1) := by decide +kernel
theorem dX7_list_18 : decode cX7_list 18 = .ok (.bipush (-9), 2) := by decide +kernel
theorem dX7_list_20 : decode cX7_list 20 = .ok (.if_icmp .eq 8, 3) := by decide +kernel
theorem dX7_list_23 : decode cX7_list 23 = .ok (.bipush (-10), 2) := by decide +kernel
theorem dX7_list_25 : decode cX7_list 25 = .ok (.iload_n 2, 1) := by decide +kernel
theorem dX7_list_26 : decode cX7_list 26 = .ok (.isub, 1) := by decide +kernel
theorem dX7_list_27 : decode cX7_list 27 = .ok (.ireturn, 1) := by decide +kernel
theorem dX7_list_28 : decode cX7_list 28 = .ok (.aload_n 0, 1) := by decide +kernel
theorem dX7_list_29 : decode cX7_list 29 = .ok (.getfield 26, 3) := by decide +kernel
theorem dX7_list_32 : decode cX7_list 32 = .ok (.getfield 90, 3) := by decide +kernel
theorem dX7_list_35 : decode cX7_list 35 = .ok (.iload_n 1, 1) := by decide +kernel
theorem dX7_list_36 : decode cX7_list 36 = .ok (.aaload, 1) := by decide +kernel
theorem dX7_list_37 : decode cX7_list 37 = .ok (.astore_n 3, 1) := by decide +kernel
theorem dX7_list_38 : decode cX7_list 38 = .ok (.aload_n 3, 1) := by decide +kernel
theorem dX7_list_39 : decode cX7_list 39 = .ok (.aload_n 0, 1) := by decide +kernel
theorem dX7_list_40 : decode cX7_list 40 = .ok (.getfield 12, 3) := by decide +kernel
theorem dX7_list_43 : decode cX7_list 43 = .ok (.invokevirtual 94, 3) := by decide +kernel
theorem dX7_list_46 : decode cX7_list 46 = .ok (.aload_n 0, 1) := by decide +kernel
theorem dX7_list_47 : decode cX7_list 47 = .ok (.getfield 12, 3) := by decide +kernel
theorem dX7_list_50 : decode cX7_list 50 = .ok (.invokevirtual 75, 3) := by decide +kernel
theorem dX7_list_53 : decode cX7_list 53 = .ok (.pop, 1) := by decide +kernel
theorem dX7_list_54 : decode cX7_list 54 = .ok (.aload_n 3, 1) := by decide +kernel
theorem dX7_list_55 : decode cX7_list 55 = .ok (.getfield 99, 3) := by decide +kernel
theorem dX7_list_58 : decode cX7_list 58 = .ok (.ireturn, 1) := by decide +kernel
theorem dX7_told_0 : decode cX7_told 0 = .ok (.iload_n 1, 1) := by decide +kernel
theorem dX7_told_1 : decode cX7_told 1 = .ok (.ifCond .lt 8, 3) := by decide +kernel
theorem dX7_told_4 : decode cX7_told 4 = .ok (.iload_n 1, 1) := by decide +kernel
theorem dX7_told_5 : decode cX7_told 5 = .ok (.iconst 5, 1) := by decide +kernel
