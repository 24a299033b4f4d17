theorem dX7_in_0 : decode cX7_in 0 = .ok (.lload_n 0, 1) := by decide +kernel
theorem dX7_in_1 : decode cX7_in 1 = .ok (.lload_n 2, 1) := by decide +kernel
theorem dX7_in_2 : decode cX7_in 2 = .ok (.lcmp, 1) := by decide +kernel
theorem dX7_in_3 : decode cX7_in 3 = .ok (.ifCond .lt 14, 3) := by decide +kernel
theorem dX7_in_6 : decode cX7_in 6 = .ok (.lload_n 0, 1) := by decide +kernel
theorem dX7_in_7 : decode cX7_in 7 = .ok (.lload 4, 2) := by decide +kernel
theorem dX7_in_9 : decode cX7_in 9 = .ok (.lcmp, 1) := by decide +kernel
theorem dX7_in_10 : decode cX7_in 10 = .ok (.ifCond .gt 7, 3) := by decide +kernel
theorem dX7_in_13 : decode cX7_in 13 = .ok (.iconst 1, 1) := by decide +kernel
theorem dX7_in_14 : decode cX7_in 14 = .ok (.goto 4, 3) := by decide +kernel
theorem dX7_in_17 : decode cX7_in 17 = .ok (.iconst 0, 1) := by decide +kernel
theorem dX7_in_18 : decode cX7_in 18 = .ok (.ireturn, 1) := by decide +kernel
theorem dX7_init_0 : decode cX7_init 0 = .ok (.aload_n 0, 1) := by decide +kernel
theorem dX7_init_1 : decode cX7_init 1 = .ok (.invokespecial 1, 3) := by decide +kernel
theorem dX7_init_4 : decode cX7_init 4 = .ok (.aload_n 0, 1) := by decide +kernel
theorem dX7_init_5 : decode cX7_init 5 = .ok (.bipush 49, 2) := by decide +kernel
theorem dX7_init_7 : decode cX7_init 7 = .ok (.newarray .int, 2) := by decide +kernel
theorem dX7_init_9 : decode cX7_init 9 = .ok (.putfield 7, 3) := by decide +kernel
theorem dX7_init_12 : decode cX7_init 12 = .ok (.aload_n 0, 1) := by decide +kernel
theorem dX7_init_13 : decode cX7_init 13 = .ok (.bipush 7, 2) := by decide +kernel
theorem dX7_init_15 : decode cX7_init 15 = .ok (.newarray .int, 2) := by decide +kernel
theorem dX7_init_17 : decode cX7_init 17 = .ok (.putfield 13, 3) := by decide +kernel
theorem dX7_init_20 : decode cX7_init 20 = .ok (.aload_n 0, 1) := by decide +kernel
theorem dX7_init_21 : decode cX7_init 21 = .ok (.bipush 90, 2) := by decide +kernel
theorem dX7_init_23 : decode cX7_init 23 = .ok (.newarray .int, 2) := by decide +kernel
theorem dX7_init_25 : decode cX7_init 25 = .ok (.putfield 16, 3) := by decide +kernel
theorem dX7_init_28 : decode cX7_init 28 = .ok (.aload_n 0, 1) := by decide +kernel
theorem dX7_init_29 : decode cX7_init 29 = .ok (.bipush 21, 2) := by decide +kernel
theorem dX7_init_31 : decode cX7_init 31 = .ok (.newarray .int, 2) := by decide +kernel
theorem dX7_init_33 : decode cX7_init 33 = .ok (.putfield 19, 3) := by decide +kernel
theorem dX7_init_36 : decode cX7_init 36 = .ok (.aload_n 0, 1) := by decide +kernel
theorem dX7_init_37 : decode cX7_init 37 = .ok (.bipush 18, 2) := by decide +kernel
theorem dX7_init_39 : decode cX7_init 39 = .ok (.newarray .int, 2) := by decide +kernel
theorem dX7_init_41 : decode cX7_init 41 = .ok (.putfield 22, 3) := by decide +kernel
theorem dX7_init_44 : decode cX7_init 44 = .ok (.aload_n 0, 1) := by decide +kernel
theorem dX7_init_45 : decode cX7_init 45 = .ok (.sipush 168, 3) := by decide +kernel
theorem dX7_init_48 : decode cX7_init 48 = .ok (.newarray .int, 2) := by decide +kernel
theorem dX7_init_50 : decode cX7_init 50 = .ok (.putfield 25, 3) := by decide +kernel
theorem dX7_init_53 : decode cX7_init 53 = .ok (.aload_n 0, 1) := by decide +kernel
theorem dX7_init_54 : decode cX7_init 54 = .ok (.bipush 49, 2) := by decide +kernel
theorem dX7_init_56 : decode cX7_init 56 = .ok (.newarray .int, 2) := by decide +kernel
theorem dX7_init_58 : decode cX7_init 58 = .ok (.putfield 28, 3) := by decide +kernel
theorem dX7_init_61 : decode cX7_init 61 = .ok (.aload_n 0, 1) := by decide +kernel
theorem dX7_init_62 : decode cX7_init 62 = .ok (.sipush 128, 3) := by decide +kernel
theorem dX7_init_65 : decode cX7_init 65 = .ok (.newarray .int, 2) := by decide +kernel
theorem dX7_init_67 : decode cX7_init 67 = .ok (.putfield 31, 3) := by decide +kernel
theorem dX7_init_70 : decode cX7_init 70 = .ok (.aload_n 0, 1) := by decide +kernel
theorem dX7_init_71 : decode cX7_init 71 = .ok (.bipush 6, 2) := by decide +kernel
theorem dX7_init_73 : decode cX7_init 73 = .ok (.newarray .int, 2) := by decide +kernel
theorem dX7_init_75 : decode cX7_init 75 = .ok (.putfield 34, 3) := by decide +kernel
theorem dX7_init_78 : decode cX7_init 78 = .ok (.aload_n 0, 1) := by decide +kernel
theorem dX7_init_79 : decode cX7_init 79 = .ok (.bipush 6, 2) := by decide +kernel
theorem dX7_init_81 : decode cX7_init 81 = .ok (.newarray .int, 2) := by decide +kernel
theorem dX7_init_83 : decode cX7_init 83 = .ok (.putfield 37, 3) := by decide +kernel
theorem dX7_init_86 : decode cX7_init 86 = .ok (.aload_n 0, 1) := by decide +kernel
theorem dX7_init_87 : decode cX7_init 87 = .ok (.bipush 6, 2) := by decide +kernel
theorem dX7_init_89 : decode cX7_init 89 = .ok (.newarray .int, 2) := by decide +kernel
theorem dX7_init_91 : decode cX7_init 91 = .ok (.putfield 40, 3) := by decide +kernel
theorem dX7_init_94 : decode cX7_init 94 = .ok (.aload_n 0, 1) := by decide +kernel
theorem dX7_init_95 : decode cX7_init 95 = .ok (.sipush 217, 3) := by decide +kernel
theorem dX7_init_98 : decode cX7_init 98 = .ok (.newarray .int, 2) := by decide +kernel
theorem dX7_init_100 : decode cX7_init 100 = .ok (.putfield 43, 3) := by decide +kernel
theorem dX7_init_103 : decode cX7_init 103 = .ok (.aload_n 0, 1) := by decide +kernel
theorem dX7_init_104 : decode cX7_init 104 = .ok (.iconst 4, 1) := by decide +kernel
theorem dX7_init_105 : decode cX7_init 105 = .ok (.newarray .int, 2) := by decide +kernel
theorem dX7_init_107 : decode cX7_init 107 = .ok (.putfield 46, 3) := by decide +kernel
theorem dX7_init_110 : decode cX7_init 110 = .ok (.aload_n 0, 1) := by decide +kernel
theorem dX7_init_111 : decode cX7_init 111 = .ok (.iconst 4, 1) := by decide +kernel
theorem dX7_init_112 : decode cX7_init 112 = .ok (.newarray .int, 2) := by decide +kernel
theorem dX7_init_114 : decode cX7_init 114 = .ok (.putfield 49, 3) := by decide +kernel
theorem dX7_init_117 : decode cX7_init 117 = .ok (.aload_n 0, 1) := by decide +kernel
theorem dX7_init_118 : decode cX7_init 118 = .ok (.bipush 96, 2) := by decide +kernel
theorem dX7_init_120 : decode cX7_init 120 = .ok (.newarray .long, 2) := by decide +kernel
theorem dX7_init_122 : decode cX7_init 122 = .ok (.putfield 52, 3) := by decide +kernel
theorem dX7_init_125 : decode cX7_init 125 = .ok (.aload_n 0, 1) := by decide +kernel
theorem dX7_init_126 : decode cX7_init 126 = .ok (.bipush 24, 2) := by decide +kernel
theorem dX7_init_128 : decode cX7_init 128 = .ok (.newarray .long, 2) := by decide +kernel
theorem dX7_init_130 : decode cX7_init 130 = .ok (.putfield 56, 3) := by decide +kernel
theorem dX7_init_133 : decode cX7_init 133 = .ok (.aload_n 0, 1) := by decide +kernel
theorem dX7_init_134 : decode cX7_init 134 = .ok (.getfield 7, 3) := by decide +kernel
theorem dX7_init_137 : decode cX7_init 137 = .ok (.iconst 3, 1) := by decide +kernel
theorem dX7_init_138 : decode cX7_init 138 = .ok (.iconst 1, 1) := by decide +kernel
theorem dX7_init_139 : decode cX7_init 139 = .ok (.iastore, 1) := by decide +kernel
theorem dX7_init_140 : decode cX7_init 140 = .ok (.iconst 0, 1) := by decide +kernel
theorem dX7_init_141 : decode cX7_init 141 = .ok (.istore_n 1, 1) := by decide +kernel
theorem dX7_init_142 : decode cX7_init 142 = .ok (.iload_n 1, 1) := by decide +kernel
theorem dX7_init_143 : decode cX7_init 143 = .ok (.iconst 4, 1) := by decide +kernel
theorem dX7_init_144 : decode cX7_init 144 = .ok (.if_icmp .ge 16, 3) := by decide +kernel
theorem dX7_init_147 : decode cX7_init 147 = .ok (.aload_n 0, 1) := by decide +kernel
theorem dX7_init_148 : decode cX7_init 148 = .ok (.getfield 46, 3) := by decide +kernel
theorem dX7_init_151 : decode cX7_init 151 = .ok (.iload_n 1, 1) := by decide +kernel
theorem dX7_init_152 : decode cX7_init 152 = .ok (.iconst (-1), 1) := by decide +kernel
theorem dX7_init_153 : decode cX7_init 153 = .ok (.iastore, 1) := by decide +kernel
theorem dX7_init_154 : decode cX7_init 154 = .ok (.iinc 1 1, 3) := by decide +kernel
theorem dX7_init_157 : decode cX7_init 157 = .ok (.goto (-15), 3) := by decide +kernel
theorem dX7_init_160 : decode cX7_init 160 = .ok (.return_, 1) := by decide +kernel
theorem dX7_isPuddle_0 : decode cX7_isPuddle 0 = .ok (.iload_n 1, 1) := by decide +kernel
theorem dX7_isPuddle_1 : decode cX7_isPuddle 1 = .ok (.i2l, 1) := by decide +kernel
theorem dX7_isPuddle_2 : decode cX7_isPuddle 2 = .ok (.lconst 0, 1) := by decide +kernel
theorem dX7_isPuddle_3 : decode cX7_isPuddle 3 = .ok (.aload_n 0, 1) := by decide +kernel
theorem dX7_isPuddle_4 : decode cX7_isPuddle 4 = .ok (.getfield 7, 3) := by decide +kernel
theorem dX7_isPuddle_7 : decode cX7_isPuddle 7 = .ok (.iconst 0, 1) := by decide +kernel
theorem dX7_isPuddle_8 : decode cX7_isPuddle 8 = .ok (.iaload, 1) := by decide +kernel
theorem dX7_isPuddle_9 : decode cX7_isPuddle 9 = .ok (.iconst 1, 1) := by decide +kernel
theorem dX7_isPuddle_10 : decode cX7_isPuddle 10 = .ok (.isub, 1) := by decide +kernel
theorem dX7_isPuddle_11 : decode cX7_isPuddle 11 = .ok (.i2l, 1) := by decide +kernel
theorem dX7_isPuddle_12 : decode cX7_isPuddle 12 = .ok (.invokestatic 59, 3) := by decide +kernel
theorem dX7_isPuddle_15 : decode cX7_isPuddle 15 = .ok (.ireturn, 1) := by decide +kernel
theorem dX7_isPerson_0 : decode cX7_isPerson 0 = .ok (.iload_n 1, 1) := by decide +kernel
theorem dX7_isPerson_1 : decode cX7_isPerson 1 = .ok (.i2l, 1) := by decide +kernel
theorem dX7_isPerson_2 : decode cX7_isPerson 2 = .ok (.lconst 0, 1) := by decide +kernel
theorem dX7_isPerson_3 : decode cX7_isPerson 3 = .ok (.aload_n 0, 1) := by decide +kernel
theorem dX7_isPerson_4 : decode cX7_isPerson 4 = .ok (.getfield 7, 3) := by decide +kernel
theorem dX7_isPerson_7 : decode cX7_isPerson 7 = .ok (.iconst 1, 1) := by decide +kernel
theorem dX7_isPerson_8 : decode cX7_isPerson 8 = .ok (.iaload, 1) := by decide +kernel
theorem dX7_isPerson_9 : decode cX7_isPerson 9 = .ok (.iconst 1, 1) := by decide +kernel
theorem dX7_isPerson_10 : decode cX7_isPerson 10 = .ok (.isub, 1) := by decide +kernel
theorem dX7_isPerson_11 : decode cX7_isPerson 11 = .ok (.i2l, 1) := by decide +kernel
theorem dX7_isPerson_12 : decode cX7_isPerson 12 = .ok (.invokestatic 59, 3) := by decide +kernel
theorem dX7_isPerson_15 : decode cX7_isPerson 15 = .ok (.ireturn, 1) := by decide +kernel
theorem dX7_ofPuddle_0 : decode cX7_ofPuddle 0 = .ok (.aload_n 0, 1) := by decide +kernel
theorem dX7_ofPuddle_1 : decode cX7_ofPuddle 1 = .ok (.getfield 7, 3) := by decide +kernel
theorem dX7_ofPuddle_4 : decode cX7_ofPuddle 4 = .ok (.iconst 4, 1) := by decide +kernel
theorem dX7_ofPuddle_5 : decode cX7_ofPuddle 5 = .ok (.iconst 3, 1) := by decide +kernel
theorem dX7_ofPuddle_6 : decode cX7_ofPuddle 6 = .ok (.iload_n 1, 1) := by decide +kernel
theorem dX7_ofPuddle_7 : decode cX7_ofPuddle 7 = .ok (.imul, 1) := by decide +kernel
theorem dX7_ofPuddle_8 : decode cX7_ofPuddle 8 = .ok (.iadd, 1) := by decide +kernel
theorem dX7_ofPuddle_9 : decode cX7_ofPuddle 9 = .ok (.iload_n 2, 1) := by decide +kernel
theorem dX7_ofPuddle_10 : decode cX7_ofPuddle 10 = .ok (.iadd, 1) := by decide +kernel
theorem dX7_ofPuddle_11 : decode cX7_ofPuddle 11 = .ok (.iaload, 1) := by decide +kernel
theorem dX7_ofPuddle_12 : decode cX7_ofPuddle 12 = .ok (.ireturn, 1) := by decide +kernel
theorem dX7_deep_0 : decode cX7_deep 0 = .ok (.aload_n 0, 1) := by decide +kernel
theorem dX7_deep_1 : decode cX7_deep 1 = .ok (.iload_n 1, 1) := by decide +kernel
theorem dX7_deep_2 : decode cX7_deep 2 = .ok (.iconst 2, 1) := by decide +kernel
theorem dX7_deep_3 : decode cX7_deep 3 = .ok (.invokevirtual 63, 3) := by decide +kernel
theorem dX7_deep_6 : decode cX7_deep 6 = .ok (.ireturn, 1) := by decide +kernel
theorem dX7_deeps_0 : decode cX7_deeps 0 = .ok (.aload_n 0, 1) := by decide +kernel
theorem dX7_deeps_1 : decode cX7_deeps 1 = .ok (.getfield 7, 3) := by decide +kernel
theorem dX7_deeps_4 : decode cX7_deeps 4 = .ok (.iconst 4, 1) := by decide +kernel
theorem dX7_deeps_5 : decode cX7_deeps 5 = .ok (.iconst 3, 1) := by decide +kernel
theorem dX7_deeps_6 : decode cX7_deeps 6 = .ok (.iload_n 1, 1) := by decide +kernel
theorem dX7_deeps_7 : decode cX7_deeps 7 = .ok (.imul, 1) := by decide +kernel
theorem dX7_deeps_8 : decode cX7_deeps 8 = .ok (.iadd, 1) := by decide +kernel
theorem dX7_deeps_9 : decode cX7_deeps 9 = .ok (.iconst 2, 1) := by decide +kernel
theorem dX7_deeps_10 : decode cX7_deeps 10 = .ok (.iadd, 1) := by decide +kernel
theorem dX7_deeps_11 : decode cX7_deeps 11 = .ok (.iload_n 2, 1) := by decide +kernel
theorem dX7_deeps_12 : decode cX7_deeps 12 = .ok (.ifCond .ge 7, 3) := by decide +kernel
theorem dX7_deeps_15 : decode cX7_deeps 15 = .ok (.iconst 0, 1) := by decide +kernel
theorem dX7_deeps_16 : decode cX7_deeps 16 = .ok (.goto 15, 3) := by decide +kernel
theorem dX7_deeps_19 : decode cX7_deeps 19 = .ok (.iload_n 2, 1) := by decide +kernel
theorem dX7_deeps_20 : decode cX7_deeps 20 = .ok (.bipush 60, 2) := by decide +kernel
theorem dX7_deeps_22 : decode cX7_deeps 22 = .ok (.if_icmp .le 8, 3) := by decide +kernel
theorem dX7_deeps_25 : decode cX7_deeps 25 = .ok (.bipush 60, 2) := by decide +kernel
theorem dX7_deeps_27 : decode cX7_deeps 27 = .ok (.goto 4, 3) := by decide +kernel
theorem dX7_deeps_30 : decode cX7_deeps 30 = .ok (.iload_n 2, 1) := by decide +kernel
theorem dX7_deeps_31 : decode cX7_deeps 31 = .ok (.iastore, 1) := by decide +kernel
theorem dX7_deeps_32 : decode cX7_deeps 32 = .ok (.return_, 1) := by decide +kernel
theorem dX7_ofPerson_0 : decode cX7_ofPerson 0 = .ok (.aload_n 0, 1) := by decide +kernel
theorem dX7_ofPerson_1 : decode cX7_ofPerson 1 = .ok (.getfield 7, 3) := by decide +kernel
theorem dX7_ofPerson_4 : decode cX7_ofPerson 4 = .ok (.bipush 25, 2) := by decide +kernel
theorem dX7_ofPerson_6 : decode cX7_ofPerson 6 = .ok (.iconst 4, 1) := by decide +kernel
theorem dX7_ofPerson_7 : decode cX7_ofPerson 7 = .ok (.iload_n 1, 1) := by decide +kernel
theorem dX7_ofPerson_8 : decode cX7_ofPerson 8 = .ok (.imul, 1) := by decide +kernel
theorem dX7_ofPerson_9 : decode cX7_ofPerson 9 = .ok (.iadd, 1) := by decide +kernel
theorem dX7_ofPerson_10 : decode cX7_ofPerson 10 = .ok (.iload_n 2, 1) := by decide +kernel
theorem dX7_ofPerson_11 : decode cX7_ofPerson 11 = .ok (.iadd, 1) := by decide +kernel
theorem dX7_ofPerson_12 : decode cX7_ofPerson 12 = .ok (.iaload, 1) := by decide +kernel
theorem dX7_ofPerson_13 : decode cX7_ofPerson 13 = .ok (.ireturn, 1) := by decide +kernel
theorem dX7_claimed_0 : decode cX7_claimed 0 = .ok (.aload_n 0, 1) := by decide +kernel
theorem dX7_claimed_1 : decode cX7_claimed 1 = .ok (.iload_n 1, 1) := by decide +kernel
theorem dX7_claimed_2 : decode cX7_claimed 2 = .ok (.iconst 3, 1) := by decide +kernel
theorem dX7_claimed_3 : decode cX7_claimed 3 = .ok (.invokevirtual 67, 3) := by decide +kernel
theorem dX7_claimed_6 : decode cX7_claimed 6 = .ok (.ireturn, 1) := by decide +kernel
theorem dX7_tells_0 : decode cX7_tells 0 = .ok (.aload_n 0, 1) := by decide +kernel
theorem dX7_tells_1 : decode cX7_tells 1 = .ok (.getfield 7, 3) := by decide +kernel
theorem dX7_tells_4 : decode cX7_tells 4 = .ok (.bipush 25, 2) := by decide +kernel
theorem dX7_tells_6 : decode cX7_tells 6 = .ok (.iconst 4, 1) := by decide +kernel
theorem dX7_tells_7 : decode cX7_tells 7 = .ok (.iload_n 1, 1) := by decide +kernel
theorem dX7_tells_8 : decode cX7_tells 8 = .ok (.imul, 1) := by decide +kernel
theorem dX7_tells_9 : decode cX7_tells 9 = .ok (.iadd, 1) := by decide +kernel
theorem dX7_tells_10 : decode cX7_tells 10 = .ok (.iload_n 3, 1) := by decide +kernel
theorem dX7_tells_11 : decode cX7_tells 11 = .ok (.iadd, 1) := by decide +kernel
theorem dX7_tells_12 : decode cX7_tells 12 = .ok (.iload_n 2, 1) := by decide +kernel
theorem dX7_tells_13 : decode cX7_tells 13 = .ok (.iastore, 1) := by decide +kernel
theorem dX7_tells_14 : decode cX7_tells 14 = .ok (.return_, 1) := by decide +kernel
theorem dX7_whoClaimed_0 : decode cX7_whoClaimed 0 = .ok (.bipush (-4), 2) := by decide +kernel
theorem dX7_whoClaimed_2 : decode cX7_whoClaimed 2 = .ok (.istore_n 2, 1) := by decide +kernel
theorem dX7_whoClaimed_3 : decode cX7_whoClaimed 3 = .ok (.iconst 0, 1) := by decide +kernel
theorem dX7_whoClaimed_4 : decode cX7_whoClaimed 4 = .ok (.istore_n 3, 1) := by decide +kernel
theorem dX7_whoClaimed_5 : decode cX7_whoClaimed 5 = .ok (.iload_n 3, 1) := by decide +kernel
theorem dX7_whoClaimed_6 : decode cX7_whoClaimed 6 = .ok (.aload_n 0, 1) := by decide +kernel
theorem dX7_whoClaimed_7 : decode cX7_whoClaimed 7 = .ok (.getfield 7, 3) := by decide +kernel
theorem dX7_whoClaimed_10 : decode cX7_whoClaimed 10 = .ok (.iconst 1, 1) := by decide +kernel
theorem dX7_whoClaimed_11 : decode cX7_whoClaimed 11 = .ok (.iaload, 1) := by decide +kernel
theorem dX7_whoClaimed_12 : decode cX7_whoClaimed 12 = .ok (.if_icmp .ge 24, 3) := by decide +kernel
theorem dX7_whoClaimed_15 : decode cX7_whoClaimed 15 = .ok (.aload_n 0, 1) := by decide +kernel
theorem dX7_whoClaimed_16 : decode cX7_whoClaimed 16 = .ok (.iload_n 3, 1) := by decide +kernel
theorem dX7_whoClaimed_17 : decode cX7_whoClaimed 17 = .ok (.invokevirtual 70, 3) := by decide +kernel
theorem dX7_whoClaimed_20 : decode cX7_whoClaimed 20 = .ok (.iload_n 1, 1) := by decide +kernel
theorem dX7_whoClaimed_21 : decode cX7_whoClaimed 21 = .ok (.if_icmp .ne 7, 3) := by decide +kernel
theorem dX7_whoClaimed_24 : decode cX7_whoClaimed 24 = .ok (.iload_n 3, 1) := by decide +kernel
theorem dX7_whoClaimed_25 : decode cX7_whoClaimed 25 = .ok (.goto 4, 3) := by decide +kernel
theorem dX7_whoClaimed_28 : decode cX7_whoClaimed 28 = .ok (.iload_n 2, 1) := by decide +kernel
theorem dX7_whoClaimed_29 : decode cX7_whoClaimed 29 = .ok (.istore_n 2, 1) := by decide +kernel
theorem dX7_whoClaimed_30 : decode cX7_whoClaimed 30 = .ok (.iinc 3 1, 3) := by decide +kernel
theorem dX7_whoClaimed_33 : decode cX7_whoClaimed 33 = .ok (.goto (-28), 3) := by decide +kernel
theorem dX7_whoClaimed_36 : decode cX7_whoClaimed 36 = .ok (.iload_n 2, 1) := by decide +kernel
theorem dX7_whoClaimed_37 : decode cX7_whoClaimed 37 = .ok (.ireturn, 1) := by decide +kernel
theorem dX7_isDry_0 : decode cX7_isDry 0 = .ok (.aload_n 0, 1) := by decide +kernel
theorem dX7_isDry_1 : decode cX7_isDry 1 = .ok (.iload_n 1, 1) := by decide +kernel
theorem dX7_isDry_2 : decode cX7_isDry 2 = .ok (.invokevirtual 74, 3) := by decide +kernel
theorem dX7_isDry_5 : decode cX7_isDry 5 = .ok (.ifCond .eq 15, 3) := by decide +kernel
theorem dX7_isDry_8 : decode cX7_isDry 8 = .ok (.aload_n 0, 1) := by decide +kernel
theorem dX7_isDry_9 : decode cX7_isDry 9 = .ok (.iload_n 1, 1) := by decide +kernel
theorem dX7_isDry_10 : decode cX7_isDry 10 = .ok (.invokevirtual 78, 3) := by decide +kernel
theorem dX7_isDry_13 : decode cX7_isDry 13 = .ok (.ifCond .ne 7, 3) := by decide +kernel
theorem dX7_isDry_16 : decode cX7_isDry 16 = .ok (.iconst 1, 1) := by decide +kernel
theorem dX7_isDry_17 : decode cX7_isDry 17 = .ok (.goto 4, 3) := by decide +kernel
theorem dX7_isDry_20 : decode cX7_isDry 20 = .ok (.iconst 0, 1) := by decide +kernel
theorem dX7_isDry_21 : decode cX7_isDry 21 = .ok (.ireturn, 1) := by decide +kernel
theorem dX7_less_0 : decode cX7_less 0 = .ok (.aload_n 0, 1) := by decide +kernel
theorem dX7_less_1 : decode cX7_less 1 = .ok (.getfield 7, 3) := by decide +kernel
theorem dX7_less_4 : decode cX7_less 4 = .ok (.iconst 2, 1) := by decide +kernel
theorem dX7_less_5 : decode cX7_less 5 = .ok (.iaload, 1) := by decide +kernel
theorem dX7_less_6 : decode cX7_less 6 = .ok (.iconst 2, 1) := by decide +kernel
theorem dX7_less_7 : decode cX7_less 7 = .ok (.irem, 1) := by decide +kernel
theorem dX7_less_8 : decode cX7_less 8 = .ok (.ifCond .ne 7, 3) := by decide +kernel
theorem dX7_less_11 : decode cX7_less 11 = .ok (.iconst 4, 1) := by decide +kernel
theorem dX7_less_12 : decode cX7_less 12 = .ok (.goto 4, 3) := by decide +kernel
theorem dX7_less_15 : decode cX7_less 15 = .ok (.iconst 2, 1) := by decide +kernel
theorem dX7_less_16 : decode cX7_less 16 = .ok (.istore_n 2, 1) := by decide +kernel
theorem dX7_less_17 : decode cX7_less 17 = .ok (.aload_n 0, 1) := by decide +kernel
theorem dX7_less_18 : decode cX7_less 18 = .ok (.iload_n 1, 1) := by decide +kernel
theorem dX7_less_19 : decode cX7_less 19 = .ok (.iconst 0, 1) := by decide +kernel
theorem dX7_less_20 : decode cX7_less 20 = .ok (.invokevirtual 63, 3) := by decide +kernel
theorem dX7_less_23 : decode cX7_less 23 = .ok (.tableswitch 51 0 3 #[29, 31, 33, 35], 29) := by decide +kernel
theorem dX7_less_52 : decode cX7_less 52 = .ok (.iconst 2, 1) := by decide +kernel
theorem dX7_less_53 : decode cX7_less 53 = .ok (.ireturn, 1) := by decide +kernel
theorem dX7_less_54 : decode cX7_less 54 = .ok (.iconst 1, 1) := by decide +kernel
theorem dX7_less_55 : decode cX7_less 55 = .ok (.ireturn, 1) := by decide +kernel
theorem dX7_less_56 : decode cX7_less 56 = .ok (.iload_n 2, 1) := by decide +kernel
theorem dX7_less_57 : decode cX7_less 57 = .ok (.ireturn, 1) := by decide +kernel
theorem dX7_less_58 : decode cX7_less 58 = .ok (.aload_n 0, 1) := by decide +kernel
theorem dX7_less_59 : decode cX7_less 59 = .ok (.iload_n 1, 1) := by decide +kernel
theorem dX7_less_60 : decode cX7_less 60 = .ok (.invokevirtual 78, 3) := by decide +kernel
theorem dX7_less_63 : decode cX7_less 63 = .ok (.bipush 30, 2) := by decide +kernel
theorem dX7_less_65 : decode cX7_less 65 = .ok (.if_icmp .lt 7, 3) := by decide +kernel
theorem dX7_less_68 : decode cX7_less 68 = .ok (.iconst 0, 1) := by decide +kernel
theorem dX7_less_69 : decode cX7_less 69 = .ok (.goto 4, 3) := by decide +kernel
theorem dX7_less_72 : decode cX7_less 72 = .ok (.iconst 1, 1) := by decide +kernel
theorem dX7_less_73 : decode cX7_less 73 = .ok (.ireturn, 1) := by decide +kernel
theorem dX7_less_74 : decode cX7_less 74 = .ok (.iload_n 2, 1) := by decide +kernel
theorem dX7_less_75 : decode cX7_less 75 = .ok (.aload_n 0, 1) := by decide +kernel
theorem dX7_less_76 : decode cX7_less 76 = .ok (.iload_n 1, 1) := by decide +kernel
theorem dX7_less_77 : decode cX7_less 77 = .ok (.iconst 1, 1) := by decide +kernel
theorem dX7_less_78 : decode cX7_less 78 = .ok (.isub, 1) := by decide +kernel
theorem dX7_less_79 : decode cX7_less 79 = .ok (.invokevirtual 81, 3) := by decide +kernel
theorem dX7_less_82 : decode cX7_less 82 = .ok (.ifCond .eq 7, 3) := by decide +kernel
theorem dX7_less_85 : decode cX7_less 85 = .ok (.iconst 2, 1) := by decide +kernel
theorem dX7_less_86 : decode cX7_less 86 = .ok (.goto 4, 3) := by decide +kernel
theorem dX7_less_89 : decode cX7_less 89 = .ok (.iconst 0, 1) := by decide +kernel
theorem dX7_less_90 : decode cX7_less 90 = .ok (.iadd, 1) := by decide +kernel
theorem dX7_less_91 : decode cX7_less 91 = .ok (.aload_n 0, 1) := by decide +kernel
theorem dX7_less_92 : decode cX7_less 92 = .ok (.iload_n 1, 1) := by decide +kernel
theorem dX7_less_93 : decode cX7_less 93 = .ok (.iconst 1, 1) := by decide +kernel
theorem dX7_less_94 : decode cX7_less 94 = .ok (.iadd, 1) := by decide +kernel
theorem dX7_less_95 : decode cX7_less 95 = .ok (.invokevirtual 81, 3) := by decide +kernel
theorem dX7_less_98 : decode cX7_less 98 = .ok (.ifCond .eq 7, 3) := by decide +kernel
theorem dX7_less_101 : decode cX7_less 101 = .ok (.iconst 2, 1) := by decide +kernel
theorem dX7_less_102 : decode cX7_less 102 = .ok (.goto 4, 3) := by decide +kernel
theorem dX7_less_105 : decode cX7_less 105 = .ok (.iconst 0, 1) := by decide +kernel
theorem dX7_less_106 : decode cX7_less 106 = .ok (.iadd, 1) := by decide +kernel
theorem dX7_less_107 : decode cX7_less 107 = .ok (.ireturn, 1) := by decide +kernel
theorem dX7_fits_0 : decode cX7_fits 0 = .ok (.aload_n 0, 1) := by decide +kernel
theorem dX7_fits_1 : decode cX7_fits 1 = .ok (.iload_n 2, 1) := by decide +kernel
theorem dX7_fits_2 : decode cX7_fits 2 = .ok (.iconst 1, 1) := by decide +kernel
theorem dX7_fits_3 : decode cX7_fits 3 = .ok (.invokevirtual 63, 3) := by decide +kernel
theorem dX7_fits_6 : decode cX7_fits 6 = .ok (.aload_n 0, 1) := by decide +kernel
theorem dX7_fits_7 : decode cX7_fits 7 = .ok (.iload_n 1, 1) := by decide +kernel
theorem dX7_fits_8 : decode cX7_fits 8 = .ok (.iconst 0, 1) := by decide +kernel
theorem dX7_fits_9 : decode cX7_fits 9 = .ok (.invokevirtual 67, 3) := by decide +kernel
theorem dX7_fits_12 : decode cX7_fits 12 = .ok (.if_icmp .ne 31, 3) := by decide +kernel
theorem dX7_fits_15 : decode cX7_fits 15 = .ok (.aload_n 0, 1) := by decide +kernel
theorem dX7_fits_16 : decode cX7_fits 16 = .ok (.iload_n 2, 1) := by decide +kernel
theorem dX7_fits_17 : decode cX7_fits 17 = .ok (.invokevirtual 78, 3) := by decide +kernel
theorem dX7_fits_20 : decode cX7_fits 20 = .ok (.aload_n 0, 1) := by decide +kernel
theorem dX7_fits_21 : decode cX7_fits 21 = .ok (.iload_n 1, 1) := by decide +kernel
theorem dX7_fits_22 : decode cX7_fits 22 = .ok (.iconst 2, 1) := by decide +kernel
theorem dX7_fits_23 : decode cX7_fits 23 = .ok (.invokevirtual 67, 3) := by decide +kernel
theorem dX7_fits_26 : decode cX7_fits 26 = .ok (.if_icmp .lt 17, 3) := by decide +kernel
theorem dX7_fits_29 : decode cX7_fits 29 = .ok (.aload_n 0, 1) := by decide +kernel
theorem dX7_fits_30 : decode cX7_fits 30 = .ok (.iload_n 2, 1) := by decide +kernel
theorem dX7_fits_31 : decode cX7_fits 31 = .ok (.invokevirtual 84, 3) := by decide +kernel
theorem dX7_fits_34 : decode cX7_fits 34 = .ok (.bipush (-4), 2) := by decide +kernel
theorem dX7_fits_36 : decode cX7_fits 36 = .ok (.if_icmp .ne 7, 3) := by decide +kernel
theorem dX7_fits_39 : decode cX7_fits 39 = .ok (.iconst 1, 1) := by decide +kernel
theorem dX7_fits_40 : decode cX7_fits 40 = .ok (.goto 4, 3) := by decide +kernel
theorem dX7_fits_43 : decode cX7_fits 43 = .ok (.iconst 0, 1) := by decide +kernel
theorem dX7_fits_44 : decode cX7_fits 44 = .ok (.ireturn, 1) := by decide +kernel
theorem dX7_fitsFor_0 : decode cX7_fitsFor 0 = .ok (.iconst 0, 1) := by decide +kernel
theorem dX7_fitsFor_1 : decode cX7_fitsFor 1 = .ok (.istore_n 2, 1) := by decide +kernel
theorem dX7_fitsFor_2 : decode cX7_fitsFor 2 = .ok (.iconst 0, 1) := by decide +kernel
theorem dX7_fitsFor_3 : decode cX7_fitsFor 3 = .ok (.istore_n 3, 1) := by decide +kernel
theorem dX7_fitsFor_4 : decode cX7_fitsFor 4 = .ok (.iload_n 3, 1) := by decide +kernel
theorem dX7_fitsFor_5 : decode cX7_fitsFor 5 = .ok (.aload_n 0, 1) := by decide +kernel
theorem dX7_fitsFor_6 : decode cX7_fitsFor 6 = .ok (.getfield 7, 3) := by decide +kernel
theorem dX7_fitsFor_9 : decode cX7_fitsFor 9 = .ok (.iconst 0, 1) := by decide +kernel
theorem dX7_fitsFor_10 : decode cX7_fitsFor 10 = .ok (.iaload, 1) := by decide +kernel
theorem dX7_fitsFor_11 : decode cX7_fitsFor 11 = .ok (.if_icmp .ge 28, 3) := by decide +kernel
theorem dX7_fitsFor_14 : decode cX7_fitsFor 14 = .ok (.iload_n 2, 1) := by decide +kernel
theorem dX7_fitsFor_15 : decode cX7_fitsFor 15 = .ok (.aload_n 0, 1) := by decide +kernel
theorem dX7_fitsFor_16 : decode cX7_fitsFor 16 = .ok (.iload_n 1, 1) := by decide +kernel
theorem dX7_fitsFor_17 : decode cX7_fitsFor 17 = .ok (.iload_n 3, 1) := by decide +kernel
theorem dX7_fitsFor_18 : decode cX7_fitsFor 18 = .ok (.invokevirtual 87, 3) := by decide +kernel
theorem dX7_fitsFor_21 : decode cX7_fitsFor 21 = .ok (.ifCond .eq 9, 3) := by decide +kernel
theorem dX7_fitsFor_24 : decode cX7_fitsFor 24 = .ok (.iconst 1, 1) := by decide +kernel
theorem dX7_fitsFor_25 : decode cX7_fitsFor 25 = .ok (.iload_n 3, 1) := by decide +kernel
theorem dX7_fitsFor_26 : decode cX7_fitsFor 26 = .ok (.ishl, 1) := by decide +kernel
theorem dX7_fitsFor_27 : decode cX7_fitsFor 27 = .ok (.goto 4, 3) := by decide +kernel
theorem dX7_fitsFor_30 : decode cX7_fitsFor 30 = .ok (.iconst 0, 1) := by decide +kernel
theorem dX7_fitsFor_31 : decode cX7_fitsFor 31 = .ok (.ior, 1) := by decide +kernel
theorem dX7_fitsFor_32 : decode cX7_fitsFor 32 = .ok (.istore_n 2, 1) := by decide +kernel
theorem dX7_fitsFor_33 : decode cX7_fitsFor 33 = .ok (.iinc 3 1, 3) := by decide +kernel
theorem dX7_fitsFor_36 : decode cX7_fitsFor 36 = .ok (.goto (-32), 3) := by decide +kernel
theorem dX7_fitsFor_39 : decode cX7_fitsFor 39 = .ok (.iload_n 2, 1) := by decide +kernel
theorem dX7_fitsFor_40 : decode cX7_fitsFor 40 = .ok (.ireturn, 1) := by decide +kernel
theorem dX7_looks_0 : decode cX7_looks 0 = .ok (.bipush (-4), 2) := by decide +kernel
theorem dX7_looks_2 : decode cX7_looks 2 = .ok (.istore_n 2, 1) := by decide +kernel
theorem dX7_looks_3 : decode cX7_looks 3 = .ok (.iconst 0, 1) := by decide +kernel
theorem dX7_looks_4 : decode cX7_looks 4 = .ok (.istore_n 3, 1) := by decide +kernel
theorem dX7_looks_5 : decode cX7_looks 5 = .ok (.iload_n 3, 1) := by decide +kernel
theorem dX7_looks_6 : decode cX7_looks 6 = .ok (.aload_n 0, 1) := by decide +kernel
theorem dX7_looks_7 : decode cX7_looks 7 = .ok (.getfield 7, 3) := by decide +kernel
theorem dX7_looks_10 : decode cX7_looks 10 = .ok (.iconst 0, 1) := by decide +kernel
theorem dX7_looks_11 : decode cX7_looks 11 = .ok (.iaload, 1) := by decide +kernel
theorem dX7_looks_12 : decode cX7_looks 12 = .ok (.if_icmp .ge 43, 3) := by decide +kernel
theorem dX7_looks_15 : decode cX7_looks 15 = .ok (.aload_n 0, 1) := by decide +kernel
theorem dX7_looks_16 : decode cX7_looks 16 = .ok (.iload_n 1, 1) := by decide +kernel
theorem dX7_looks_17 : decode cX7_looks 17 = .ok (.iload_n 3, 1) := by decide +kernel
theorem dX7_looks_18 : decode cX7_looks 18 = .ok (.invokevirtual 87, 3) := by decide +kernel
theorem dX7_looks_21 : decode cX7_looks 21 = .ok (.ifCond .eq 26, 3) := by decide +kernel
theorem dX7_looks_24 : decode cX7_looks 24 = .ok (.iload_n 2, 1) := by decide +kernel
theorem dX7_looks_25 : decode cX7_looks 25 = .ok (.bipush (-4), 2) := by decide +kernel
theorem dX7_looks_27 : decode cX7_looks 27 = .ok (.if_icmp .eq 16, 3) := by decide +kernel
theorem dX7_looks_30 : decode cX7_looks 30 = .ok (.aload_n 0, 1) := by decide +kernel
theorem dX7_looks_31 : decode cX7_looks 31 = .ok (.iload_n 3, 1) := by decide +kernel
theorem dX7_looks_32 : decode cX7_looks 32 = .ok (.invokevirtual 78, 3) := by decide +kernel
theorem dX7_looks_35 : decode cX7_looks 35 = .ok (.aload_n 0, 1) := by decide +kernel
theorem dX7_looks_36 : decode cX7_looks 36 = .ok (.iload_n 2, 1) := by decide +kernel
theorem dX7_looks_37 : decode cX7_looks 37 = .ok (.invokevirtual 78, 3) := by decide +kernel
theorem dX7_looks_40 : decode cX7_looks 40 = .ok (.if_icmp .le 7, 3) := by decide +kernel
theorem dX7_looks_43 : decode cX7_looks 43 = .ok (.iload_n 3, 1) := by decide +kernel
theorem dX7_looks_44 : decode cX7_looks 44 = .ok (.goto 4, 3) := by decide +kernel
theorem dX7_looks_47 : decode cX7_looks 47 = .ok (.iload_n 2, 1) := by decide +kernel
theorem dX7_looks_48 : decode cX7_looks 48 = .ok (.istore_n 2, 1) := by decide +kernel
theorem dX7_looks_49 : decode cX7_looks 49 = .ok (.iinc 3 1, 3) := by decide +kernel
theorem dX7_looks_52 : decode cX7_looks 52 = .ok (.goto (-47), 3) := by decide +kernel
theorem dX7_looks_55 : decode cX7_looks 55 = .ok (.aload_n 0, 1) := by decide +kernel
theorem dX7_looks_56 : decode cX7_looks 56 = .ok (.iload_n 1, 1) := by decide +kernel
theorem dX7_looks_57 : decode cX7_looks 57 = .ok (.iload_n 2, 1) := by decide +kernel
theorem dX7_looks_58 : decode cX7_looks 58 = .ok (.iconst 3, 1) := by decide +kernel
theorem dX7_looks_59 : decode cX7_looks 59 = .ok (.invokevirtual 91, 3) := by decide +kernel
theorem dX7_looks_62 : decode cX7_looks 62 = .ok (.return_, 1) := by decide +kernel
theorem dX7_goesBy_0 : decode cX7_goesBy 0 = .ok (.iconst 0, 1) := by decide +kernel
theorem dX7_goesBy_1 : decode cX7_goesBy 1 = .ok (.istore_n 1, 1) := by decide +kernel
theorem dX7_goesBy_2 : decode cX7_goesBy 2 = .ok (.iload_n 1, 1) := by decide +kernel
theorem dX7_goesBy_3 : decode cX7_goesBy 3 = .ok (.aload_n 0, 1) := by decide +kernel
theorem dX7_goesBy_4 : decode cX7_goesBy 4 = .ok (.getfield 7, 3) := by decide +kernel
theorem dX7_goesBy_7 : decode cX7_goesBy 7 = .ok (.iconst 1, 1) := by decide +kernel
theorem dX7_goesBy_8 : decode cX7_goesBy 8 = .ok (.iaload, 1) := by decide +kernel
theorem dX7_goesBy_9 : decode cX7_goesBy 9 = .ok (.if_icmp .ge 39, 3) := by decide +kernel
theorem dX7_goesBy_12 : decode cX7_goesBy 12 = .ok (.aload_n 0, 1) := by decide +kernel
theorem dX7_goesBy_13 : decode cX7_goesBy 13 = .ok (.iload_n 1, 1) := by decide +kernel
theorem dX7_goesBy_14 : decode cX7_goesBy 14 = .ok (.invokevirtual 70, 3) := by decide +kernel
theorem dX7_goesBy_17 : decode cX7_goesBy 17 = .ok (.bipush (-4), 2) := by decide +kernel
theorem dX7_goesBy_19 : decode cX7_goesBy 19 = .ok (.if_icmp .ne 23, 3) := by decide +kernel
theorem dX7_goesBy_22 : decode cX7_goesBy 22 = .ok (.aload_n 0, 1) := by decide +kernel
theorem dX7_goesBy_23 : decode cX7_goesBy 23 = .ok (.iload_n 1, 1) := by decide +kernel
theorem dX7_goesBy_24 : decode cX7_goesBy 24 = .ok (.iconst 1, 1) := by decide +kernel
theorem dX7_goesBy_25 : decode cX7_goesBy 25 = .ok (.invokevirtual 67, 3) := by decide +kernel
theorem dX7_goesBy_28 : decode cX7_goesBy 28 = .ok (.aload_n 0, 1) := by decide +kernel
theorem dX7_goesBy_29 : decode cX7_goesBy 29 = .ok (.getfield 7, 3) := by decide +kernel
theorem dX7_goesBy_32 : decode cX7_goesBy 32 = .ok (.iconst 2, 1) := by decide +kernel
theorem dX7_goesBy_33 : decode cX7_goesBy 33 = .ok (.iaload, 1) := by decide +kernel
theorem dX7_goesBy_34 : decode cX7_goesBy 34 = .ok (.if_icmp .gt 8, 3) := by decide +kernel
theorem dX7_goesBy_37 : decode cX7_goesBy 37 = .ok (.aload_n 0, 1) := by decide +kernel
theorem dX7_goesBy_38 : decode cX7_goesBy 38 = .ok (.iload_n 1, 1) := by decide +kernel
theorem dX7_goesBy_39 : decode cX7_goesBy 39 = .ok (.invokevirtual 95, 3) := by decide +kernel
theorem dX7_goesBy_42 : decode cX7_goesBy 42 = .ok (.iinc 1 1, 3) := by decide +kernel
theorem dX7_goesBy_45 : decode cX7_goesBy 45 = .ok (.goto (-43), 3) := by decide +kernel
theorem dX7_goesBy_48 : decode cX7_goesBy 48 = .ok (.iconst 0, 1) := by decide +kernel
theorem dX7_goesBy_49 : decode cX7_goesBy 49 = .ok (.istore_n 1, 1) := by decide +kernel
theorem dX7_goesBy_50 : decode cX7_goesBy 50 = .ok (.iload_n 1, 1) := by decide +kernel
theorem dX7_goesBy_51 : decode cX7_goesBy 51 = .ok (.aload_n 0, 1) := by decide +kernel
theorem dX7_goesBy_52 : decode cX7_goesBy 52 = .ok (.getfield 7, 3) := by decide +kernel
theorem dX7_goesBy_55 : decode cX7_goesBy 55 = .ok (.iconst 0, 1) := by decide +kernel
theorem dX7_goesBy_56 : decode cX7_goesBy 56 = .ok (.iaload, 1) := by decide +kernel
theorem dX7_goesBy_57 : decode cX7_goesBy 57 = .ok (.if_icmp .ge 20, 3) := by decide +kernel
theorem dX7_goesBy_60 : decode cX7_goesBy 60 = .ok (.aload_n 0, 1) := by decide +kernel
theorem dX7_goesBy_61 : decode cX7_goesBy 61 = .ok (.getfield 13, 3) := by decide +kernel
theorem dX7_goesBy_64 : decode cX7_goesBy 64 = .ok (.iload_n 1, 1) := by decide +kernel
theorem dX7_goesBy_65 : decode cX7_goesBy 65 = .ok (.aload_n 0, 1) := by decide +kernel
theorem dX7_goesBy_66 : decode cX7_goesBy 66 = .ok (.iload_n 1, 1) := by decide +kernel
theorem dX7_goesBy_67 : decode cX7_goesBy 67 = .ok (.invokevirtual 99, 3) := by decide +kernel
theorem dX7_goesBy_70 : decode cX7_goesBy 70 = .ok (.iastore, 1) := by decide +kernel
theorem dX7_goesBy_71 : decode cX7_goesBy 71 = .ok (.iinc 1 1, 3) := by decide +kernel
theorem dX7_goesBy_74 : decode cX7_goesBy 74 = .ok (.goto (-24), 3) := by decide +kernel
theorem dX7_goesBy_77 : decode cX7_goesBy 77 = .ok (.iconst 0, 1) := by decide +kernel
theorem dX7_goesBy_78 : decode cX7_goesBy 78 = .ok (.istore_n 1, 1) := by decide +kernel
theorem dX7_goesBy_79 : decode cX7_goesBy 79 = .ok (.iload_n 1, 1) := by decide +kernel
theorem dX7_goesBy_80 : decode cX7_goesBy 80 = .ok (.aload_n 0, 1) := by decide +kernel
theorem dX7_goesBy_81 : decode cX7_goesBy 81 = .ok (.getfield 7, 3) := by decide +kernel
theorem dX7_goesBy_84 : decode cX7_goesBy 84 = .ok (.iconst 0, 1) := by decide +kernel
theorem dX7_goesBy_85 : decode cX7_goesBy 85 = .ok (.iaload, 1) := by decide +kernel
theorem dX7_goesBy_86 : decode cX7_goesBy 86 = .ok (.if_icmp .ge 26, 3) := by decide +kernel
theorem dX7_goesBy_89 : decode cX7_goesBy 89 = .ok (.aload_n 0, 1) := by decide +kernel
theorem dX7_goesBy_90 : decode cX7_goesBy 90 = .ok (.iload_n 1, 1) := by decide +kernel
theorem dX7_goesBy_91 : decode cX7_goesBy 91 = .ok (.aload_n 0, 1) := by decide +kernel
theorem dX7_goesBy_92 : decode cX7_goesBy 92 = .ok (.iload_n 1, 1) := by decide +kernel
theorem dX7_goesBy_93 : decode cX7_goesBy 93 = .ok (.invokevirtual 78, 3) := by decide +kernel
theorem dX7_goesBy_96 : decode cX7_goesBy 96 = .ok (.aload_n 0, 1) := by decide +kernel
theorem dX7_goesBy_97 : decode cX7_goesBy 97 = .ok (.getfield 13, 3) := by decide +kernel
theorem dX7_goesBy_100 : decode cX7_goesBy 100 = .ok (.iload_n 1, 1) := by decide +kernel
theorem dX7_goesBy_101 : decode cX7_goesBy 101 = .ok (.iaload, 1) := by decide +kernel
theorem dX7_goesBy_102 : decode cX7_goesBy 102 = .ok (.isub, 1) := by decide +kernel
theorem dX7_goesBy_103 : decode cX7_goesBy 103 = .ok (.invokevirtual 102, 3) := by decide +kernel
theorem dX7_goesBy_106 : decode cX7_goesBy 106 = .ok (.iinc 1 1, 3) := by decide +kernel
theorem dX7_goesBy_109 : decode cX7_goesBy 109 = .ok (.goto (-30), 3) := by decide +kernel
theorem dX7_goesBy_112 : decode cX7_goesBy 112 = .ok (.aload_n 0, 1) := by decide +kernel
theorem dX7_goesBy_113 : decode cX7_goesBy 113 = .ok (.getfield 7, 3) := by decide +kernel
theorem dX7_goesBy_116 : decode cX7_goesBy 116 = .ok (.iconst 2, 1) := by decide +kernel
theorem dX7_goesBy_117 : decode cX7_goesBy 117 = .ok (.dup2, 1) := by decide +kernel
theorem dX7_goesBy_118 : decode cX7_goesBy 118 = .ok (.iaload, 1) := by decide +kernel
theorem dX7_goesBy_119 : decode cX7_goesBy 119 = .ok (.iconst 1, 1) := by decide +kernel
theorem dX7_goesBy_120 : decode cX7_goesBy 120 = .ok (.iadd, 1) := by decide +kernel
theorem dX7_goesBy_121 : decode cX7_goesBy 121 = .ok (.iastore, 1) := by decide +kernel
theorem dX7_goesBy_122 : decode cX7_goesBy 122 = .ok (.return_, 1) := by decide +kernel
theorem dX7_goesOn_0 : decode cX7_goesOn 0 = .ok (.iconst 0, 1) := by decide +kernel
theorem dX7_goesOn_1 : decode cX7_goesOn 1 = .ok (.istore_n 2, 1) := by decide +kernel
theorem dX7_goesOn_2 : decode cX7_goesOn 2 = .ok (.iload_n 2, 1) := by decide +kernel
theorem dX7_goesOn_3 : decode cX7_goesOn 3 = .ok (.iload_n 1, 1) := by decide +kernel
theorem dX7_goesOn_4 : decode cX7_goesOn 4 = .ok (.if_icmp .ge 13, 3) := by decide +kernel
theorem dX7_goesOn_7 : decode cX7_goesOn 7 = .ok (.aload_n 0, 1) := by decide +kernel
theorem dX7_goesOn_8 : decode cX7_goesOn 8 = .ok (.invokevirtual 106, 3) := by decide +kernel
theorem dX7_goesOn_11 : decode cX7_goesOn 11 = .ok (.iinc 2 1, 3) := by decide +kernel
theorem dX7_goesOn_14 : decode cX7_goesOn 14 = .ok (.goto (-12), 3) := by decide +kernel
theorem dX7_goesOn_17 : decode cX7_goesOn 17 = .ok (.return_, 1) := by decide +kernel
theorem dX7_many_0 : decode cX7_many 0 = .ok (.iconst 0, 1) := by decide +kernel
theorem dX7_many_1 : decode cX7_many 1 = .ok (.istore_n 1, 1) := by decide +kernel
theorem dX7_many_2 : decode cX7_many 2 = .ok (.iload_n 0, 1) := by decide +kernel
theorem dX7_many_3 : decode cX7_many 3 = .ok (.istore_n 2, 1) := by decide +kernel
theorem dX7_many_4 : decode cX7_many 4 = .ok (.iload_n 2, 1) := by decide +kernel
theorem dX7_many_5 : decode cX7_many 5 = .ok (.ifCond .eq 15, 3) := by decide +kernel
theorem dX7_many_8 : decode cX7_many 8 = .ok (.iinc 1 1, 3) := by decide +kernel
theorem dX7_many_11 : decode cX7_many 11 = .ok (.iload_n 2, 1) := by decide +kernel
theorem dX7_many_12 : decode cX7_many 12 = .ok (.iload_n 2, 1) := by decide +kernel
theorem dX7_many_13 : decode cX7_many 13 = .ok (.iconst 1, 1) := by decide +kernel
theorem dX7_many_14 : decode cX7_many 14 = .ok (.isub, 1) := by decide +kernel
theorem dX7_many_15 : decode cX7_many 15 = .ok (.iand, 1) := by decide +kernel
theorem dX7_many_16 : decode cX7_many 16 = .ok (.istore_n 2, 1) := by decide +kernel
theorem dX7_many_17 : decode cX7_many 17 = .ok (.goto (-13), 3) := by decide +kernel
theorem dX7_many_20 : decode cX7_many 20 = .ok (.iload_n 1, 1) := by decide +kernel
theorem dX7_many_21 : decode cX7_many 21 = .ok (.ireturn, 1) := by decide +kernel
theorem dX7_servedNow_0 : decode cX7_servedNow 0 = .ok (.iconst 0, 1) := by decide +kernel
theorem dX7_servedNow_1 : decode cX7_servedNow 1 = .ok (.istore_n 1, 1) := by decide +kernel
theorem dX7_servedNow_2 : decode cX7_servedNow 2 = .ok (.iconst 0, 1) := by decide +kernel
theorem dX7_servedNow_3 : decode cX7_servedNow 3 = .ok (.istore_n 2, 1) := by decide +kernel
theorem dX7_servedNow_4 : decode cX7_servedNow 4 = .ok (.iload_n 2, 1) := by decide +kernel
theorem dX7_servedNow_5 : decode cX7_servedNow 5 = .ok (.aload_n 0, 1) := by decide +kernel
theorem dX7_servedNow_6 : decode cX7_servedNow 6 = .ok (.getfield 7, 3) := by decide +kernel
theorem dX7_servedNow_9 : decode cX7_servedNow 9 = .ok (.iconst 1, 1) := by decide +kernel
theorem dX7_servedNow_10 : decode cX7_servedNow 10 = .ok (.iaload, 1) := by decide +kernel
theorem dX7_servedNow_11 : decode cX7_servedNow 11 = .ok (.if_icmp .ge 29, 3) := by decide +kernel
theorem dX7_servedNow_14 : decode cX7_servedNow 14 = .ok (.iload_n 1, 1) := by decide +kernel
theorem dX7_servedNow_15 : decode cX7_servedNow 15 = .ok (.aload_n 0, 1) := by decide +kernel
theorem dX7_servedNow_16 : decode cX7_servedNow 16 = .ok (.iload_n 2, 1) := by decide +kernel
theorem dX7_servedNow_17 : decode cX7_servedNow 17 = .ok (.invokevirtual 70, 3) := by decide +kernel
theorem dX7_servedNow_20 : decode cX7_servedNow 20 = .ok (.bipush (-4), 2) := by decide +kernel
theorem dX7_servedNow_22 : decode cX7_servedNow 22 = .ok (.if_icmp .ne 7, 3) := by decide +kernel
theorem dX7_servedNow_25 : decode cX7_servedNow 25 = .ok (.iconst 0, 1) := by decide +kernel
theorem dX7_servedNow_26 : decode cX7_servedNow 26 = .ok (.goto 6, 3) := by decide +kernel
theorem dX7_servedNow_29 : decode cX7_servedNow 29 = .ok (.iconst 1, 1) := by decide +kernel
theorem dX7_servedNow_30 : decode cX7_servedNow 30 = .ok (.iload_n 2, 1) := by decide +kernel
theorem dX7_servedNow_31 : decode cX7_servedNow 31 = .ok (.ishl, 1) := by decide +kernel
theorem dX7_servedNow_32 : decode cX7_servedNow 32 = .ok (.ior, 1) := by decide +kernel
theorem dX7_servedNow_33 : decode cX7_servedNow 33 = .ok (.istore_n 1, 1) := by decide +kernel
theorem dX7_servedNow_34 : decode cX7_servedNow 34 = .ok (.iinc 2 1, 3) := by decide +kernel
theorem dX7_servedNow_37 : decode cX7_servedNow 37 = .ok (.goto (-33), 3) := by decide +kernel
theorem dX7_servedNow_40 : decode cX7_servedNow 40 = .ok (.iload_n 1, 1) := by decide +kernel
theorem dX7_servedNow_41 : decode cX7_servedNow 41 = .ok (.ireturn, 1) := by decide +kernel
theorem dX7_puddleComes_0 : decode cX7_puddleComes 0 = .ok (.iconst 4, 1) := by decide +kernel
theorem dX7_puddleComes_1 : decode cX7_puddleComes 1 = .ok (.iconst 3, 1) := by decide +kernel
theorem dX7_puddleComes_2 : decode cX7_puddleComes 2 = .ok (.aload_n 0, 1) := by decide +kernel
theorem dX7_puddleComes_3 : decode cX7_puddleComes 3 = .ok (.getfield 7, 3) := by decide +kernel
theorem dX7_puddleComes_6 : decode cX7_puddleComes 6 = .ok (.iconst 0, 1) := by decide +kernel
theorem dX7_puddleComes_7 : decode cX7_puddleComes 7 = .ok (.iaload, 1) := by decide +kernel
theorem dX7_puddleComes_8 : decode cX7_puddleComes 8 = .ok (.imul, 1) := by decide +kernel
theorem dX7_puddleComes_9 : decode cX7_puddleComes 9 = .ok (.iadd, 1) := by decide +kernel
theorem dX7_puddleComes_10 : decode cX7_puddleComes 10 = .ok (.istore 4, 2) := by decide +kernel
theorem dX7_puddleComes_12 : decode cX7_puddleComes 12 = .ok (.aload_n 0, 1) := by decide +kernel
theorem dX7_puddleComes_13 : decode cX7_puddleComes 13 = .ok (.getfield 7, 3) := by decide +kernel
theorem dX7_puddleComes_16 : decode cX7_puddleComes 16 = .ok (.iload 4, 2) := by decide +kernel
theorem dX7_puddleComes_18 : decode cX7_puddleComes 18 = .ok (.iload_n 1, 1) := by decide +kernel
theorem dX7_puddleComes_19 : decode cX7_puddleComes 19 = .ok (.iastore, 1) := by decide +kernel
theorem dX7_puddleComes_20 : decode cX7_puddleComes 20 = .ok (.aload_n 0, 1) := by decide +kernel
theorem dX7_puddleComes_21 : decode cX7_puddleComes 21 = .ok (.getfield 7, 3) := by decide +kernel
theorem dX7_puddleComes_24 : decode cX7_puddleComes 24 = .ok (.iload 4, 2) := by decide +kernel
theorem dX7_puddleComes_26 : decode cX7_puddleComes 26 = .ok (.iconst 1, 1) := by decide +kernel
theorem dX7_puddleComes_27 : decode cX7_puddleComes 27 = .ok (.iadd, 1) := by decide +kernel
theorem dX7_puddleComes_28 : decode cX7_puddleComes 28 = .ok (.iload_n 2, 1) := by decide +kernel
theorem dX7_puddleComes_29 : decode cX7_puddleComes 29 = .ok (.iastore, 1) := by decide +kernel
theorem dX7_puddleComes_30 : decode cX7_puddleComes 30 = .ok (.aload_n 0, 1) := by decide +kernel
theorem dX7_puddleComes_31 : decode cX7_puddleComes 31 = .ok (.getfield 7, 3) := by decide +kernel
theorem dX7_puddleComes_34 : decode cX7_puddleComes 34 = .ok (.iload 4, 2) := by decide +kernel
theorem dX7_puddleComes_36 : decode cX7_puddleComes 36 = .ok (.iconst 2, 1) := by decide +kernel
theorem dX7_puddleComes_37 : decode cX7_puddleComes 37 = .ok (.iadd, 1) := by decide +kernel
theorem dX7_puddleComes_38 : decode cX7_puddleComes 38 = .ok (.iload_n 3, 1) := by decide +kernel
theorem dX7_puddleComes_39 : decode cX7_puddleComes 39 = .ok (.iastore, 1) := by decide +kernel
theorem dX7_puddleComes_40 : decode cX7_puddleComes 40 = .ok (.aload_n 0, 1) := by decide +kernel
theorem dX7_puddleComes_41 : decode cX7_puddleComes 41 = .ok (.getfield 7, 3) := by decide +kernel
theorem dX7_puddleComes_44 : decode cX7_puddleComes 44 = .ok (.iconst 0, 1) := by decide +kernel
theorem dX7_puddleComes_45 : decode cX7_puddleComes 45 = .ok (.dup2, 1) := by decide +kernel
theorem dX7_puddleComes_46 : decode cX7_puddleComes 46 = .ok (.iaload, 1) := by decide +kernel
theorem dX7_puddleComes_47 : decode cX7_puddleComes 47 = .ok (.iconst 1, 1) := by decide +kernel
theorem dX7_puddleComes_48 : decode cX7_puddleComes 48 = .ok (.iadd, 1) := by decide +kernel
theorem dX7_puddleComes_49 : decode cX7_puddleComes 49 = .ok (.iastore, 1) := by decide +kernel
theorem dX7_puddleComes_50 : decode cX7_puddleComes 50 = .ok (.aload_n 0, 1) := by decide +kernel
theorem dX7_puddleComes_51 : decode cX7_puddleComes 51 = .ok (.iconst 0, 1) := by decide +kernel
theorem dX7_puddleComes_52 : decode cX7_puddleComes 52 = .ok (.putfield 109, 3) := by decide +kernel
theorem dX7_puddleComes_55 : decode cX7_puddleComes 55 = .ok (.return_, 1) := by decide +kernel
theorem dX7_personComes_0 : decode cX7_personComes 0 = .ok (.aload_n 0, 1) := by decide +kernel
theorem dX7_personComes_1 : decode cX7_personComes 1 = .ok (.getfield 7, 3) := by decide +kernel
theorem dX7_personComes_4 : decode cX7_personComes 4 = .ok (.iconst 1, 1) := by decide +kernel
theorem dX7_personComes_5 : decode cX7_personComes 5 = .ok (.iaload, 1) := by decide +kernel
theorem dX7_personComes_6 : decode cX7_personComes 6 = .ok (.istore 4, 2) := by decide +kernel
theorem dX7_personComes_8 : decode cX7_personComes 8 = .ok (.aload_n 0, 1) := by decide +kernel
theorem dX7_personComes_9 : decode cX7_personComes 9 = .ok (.iload 4, 2) := by decide +kernel
theorem dX7_personComes_11 : decode cX7_personComes 11 = .ok (.iload_n 1, 1) := by decide +kernel
theorem dX7_personComes_12 : decode cX7_personComes 12 = .ok (.iconst 0, 1) := by decide +kernel
theorem dX7_personComes_13 : decode cX7_personComes 13 = .ok (.invokevirtual 91, 3) := by decide +kernel
theorem dX7_personComes_16 : decode cX7_personComes 16 = .ok (.aload_n 0, 1) := by decide +kernel
theorem dX7_personComes_17 : decode cX7_personComes 17 = .ok (.iload 4, 2) := by decide +kernel
theorem dX7_personComes_19 : decode cX7_personComes 19 = .ok (.iload_n 2, 1) := by decide +kernel
theorem dX7_personComes_20 : decode cX7_personComes 20 = .ok (.iconst 1, 1) := by decide +kernel
theorem dX7_personComes_21 : decode cX7_personComes 21 = .ok (.invokevirtual 91, 3) := by decide +kernel
theorem dX7_personComes_24 : decode cX7_personComes 24 = .ok (.aload_n 0, 1) := by decide +kernel
theorem dX7_personComes_25 : decode cX7_personComes 25 = .ok (.iload 4, 2) := by decide +kernel
theorem dX7_personComes_27 : decode cX7_personComes 27 = .ok (.iload_n 3, 1) := by decide +kernel
theorem dX7_personComes_28 : decode cX7_personComes 28 = .ok (.iconst 2, 1) := by decide +kernel
theorem dX7_personComes_29 : decode cX7_personComes 29 = .ok (.invokevirtual 91, 3) := by decide +kernel
theorem dX7_personComes_32 : decode cX7_personComes 32 = .ok (.aload_n 0, 1) := by decide +kernel
theorem dX7_personComes_33 : decode cX7_personComes 33 = .ok (.iload 4, 2) := by decide +kernel
theorem dX7_personComes_35 : decode cX7_personComes 35 = .ok (.bipush (-4), 2) := by decide +kernel
theorem dX7_personComes_37 : decode cX7_personComes 37 = .ok (.iconst 3, 1) := by decide +kernel
theorem dX7_personComes_38 : decode cX7_personComes 38 = .ok (.invokevirtual 91, 3) := by decide +kernel
theorem dX7_personComes_41 : decode cX7_personComes 41 = .ok (.aload_n 0, 1) := by decide +kernel
theorem dX7_personComes_42 : decode cX7_personComes 42 = .ok (.getfield 7, 3) := by decide +kernel
theorem dX7_personComes_45 : decode cX7_personComes 45 = .ok (.iconst 1, 1) := by decide +kernel
theorem dX7_personComes_46 : decode cX7_personComes 46 = .ok (.dup2, 1) := by decide +kernel
theorem dX7_personComes_47 : decode cX7_personComes 47 = .ok (.iaload, 1) := by decide +kernel
theorem dX7_personComes_48 : decode cX7_personComes 48 = .ok (.iconst 1, 1) := by decide +kernel
theorem dX7_personComes_49 : decode cX7_personComes 49 = .ok (.iadd, 1) := by decide +kernel
theorem dX7_personComes_50 : decode cX7_personComes 50 = .ok (.iastore, 1) := by decide +kernel
theorem dX7_personComes_51 : decode cX7_personComes 51 = .ok (.aload_n 0, 1) := by decide +kernel
theorem dX7_personComes_52 : decode cX7_personComes 52 = .ok (.iconst 0, 1) := by decide +kernel
theorem dX7_personComes_53 : decode cX7_personComes 53 = .ok (.putfield 109, 3) := by decide +kernel
theorem dX7_personComes_56 : decode cX7_personComes 56 = .ok (.return_, 1) := by decide +kernel
theorem dX7_puddle_0 : decode cX7_puddle 0 = .ok (.iload_n 1, 1) := by decide +kernel
theorem dX7_puddle_1 : decode cX7_puddle 1 = .ok (.i2l, 1) := by decide +kernel
theorem dX7_puddle_2 : decode cX7_puddle 2 = .ok (.lconst 0, 1) := by decide +kernel
theorem dX7_puddle_3 : decode cX7_puddle 3 = .ok (.ldc2_w 113, 3) := by decide +kernel
theorem dX7_puddle_6 : decode cX7_puddle 6 = .ok (.invokestatic 59, 3) := by decide +kernel
theorem dX7_puddle_9 : decode cX7_puddle 9 = .ok (.ifCond .eq 27, 3) := by decide +kernel
theorem dX7_puddle_12 : decode cX7_puddle 12 = .ok (.iload_n 2, 1) := by decide +kernel
theorem dX7_puddle_13 : decode cX7_puddle 13 = .ok (.i2l, 1) := by decide +kernel
theorem dX7_puddle_14 : decode cX7_puddle 14 = .ok (.lconst 0, 1) := by decide +kernel
theorem dX7_puddle_15 : decode cX7_puddle 15 = .ok (.ldc2_w 115, 3) := by decide +kernel
theorem dX7_puddle_18 : decode cX7_puddle 18 = .ok (.invokestatic 59, 3) := by decide +kernel
theorem dX7_puddle_21 : decode cX7_puddle 21 = .ok (.ifCond .eq 15, 3) := by decide +kernel
theorem dX7_puddle_24 : decode cX7_puddle 24 = .ok (.iload_n 3, 1) := by decide +kernel
theorem dX7_puddle_25 : decode cX7_puddle 25 = .ok (.i2l, 1) := by decide +kernel
theorem dX7_puddle_26 : decode cX7_puddle 26 = .ok (.lconst 0, 1) := by decide +kernel
theorem dX7_puddle_27 : decode cX7_puddle 27 = .ok (.ldc2_w 117, 3) := by decide +kernel
theorem dX7_puddle_30 : decode cX7_puddle 30 = .ok (.invokestatic 59, 3) := by decide +kernel
theorem dX7_puddle_33 : decode cX7_puddle 33 = .ok (.ifCond .ne 5, 3) := by decide +kernel
theorem dX7_puddle_36 : decode cX7_puddle 36 = .ok (.iconst (-1), 1) := by decide +kernel
theorem dX7_puddle_37 : decode cX7_puddle 37 = .ok (.ireturn, 1) := by decide +kernel
theorem dX7_puddle_38 : decode cX7_puddle 38 = .ok (.aload_n 0, 1) := by decide +kernel
theorem dX7_puddle_39 : decode cX7_puddle 39 = .ok (.getfield 7, 3) := by decide +kernel
theorem dX7_puddle_42 : decode cX7_puddle 42 = .ok (.iconst 0, 1) := by decide +kernel
theorem dX7_puddle_43 : decode cX7_puddle 43 = .ok (.iaload, 1) := by decide +kernel
theorem dX7_puddle_44 : decode cX7_puddle 44 = .ok (.bipush 7, 2) := by decide +kernel
theorem dX7_puddle_46 : decode cX7_puddle 46 = .ok (.if_icmp .ne 6, 3) := by decide +kernel
theorem dX7_puddle_49 : decode cX7_puddle 49 = .ok (.bipush (-3), 2) := by decide +kernel
theorem dX7_puddle_51 : decode cX7_puddle 51 = .ok (.ireturn, 1) := by decide +kernel
theorem dX7_puddle_52 : decode cX7_puddle 52 = .ok (.aload_n 0, 1) := by decide +kernel
theorem dX7_puddle_53 : decode cX7_puddle 53 = .ok (.iload_n 1, 1) := by decide +kernel
theorem dX7_puddle_54 : decode cX7_puddle 54 = .ok (.iload_n 2, 1) := by decide +kernel
theorem dX7_puddle_55 : decode cX7_puddle 55 = .ok (.iload_n 3, 1) := by decide +kernel
theorem dX7_puddle_56 : decode cX7_puddle 56 = .ok (.invokevirtual 119, 3) := by decide +kernel
theorem dX7_puddle_59 : decode cX7_puddle 59 = .ok (.aload_n 0, 1) := by decide +kernel
theorem dX7_puddle_60 : decode cX7_puddle 60 = .ok (.getfield 7, 3) := by decide +kernel
theorem dX7_puddle_63 : decode cX7_puddle 63 = .ok (.iconst 0, 1) := by decide +kernel
theorem dX7_puddle_64 : decode cX7_puddle 64 = .ok (.iaload, 1) := by decide +kernel
theorem dX7_puddle_65 : decode cX7_puddle 65 = .ok (.iconst 1, 1) := by decide +kernel
theorem dX7_puddle_66 : decode cX7_puddle 66 = .ok (.isub, 1) := by decide +kernel
theorem dX7_puddle_67 : decode cX7_puddle 67 = .ok (.ireturn, 1) := by decide +kernel
theorem dX7_person_0 : decode cX7_person 0 = .ok (.iload_n 1, 1) := by decide +kernel
theorem dX7_person_1 : decode cX7_person 1 = .ok (.i2l, 1) := by decide +kernel
theorem dX7_person_2 : decode cX7_person 2 = .ok (.lconst 0, 1) := by decide +kernel
theorem dX7_person_3 : decode cX7_person 3 = .ok (.ldc2_w 115, 3) := by decide +kernel
theorem dX7_person_6 : decode cX7_person 6 = .ok (.invokestatic 59, 3) := by decide +kernel
theorem dX7_person_9 : decode cX7_person 9 = .ok (.ifCond .eq 27, 3) := by decide +kernel
theorem dX7_person_12 : decode cX7_person 12 = .ok (.iload_n 2, 1) := by decide +kernel
theorem dX7_person_13 : decode cX7_person 13 = .ok (.i2l, 1) := by decide +kernel
theorem dX7_person_14 : decode cX7_person 14 = .ok (.lconst 0, 1) := by decide +kernel
theorem dX7_person_15 : decode cX7_person 15 = .ok (.ldc2_w 122, 3) := by decide +kernel
theorem dX7_person_18 : decode cX7_person 18 = .ok (.invokestatic 59, 3) := by decide +kernel
theorem dX7_person_21 : decode cX7_person 21 = .ok (.ifCond .eq 15, 3) := by decide +kernel
theorem dX7_person_24 : decode cX7_person 24 = .ok (.iload_n 3, 1) := by decide +kernel
theorem dX7_person_25 : decode cX7_person 25 = .ok (.i2l, 1) := by decide +kernel
theorem dX7_person_26 : decode cX7_person 26 = .ok (.lconst 1, 1) := by decide +kernel
theorem dX7_person_27 : decode cX7_person 27 = .ok (.ldc2_w 124, 3) := by decide +kernel
theorem dX7_person_30 : decode cX7_person 30 = .ok (.invokestatic 59, 3) := by decide +kernel
theorem dX7_person_33 : decode cX7_person 33 = .ok (.ifCond .ne 5, 3) := by decide +kernel
theorem dX7_person_36 : decode cX7_person 36 = .ok (.iconst (-1), 1) := by decide +kernel
theorem dX7_person_37 : decode cX7_person 37 = .ok (.ireturn, 1) := by decide +kernel
theorem dX7_person_38 : decode cX7_person 38 = .ok (.aload_n 0, 1) := by decide +kernel
theorem dX7_person_39 : decode cX7_person 39 = .ok (.getfield 7, 3) := by decide +kernel
theorem dX7_person_42 : decode cX7_person 42 = .ok (.iconst 1, 1) := by decide +kernel
theorem dX7_person_43 : decode cX7_person 43 = .ok (.iaload, 1) := by decide +kernel
theorem dX7_person_44 : decode cX7_person 44 = .ok (.bipush 6, 2) := by decide +kernel
theorem dX7_person_46 : decode cX7_person 46 = .ok (.if_icmp .ne 6, 3) := by decide +kernel
theorem dX7_person_49 : decode cX7_person 49 = .ok (.bipush (-3), 2) := by decide +kernel
theorem dX7_person_51 : decode cX7_person 51 = .ok (.ireturn, 1) := by decide +kernel
theorem dX7_person_52 : decode cX7_person 52 = .ok (.aload_n 0, 1) := by decide +kernel
theorem dX7_person_53 : decode cX7_person 53 = .ok (.iload_n 1, 1) := by decide +kernel
theorem dX7_person_54 : decode cX7_person 54 = .ok (.iload_n 2, 1) := by decide +kernel
theorem dX7_person_55 : decode cX7_person 55 = .ok (.iload_n 3, 1) := by decide +kernel
theorem dX7_person_56 : decode cX7_person 56 = .ok (.invokevirtual 126, 3) := by decide +kernel
theorem dX7_person_59 : decode cX7_person 59 = .ok (.aload_n 0, 1) := by decide +kernel
theorem dX7_person_60 : decode cX7_person 60 = .ok (.getfield 7, 3) := by decide +kernel
theorem dX7_person_63 : decode cX7_person 63 = .ok (.iconst 1, 1) := by decide +kernel
theorem dX7_person_64 : decode cX7_person 64 = .ok (.iaload, 1) := by decide +kernel
theorem dX7_person_65 : decode cX7_person 65 = .ok (.iconst 1, 1) := by decide +kernel
theorem dX7_person_66 : decode cX7_person 66 = .ok (.isub, 1) := by decide +kernel
theorem dX7_person_67 : decode cX7_person 67 = .ok (.ireturn, 1) := by decide +kernel
theorem dX7_show_0 : decode cX7_show 0 = .ok (.aload_n 0, 1) := by decide +kernel
theorem dX7_show_1 : decode cX7_show 1 = .ok (.iload_n 1, 1) := by decide +kernel
theorem dX7_show_2 : decode cX7_show 2 = .ok (.invokevirtual 74, 3) := by decide +kernel
theorem dX7_show_5 : decode cX7_show 5 = .ok (.ifCond .eq 15, 3) := by decide +kernel
theorem dX7_show_8 : decode cX7_show 8 = .ok (.iload_n 2, 1) := by decide +kernel
theorem dX7_show_9 : decode cX7_show 9 = .ok (.i2l, 1) := by decide +kernel
theorem dX7_show_10 : decode cX7_show 10 = .ok (.lconst 0, 1) := by decide +kernel
theorem dX7_show_11 : decode cX7_show 11 = .ok (.ldc2_w 115, 3) := by decide +kernel
theorem dX7_show_14 : decode cX7_show 14 = .ok (.invokestatic 59, 3) := by decide +kernel
theorem dX7_show_17 : decode cX7_show 17 = .ok (.ifCond .ne 5, 3) := by decide +kernel
theorem dX7_show_20 : decode cX7_show 20 = .ok (.iconst (-1), 1) := by decide +kernel
theorem dX7_show_21 : decode cX7_show 21 = .ok (.ireturn, 1) := by decide +kernel
theorem dX7_show_22 : decode cX7_show 22 = .ok (.aload_n 0, 1) := by decide +kernel
theorem dX7_show_23 : decode cX7_show 23 = .ok (.iload_n 1, 1) := by decide +kernel
theorem dX7_show_24 : decode cX7_show 24 = .ok (.iconst 1, 1) := by decide +kernel
theorem dX7_show_25 : decode cX7_show 25 = .ok (.invokevirtual 63, 3) := by decide +kernel
theorem dX7_show_28 : decode cX7_show 28 = .ok (.istore_n 3, 1) := by decide +kernel
theorem dX7_show_29 : decode cX7_show 29 = .ok (.aload_n 0, 1) := by decide +kernel
theorem dX7_show_30 : decode cX7_show 30 = .ok (.getfield 7, 3) := by decide +kernel
theorem dX7_show_33 : decode cX7_show 33 = .ok (.iconst 4, 1) := by decide +kernel
theorem dX7_show_34 : decode cX7_show 34 = .ok (.iconst 3, 1) := by decide +kernel
theorem dX7_show_35 : decode cX7_show 35 = .ok (.iload_n 1, 1) := by decide +kernel
theorem dX7_show_36 : decode cX7_show 36 = .ok (.imul, 1) := by decide +kernel
theorem dX7_show_37 : decode cX7_show 37 = .ok (.iadd, 1) := by decide +kernel
theorem dX7_show_38 : decode cX7_show 38 = .ok (.iconst 1, 1) := by decide +kernel
theorem dX7_show_39 : decode cX7_show 39 = .ok (.iadd, 1) := by decide +kernel
theorem dX7_show_40 : decode cX7_show 40 = .ok (.iload_n 2, 1) := by decide +kernel
theorem dX7_show_41 : decode cX7_show 41 = .ok (.iastore, 1) := by decide +kernel
theorem dX7_show_42 : decode cX7_show 42 = .ok (.iload_n 3, 1) := by decide +kernel
theorem dX7_show_43 : decode cX7_show 43 = .ok (.ireturn, 1) := by decide +kernel
theorem dX7_of_0 : decode cX7_of 0 = .ok (.aload_n 0, 1) := by decide +kernel
theorem dX7_of_1 : decode cX7_of 1 = .ok (.iload_n 1, 1) := by decide +kernel
theorem dX7_of_2 : decode cX7_of 2 = .ok (.invokevirtual 74, 3) := by decide +kernel
theorem dX7_of_5 : decode cX7_of 5 = .ok (.ifCond .eq 15, 3) := by decide +kernel
theorem dX7_of_8 : decode cX7_of 8 = .ok (.iload_n 2, 1) := by decide +kernel
theorem dX7_of_9 : decode cX7_of 9 = .ok (.i2l, 1) := by decide +kernel
theorem dX7_of_10 : decode cX7_of 10 = .ok (.lconst 0, 1) := by decide +kernel
theorem dX7_of_11 : decode cX7_of 11 = .ok (.ldc2_w 113, 3) := by decide +kernel
theorem dX7_of_14 : decode cX7_of 14 = .ok (.invokestatic 59, 3) := by decide +kernel
theorem dX7_of_17 : decode cX7_of 17 = .ok (.ifCond .ne 5, 3) := by decide +kernel
theorem dX7_of_20 : decode cX7_of 20 = .ok (.iconst (-1), 1) := by decide +kernel
theorem dX7_of_21 : decode cX7_of 21 = .ok (.ireturn, 1) := by decide +kernel
theorem dX7_of_22 : decode cX7_of 22 = .ok (.iload_n 2, 1) := by decide +kernel
theorem dX7_of_23 : decode cX7_of 23 = .ok (.iconst 3, 1) := by decide +kernel
theorem dX7_of_24 : decode cX7_of 24 = .ok (.if_icmp .ge 12, 3) := by decide +kernel
theorem dX7_of_27 : decode cX7_of 27 = .ok (.aload_n 0, 1) := by decide +kernel
theorem dX7_of_28 : decode cX7_of 28 = .ok (.iload_n 1, 1) := by decide +kernel
theorem dX7_of_29 : decode cX7_of 29 = .ok (.iload_n 2, 1) := by decide +kernel
theorem dX7_of_30 : decode cX7_of 30 = .ok (.invokevirtual 63, 3) := by decide +kernel
theorem dX7_of_33 : decode cX7_of 33 = .ok (.goto 21, 3) := by decide +kernel
theorem dX7_of_36 : decode cX7_of 36 = .ok (.iload_n 2, 1) := by decide +kernel
theorem dX7_of_37 : decode cX7_of 37 = .ok (.iconst 3, 1) := by decide +kernel
theorem dX7_of_38 : decode cX7_of 38 = .ok (.if_icmp .ne 11, 3) := by decide +kernel
theorem dX7_of_41 : decode cX7_of 41 = .ok (.aload_n 0, 1) := by decide +kernel
theorem dX7_of_42 : decode cX7_of 42 = .ok (.iload_n 1, 1) := by decide +kernel
theorem dX7_of_43 : decode cX7_of 43 = .ok (.invokevirtual 84, 3) := by decide +kernel
theorem dX7_of_46 : decode cX7_of 46 = .ok (.goto 8, 3) := by decide +kernel
theorem dX7_of_49 : decode cX7_of 49 = .ok (.aload_n 0, 1) := by decide +kernel
theorem dX7_of_50 : decode cX7_of 50 = .ok (.iload_n 1, 1) := by decide +kernel
theorem dX7_of_51 : decode cX7_of 51 = .ok (.invokevirtual 99, 3) := by decide +kernel
theorem dX7_of_54 : decode cX7_of 54 = .ok (.ireturn, 1) := by decide +kernel
theorem dX7_at_0 : decode cX7_at 0 = .ok (.aload_n 0, 1) := by decide +kernel
theorem dX7_at_1 : decode cX7_at 1 = .ok (.iload_n 1, 1) := by decide +kernel
theorem dX7_at_2 : decode cX7_at 2 = .ok (.invokevirtual 129, 3) := by decide +kernel
theorem dX7_at_5 : decode cX7_at 5 = .ok (.ifCond .eq 15, 3) := by decide +kernel
theorem dX7_at_8 : decode cX7_at 8 = .ok (.iload_n 2, 1) := by decide +kernel
theorem dX7_at_9 : decode cX7_at 9 = .ok (.i2l, 1) := by decide +kernel
theorem dX7_at_10 : decode cX7_at 10 = .ok (.lconst 0, 1) := by decide +kernel
theorem dX7_at_11 : decode cX7_at 11 = .ok (.ldc2_w 113, 3) := by decide +kernel
theorem dX7_at_14 : decode cX7_at 14 = .ok (.invokestatic 59, 3) := by decide +kernel
theorem dX7_at_17 : decode cX7_at 17 = .ok (.ifCond .ne 5, 3) := by decide +kernel
theorem dX7_at_20 : decode cX7_at 20 = .ok (.iconst (-1), 1) := by decide +kernel
theorem dX7_at_21 : decode cX7_at 21 = .ok (.ireturn, 1) := by decide +kernel
theorem dX7_at_22 : decode cX7_at 22 = .ok (.iload_n 2, 1) := by decide +kernel
theorem dX7_at_23 : decode cX7_at 23 = .ok (.iconst 4, 1) := by decide +kernel
theorem dX7_at_24 : decode cX7_at 24 = .ok (.if_icmp .ge 12, 3) := by decide +kernel
theorem dX7_at_27 : decode cX7_at 27 = .ok (.aload_n 0, 1) := by decide +kernel
theorem dX7_at_28 : decode cX7_at 28 = .ok (.iload_n 1, 1) := by decide +kernel
theorem dX7_at_29 : decode cX7_at 29 = .ok (.iload_n 2, 1) := by decide +kernel
theorem dX7_at_30 : decode cX7_at 30 = .ok (.invokevirtual 67, 3) := by decide +kernel
theorem dX7_at_33 : decode cX7_at 33 = .ok (.goto 8, 3) := by decide +kernel
theorem dX7_at_36 : decode cX7_at 36 = .ok (.aload_n 0, 1) := by decide +kernel
theorem dX7_at_37 : decode cX7_at 37 = .ok (.iload_n 1, 1) := by decide +kernel
theorem dX7_at_38 : decode cX7_at 38 = .ok (.invokevirtual 132, 3) := by decide +kernel
theorem dX7_at_41 : decode cX7_at 41 = .ok (.ireturn, 1) := by decide +kernel
theorem dX7_deepAll_0 : decode cX7_deepAll 0 = .ok (.iconst 0, 1) := by decide +kernel
theorem dX7_deepAll_1 : decode cX7_deepAll 1 = .ok (.istore_n 1, 1) := by decide +kernel
theorem dX7_deepAll_2 : decode cX7_deepAll 2 = .ok (.iconst 0, 1) := by decide +kernel
theorem dX7_deepAll_3 : decode cX7_deepAll 3 = .ok (.istore_n 2, 1) := by decide +kernel
theorem dX7_deepAll_4 : decode cX7_deepAll 4 = .ok (.iload_n 2, 1) := by decide +kernel
theorem dX7_deepAll_5 : decode cX7_deepAll 5 = .ok (.aload_n 0, 1) := by decide +kernel
theorem dX7_deepAll_6 : decode cX7_deepAll 6 = .ok (.getfield 7, 3) := by decide +kernel
theorem dX7_deepAll_9 : decode cX7_deepAll 9 = .ok (.iconst 0, 1) := by decide +kernel
theorem dX7_deepAll_10 : decode cX7_deepAll 10 = .ok (.iaload, 1) := by decide +kernel
theorem dX7_deepAll_11 : decode cX7_deepAll 11 = .ok (.if_icmp .ge 17, 3) := by decide +kernel
theorem dX7_deepAll_14 : decode cX7_deepAll 14 = .ok (.iload_n 1, 1) := by decide +kernel
theorem dX7_deepAll_15 : decode cX7_deepAll 15 = .ok (.aload_n 0, 1) := by decide +kernel
theorem dX7_deepAll_16 : decode cX7_deepAll 16 = .ok (.iload_n 2, 1) := by decide +kernel
theorem dX7_deepAll_17 : decode cX7_deepAll 17 = .ok (.invokevirtual 78, 3) := by decide +kernel
theorem dX7_deepAll_20 : decode cX7_deepAll 20 = .ok (.iadd, 1) := by decide +kernel
theorem dX7_deepAll_21 : decode cX7_deepAll 21 = .ok (.istore_n 1, 1) := by decide +kernel
theorem dX7_deepAll_22 : decode cX7_deepAll 22 = .ok (.iinc 2 1, 3) := by decide +kernel
theorem dX7_deepAll_25 : decode cX7_deepAll 25 = .ok (.goto (-21), 3) := by decide +kernel
theorem dX7_deepAll_28 : decode cX7_deepAll 28 = .ok (.iload_n 1, 1) := by decide +kernel
theorem dX7_deepAll_29 : decode cX7_deepAll 29 = .ok (.ireturn, 1) := by decide +kernel
theorem dX7_dryOnes_0 : decode cX7_dryOnes 0 = .ok (.iconst 0, 1) := by decide +kernel
theorem dX7_dryOnes_1 : decode cX7_dryOnes 1 = .ok (.istore_n 1, 1) := by decide +kernel
theorem dX7_dryOnes_2 : decode cX7_dryOnes 2 = .ok (.iconst 0, 1) := by decide +kernel
theorem dX7_dryOnes_3 : decode cX7_dryOnes 3 = .ok (.istore_n 2, 1) := by decide +kernel
theorem dX7_dryOnes_4 : decode cX7_dryOnes 4 = .ok (.iload_n 2, 1) := by decide +kernel
theorem dX7_dryOnes_5 : decode cX7_dryOnes 5 = .ok (.aload_n 0, 1) := by decide +kernel
theorem dX7_dryOnes_6 : decode cX7_dryOnes 6 = .ok (.getfield 7, 3) := by decide +kernel
theorem dX7_dryOnes_9 : decode cX7_dryOnes 9 = .ok (.iconst 0, 1) := by decide +kernel
theorem dX7_dryOnes_10 : decode cX7_dryOnes 10 = .ok (.iaload, 1) := by decide +kernel
theorem dX7_dryOnes_11 : decode cX7_dryOnes 11 = .ok (.if_icmp .ge 27, 3) := by decide +kernel
theorem dX7_dryOnes_14 : decode cX7_dryOnes 14 = .ok (.iload_n 1, 1) := by decide +kernel
theorem dX7_dryOnes_15 : decode cX7_dryOnes 15 = .ok (.aload_n 0, 1) := by decide +kernel
theorem dX7_dryOnes_16 : decode cX7_dryOnes 16 = .ok (.iload_n 2, 1) := by decide +kernel
theorem dX7_dryOnes_17 : decode cX7_dryOnes 17 = .ok (.invokevirtual 81, 3) := by decide +kernel
theorem dX7_dryOnes_20 : decode cX7_dryOnes 20 = .ok (.ifCond .eq 9, 3) := by decide +kernel
theorem dX7_dryOnes_23 : decode cX7_dryOnes 23 = .ok (.iconst 1, 1) := by decide +kernel
theorem dX7_dryOnes_24 : decode cX7_dryOnes 24 = .ok (.iload_n 2, 1) := by decide +kernel
theorem dX7_dryOnes_25 : decode cX7_dryOnes 25 = .ok (.ishl, 1) := by decide +kernel
theorem dX7_dryOnes_26 : decode cX7_dryOnes 26 = .ok (.goto 4, 3) := by decide +kernel
theorem dX7_dryOnes_29 : decode cX7_dryOnes 29 = .ok (.iconst 0, 1) := by decide +kernel
theorem dX7_dryOnes_30 : decode cX7_dryOnes 30 = .ok (.ior, 1) := by decide +kernel
theorem dX7_dryOnes_31 : decode cX7_dryOnes 31 = .ok (.istore_n 1, 1) := by decide +kernel
theorem dX7_dryOnes_32 : decode cX7_dryOnes 32 = .ok (.iinc 2 1, 3) := by decide +kernel
theorem dX7_dryOnes_35 : decode cX7_dryOnes 35 = .ok (.goto (-31), 3) := by decide +kernel
theorem dX7_dryOnes_38 : decode cX7_dryOnes 38 = .ok (.iload_n 1, 1) := by decide +kernel
theorem dX7_dryOnes_39 : decode cX7_dryOnes 39 = .ok (.ireturn, 1) := by decide +kernel
theorem dX7_claimedOnes_0 : decode cX7_claimedOnes 0 = .ok (.iconst 0, 1) := by decide +kernel
theorem dX7_claimedOnes_1 : decode cX7_claimedOnes 1 = .ok (.istore_n 1, 1) := by decide +kernel
theorem dX7_claimedOnes_2 : decode cX7_claimedOnes 2 = .ok (.iconst 0, 1) := by decide +kernel
theorem dX7_claimedOnes_3 : decode cX7_claimedOnes 3 = .ok (.istore_n 2, 1) := by decide +kernel
theorem dX7_claimedOnes_4 : decode cX7_claimedOnes 4 = .ok (.iload_n 2, 1) := by decide +kernel
theorem dX7_claimedOnes_5 : decode cX7_claimedOnes 5 = .ok (.aload_n 0, 1) := by decide +kernel
theorem dX7_claimedOnes_6 : decode cX7_claimedOnes 6 = .ok (.getfield 7, 3) := by decide +kernel
theorem dX7_claimedOnes_9 : decode cX7_claimedOnes 9 = .ok (.iconst 1, 1) := by decide +kernel
theorem dX7_claimedOnes_10 : decode cX7_claimedOnes 10 = .ok (.iaload, 1) := by decide +kernel
theorem dX7_claimedOnes_11 : decode cX7_claimedOnes 11 = .ok (.if_icmp .ge 33, 3) := by decide +kernel
theorem dX7_claimedOnes_14 : decode cX7_claimedOnes 14 = .ok (.iload_n 1, 1) := by decide +kernel
theorem dX7_claimedOnes_15 : decode cX7_claimedOnes 15 = .ok (.aload_n 0, 1) := by decide +kernel
theorem dX7_claimedOnes_16 : decode cX7_claimedOnes 16 = .ok (.iload_n 2, 1) := by decide +kernel
theorem dX7_claimedOnes_17 : decode cX7_claimedOnes 17 = .ok (.invokevirtual 70, 3) := by decide +kernel
theorem dX7_claimedOnes_20 : decode cX7_claimedOnes 20 = .ok (.bipush (-4), 2) := by decide +kernel
theorem dX7_claimedOnes_22 : decode cX7_claimedOnes 22 = .ok (.if_icmp .ne 7, 3) := by decide +kernel
theorem dX7_claimedOnes_25 : decode cX7_claimedOnes 25 = .ok (.iconst 0, 1) := by decide +kernel
theorem dX7_claimedOnes_26 : decode cX7_claimedOnes 26 = .ok (.goto 10, 3) := by decide +kernel
theorem dX7_claimedOnes_29 : decode cX7_claimedOnes 29 = .ok (.iconst 1, 1) := by decide +kernel
theorem dX7_claimedOnes_30 : decode cX7_claimedOnes 30 = .ok (.aload_n 0, 1) := by decide +kernel
theorem dX7_claimedOnes_31 : decode cX7_claimedOnes 31 = .ok (.iload_n 2, 1) := by decide +kernel
theorem dX7_claimedOnes_32 : decode cX7_claimedOnes 32 = .ok (.invokevirtual 70, 3) := by decide +kernel
theorem dX7_claimedOnes_35 : decode cX7_claimedOnes 35 = .ok (.ishl, 1) := by decide +kernel
theorem dX7_claimedOnes_36 : decode cX7_claimedOnes 36 = .ok (.ior, 1) := by decide +kernel
theorem dX7_claimedOnes_37 : decode cX7_claimedOnes 37 = .ok (.istore_n 1, 1) := by decide +kernel
theorem dX7_claimedOnes_38 : decode cX7_claimedOnes 38 = .ok (.iinc 2 1, 3) := by decide +kernel
theorem dX7_claimedOnes_41 : decode cX7_claimedOnes 41 = .ok (.goto (-37), 3) := by decide +kernel
theorem dX7_claimedOnes_44 : decode cX7_claimedOnes 44 = .ok (.iload_n 1, 1) := by decide +kernel
theorem dX7_claimedOnes_45 : decode cX7_claimedOnes 45 = .ok (.ireturn, 1) := by decide +kernel
theorem dX7_count_0 : decode cX7_count 0 = .ok (.iload_n 1, 1) := by decide +kernel
theorem dX7_count_1 : decode cX7_count 1 = .ok (.tableswitch 79 0 7 #[47, 47, 47, 54, 59, 64, 69, 74], 47) := by decide +kernel
theorem dX7_count_48 : decode cX7_count 48 = .ok (.aload_n 0, 1) := by decide +kernel
theorem dX7_count_49 : decode cX7_count 49 = .ok (.getfield 7, 3) := by decide +kernel
theorem dX7_count_52 : decode cX7_count 52 = .ok (.iload_n 1, 1) := by decide +kernel
theorem dX7_count_53 : decode cX7_count 53 = .ok (.iaload, 1) := by decide +kernel
theorem dX7_count_54 : decode cX7_count 54 = .ok (.ireturn, 1) := by decide +kernel
theorem dX7_count_55 : decode cX7_count 55 = .ok (.aload_n 0, 1) := by decide +kernel
theorem dX7_count_56 : decode cX7_count 56 = .ok (.invokevirtual 135, 3) := by decide +kernel
theorem dX7_count_59 : decode cX7_count 59 = .ok (.ireturn, 1) := by decide +kernel
theorem dX7_count_60 : decode cX7_count 60 = .ok (.aload_n 0, 1) := by decide +kernel
theorem dX7_count_61 : decode cX7_count 61 = .ok (.invokevirtual 139, 3) := by decide +kernel
theorem dX7_count_64 : decode cX7_count 64 = .ok (.ireturn, 1) := by decide +kernel
theorem dX7_count_65 : decode cX7_count 65 = .ok (.aload_n 0, 1) := by decide +kernel
theorem dX7_count_66 : decode cX7_count 66 = .ok (.invokevirtual 142, 3) := by decide +kernel
theorem dX7_count_69 : decode cX7_count 69 = .ok (.ireturn, 1) := by decide +kernel
theorem dX7_count_70 : decode cX7_count 70 = .ok (.aload_n 0, 1) := by decide +kernel
theorem dX7_count_71 : decode cX7_count 71 = .ok (.invokevirtual 145, 3) := by decide +kernel
theorem dX7_count_74 : decode cX7_count 74 = .ok (.ireturn, 1) := by decide +kernel
theorem dX7_count_75 : decode cX7_count 75 = .ok (.aload_n 0, 1) := by decide +kernel
theorem dX7_count_76 : decode cX7_count 76 = .ok (.getfield 109, 3) := by decide +kernel
theorem dX7_count_79 : decode cX7_count 79 = .ok (.ireturn, 1) := by decide +kernel
theorem dX7_count_80 : decode cX7_count 80 = .ok (.iconst (-1), 1) := by decide +kernel
theorem dX7_count_81 : decode cX7_count 81 = .ok (.ireturn, 1) := by decide +kernel
theorem dX7_type_0 : decode cX7_type 0 = .ok (.iload_n 1, 1) := by decide +kernel
theorem dX7_type_1 : decode cX7_type 1 = .ok (.i2l, 1) := by decide +kernel
theorem dX7_type_2 : decode cX7_type 2 = .ok (.ldc2_w 148, 3) := by decide +kernel
theorem dX7_type_5 : decode cX7_type 5 = .ok (.ldc2_w 150, 3) := by decide +kernel
theorem dX7_type_8 : decode cX7_type 8 = .ok (.invokestatic 59, 3) := by decide +kernel
theorem dX7_type_11 : decode cX7_type 11 = .ok (.ifCond .ne 5, 3) := by decide +kernel
theorem dX7_type_14 : decode cX7_type 14 = .ok (.iconst (-1), 1) := by decide +kernel
theorem dX7_type_15 : decode cX7_type 15 = .ok (.ireturn, 1) := by decide +kernel
theorem dX7_type_16 : decode cX7_type 16 = .ok (.aload_n 0, 1) := by decide +kernel
theorem dX7_type_17 : decode cX7_type 17 = .ok (.getfield 152, 3) := by decide +kernel
theorem dX7_type_20 : decode cX7_type 20 = .ok (.bipush 90, 2) := by decide +kernel
theorem dX7_type_22 : decode cX7_type 22 = .ok (.if_icmp .ne 6, 3) := by decide +kernel
theorem dX7_type_25 : decode cX7_type 25 = .ok (.bipush (-3), 2) := by decide +kernel
theorem dX7_type_27 : decode cX7_type 27 = .ok (.ireturn, 1) := by decide +kernel
theorem dX7_type_28 : decode cX7_type 28 = .ok (.aload_n 0, 1) := by decide +kernel
theorem dX7_type_29 : decode cX7_type 29 = .ok (.getfield 16, 3) := by decide +kernel
theorem dX7_type_32 : decode cX7_type 32 = .ok (.aload_n 0, 1) := by decide +kernel
theorem dX7_type_33 : decode cX7_type 33 = .ok (.getfield 152, 3) := by decide +kernel
theorem dX7_type_36 : decode cX7_type 36 = .ok (.iload_n 1, 1) := by decide +kernel
theorem dX7_type_37 : decode cX7_type 37 = .ok (.iastore, 1) := by decide +kernel
theorem dX7_type_38 : decode cX7_type 38 = .ok (.aload_n 0, 1) := by decide +kernel
theorem dX7_type_39 : decode cX7_type 39 = .ok (.dup, 1) := by decide +kernel
theorem dX7_type_40 : decode cX7_type 40 = .ok (.getfield 152, 3) := by decide +kernel
theorem dX7_type_43 : decode cX7_type 43 = .ok (.iconst 1, 1) := by decide +kernel
theorem dX7_type_44 : decode cX7_type 44 = .ok (.iadd, 1) := by decide +kernel
theorem dX7_type_45 : decode cX7_type 45 = .ok (.putfield 152, 3) := by decide +kernel
theorem dX7_type_48 : decode cX7_type 48 = .ok (.aload_n 0, 1) := by decide +kernel
theorem dX7_type_49 : decode cX7_type 49 = .ok (.getfield 152, 3) := by decide +kernel
theorem dX7_type_52 : decode cX7_type 52 = .ok (.ireturn, 1) := by decide +kernel
theorem dX7_here_0 : decode cX7_here 0 = .ok (.aload_n 0, 1) := by decide +kernel
theorem dX7_here_1 : decode cX7_here 1 = .ok (.getfield 155, 3) := by decide +kernel
theorem dX7_here_4 : decode cX7_here 4 = .ok (.aload_n 0, 1) := by decide +kernel
theorem dX7_here_5 : decode cX7_here 5 = .ok (.getfield 152, 3) := by decide +kernel
theorem dX7_here_8 : decode cX7_here 8 = .ok (.if_icmp .ge 30, 3) := by decide +kernel
theorem dX7_here_11 : decode cX7_here 11 = .ok (.aload_n 0, 1) := by decide +kernel
theorem dX7_here_12 : decode cX7_here 12 = .ok (.getfield 16, 3) := by decide +kernel
theorem dX7_here_15 : decode cX7_here 15 = .ok (.aload_n 0, 1) := by decide +kernel
theorem dX7_here_16 : decode cX7_here 16 = .ok (.getfield 155, 3) := by decide +kernel
theorem dX7_here_19 : decode cX7_here 19 = .ok (.iaload, 1) := by decide +kernel
theorem dX7_here_20 : decode cX7_here 20 = .ok (.bipush 32, 2) := by decide +kernel
theorem dX7_here_22 : decode cX7_here 22 = .ok (.if_icmp .ne 16, 3) := by decide +kernel
theorem dX7_here_25 : decode cX7_here 25 = .ok (.aload_n 0, 1) := by decide +kernel
theorem dX7_here_26 : decode cX7_here 26 = .ok (.dup, 1) := by decide +kernel
theorem dX7_here_27 : decode cX7_here 27 = .ok (.getfield 155, 3) := by decide +kernel
theorem dX7_here_30 : decode cX7_here 30 = .ok (.iconst 1, 1) := by decide +kernel
theorem dX7_here_31 : decode cX7_here 31 = .ok (.iadd, 1) := by decide +kernel
theorem dX7_here_32 : decode cX7_here 32 = .ok (.putfield 155, 3) := by decide +kernel
theorem dX7_here_35 : decode cX7_here 35 = .ok (.goto (-35), 3) := by decide +kernel
theorem dX7_here_38 : decode cX7_here 38 = .ok (.aload_n 0, 1) := by decide +kernel
theorem dX7_here_39 : decode cX7_here 39 = .ok (.getfield 155, 3) := by decide +kernel
theorem dX7_here_42 : decode cX7_here 42 = .ok (.aload_n 0, 1) := by decide +kernel
theorem dX7_here_43 : decode cX7_here 43 = .ok (.getfield 152, 3) := by decide +kernel
theorem dX7_here_46 : decode cX7_here 46 = .ok (.if_icmp .ge 15, 3) := by decide +kernel
theorem dX7_here_49 : decode cX7_here 49 = .ok (.aload_n 0, 1) := by decide +kernel
theorem dX7_here_50 : decode cX7_here 50 = .ok (.getfield 16, 3) := by decide +kernel
theorem dX7_here_53 : decode cX7_here 53 = .ok (.aload_n 0, 1) := by decide +kernel
theorem dX7_here_54 : decode cX7_here 54 = .ok (.getfield 155, 3) := by decide +kernel
theorem dX7_here_57 : decode cX7_here 57 = .ok (.iaload, 1) := by decide +kernel
theorem dX7_here_58 : decode cX7_here 58 = .ok (.goto 4, 3) := by decide +kernel
theorem dX7_here_61 : decode cX7_here 61 = .ok (.iconst 0, 1) := by decide +kernel
theorem dX7_here_62 : decode cX7_here 62 = .ok (.ireturn, 1) := by decide +kernel
theorem dX7_must_0 : decode cX7_must 0 = .ok (.aload_n 0, 1) := by decide +kernel
theorem dX7_must_1 : decode cX7_must 1 = .ok (.aload_n 0, 1) := by decide +kernel
theorem dX7_must_2 : decode cX7_must 2 = .ok (.getfield 158, 3) := by decide +kernel
theorem dX7_must_5 : decode cX7_must 5 = .ok (.ifCond .ne 7, 3) := by decide +kernel
theorem dX7_must_8 : decode cX7_must 8 = .ok (.iload_n 1, 1) := by decide +kernel
theorem dX7_must_9 : decode cX7_must 9 = .ok (.ifCond .ne 7, 3) := by decide +kernel
theorem dX7_must_12 : decode cX7_must 12 = .ok (.iconst 1, 1) := by decide +kernel
theorem dX7_must_13 : decode cX7_must 13 = .ok (.goto 4, 3) := by decide +kernel
theorem dX7_must_16 : decode cX7_must 16 = .ok (.iconst 0, 1) := by decide +kernel
theorem dX7_must_17 : decode cX7_must 17 = .ok (.putfield 158, 3) := by decide +kernel
theorem dX7_must_20 : decode cX7_must 20 = .ok (.aload_n 0, 1) := by decide +kernel
theorem dX7_must_21 : decode cX7_must 21 = .ok (.dup, 1) := by decide +kernel
theorem dX7_must_22 : decode cX7_must 22 = .ok (.getfield 155, 3) := by decide +kernel
theorem dX7_must_25 : decode cX7_must 25 = .ok (.aload_n 0, 1) := by decide +kernel
theorem dX7_must_26 : decode cX7_must 26 = .ok (.getfield 158, 3) := by decide +kernel
theorem dX7_must_29 : decode cX7_must 29 = .ok (.ifCond .eq 7, 3) := by decide +kernel
theorem dX7_must_32 : decode cX7_must 32 = .ok (.iconst 0, 1) := by decide +kernel
theorem dX7_must_33 : decode cX7_must 33 = .ok (.goto 4, 3) := by decide +kernel
theorem dX7_must_36 : decode cX7_must 36 = .ok (.iconst 1, 1) := by decide +kernel
theorem dX7_must_37 : decode cX7_must 37 = .ok (.iadd, 1) := by decide +kernel
theorem dX7_must_38 : decode cX7_must 38 = .ok (.putfield 155, 3) := by decide +kernel
theorem dX7_must_41 : decode cX7_must 41 = .ok (.return_, 1) := by decide +kernel
theorem dX7_digit_0 : decode cX7_digit 0 = .ok (.aload_n 0, 1) := by decide +kernel
theorem dX7_digit_1 : decode cX7_digit 1 = .ok (.getfield 158, 3) := by decide +kernel
theorem dX7_digit_4 : decode cX7_digit 4 = .ok (.ifCond .eq 7, 3) := by decide +kernel
theorem dX7_digit_7 : decode cX7_digit 7 = .ok (.iconst (-1), 1) := by decide +kernel
theorem dX7_digit_8 : decode cX7_digit 8 = .ok (.goto 10, 3) := by decide +kernel
theorem dX7_digit_11 : decode cX7_digit 11 = .ok (.aload_n 0, 1) := by decide +kernel
theorem dX7_digit_12 : decode cX7_digit 12 = .ok (.invokevirtual 162, 3) := by decide +kernel
theorem dX7_digit_15 : decode cX7_digit 15 = .ok (.bipush 48, 2) := by decide +kernel
theorem dX7_digit_17 : decode cX7_digit 17 = .ok (.isub, 1) := by decide +kernel
theorem dX7_digit_18 : decode cX7_digit 18 = .ok (.istore_n 2, 1) := by decide +kernel
theorem dX7_digit_19 : decode cX7_digit 19 = .ok (.aload_n 0, 1) := by decide +kernel
theorem dX7_digit_20 : decode cX7_digit 20 = .ok (.iload_n 2, 1) := by decide +kernel
theorem dX7_digit_21 : decode cX7_digit 21 = .ok (.i2l, 1) := by decide +kernel
theorem dX7_digit_22 : decode cX7_digit 22 = .ok (.lconst 0, 1) := by decide +kernel
theorem dX7_digit_23 : decode cX7_digit 23 = .ok (.iload_n 1, 1) := by decide +kernel
theorem dX7_digit_24 : decode cX7_digit 24 = .ok (.i2l, 1) := by decide +kernel
theorem dX7_digit_25 : decode cX7_digit 25 = .ok (.invokestatic 59, 3) := by decide +kernel
theorem dX7_digit_28 : decode cX7_digit 28 = .ok (.invokevirtual 165, 3) := by decide +kernel
theorem dX7_digit_31 : decode cX7_digit 31 = .ok (.iload_n 2, 1) := by decide +kernel
theorem dX7_digit_32 : decode cX7_digit 32 = .ok (.ireturn, 1) := by decide +kernel
theorem dX7_number_0 : decode cX7_number 0 = .ok (.aload_n 0, 1) := by decide +kernel
theorem dX7_number_1 : decode cX7_number 1 = .ok (.getfield 158, 3) := by decide +kernel
theorem dX7_number_4 : decode cX7_number 4 = .ok (.ifCond .eq 7, 3) := by decide +kernel
theorem dX7_number_7 : decode cX7_number 7 = .ok (.iconst 0, 1) := by decide +kernel
theorem dX7_number_8 : decode cX7_number 8 = .ok (.goto 7, 3) := by decide +kernel
theorem dX7_number_11 : decode cX7_number 11 = .ok (.aload_n 0, 1) := by decide +kernel
theorem dX7_number_12 : decode cX7_number 12 = .ok (.invokevirtual 162, 3) := by decide +kernel
theorem dX7_number_15 : decode cX7_number 15 = .ok (.istore_n 3, 1) := by decide +kernel
theorem dX7_number_16 : decode cX7_number 16 = .ok (.aload_n 0, 1) := by decide +kernel
theorem dX7_number_17 : decode cX7_number 17 = .ok (.getfield 155, 3) := by decide +kernel
theorem dX7_number_20 : decode cX7_number 20 = .ok (.istore 4, 2) := by decide +kernel
theorem dX7_number_22 : decode cX7_number 22 = .ok (.iconst 0, 1) := by decide +kernel
theorem dX7_number_23 : decode cX7_number 23 = .ok (.istore 5, 2) := by decide +kernel
theorem dX7_number_25 : decode cX7_number 25 = .ok (.aload_n 0, 1) := by decide +kernel
theorem dX7_number_26 : decode cX7_number 26 = .ok (.aload_n 0, 1) := by decide +kernel
theorem dX7_number_27 : decode cX7_number 27 = .ok (.getfield 158, 3) := by decide +kernel
theorem dX7_number_30 : decode cX7_number 30 = .ok (.ifCond .ne 17, 3) := by decide +kernel
theorem dX7_number_33 : decode cX7_number 33 = .ok (.iload_n 3, 1) := by decide +kernel
theorem dX7_number_34 : decode cX7_number 34 = .ok (.i2l, 1) := by decide +kernel
theorem dX7_number_35 : decode cX7_number 35 = .ok (.ldc2_w 169, 3) := by decide +kernel
theorem dX7_number_38 : decode cX7_number 38 = .ok (.ldc2_w 171, 3) := by decide +kernel
theorem dX7_number_41 : decode cX7_number 41 = .ok (.invokestatic 59, 3) := by decide +kernel
theorem dX7_number_44 : decode cX7_number 44 = .ok (.ifCond .ne 7, 3) := by decide +kernel
theorem dX7_number_47 : decode cX7_number 47 = .ok (.iconst 1, 1) := by decide +kernel
theorem dX7_number_48 : decode cX7_number 48 = .ok (.goto 4, 3) := by decide +kernel
theorem dX7_number_51 : decode cX7_number 51 = .ok (.iconst 0, 1) := by decide +kernel
theorem dX7_number_52 : decode cX7_number 52 = .ok (.putfield 158, 3) := by decide +kernel
theorem dX7_number_55 : decode cX7_number 55 = .ok (.aload_n 0, 1) := by decide +kernel
theorem dX7_number_56 : decode cX7_number 56 = .ok (.getfield 158, 3) := by decide +kernel
theorem dX7_number_59 : decode cX7_number 59 = .ok (.ifCond .ne 80, 3) := by decide +kernel
theorem dX7_number_62 : decode cX7_number 62 = .ok (.aload_n 0, 1) := by decide +kernel
theorem dX7_number_63 : decode cX7_number 63 = .ok (.getfield 155, 3) := by decide +kernel
theorem dX7_number_66 : decode cX7_number 66 = .ok (.aload_n 0, 1) := by decide +kernel
theorem dX7_number_67 : decode cX7_number 67 = .ok (.getfield 152, 3) := by decide +kernel
theorem dX7_number_70 : decode cX7_number 70 = .ok (.if_icmp .ge 69, 3) := by decide +kernel
theorem dX7_number_73 : decode cX7_number 73 = .ok (.aload_n 0, 1) := by decide +kernel
theorem dX7_number_74 : decode cX7_number 74 = .ok (.getfield 155, 3) := by decide +kernel
theorem dX7_number_77 : decode cX7_number 77 = .ok (.iload 4, 2) := by decide +kernel
theorem dX7_number_79 : decode cX7_number 79 = .ok (.isub, 1) := by decide +kernel
theorem dX7_number_80 : decode cX7_number 80 = .ok (.iconst 2, 1) := by decide +kernel
theorem dX7_number_81 : decode cX7_number 81 = .ok (.if_icmp .ge 58, 3) := by decide +kernel
theorem dX7_number_84 : decode cX7_number 84 = .ok (.aload_n 0, 1) := by decide +kernel
theorem dX7_number_85 : decode cX7_number 85 = .ok (.getfield 16, 3) := by decide +kernel
theorem dX7_number_88 : decode cX7_number 88 = .ok (.aload_n 0, 1) := by decide +kernel
theorem dX7_number_89 : decode cX7_number 89 = .ok (.getfield 155, 3) := by decide +kernel
theorem dX7_number_92 : decode cX7_number 92 = .ok (.iaload, 1) := by decide +kernel
theorem dX7_number_93 : decode cX7_number 93 = .ok (.i2l, 1) := by decide +kernel
theorem dX7_number_94 : decode cX7_number 94 = .ok (.ldc2_w 169, 3) := by decide +kernel
theorem dX7_number_97 : decode cX7_number 97 = .ok (.ldc2_w 171, 3) := by decide +kernel
theorem dX7_number_100 : decode cX7_number 100 = .ok (.invokestatic 59, 3) := by decide +kernel
theorem dX7_number_103 : decode cX7_number 103 = .ok (.ifCond .eq 36, 3) := by decide +kernel
theorem dX7_number_106 : decode cX7_number 106 = .ok (.bipush 10, 2) := by decide +kernel
theorem dX7_number_108 : decode cX7_number 108 = .ok (.iload 5, 2) := by decide +kernel
theorem dX7_number_110 : decode cX7_number 110 = .ok (.imul, 1) := by decide +kernel
theorem dX7_number_111 : decode cX7_number 111 = .ok (.aload_n 0, 1) := by decide +kernel
theorem dX7_number_112 : decode cX7_number 112 = .ok (.getfield 16, 3) := by decide +kernel
theorem dX7_number_115 : decode cX7_number 115 = .ok (.aload_n 0, 1) := by decide +kernel
theorem dX7_number_116 : decode cX7_number 116 = .ok (.getfield 155, 3) := by decide +kernel
theorem dX7_number_119 : decode cX7_number 119 = .ok (.iaload, 1) := by decide +kernel
theorem dX7_number_120 : decode cX7_number 120 = .ok (.iadd, 1) := by decide +kernel
theorem dX7_number_121 : decode cX7_number 121 = .ok (.bipush 48, 2) := by decide +kernel
theorem dX7_number_123 : decode cX7_number 123 = .ok (.isub, 1) := by decide +kernel
theorem dX7_number_124 : decode cX7_number 124 = .ok (.istore 5, 2) := by decide +kernel
theorem dX7_number_126 : decode cX7_number 126 = .ok (.aload_n 0, 1) := by decide +kernel
theorem dX7_number_127 : decode cX7_number 127 = .ok (.dup, 1) := by decide +kernel
theorem dX7_number_128 : decode cX7_number 128 = .ok (.getfield 155, 3) := by decide +kernel
theorem dX7_number_131 : decode cX7_number 131 = .ok (.iconst 1, 1) := by decide +kernel
theorem dX7_number_132 : decode cX7_number 132 = .ok (.iadd, 1) := by decide +kernel
theorem dX7_number_133 : decode cX7_number 133 = .ok (.putfield 155, 3) := by decide +kernel
theorem dX7_number_136 : decode cX7_number 136 = .ok (.goto (-81), 3) := by decide +kernel
theorem dX7_number_139 : decode cX7_number 139 = .ok (.aload_n 0, 1) := by decide +kernel
theorem dX7_number_140 : decode cX7_number 140 = .ok (.getfield 158, 3) := by decide +kernel
theorem dX7_number_143 : decode cX7_number 143 = .ok (.ifCond .ne 27, 3) := by decide +kernel
theorem dX7_number_146 : decode cX7_number 146 = .ok (.iload 5, 2) := by decide +kernel
theorem dX7_number_148 : decode cX7_number 148 = .ok (.i2l, 1) := by decide +kernel
theorem dX7_number_149 : decode cX7_number 149 = .ok (.iload_n 1, 1) := by decide +kernel
theorem dX7_number_150 : decode cX7_number 150 = .ok (.i2l, 1) := by decide +kernel
theorem dX7_number_151 : decode cX7_number 151 = .ok (.iload_n 2, 1) := by decide +kernel
theorem dX7_number_152 : decode cX7_number 152 = .ok (.i2l, 1) := by decide +kernel
theorem dX7_number_153 : decode cX7_number 153 = .ok (.invokestatic 59, 3) := by decide +kernel
theorem dX7_number_156 : decode cX7_number 156 = .ok (.ifCond .ne 14, 3) := by decide +kernel
theorem dX7_number_159 : decode cX7_number 159 = .ok (.aload_n 0, 1) := by decide +kernel
theorem dX7_number_160 : decode cX7_number 160 = .ok (.iconst 1, 1) := by decide +kernel
theorem dX7_number_161 : decode cX7_number 161 = .ok (.putfield 158, 3) := by decide +kernel
theorem dX7_number_164 : decode cX7_number 164 = .ok (.aload_n 0, 1) := by decide +kernel
theorem dX7_number_165 : decode cX7_number 165 = .ok (.iload 4, 2) := by decide +kernel
theorem dX7_number_167 : decode cX7_number 167 = .ok (.putfield 155, 3) := by decide +kernel
theorem dX7_number_170 : decode cX7_number 170 = .ok (.iload 5, 2) := by decide +kernel
theorem dX7_number_172 : decode cX7_number 172 = .ok (.ireturn, 1) := by decide +kernel
theorem dX7_numberBehind_0 : decode cX7_numberBehind 0 = .ok (.aload_n 0, 1) := by decide +kernel
theorem dX7_numberBehind_1 : decode cX7_numberBehind 1 = .ok (.getfield 158, 3) := by decide +kernel
theorem dX7_numberBehind_4 : decode cX7_numberBehind 4 = .ok (.ifCond .ne 11, 3) := by decide +kernel
theorem dX7_numberBehind_7 : decode cX7_numberBehind 7 = .ok (.aload_n 0, 1) := by decide +kernel
theorem dX7_numberBehind_8 : decode cX7_numberBehind 8 = .ok (.invokevirtual 162, 3) := by decide +kernel
theorem dX7_numberBehind_11 : decode cX7_numberBehind 11 = .ok (.iload_n 1, 1) := by decide +kernel
theorem dX7_numberBehind_12 : decode cX7_numberBehind 12 = .ok (.if_icmp .eq 6, 3) := by decide +kernel
theorem dX7_numberBehind_15 : decode cX7_numberBehind 15 = .ok (.iload 4, 2) := by decide +kernel
theorem dX7_numberBehind_17 : decode cX7_numberBehind 17 = .ok (.ireturn, 1) := by decide +kernel
theorem dX7_numberBehind_18 : decode cX7_numberBehind 18 = .ok (.aload_n 0, 1) := by decide +kernel
theorem dX7_numberBehind_19 : decode cX7_numberBehind 19 = .ok (.dup, 1) := by decide +kernel
theorem dX7_numberBehind_20 : decode cX7_numberBehind 20 = .ok (.getfield 155, 3) := by decide +kernel
theorem dX7_numberBehind_23 : decode cX7_numberBehind 23 = .ok (.iconst 1, 1) := by decide +kernel
theorem dX7_numberBehind_24 : decode cX7_numberBehind 24 = .ok (.iadd, 1) := by decide +kernel
theorem dX7_numberBehind_25 : decode cX7_numberBehind 25 = .ok (.putfield 155, 3) := by decide +kernel
theorem dX7_numberBehind_28 : decode cX7_numberBehind 28 = .ok (.aload_n 0, 1) := by decide +kernel
theorem dX7_numberBehind_29 : decode cX7_numberBehind 29 = .ok (.iload_n 2, 1) := by decide +kernel
theorem dX7_numberBehind_30 : decode cX7_numberBehind 30 = .ok (.iload_n 3, 1) := by decide +kernel
theorem dX7_numberBehind_31 : decode cX7_numberBehind 31 = .ok (.invokevirtual 173, 3) := by decide +kernel
theorem dX7_numberBehind_34 : decode cX7_numberBehind 34 = .ok (.ireturn, 1) := by decide +kernel
theorem dX7_puddlesRead_0 : decode cX7_puddlesRead 0 = .ok (.iconst 0, 1) := by decide +kernel
theorem dX7_puddlesRead_1 : decode cX7_puddlesRead 1 = .ok (.istore_n 1, 1) := by decide +kernel
theorem dX7_puddlesRead_2 : decode cX7_puddlesRead 2 = .ok (.aload_n 0, 1) := by decide +kernel
theorem dX7_puddlesRead_3 : decode cX7_puddlesRead 3 = .ok (.getfield 158, 3) := by decide +kernel
theorem dX7_puddlesRead_6 : decode cX7_puddlesRead 6 = .ok (.ifCond .ne 179, 3) := by decide +kernel
theorem dX7_puddlesRead_9 : decode cX7_puddlesRead 9 = .ok (.iload_n 1, 1) := by decide +kernel
theorem dX7_puddlesRead_10 : decode cX7_puddlesRead 10 = .ok (.ifCond .eq 12, 3) := by decide +kernel
theorem dX7_puddlesRead_13 : decode cX7_puddlesRead 13 = .ok (.aload_n 0, 1) := by decide +kernel
theorem dX7_puddlesRead_14 : decode cX7_puddlesRead 14 = .ok (.invokevirtual 162, 3) := by decide +kernel
theorem dX7_puddlesRead_17 : decode cX7_puddlesRead 17 = .ok (.bipush 44, 2) := by decide +kernel
theorem dX7_puddlesRead_19 : decode cX7_puddlesRead 19 = .ok (.if_icmp .ne 166, 3) := by decide +kernel
theorem dX7_puddlesRead_22 : decode cX7_puddlesRead 22 = .ok (.iload_n 1, 1) := by decide +kernel
theorem dX7_puddlesRead_23 : decode cX7_puddlesRead 23 = .ok (.ifCond .le 18, 3) := by decide +kernel
theorem dX7_puddlesRead_26 : decode cX7_puddlesRead 26 = .ok (.aload_n 0, 1) := by decide +kernel
theorem dX7_puddlesRead_27 : decode cX7_puddlesRead 27 = .ok (.iload_n 1, 1) := by decide +kernel
theorem dX7_puddlesRead_28 : decode cX7_puddlesRead 28 = .ok (.bipush 7, 2) := by decide +kernel
theorem dX7_puddlesRead_30 : decode cX7_puddlesRead 30 = .ok (.if_icmp .ge 7, 3) := by decide +kernel
theorem dX7_puddlesRead_33 : decode cX7_puddlesRead 33 = .ok (.iconst 1, 1) := by decide +kernel
theorem dX7_puddlesRead_34 : decode cX7_puddlesRead 34 = .ok (.goto 4, 3) := by decide +kernel
theorem dX7_puddlesRead_37 : decode cX7_puddlesRead 37 = .ok (.iconst 0, 1) := by decide +kernel
theorem dX7_puddlesRead_38 : decode cX7_puddlesRead 38 = .ok (.invokevirtual 165, 3) := by decide +kernel
theorem dX7_puddlesRead_41 : decode cX7_puddlesRead 41 = .ok (.aload_n 0, 1) := by decide +kernel
theorem dX7_puddlesRead_42 : decode cX7_puddlesRead 42 = .ok (.getfield 158, 3) := by decide +kernel
theorem dX7_puddlesRead_45 : decode cX7_puddlesRead 45 = .ok (.ifCond .eq 7, 3) := by decide +kernel
theorem dX7_puddlesRead_48 : decode cX7_puddlesRead 48 = .ok (.iconst 0, 1) := by decide +kernel
theorem dX7_puddlesRead_49 : decode cX7_puddlesRead 49 = .ok (.goto 7, 3) := by decide +kernel
theorem dX7_puddlesRead_52 : decode cX7_puddlesRead 52 = .ok (.aload_n 0, 1) := by decide +kernel
theorem dX7_puddlesRead_53 : decode cX7_puddlesRead 53 = .ok (.invokevirtual 162, 3) := by decide +kernel
theorem dX7_puddlesRead_56 : decode cX7_puddlesRead 56 = .ok (.istore_n 2, 1) := by decide +kernel
theorem dX7_puddlesRead_57 : decode cX7_puddlesRead 57 = .ok (.iload_n 2, 1) := by decide +kernel
theorem dX7_puddlesRead_58 : decode cX7_puddlesRead 58 = .ok (.bipush 112, 2) := by decide +kernel
theorem dX7_puddlesRead_60 : decode cX7_puddlesRead 60 = .ok (.if_icmp .ne 7, 3) := by decide +kernel
theorem dX7_puddlesRead_63 : decode cX7_puddlesRead 63 = .ok (.iconst 0, 1) := by decide +kernel
theorem dX7_puddlesRead_64 : decode cX7_puddlesRead 64 = .ok (.goto 44, 3) := by decide +kernel
theorem dX7_puddlesRead_67 : decode cX7_puddlesRead 67 = .ok (.iload_n 2, 1) := by decide +kernel
theorem dX7_puddlesRead_68 : decode cX7_puddlesRead 68 = .ok (.bipush 115, 2) := by decide +kernel
theorem dX7_puddlesRead_70 : decode cX7_puddlesRead 70 = .ok (.if_icmp .ne 7, 3) := by decide +kernel
theorem dX7_puddlesRead_73 : decode cX7_puddlesRead 73 = .ok (.iconst 1, 1) := by decide +kernel
theorem dX7_puddlesRead_74 : decode cX7_puddlesRead 74 = .ok (.goto 34, 3) := by decide +kernel
theorem dX7_puddlesRead_77 : decode cX7_puddlesRead 77 = .ok (.iload_n 2, 1) := by decide +kernel
theorem dX7_puddlesRead_78 : decode cX7_puddlesRead 78 = .ok (.bipush 107, 2) := by decide +kernel
theorem dX7_puddlesRead_80 : decode cX7_puddlesRead 80 = .ok (.if_icmp .ne 7, 3) := by decide +kernel
theorem dX7_puddlesRead_83 : decode cX7_puddlesRead 83 = .ok (.iconst 2, 1) := by decide +kernel
theorem dX7_puddlesRead_84 : decode cX7_puddlesRead 84 = .ok (.goto 24, 3) := by decide +kernel
theorem dX7_puddlesRead_87 : decode cX7_puddlesRead 87 = .ok (.iload_n 2, 1) := by decide +kernel
theorem dX7_puddlesRead_88 : decode cX7_puddlesRead 88 = .ok (.bipush 119, 2) := by decide +kernel
theorem dX7_puddlesRead_90 : decode cX7_puddlesRead 90 = .ok (.if_icmp .ne 7, 3) := by decide +kernel
theorem dX7_puddlesRead_93 : decode cX7_puddlesRead 93 = .ok (.iconst 3, 1) := by decide +kernel
theorem dX7_puddlesRead_94 : decode cX7_puddlesRead 94 = .ok (.goto 14, 3) := by decide +kernel
theorem dX7_puddlesRead_97 : decode cX7_puddlesRead 97 = .ok (.iload_n 2, 1) := by decide +kernel
theorem dX7_puddlesRead_98 : decode cX7_puddlesRead 98 = .ok (.bipush 103, 2) := by decide +kernel
theorem dX7_puddlesRead_100 : decode cX7_puddlesRead 100 = .ok (.if_icmp .ne 7, 3) := by decide +kernel
theorem dX7_puddlesRead_103 : decode cX7_puddlesRead 103 = .ok (.iconst 4, 1) := by decide +kernel
theorem dX7_puddlesRead_104 : decode cX7_puddlesRead 104 = .ok (.goto 4, 3) := by decide +kernel
theorem dX7_puddlesRead_107 : decode cX7_puddlesRead 107 = .ok (.iconst (-1), 1) := by decide +kernel
theorem dX7_puddlesRead_108 : decode cX7_puddlesRead 108 = .ok (.istore_n 3, 1) := by decide +kernel
theorem dX7_puddlesRead_109 : decode cX7_puddlesRead 109 = .ok (.aload_n 0, 1) := by decide +kernel
theorem dX7_puddlesRead_110 : decode cX7_puddlesRead 110 = .ok (.iload_n 3, 1) := by decide +kernel
theorem dX7_puddlesRead_111 : decode cX7_puddlesRead 111 = .ok (.ifCond .lt 7, 3) := by decide +kernel
theorem dX7_puddlesRead_114 : decode cX7_puddlesRead 114 = .ok (.iconst 1, 1) := by decide +kernel
theorem dX7_puddlesRead_115 : decode cX7_puddlesRead 115 = .ok (.goto 4, 3) := by decide +kernel
theorem dX7_puddlesRead_118 : decode cX7_puddlesRead 118 = .ok (.iconst 0, 1) := by decide +kernel
theorem dX7_puddlesRead_119 : decode cX7_puddlesRead 119 = .ok (.invokevirtual 165, 3) := by decide +kernel
theorem dX7_puddlesRead_122 : decode cX7_puddlesRead 122 = .ok (.aload_n 0, 1) := by decide +kernel
theorem dX7_puddlesRead_123 : decode cX7_puddlesRead 123 = .ok (.bipush 7, 2) := by decide +kernel
theorem dX7_puddlesRead_125 : decode cX7_puddlesRead 125 = .ok (.invokevirtual 176, 3) := by decide +kernel
theorem dX7_puddlesRead_128 : decode cX7_puddlesRead 128 = .ok (.istore 4, 2) := by decide +kernel
theorem dX7_puddlesRead_130 : decode cX7_puddlesRead 130 = .ok (.aload_n 0, 1) := by decide +kernel
theorem dX7_puddlesRead_131 : decode cX7_puddlesRead 131 = .ok (.iconst 0, 1) := by decide +kernel
theorem dX7_puddlesRead_132 : decode cX7_puddlesRead 132 = .ok (.bipush 60, 2) := by decide +kernel
theorem dX7_puddlesRead_134 : decode cX7_puddlesRead 134 = .ok (.invokevirtual 173, 3) := by decide +kernel
theorem dX7_puddlesRead_137 : decode cX7_puddlesRead 137 = .ok (.istore 5, 2) := by decide +kernel
theorem dX7_puddlesRead_139 : decode cX7_puddlesRead 139 = .ok (.aload_n 0, 1) := by decide +kernel
theorem dX7_puddlesRead_140 : decode cX7_puddlesRead 140 = .ok (.getfield 158, 3) := by decide +kernel
theorem dX7_puddlesRead_143 : decode cX7_puddlesRead 143 = .ok (.ifCond .ne 36, 3) := by decide +kernel
theorem dX7_puddlesRead_146 : decode cX7_puddlesRead 146 = .ok (.aload_n 0, 1) := by decide +kernel
theorem dX7_puddlesRead_147 : decode cX7_puddlesRead 147 = .ok (.getfield 19, 3) := by decide +kernel
theorem dX7_puddlesRead_150 : decode cX7_puddlesRead 150 = .ok (.iconst 3, 1) := by decide +kernel
theorem dX7_puddlesRead_151 : decode cX7_puddlesRead 151 = .ok (.iload_n 1, 1) := by decide +kernel
theorem dX7_puddlesRead_152 : decode cX7_puddlesRead 152 = .ok (.imul, 1) := by decide +kernel
theorem dX7_puddlesRead_153 : decode cX7_puddlesRead 153 = .ok (.iload_n 3, 1) := by decide +kernel
theorem dX7_puddlesRead_154 : decode cX7_puddlesRead 154 = .ok (.iastore, 1) := by decide +kernel
theorem dX7_puddlesRead_155 : decode cX7_puddlesRead 155 = .ok (.aload_n 0, 1) := by decide +kernel
theorem dX7_puddlesRead_156 : decode cX7_puddlesRead 156 = .ok (.getfield 19, 3) := by decide +kernel
theorem dX7_puddlesRead_159 : decode cX7_puddlesRead 159 = .ok (.iconst 3, 1) := by decide +kernel
theorem dX7_puddlesRead_160 : decode cX7_puddlesRead 160 = .ok (.iload_n 1, 1) := by decide +kernel
theorem dX7_puddlesRead_161 : decode cX7_puddlesRead 161 = .ok (.imul, 1) := by decide +kernel
theorem dX7_puddlesRead_162 : decode cX7_puddlesRead 162 = .ok (.iconst 1, 1) := by decide +kernel
theorem dX7_puddlesRead_163 : decode cX7_puddlesRead 163 = .ok (.iadd, 1) := by decide +kernel
theorem dX7_puddlesRead_164 : decode cX7_puddlesRead 164 = .ok (.iload 4, 2) := by decide +kernel
theorem dX7_puddlesRead_166 : decode cX7_puddlesRead 166 = .ok (.iastore, 1) := by decide +kernel
theorem dX7_puddlesRead_167 : decode cX7_puddlesRead 167 = .ok (.aload_n 0, 1) := by decide +kernel
theorem dX7_puddlesRead_168 : decode cX7_puddlesRead 168 = .ok (.getfield 19, 3) := by decide +kernel
theorem dX7_puddlesRead_171 : decode cX7_puddlesRead 171 = .ok (.iconst 3, 1) := by decide +kernel
theorem dX7_puddlesRead_172 : decode cX7_puddlesRead 172 = .ok (.iload_n 1, 1) := by decide +kernel
theorem dX7_puddlesRead_173 : decode cX7_puddlesRead 173 = .ok (.imul, 1) := by decide +kernel
theorem dX7_puddlesRead_174 : decode cX7_puddlesRead 174 = .ok (.iconst 2, 1) := by decide +kernel
theorem dX7_puddlesRead_175 : decode cX7_puddlesRead 175 = .ok (.iadd, 1) := by decide +kernel
theorem dX7_puddlesRead_176 : decode cX7_puddlesRead 176 = .ok (.iload 5, 2) := by decide +kernel
theorem dX7_puddlesRead_178 : decode cX7_puddlesRead 178 = .ok (.iastore, 1) := by decide +kernel
theorem dX7_puddlesRead_179 : decode cX7_puddlesRead 179 = .ok (.iinc 1 1, 3) := by decide +kernel
theorem dX7_puddlesRead_182 : decode cX7_puddlesRead 182 = .ok (.goto (-180), 3) := by decide +kernel
theorem dX7_puddlesRead_185 : decode cX7_puddlesRead 185 = .ok (.iload_n 1, 1) := by decide +kernel
theorem dX7_puddlesRead_186 : decode cX7_puddlesRead 186 = .ok (.ireturn, 1) := by decide +kernel
theorem dX7_peopleRead_0 : decode cX7_peopleRead 0 = .ok (.iconst 0, 1) := by decide +kernel
theorem dX7_peopleRead_1 : decode cX7_peopleRead 1 = .ok (.istore_n 1, 1) := by decide +kernel
theorem dX7_peopleRead_2 : decode cX7_peopleRead 2 = .ok (.aload_n 0, 1) := by decide +kernel
theorem dX7_peopleRead_3 : decode cX7_peopleRead 3 = .ok (.getfield 158, 3) := by decide +kernel
theorem dX7_peopleRead_6 : decode cX7_peopleRead 6 = .ok (.ifCond .ne 110, 3) := by decide +kernel
theorem dX7_peopleRead_9 : decode cX7_peopleRead 9 = .ok (.iload_n 1, 1) := by decide +kernel
theorem dX7_peopleRead_10 : decode cX7_peopleRead 10 = .ok (.ifCond .eq 12, 3) := by decide +kernel
theorem dX7_peopleRead_13 : decode cX7_peopleRead 13 = .ok (.aload_n 0, 1) := by decide +kernel
theorem dX7_peopleRead_14 : decode cX7_peopleRead 14 = .ok (.invokevirtual 162, 3) := by decide +kernel
theorem dX7_peopleRead_17 : decode cX7_peopleRead 17 = .ok (.bipush 44, 2) := by decide +kernel
theorem dX7_peopleRead_19 : decode cX7_peopleRead 19 = .ok (.if_icmp .ne 97, 3) := by decide +kernel
theorem dX7_peopleRead_22 : decode cX7_peopleRead 22 = .ok (.iload_n 1, 1) := by decide +kernel
theorem dX7_peopleRead_23 : decode cX7_peopleRead 23 = .ok (.ifCond .le 18, 3) := by decide +kernel
theorem dX7_peopleRead_26 : decode cX7_peopleRead 26 = .ok (.aload_n 0, 1) := by decide +kernel
theorem dX7_peopleRead_27 : decode cX7_peopleRead 27 = .ok (.iload_n 1, 1) := by decide +kernel
theorem dX7_peopleRead_28 : decode cX7_peopleRead 28 = .ok (.bipush 6, 2) := by decide +kernel
theorem dX7_peopleRead_30 : decode cX7_peopleRead 30 = .ok (.if_icmp .ge 7, 3) := by decide +kernel
theorem dX7_peopleRead_33 : decode cX7_peopleRead 33 = .ok (.iconst 1, 1) := by decide +kernel
theorem dX7_peopleRead_34 : decode cX7_peopleRead 34 = .ok (.goto 4, 3) := by decide +kernel
theorem dX7_peopleRead_37 : decode cX7_peopleRead 37 = .ok (.iconst 0, 1) := by decide +kernel
theorem dX7_peopleRead_38 : decode cX7_peopleRead 38 = .ok (.invokevirtual 165, 3) := by decide +kernel
theorem dX7_peopleRead_41 : decode cX7_peopleRead 41 = .ok (.aload_n 0, 1) := by decide +kernel
theorem dX7_peopleRead_42 : decode cX7_peopleRead 42 = .ok (.bipush 7, 2) := by decide +kernel
theorem dX7_peopleRead_44 : decode cX7_peopleRead 44 = .ok (.invokevirtual 176, 3) := by decide +kernel
theorem dX7_peopleRead_47 : decode cX7_peopleRead 47 = .ok (.istore_n 2, 1) := by decide +kernel
theorem dX7_peopleRead_48 : decode cX7_peopleRead 48 = .ok (.aload_n 0, 1) := by decide +kernel
theorem dX7_peopleRead_49 : decode cX7_peopleRead 49 = .ok (.bipush 64, 2) := by decide +kernel
theorem dX7_peopleRead_51 : decode cX7_peopleRead 51 = .ok (.iconst 0, 1) := by decide +kernel
theorem dX7_peopleRead_52 : decode cX7_peopleRead 52 = .ok (.bipush 20, 2) := by decide +kernel
theorem dX7_peopleRead_54 : decode cX7_peopleRead 54 = .ok (.iconst 0, 1) := by decide +kernel
theorem dX7_peopleRead_55 : decode cX7_peopleRead 55 = .ok (.invokevirtual 179, 3) := by decide +kernel
theorem dX7_peopleRead_58 : decode cX7_peopleRead 58 = .ok (.istore_n 3, 1) := by decide +kernel
theorem dX7_peopleRead_59 : decode cX7_peopleRead 59 = .ok (.aload_n 0, 1) := by decide +kernel
theorem dX7_peopleRead_60 : decode cX7_peopleRead 60 = .ok (.bipush 47, 2) := by decide +kernel
theorem dX7_peopleRead_62 : decode cX7_peopleRead 62 = .ok (.iconst 1, 1) := by decide +kernel
theorem dX7_peopleRead_63 : decode cX7_peopleRead 63 = .ok (.bipush 30, 2) := by decide +kernel
theorem dX7_peopleRead_65 : decode cX7_peopleRead 65 = .ok (.iconst 1, 1) := by decide +kernel
theorem dX7_peopleRead_66 : decode cX7_peopleRead 66 = .ok (.invokevirtual 179, 3) := by decide +kernel
theorem dX7_peopleRead_69 : decode cX7_peopleRead 69 = .ok (.istore 4, 2) := by decide +kernel
theorem dX7_peopleRead_71 : decode cX7_peopleRead 71 = .ok (.aload_n 0, 1) := by decide +kernel
theorem dX7_peopleRead_72 : decode cX7_peopleRead 72 = .ok (.getfield 158, 3) := by decide +kernel
theorem dX7_peopleRead_75 : decode cX7_peopleRead 75 = .ok (.ifCond .ne 35, 3) := by decide +kernel
theorem dX7_peopleRead_78 : decode cX7_peopleRead 78 = .ok (.aload_n 0, 1) := by decide +kernel
theorem dX7_peopleRead_79 : decode cX7_peopleRead 79 = .ok (.getfield 22, 3) := by decide +kernel
theorem dX7_peopleRead_82 : decode cX7_peopleRead 82 = .ok (.iconst 3, 1) := by decide +kernel
theorem dX7_peopleRead_83 : decode cX7_peopleRead 83 = .ok (.iload_n 1, 1) := by decide +kernel
theorem dX7_peopleRead_84 : decode cX7_peopleRead 84 = .ok (.imul, 1) := by decide +kernel
theorem dX7_peopleRead_85 : decode cX7_peopleRead 85 = .ok (.iload_n 2, 1) := by decide +kernel
theorem dX7_peopleRead_86 : decode cX7_peopleRead 86 = .ok (.iastore, 1) := by decide +kernel
theorem dX7_peopleRead_87 : decode cX7_peopleRead 87 = .ok (.aload_n 0, 1) := by decide +kernel
theorem dX7_peopleRead_88 : decode cX7_peopleRead 88 = .ok (.getfield 22, 3) := by decide +kernel
theorem dX7_peopleRead_91 : decode cX7_peopleRead 91 = .ok (.iconst 3, 1) := by decide +kernel
theorem dX7_peopleRead_92 : decode cX7_peopleRead 92 = .ok (.iload_n 1, 1) := by decide +kernel
theorem dX7_peopleRead_93 : decode cX7_peopleRead 93 = .ok (.imul, 1) := by decide +kernel
theorem dX7_peopleRead_94 : decode cX7_peopleRead 94 = .ok (.iconst 1, 1) := by decide +kernel
theorem dX7_peopleRead_95 : decode cX7_peopleRead 95 = .ok (.iadd, 1) := by decide +kernel
theorem dX7_peopleRead_96 : decode cX7_peopleRead 96 = .ok (.iload_n 3, 1) := by decide +kernel
theorem dX7_peopleRead_97 : decode cX7_peopleRead 97 = .ok (.iastore, 1) := by decide +kernel
theorem dX7_peopleRead_98 : decode cX7_peopleRead 98 = .ok (.aload_n 0, 1) := by decide +kernel
theorem dX7_peopleRead_99 : decode cX7_peopleRead 99 = .ok (.getfield 22, 3) := by decide +kernel
theorem dX7_peopleRead_102 : decode cX7_peopleRead 102 = .ok (.iconst 3, 1) := by decide +kernel
theorem dX7_peopleRead_103 : decode cX7_peopleRead 103 = .ok (.iload_n 1, 1) := by decide +kernel
theorem dX7_peopleRead_104 : decode cX7_peopleRead 104 = .ok (.imul, 1) := by decide +kernel
theorem dX7_peopleRead_105 : decode cX7_peopleRead 105 = .ok (.iconst 2, 1) := by decide +kernel
theorem dX7_peopleRead_106 : decode cX7_peopleRead 106 = .ok (.iadd, 1) := by decide +kernel
theorem dX7_peopleRead_107 : decode cX7_peopleRead 107 = .ok (.iload 4, 2) := by decide +kernel
theorem dX7_peopleRead_109 : decode cX7_peopleRead 109 = .ok (.iastore, 1) := by decide +kernel
theorem dX7_peopleRead_110 : decode cX7_peopleRead 110 = .ok (.iinc 1 1, 3) := by decide +kernel
theorem dX7_peopleRead_113 : decode cX7_peopleRead 113 = .ok (.goto (-111), 3) := by decide +kernel
theorem dX7_peopleRead_116 : decode cX7_peopleRead 116 = .ok (.iload_n 1, 1) := by decide +kernel
theorem dX7_peopleRead_117 : decode cX7_peopleRead 117 = .ok (.ireturn, 1) := by decide +kernel
theorem dX7_read_0 : decode cX7_read 0 = .ok (.aload_n 0, 1) := by decide +kernel
theorem dX7_read_1 : decode cX7_read 1 = .ok (.iconst 0, 1) := by decide +kernel
theorem dX7_read_2 : decode cX7_read 2 = .ok (.putfield 155, 3) := by decide +kernel
theorem dX7_read_5 : decode cX7_read 5 = .ok (.aload_n 0, 1) := by decide +kernel
theorem dX7_read_6 : decode cX7_read 6 = .ok (.iconst 0, 1) := by decide +kernel
theorem dX7_read_7 : decode cX7_read 7 = .ok (.putfield 158, 3) := by decide +kernel
theorem dX7_read_10 : decode cX7_read 10 = .ok (.aload_n 0, 1) := by decide +kernel
theorem dX7_read_11 : decode cX7_read 11 = .ok (.invokevirtual 183, 3) := by decide +kernel
theorem dX7_read_14 : decode cX7_read 14 = .ok (.istore_n 1, 1) := by decide +kernel
theorem dX7_read_15 : decode cX7_read 15 = .ok (.iconst 0, 1) := by decide +kernel
theorem dX7_read_16 : decode cX7_read 16 = .ok (.istore_n 2, 1) := by decide +kernel
theorem dX7_read_17 : decode cX7_read 17 = .ok (.aload_n 0, 1) := by decide +kernel
theorem dX7_read_18 : decode cX7_read 18 = .ok (.getfield 158, 3) := by decide +kernel
theorem dX7_read_21 : decode cX7_read 21 = .ok (.ifCond .ne 27, 3) := by decide +kernel
theorem dX7_read_24 : decode cX7_read 24 = .ok (.aload_n 0, 1) := by decide +kernel
theorem dX7_read_25 : decode cX7_read 25 = .ok (.invokevirtual 162, 3) := by decide +kernel
theorem dX7_read_28 : decode cX7_read 28 = .ok (.bipush 59, 2) := by decide +kernel
theorem dX7_read_30 : decode cX7_read 30 = .ok (.if_icmp .ne 18, 3) := by decide +kernel
theorem dX7_read_33 : decode cX7_read 33 = .ok (.aload_n 0, 1) := by decide +kernel
theorem dX7_read_34 : decode cX7_read 34 = .ok (.dup, 1) := by decide +kernel
theorem dX7_read_35 : decode cX7_read 35 = .ok (.getfield 155, 3) := by decide +kernel
theorem dX7_read_38 : decode cX7_read 38 = .ok (.iconst 1, 1) := by decide +kernel
theorem dX7_read_39 : decode cX7_read 39 = .ok (.iadd, 1) := by decide +kernel
theorem dX7_read_40 : decode cX7_read 40 = .ok (.putfield 155, 3) := by decide +kernel
theorem dX7_read_43 : decode cX7_read 43 = .ok (.aload_n 0, 1) := by decide +kernel
theorem dX7_read_44 : decode cX7_read 44 = .ok (.invokevirtual 186, 3) := by decide +kernel
theorem dX7_read_47 : decode cX7_read 47 = .ok (.istore_n 2, 1) := by decide +kernel
theorem dX7_read_48 : decode cX7_read 48 = .ok (.aload_n 0, 1) := by decide +kernel
theorem dX7_read_49 : decode cX7_read 49 = .ok (.aload_n 0, 1) := by decide +kernel
theorem dX7_read_50 : decode cX7_read 50 = .ok (.getfield 158, 3) := by decide +kernel
theorem dX7_read_53 : decode cX7_read 53 = .ok (.ifCond .ne 10, 3) := by decide +kernel
theorem dX7_read_56 : decode cX7_read 56 = .ok (.aload_n 0, 1) := by decide +kernel
theorem dX7_read_57 : decode cX7_read 57 = .ok (.invokevirtual 162, 3) := by decide +kernel
theorem dX7_read_60 : decode cX7_read 60 = .ok (.ifCond .eq 7, 3) := by decide +kernel
theorem dX7_read_63 : decode cX7_read 63 = .ok (.iconst 1, 1) := by decide +kernel
theorem dX7_read_64 : decode cX7_read 64 = .ok (.goto 4, 3) := by decide +kernel
theorem dX7_read_67 : decode cX7_read 67 = .ok (.iconst 0, 1) := by decide +kernel
theorem dX7_read_68 : decode cX7_read 68 = .ok (.putfield 158, 3) := by decide +kernel
theorem dX7_read_71 : decode cX7_read 71 = .ok (.aload_n 0, 1) := by decide +kernel
theorem dX7_read_72 : decode cX7_read 72 = .ok (.iconst 0, 1) := by decide +kernel
theorem dX7_read_73 : decode cX7_read 73 = .ok (.putfield 152, 3) := by decide +kernel
theorem dX7_read_76 : decode cX7_read 76 = .ok (.aload_n 0, 1) := by decide +kernel
theorem dX7_read_77 : decode cX7_read 77 = .ok (.getfield 158, 3) := by decide +kernel
theorem dX7_read_80 : decode cX7_read 80 = .ok (.ifCond .eq 11, 3) := by decide +kernel
theorem dX7_read_83 : decode cX7_read 83 = .ok (.bipush (-20), 2) := by decide +kernel
theorem dX7_read_85 : decode cX7_read 85 = .ok (.aload_n 0, 1) := by decide +kernel
theorem dX7_read_86 : decode cX7_read 86 = .ok (.getfield 155, 3) := by decide +kernel
theorem dX7_read_89 : decode cX7_read 89 = .ok (.isub, 1) := by decide +kernel
theorem dX7_read_90 : decode cX7_read 90 = .ok (.ireturn, 1) := by decide +kernel
theorem dX7_read_91 : decode cX7_read 91 = .ok (.aload_n 0, 1) := by decide +kernel
theorem dX7_read_92 : decode cX7_read 92 = .ok (.getfield 7, 3) := by decide +kernel
theorem dX7_read_95 : decode cX7_read 95 = .ok (.iconst 0, 1) := by decide +kernel
theorem dX7_read_96 : decode cX7_read 96 = .ok (.iconst 0, 1) := by decide +kernel
theorem dX7_read_97 : decode cX7_read 97 = .ok (.iastore, 1) := by decide +kernel
theorem dX7_read_98 : decode cX7_read 98 = .ok (.aload_n 0, 1) := by decide +kernel
theorem dX7_read_99 : decode cX7_read 99 = .ok (.getfield 7, 3) := by decide +kernel
theorem dX7_read_102 : decode cX7_read 102 = .ok (.iconst 1, 1) := by decide +kernel
theorem dX7_read_103 : decode cX7_read 103 = .ok (.iconst 0, 1) := by decide +kernel
theorem dX7_read_104 : decode cX7_read 104 = .ok (.iastore, 1) := by decide +kernel
theorem dX7_read_105 : decode cX7_read 105 = .ok (.aload_n 0, 1) := by decide +kernel
theorem dX7_read_106 : decode cX7_read 106 = .ok (.getfield 7, 3) := by decide +kernel
theorem dX7_read_109 : decode cX7_read 109 = .ok (.iconst 2, 1) := by decide +kernel
theorem dX7_read_110 : decode cX7_read 110 = .ok (.iconst 0, 1) := by decide +kernel
theorem dX7_read_111 : decode cX7_read 111 = .ok (.iastore, 1) := by decide +kernel
theorem dX7_read_112 : decode cX7_read 112 = .ok (.iconst 0, 1) := by decide +kernel
theorem dX7_read_113 : decode cX7_read 113 = .ok (.istore_n 3, 1) := by decide +kernel
theorem dX7_read_114 : decode cX7_read 114 = .ok (.iload_n 3, 1) := by decide +kernel
theorem dX7_read_115 : decode cX7_read 115 = .ok (.iload_n 1, 1) := by decide +kernel
theorem dX7_read_116 : decode cX7_read 116 = .ok (.if_icmp .ge 41, 3) := by decide +kernel
theorem dX7_read_119 : decode cX7_read 119 = .ok (.aload_n 0, 1) := by decide +kernel
theorem dX7_read_120 : decode cX7_read 120 = .ok (.aload_n 0, 1) := by decide +kernel
theorem dX7_read_121 : decode cX7_read 121 = .ok (.getfield 19, 3) := by decide +kernel
theorem dX7_read_124 : decode cX7_read 124 = .ok (.iconst 3, 1) := by decide +kernel
theorem dX7_read_125 : decode cX7_read 125 = .ok (.iload_n 3, 1) := by decide +kernel
theorem dX7_read_126 : decode cX7_read 126 = .ok (.imul, 1) := by decide +kernel
theorem dX7_read_127 : decode cX7_read 127 = .ok (.iaload, 1) := by decide +kernel
theorem dX7_read_128 : decode cX7_read 128 = .ok (.aload_n 0, 1) := by decide +kernel
theorem dX7_read_129 : decode cX7_read 129 = .ok (.getfield 19, 3) := by decide +kernel
theorem dX7_read_132 : decode cX7_read 132 = .ok (.iconst 3, 1) := by decide +kernel
theorem dX7_read_133 : decode cX7_read 133 = .ok (.iload_n 3, 1) := by decide +kernel
theorem dX7_read_134 : decode cX7_read 134 = .ok (.imul, 1) := by decide +kernel
theorem dX7_read_135 : decode cX7_read 135 = .ok (.iconst 1, 1) := by decide +kernel
theorem dX7_read_136 : decode cX7_read 136 = .ok (.iadd, 1) := by decide +kernel
theorem dX7_read_137 : decode cX7_read 137 = .ok (.iaload, 1) := by decide +kernel
theorem dX7_read_138 : decode cX7_read 138 = .ok (.aload_n 0, 1) := by decide +kernel
theorem dX7_read_139 : decode cX7_read 139 = .ok (.getfield 19, 3) := by decide +kernel
theorem dX7_read_142 : decode cX7_read 142 = .ok (.iconst 3, 1) := by decide +kernel
theorem dX7_read_143 : decode cX7_read 143 = .ok (.iload_n 3, 1) := by decide +kernel
theorem dX7_read_144 : decode cX7_read 144 = .ok (.imul, 1) := by decide +kernel
theorem dX7_read_145 : decode cX7_read 145 = .ok (.iconst 2, 1) := by decide +kernel
theorem dX7_read_146 : decode cX7_read 146 = .ok (.iadd, 1) := by decide +kernel
theorem dX7_read_147 : decode cX7_read 147 = .ok (.iaload, 1) := by decide +kernel
theorem dX7_read_148 : decode cX7_read 148 = .ok (.invokevirtual 119, 3) := by decide +kernel
theorem dX7_read_151 : decode cX7_read 151 = .ok (.iinc 3 1, 3) := by decide +kernel
theorem dX7_read_154 : decode cX7_read 154 = .ok (.goto (-40), 3) := by decide +kernel
theorem dX7_read_157 : decode cX7_read 157 = .ok (.iconst 0, 1) := by decide +kernel
theorem dX7_read_158 : decode cX7_read 158 = .ok (.istore_n 3, 1) := by decide +kernel
theorem dX7_read_159 : decode cX7_read 159 = .ok (.iload_n 3, 1) := by decide +kernel
theorem dX7_read_160 : decode cX7_read 160 = .ok (.iload_n 2, 1) := by decide +kernel
theorem dX7_read_161 : decode cX7_read 161 = .ok (.if_icmp .ge 41, 3) := by decide +kernel
theorem dX7_read_164 : decode cX7_read 164 = .ok (.aload_n 0, 1) := by decide +kernel
theorem dX7_read_165 : decode cX7_read 165 = .ok (.aload_n 0, 1) := by decide +kernel
theorem dX7_read_166 : decode cX7_read 166 = .ok (.getfield 22, 3) := by decide +kernel
theorem dX7_read_169 : decode cX7_read 169 = .ok (.iconst 3, 1) := by decide +kernel
theorem dX7_read_170 : decode cX7_read 170 = .ok (.iload_n 3, 1) := by decide +kernel
theorem dX7_read_171 : decode cX7_read 171 = .ok (.imul, 1) := by decide +kernel
theorem dX7_read_172 : decode cX7_read 172 = .ok (.iaload, 1) := by decide +kernel
theorem dX7_read_173 : decode cX7_read 173 = .ok (.aload_n 0, 1) := by decide +kernel
theorem dX7_read_174 : decode cX7_read 174 = .ok (.getfield 22, 3) := by decide +kernel
theorem dX7_read_177 : decode cX7_read 177 = .ok (.iconst 3, 1) := by decide +kernel
theorem dX7_read_178 : decode cX7_read 178 = .ok (.iload_n 3, 1) := by decide +kernel
theorem dX7_read_179 : decode cX7_read 179 = .ok (.imul, 1) := by decide +kernel
theorem dX7_read_180 : decode cX7_read 180 = .ok (.iconst 1, 1) := by decide +kernel
theorem dX7_read_181 : decode cX7_read 181 = .ok (.iadd, 1) := by decide +kernel
theorem dX7_read_182 : decode cX7_read 182 = .ok (.iaload, 1) := by decide +kernel
theorem dX7_read_183 : decode cX7_read 183 = .ok (.aload_n 0, 1) := by decide +kernel
theorem dX7_read_184 : decode cX7_read 184 = .ok (.getfield 22, 3) := by decide +kernel
theorem dX7_read_187 : decode cX7_read 187 = .ok (.iconst 3, 1) := by decide +kernel
theorem dX7_read_188 : decode cX7_read 188 = .ok (.iload_n 3, 1) := by decide +kernel
theorem dX7_read_189 : decode cX7_read 189 = .ok (.imul, 1) := by decide +kernel
theorem dX7_read_190 : decode cX7_read 190 = .ok (.iconst 2, 1) := by decide +kernel
theorem dX7_read_191 : decode cX7_read 191 = .ok (.iadd, 1) := by decide +kernel
theorem dX7_read_192 : decode cX7_read 192 = .ok (.iaload, 1) := by decide +kernel
theorem dX7_read_193 : decode cX7_read 193 = .ok (.invokevirtual 126, 3) := by decide +kernel
theorem dX7_read_196 : decode cX7_read 196 = .ok (.iinc 3 1, 3) := by decide +kernel
theorem dX7_read_199 : decode cX7_read 199 = .ok (.goto (-40), 3) := by decide +kernel
theorem dX7_read_202 : decode cX7_read 202 = .ok (.iload_n 1, 1) := by decide +kernel
theorem dX7_read_203 : decode cX7_read 203 = .ok (.ireturn, 1) := by decide +kernel
theorem dX7_notes_0 : decode cX7_notes 0 = .ok (.aload_n 0, 1) := by decide +kernel
theorem dX7_notes_1 : decode cX7_notes 1 = .ok (.getfield 109, 3) := by decide +kernel
theorem dX7_notes_4 : decode cX7_notes 4 = .ok (.bipush 8, 2) := by decide +kernel
theorem dX7_notes_6 : decode cX7_notes 6 = .ok (.if_icmp .ne 40, 3) := by decide +kernel
theorem dX7_notes_9 : decode cX7_notes 9 = .ok (.bipush 21, 2) := by decide +kernel
theorem dX7_notes_11 : decode cX7_notes 11 = .ok (.istore_n 1, 1) := by decide +kernel
theorem dX7_notes_12 : decode cX7_notes 12 = .ok (.iload_n 1, 1) := by decide +kernel
theorem dX7_notes_13 : decode cX7_notes 13 = .ok (.sipush 168, 3) := by decide +kernel
theorem dX7_notes_16 : decode cX7_notes 16 = .ok (.if_icmp .ge 24, 3) := by decide +kernel
theorem dX7_notes_19 : decode cX7_notes 19 = .ok (.aload_n 0, 1) := by decide +kernel
theorem dX7_notes_20 : decode cX7_notes 20 = .ok (.getfield 25, 3) := by decide +kernel
theorem dX7_notes_23 : decode cX7_notes 23 = .ok (.iload_n 1, 1) := by decide +kernel
theorem dX7_notes_24 : decode cX7_notes 24 = .ok (.bipush 21, 2) := by decide +kernel
theorem dX7_notes_26 : decode cX7_notes 26 = .ok (.isub, 1) := by decide +kernel
theorem dX7_notes_27 : decode cX7_notes 27 = .ok (.aload_n 0, 1) := by decide +kernel
theorem dX7_notes_28 : decode cX7_notes 28 = .ok (.getfield 25, 3) := by decide +kernel
theorem dX7_notes_31 : decode cX7_notes 31 = .ok (.iload_n 1, 1) := by decide +kernel
theorem dX7_notes_32 : decode cX7_notes 32 = .ok (.iaload, 1) := by decide +kernel
theorem dX7_notes_33 : decode cX7_notes 33 = .ok (.iastore, 1) := by decide +kernel
theorem dX7_notes_34 : decode cX7_notes 34 = .ok (.iinc 1 1, 3) := by decide +kernel
theorem dX7_notes_37 : decode cX7_notes 37 = .ok (.goto (-25), 3) := by decide +kernel
theorem dX7_notes_40 : decode cX7_notes 40 = .ok (.aload_n 0, 1) := by decide +kernel
theorem dX7_notes_41 : decode cX7_notes 41 = .ok (.bipush 7, 2) := by decide +kernel
theorem dX7_notes_43 : decode cX7_notes 43 = .ok (.putfield 109, 3) := by decide +kernel
theorem dX7_notes_46 : decode cX7_notes 46 = .ok (.bipush 21, 2) := by decide +kernel
theorem dX7_notes_48 : decode cX7_notes 48 = .ok (.aload_n 0, 1) := by decide +kernel
theorem dX7_notes_49 : decode cX7_notes 49 = .ok (.getfield 109, 3) := by decide +kernel
theorem dX7_notes_52 : decode cX7_notes 52 = .ok (.imul, 1) := by decide +kernel
theorem dX7_notes_53 : decode cX7_notes 53 = .ok (.istore_n 1, 1) := by decide +kernel
theorem dX7_notes_54 : decode cX7_notes 54 = .ok (.aload_n 0, 1) := by decide +kernel
theorem dX7_notes_55 : decode cX7_notes 55 = .ok (.getfield 25, 3) := by decide +kernel
theorem dX7_notes_58 : decode cX7_notes 58 = .ok (.iload_n 1, 1) := by decide +kernel
theorem dX7_notes_59 : decode cX7_notes 59 = .ok (.aload_n 0, 1) := by decide +kernel
theorem dX7_notes_60 : decode cX7_notes 60 = .ok (.getfield 7, 3) := by decide +kernel
theorem dX7_notes_63 : decode cX7_notes 63 = .ok (.iconst 2, 1) := by decide +kernel
theorem dX7_notes_64 : decode cX7_notes 64 = .ok (.iaload, 1) := by decide +kernel
theorem dX7_notes_65 : decode cX7_notes 65 = .ok (.iastore, 1) := by decide +kernel
theorem dX7_notes_66 : decode cX7_notes 66 = .ok (.aload_n 0, 1) := by decide +kernel
theorem dX7_notes_67 : decode cX7_notes 67 = .ok (.getfield 25, 3) := by decide +kernel
theorem dX7_notes_70 : decode cX7_notes 70 = .ok (.iload_n 1, 1) := by decide +kernel
theorem dX7_notes_71 : decode cX7_notes 71 = .ok (.iconst 1, 1) := by decide +kernel
theorem dX7_notes_72 : decode cX7_notes 72 = .ok (.iadd, 1) := by decide +kernel
theorem dX7_notes_73 : decode cX7_notes 73 = .ok (.aload_n 0, 1) := by decide +kernel
theorem dX7_notes_74 : decode cX7_notes 74 = .ok (.getfield 7, 3) := by decide +kernel
theorem dX7_notes_77 : decode cX7_notes 77 = .ok (.iconst 3, 1) := by decide +kernel
theorem dX7_notes_78 : decode cX7_notes 78 = .ok (.iaload, 1) := by decide +kernel
theorem dX7_notes_79 : decode cX7_notes 79 = .ok (.iastore, 1) := by decide +kernel
theorem dX7_notes_80 : decode cX7_notes 80 = .ok (.iconst 0, 1) := by decide +kernel
theorem dX7_notes_81 : decode cX7_notes 81 = .ok (.istore_n 2, 1) := by decide +kernel
theorem dX7_notes_82 : decode cX7_notes 82 = .ok (.iload_n 2, 1) := by decide +kernel
theorem dX7_notes_83 : decode cX7_notes 83 = .ok (.bipush 7, 2) := by decide +kernel
theorem dX7_notes_85 : decode cX7_notes 85 = .ok (.if_icmp .ge 24, 3) := by decide +kernel
theorem dX7_notes_88 : decode cX7_notes 88 = .ok (.aload_n 0, 1) := by decide +kernel
theorem dX7_notes_89 : decode cX7_notes 89 = .ok (.getfield 25, 3) := by decide +kernel
theorem dX7_notes_92 : decode cX7_notes 92 = .ok (.iload_n 1, 1) := by decide +kernel
theorem dX7_notes_93 : decode cX7_notes 93 = .ok (.iconst 2, 1) := by decide +kernel
theorem dX7_notes_94 : decode cX7_notes 94 = .ok (.iadd, 1) := by decide +kernel
theorem dX7_notes_95 : decode cX7_notes 95 = .ok (.iload_n 2, 1) := by decide +kernel
theorem dX7_notes_96 : decode cX7_notes 96 = .ok (.iadd, 1) := by decide +kernel
theorem dX7_notes_97 : decode cX7_notes 97 = .ok (.aload_n 0, 1) := by decide +kernel
theorem dX7_notes_98 : decode cX7_notes 98 = .ok (.iload_n 2, 1) := by decide +kernel
theorem dX7_notes_99 : decode cX7_notes 99 = .ok (.invokevirtual 78, 3) := by decide +kernel
theorem dX7_notes_102 : decode cX7_notes 102 = .ok (.iastore, 1) := by decide +kernel
theorem dX7_notes_103 : decode cX7_notes 103 = .ok (.iinc 2 1, 3) := by decide +kernel
theorem dX7_notes_106 : decode cX7_notes 106 = .ok (.goto (-24), 3) := by decide +kernel
theorem dX7_notes_109 : decode cX7_notes 109 = .ok (.iconst 0, 1) := by decide +kernel
theorem dX7_notes_110 : decode cX7_notes 110 = .ok (.istore_n 2, 1) := by decide +kernel
theorem dX7_notes_111 : decode cX7_notes 111 = .ok (.iload_n 2, 1) := by decide +kernel
theorem dX7_notes_112 : decode cX7_notes 112 = .ok (.bipush 6, 2) := by decide +kernel
theorem dX7_notes_114 : decode cX7_notes 114 = .ok (.if_icmp .ge 43, 3) := by decide +kernel
theorem dX7_notes_117 : decode cX7_notes 117 = .ok (.aload_n 0, 1) := by decide +kernel
theorem dX7_notes_118 : decode cX7_notes 118 = .ok (.getfield 25, 3) := by decide +kernel
theorem dX7_notes_121 : decode cX7_notes 121 = .ok (.iload_n 1, 1) := by decide +kernel
theorem dX7_notes_122 : decode cX7_notes 122 = .ok (.bipush 9, 2) := by decide +kernel
theorem dX7_notes_124 : decode cX7_notes 124 = .ok (.iadd, 1) := by decide +kernel
theorem dX7_notes_125 : decode cX7_notes 125 = .ok (.iload_n 2, 1) := by decide +kernel
theorem dX7_notes_126 : decode cX7_notes 126 = .ok (.iadd, 1) := by decide +kernel
theorem dX7_notes_127 : decode cX7_notes 127 = .ok (.aload_n 0, 1) := by decide +kernel
theorem dX7_notes_128 : decode cX7_notes 128 = .ok (.iload_n 2, 1) := by decide +kernel
theorem dX7_notes_129 : decode cX7_notes 129 = .ok (.iconst 1, 1) := by decide +kernel
theorem dX7_notes_130 : decode cX7_notes 130 = .ok (.invokevirtual 67, 3) := by decide +kernel
theorem dX7_notes_133 : decode cX7_notes 133 = .ok (.iastore, 1) := by decide +kernel
theorem dX7_notes_134 : decode cX7_notes 134 = .ok (.aload_n 0, 1) := by decide +kernel
theorem dX7_notes_135 : decode cX7_notes 135 = .ok (.getfield 25, 3) := by decide +kernel
theorem dX7_notes_138 : decode cX7_notes 138 = .ok (.iload_n 1, 1) := by decide +kernel
theorem dX7_notes_139 : decode cX7_notes 139 = .ok (.bipush 15, 2) := by decide +kernel
theorem dX7_notes_141 : decode cX7_notes 141 = .ok (.iadd, 1) := by decide +kernel
theorem dX7_notes_142 : decode cX7_notes 142 = .ok (.iload_n 2, 1) := by decide +kernel
theorem dX7_notes_143 : decode cX7_notes 143 = .ok (.iadd, 1) := by decide +kernel
theorem dX7_notes_144 : decode cX7_notes 144 = .ok (.aload_n 0, 1) := by decide +kernel
theorem dX7_notes_145 : decode cX7_notes 145 = .ok (.iload_n 2, 1) := by decide +kernel
theorem dX7_notes_146 : decode cX7_notes 146 = .ok (.iconst 3, 1) := by decide +kernel
theorem dX7_notes_147 : decode cX7_notes 147 = .ok (.invokevirtual 67, 3) := by decide +kernel
theorem dX7_notes_150 : decode cX7_notes 150 = .ok (.iastore, 1) := by decide +kernel
theorem dX7_notes_151 : decode cX7_notes 151 = .ok (.iinc 2 1, 3) := by decide +kernel
theorem dX7_notes_154 : decode cX7_notes 154 = .ok (.goto (-43), 3) := by decide +kernel
theorem dX7_notes_157 : decode cX7_notes 157 = .ok (.aload_n 0, 1) := by decide +kernel
theorem dX7_notes_158 : decode cX7_notes 158 = .ok (.dup, 1) := by decide +kernel
theorem dX7_notes_159 : decode cX7_notes 159 = .ok (.getfield 109, 3) := by decide +kernel
theorem dX7_notes_162 : decode cX7_notes 162 = .ok (.iconst 1, 1) := by decide +kernel
theorem dX7_notes_163 : decode cX7_notes 163 = .ok (.iadd, 1) := by decide +kernel
theorem dX7_notes_164 : decode cX7_notes 164 = .ok (.putfield 109, 3) := by decide +kernel
theorem dX7_notes_167 : decode cX7_notes 167 = .ok (.return_, 1) := by decide +kernel
theorem dX7_hours_0 : decode cX7_hours 0 = .ok (.iload_n 1, 1) := by decide +kernel
theorem dX7_hours_1 : decode cX7_hours 1 = .ok (.i2l, 1) := by decide +kernel
theorem dX7_hours_2 : decode cX7_hours 2 = .ok (.lconst 1, 1) := by decide +kernel
theorem dX7_hours_3 : decode cX7_hours 3 = .ok (.ldc2_w 189, 3) := by decide +kernel
theorem dX7_hours_6 : decode cX7_hours 6 = .ok (.invokestatic 59, 3) := by decide +kernel
theorem dX7_hours_9 : decode cX7_hours 9 = .ok (.ifCond .ne 5, 3) := by decide +kernel
theorem dX7_hours_12 : decode cX7_hours 12 = .ok (.iconst (-1), 1) := by decide +kernel
theorem dX7_hours_13 : decode cX7_hours 13 = .ok (.ireturn, 1) := by decide +kernel
theorem dX7_hours_14 : decode cX7_hours 14 = .ok (.aload_n 0, 1) := by decide +kernel
theorem dX7_hours_15 : decode cX7_hours 15 = .ok (.getfield 7, 3) := by decide +kernel
theorem dX7_hours_18 : decode cX7_hours 18 = .ok (.iconst 2, 1) := by decide +kernel
theorem dX7_hours_19 : decode cX7_hours 19 = .ok (.iaload, 1) := by decide +kernel
theorem dX7_hours_20 : decode cX7_hours 20 = .ok (.iload_n 1, 1) := by decide +kernel
theorem dX7_hours_21 : decode cX7_hours 21 = .ok (.iadd, 1) := by decide +kernel
theorem dX7_hours_22 : decode cX7_hours 22 = .ok (.sipush 9999, 3) := by decide +kernel
theorem dX7_hours_25 : decode cX7_hours 25 = .ok (.if_icmp .le 6, 3) := by decide +kernel
theorem dX7_hours_28 : decode cX7_hours 28 = .ok (.bipush (-3), 2) := by decide +kernel
theorem dX7_hours_30 : decode cX7_hours 30 = .ok (.ireturn, 1) := by decide +kernel
theorem dX7_hours_31 : decode cX7_hours 31 = .ok (.iconst 0, 1) := by decide +kernel
theorem dX7_hours_32 : decode cX7_hours 32 = .ok (.istore_n 2, 1) := by decide +kernel
theorem dX7_hours_33 : decode cX7_hours 33 = .ok (.iload_n 2, 1) := by decide +kernel
theorem dX7_hours_34 : decode cX7_hours 34 = .ok (.iload_n 1, 1) := by decide +kernel
theorem dX7_hours_35 : decode cX7_hours 35 = .ok (.if_icmp .ge 17, 3) := by decide +kernel
theorem dX7_hours_38 : decode cX7_hours 38 = .ok (.aload_n 0, 1) := by decide +kernel
theorem dX7_hours_39 : decode cX7_hours 39 = .ok (.invokevirtual 191, 3) := by decide +kernel
theorem dX7_hours_42 : decode cX7_hours 42 = .ok (.aload_n 0, 1) := by decide +kernel
theorem dX7_hours_43 : decode cX7_hours 43 = .ok (.invokevirtual 106, 3) := by decide +kernel
theorem dX7_hours_46 : decode cX7_hours 46 = .ok (.iinc 2 1, 3) := by decide +kernel
theorem dX7_hours_49 : decode cX7_hours 49 = .ok (.goto (-16), 3) := by decide +kernel
theorem dX7_hours_52 : decode cX7_hours 52 = .ok (.aload_n 0, 1) := by decide +kernel
theorem dX7_hours_53 : decode cX7_hours 53 = .ok (.invokevirtual 142, 3) := by decide +kernel
theorem dX7_hours_56 : decode cX7_hours 56 = .ok (.ireturn, 1) := by decide +kernel
theorem dX7_rains_0 : decode cX7_rains 0 = .ok (.iconst 0, 1) := by decide +kernel
theorem dX7_rains_1 : decode cX7_rains 1 = .ok (.istore_n 2, 1) := by decide +kernel
theorem dX7_rains_2 : decode cX7_rains 2 = .ok (.iload_n 2, 1) := by decide +kernel
theorem dX7_rains_3 : decode cX7_rains 3 = .ok (.aload_n 0, 1) := by decide +kernel
theorem dX7_rains_4 : decode cX7_rains 4 = .ok (.getfield 7, 3) := by decide +kernel
theorem dX7_rains_7 : decode cX7_rains 7 = .ok (.iconst 0, 1) := by decide +kernel
theorem dX7_rains_8 : decode cX7_rains 8 = .ok (.iaload, 1) := by decide +kernel
theorem dX7_rains_9 : decode cX7_rains 9 = .ok (.if_icmp .ge 21, 3) := by decide +kernel
theorem dX7_rains_12 : decode cX7_rains 12 = .ok (.aload_n 0, 1) := by decide +kernel
theorem dX7_rains_13 : decode cX7_rains 13 = .ok (.iload_n 2, 1) := by decide +kernel
theorem dX7_rains_14 : decode cX7_rains 14 = .ok (.aload_n 0, 1) := by decide +kernel
theorem dX7_rains_15 : decode cX7_rains 15 = .ok (.iload_n 2, 1) := by decide +kernel
theorem dX7_rains_16 : decode cX7_rains 16 = .ok (.invokevirtual 78, 3) := by decide +kernel
theorem dX7_rains_19 : decode cX7_rains 19 = .ok (.iload_n 1, 1) := by decide +kernel
theorem dX7_rains_20 : decode cX7_rains 20 = .ok (.iadd, 1) := by decide +kernel
theorem dX7_rains_21 : decode cX7_rains 21 = .ok (.invokevirtual 102, 3) := by decide +kernel
theorem dX7_rains_24 : decode cX7_rains 24 = .ok (.iinc 2 1, 3) := by decide +kernel
theorem dX7_rains_27 : decode cX7_rains 27 = .ok (.goto (-25), 3) := by decide +kernel
theorem dX7_rains_30 : decode cX7_rains 30 = .ok (.return_, 1) := by decide +kernel
theorem dX7_rain_0 : decode cX7_rain 0 = .ok (.iload_n 1, 1) := by decide +kernel
theorem dX7_rain_1 : decode cX7_rain 1 = .ok (.i2l, 1) := by decide +kernel
theorem dX7_rain_2 : decode cX7_rain 2 = .ok (.lconst 1, 1) := by decide +kernel
theorem dX7_rain_3 : decode cX7_rain 3 = .ok (.ldc2_w 117, 3) := by decide +kernel
theorem dX7_rain_6 : decode cX7_rain 6 = .ok (.invokestatic 59, 3) := by decide +kernel
theorem dX7_rain_9 : decode cX7_rain 9 = .ok (.ifCond .ne 5, 3) := by decide +kernel
theorem dX7_rain_12 : decode cX7_rain 12 = .ok (.iconst (-1), 1) := by decide +kernel
theorem dX7_rain_13 : decode cX7_rain 13 = .ok (.ireturn, 1) := by decide +kernel
theorem dX7_rain_14 : decode cX7_rain 14 = .ok (.aload_n 0, 1) := by decide +kernel
theorem dX7_rain_15 : decode cX7_rain 15 = .ok (.invokevirtual 191, 3) := by decide +kernel
theorem dX7_rain_18 : decode cX7_rain 18 = .ok (.aload_n 0, 1) := by decide +kernel
theorem dX7_rain_19 : decode cX7_rain 19 = .ok (.iload_n 1, 1) := by decide +kernel
theorem dX7_rain_20 : decode cX7_rain 20 = .ok (.invokevirtual 194, 3) := by decide +kernel
theorem dX7_rain_23 : decode cX7_rain 23 = .ok (.aload_n 0, 1) := by decide +kernel
theorem dX7_rain_24 : decode cX7_rain 24 = .ok (.invokevirtual 135, 3) := by decide +kernel
theorem dX7_rain_27 : decode cX7_rain 27 = .ok (.ireturn, 1) := by decide +kernel
theorem dX7_drive_0 : decode cX7_drive 0 = .ok (.aload_n 0, 1) := by decide +kernel
theorem dX7_drive_1 : decode cX7_drive 1 = .ok (.iload_n 1, 1) := by decide +kernel
theorem dX7_drive_2 : decode cX7_drive 2 = .ok (.invokevirtual 74, 3) := by decide +kernel
theorem dX7_drive_5 : decode cX7_drive 5 = .ok (.ifCond .ne 5, 3) := by decide +kernel
theorem dX7_drive_8 : decode cX7_drive 8 = .ok (.iconst (-1), 1) := by decide +kernel
theorem dX7_drive_9 : decode cX7_drive 9 = .ok (.ireturn, 1) := by decide +kernel
theorem dX7_drive_10 : decode cX7_drive 10 = .ok (.aload_n 0, 1) := by decide +kernel
theorem dX7_drive_11 : decode cX7_drive 11 = .ok (.iload_n 1, 1) := by decide +kernel
theorem dX7_drive_12 : decode cX7_drive 12 = .ok (.invokevirtual 81, 3) := by decide +kernel
theorem dX7_drive_15 : decode cX7_drive 15 = .ok (.ifCond .eq 6, 3) := by decide +kernel
theorem dX7_drive_18 : decode cX7_drive 18 = .ok (.bipush (-2), 2) := by decide +kernel
theorem dX7_drive_20 : decode cX7_drive 20 = .ok (.ireturn, 1) := by decide +kernel
theorem dX7_drive_21 : decode cX7_drive 21 = .ok (.aload_n 0, 1) := by decide +kernel
theorem dX7_drive_22 : decode cX7_drive 22 = .ok (.invokevirtual 191, 3) := by decide +kernel
theorem dX7_drive_25 : decode cX7_drive 25 = .ok (.aload_n 0, 1) := by decide +kernel
theorem dX7_drive_26 : decode cX7_drive 26 = .ok (.iload_n 1, 1) := by decide +kernel
theorem dX7_drive_27 : decode cX7_drive 27 = .ok (.aload_n 0, 1) := by decide +kernel
theorem dX7_drive_28 : decode cX7_drive 28 = .ok (.iload_n 1, 1) := by decide +kernel
theorem dX7_drive_29 : decode cX7_drive 29 = .ok (.invokevirtual 78, 3) := by decide +kernel
theorem dX7_drive_32 : decode cX7_drive 32 = .ok (.iconst 2, 1) := by decide +kernel
theorem dX7_drive_33 : decode cX7_drive 33 = .ok (.idiv, 1) := by decide +kernel
theorem dX7_drive_34 : decode cX7_drive 34 = .ok (.invokevirtual 102, 3) := by decide +kernel
theorem dX7_drive_37 : decode cX7_drive 37 = .ok (.aload_n 0, 1) := by decide +kernel
theorem dX7_drive_38 : decode cX7_drive 38 = .ok (.iload_n 1, 1) := by decide +kernel
theorem dX7_drive_39 : decode cX7_drive 39 = .ok (.invokevirtual 78, 3) := by decide +kernel
theorem dX7_drive_42 : decode cX7_drive 42 = .ok (.ireturn, 1) := by decide +kernel
theorem dX7_send_0 : decode cX7_send 0 = .ok (.aload_n 0, 1) := by decide +kernel
theorem dX7_send_1 : decode cX7_send 1 = .ok (.iload_n 1, 1) := by decide +kernel
theorem dX7_send_2 : decode cX7_send 2 = .ok (.invokevirtual 129, 3) := by decide +kernel
theorem dX7_send_5 : decode cX7_send 5 = .ok (.ifCond .ne 5, 3) := by decide +kernel
theorem dX7_send_8 : decode cX7_send 8 = .ok (.iconst (-1), 1) := by decide +kernel
theorem dX7_send_9 : decode cX7_send 9 = .ok (.ireturn, 1) := by decide +kernel
theorem dX7_send_10 : decode cX7_send 10 = .ok (.aload_n 0, 1) := by decide +kernel
theorem dX7_send_11 : decode cX7_send 11 = .ok (.iload_n 1, 1) := by decide +kernel
theorem dX7_send_12 : decode cX7_send 12 = .ok (.invokevirtual 70, 3) := by decide +kernel
theorem dX7_send_15 : decode cX7_send 15 = .ok (.istore_n 2, 1) := by decide +kernel
theorem dX7_send_16 : decode cX7_send 16 = .ok (.iload_n 2, 1) := by decide +kernel
theorem dX7_send_17 : decode cX7_send 17 = .ok (.bipush (-4), 2) := by decide +kernel
theorem dX7_send_19 : decode cX7_send 19 = .ok (.if_icmp .ne 6, 3) := by decide +kernel
theorem dX7_send_22 : decode cX7_send 22 = .ok (.bipush (-2), 2) := by decide +kernel
theorem dX7_send_24 : decode cX7_send 24 = .ok (.ireturn, 1) := by decide +kernel
theorem dX7_send_25 : decode cX7_send 25 = .ok (.aload_n 0, 1) := by decide +kernel
theorem dX7_send_26 : decode cX7_send 26 = .ok (.invokevirtual 191, 3) := by decide +kernel
theorem dX7_send_29 : decode cX7_send 29 = .ok (.aload_n 0, 1) := by decide +kernel
theorem dX7_send_30 : decode cX7_send 30 = .ok (.iload_n 1, 1) := by decide +kernel
theorem dX7_send_31 : decode cX7_send 31 = .ok (.bipush (-4), 2) := by decide +kernel
theorem dX7_send_33 : decode cX7_send 33 = .ok (.iconst 3, 1) := by decide +kernel
theorem dX7_send_34 : decode cX7_send 34 = .ok (.invokevirtual 91, 3) := by decide +kernel
theorem dX7_send_37 : decode cX7_send 37 = .ok (.iload_n 2, 1) := by decide +kernel
theorem dX7_send_38 : decode cX7_send 38 = .ok (.ireturn, 1) := by decide +kernel
theorem dX7_later_0 : decode cX7_later 0 = .ok (.aload_n 0, 1) := by decide +kernel
theorem dX7_later_1 : decode cX7_later 1 = .ok (.iload_n 1, 1) := by decide +kernel
theorem dX7_later_2 : decode cX7_later 2 = .ok (.invokevirtual 129, 3) := by decide +kernel
theorem dX7_later_5 : decode cX7_later 5 = .ok (.ifCond .eq 15, 3) := by decide +kernel
theorem dX7_later_8 : decode cX7_later 8 = .ok (.iload_n 2, 1) := by decide +kernel
theorem dX7_later_9 : decode cX7_later 9 = .ok (.i2l, 1) := by decide +kernel
theorem dX7_later_10 : decode cX7_later 10 = .ok (.lconst 0, 1) := by decide +kernel
theorem dX7_later_11 : decode cX7_later 11 = .ok (.ldc2_w 122, 3) := by decide +kernel
theorem dX7_later_14 : decode cX7_later 14 = .ok (.invokestatic 59, 3) := by decide +kernel
theorem dX7_later_17 : decode cX7_later 17 = .ok (.ifCond .ne 5, 3) := by decide +kernel
