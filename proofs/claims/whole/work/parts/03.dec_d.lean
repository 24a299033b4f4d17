theorem dX7_later_20 : decode cX7_later 20 = .ok (.iconst (-1), 1) := by decide +kernel
theorem dX7_later_21 : decode cX7_later 21 = .ok (.ireturn, 1) := by decide +kernel
theorem dX7_later_22 : decode cX7_later 22 = .ok (.aload_n 0, 1) := by decide +kernel
theorem dX7_later_23 : decode cX7_later 23 = .ok (.iload_n 1, 1) := by decide +kernel
theorem dX7_later_24 : decode cX7_later 24 = .ok (.iconst 1, 1) := by decide +kernel
theorem dX7_later_25 : decode cX7_later 25 = .ok (.invokevirtual 67, 3) := by decide +kernel
theorem dX7_later_28 : decode cX7_later 28 = .ok (.istore_n 3, 1) := by decide +kernel
theorem dX7_later_29 : decode cX7_later 29 = .ok (.iload_n 3, 1) := by decide +kernel
theorem dX7_later_30 : decode cX7_later 30 = .ok (.iload_n 2, 1) := by decide +kernel
theorem dX7_later_31 : decode cX7_later 31 = .ok (.if_icmp .ne 6, 3) := by decide +kernel
theorem dX7_later_34 : decode cX7_later 34 = .ok (.bipush (-2), 2) := by decide +kernel
theorem dX7_later_36 : decode cX7_later 36 = .ok (.ireturn, 1) := by decide +kernel
theorem dX7_later_37 : decode cX7_later 37 = .ok (.aload_n 0, 1) := by decide +kernel
theorem dX7_later_38 : decode cX7_later 38 = .ok (.invokevirtual 191, 3) := by decide +kernel
theorem dX7_later_41 : decode cX7_later 41 = .ok (.aload_n 0, 1) := by decide +kernel
theorem dX7_later_42 : decode cX7_later 42 = .ok (.iload_n 1, 1) := by decide +kernel
theorem dX7_later_43 : decode cX7_later 43 = .ok (.iload_n 2, 1) := by decide +kernel
theorem dX7_later_44 : decode cX7_later 44 = .ok (.iconst 1, 1) := by decide +kernel
theorem dX7_later_45 : decode cX7_later 45 = .ok (.invokevirtual 91, 3) := by decide +kernel
theorem dX7_later_48 : decode cX7_later 48 = .ok (.iload_n 3, 1) := by decide +kernel
theorem dX7_later_49 : decode cX7_later 49 = .ok (.ireturn, 1) := by decide +kernel
theorem dX7_drift_0 : decode cX7_drift 0 = .ok (.iload_n 1, 1) := by decide +kernel
theorem dX7_drift_1 : decode cX7_drift 1 = .ok (.i2l, 1) := by decide +kernel
theorem dX7_drift_2 : decode cX7_drift 2 = .ok (.lconst 1, 1) := by decide +kernel
theorem dX7_drift_3 : decode cX7_drift 3 = .ok (.ldc2_w 189, 3) := by decide +kernel
theorem dX7_drift_6 : decode cX7_drift 6 = .ok (.invokestatic 59, 3) := by decide +kernel
theorem dX7_drift_9 : decode cX7_drift 9 = .ok (.ifCond .ne 5, 3) := by decide +kernel
theorem dX7_drift_12 : decode cX7_drift 12 = .ok (.iconst (-1), 1) := by decide +kernel
theorem dX7_drift_13 : decode cX7_drift 13 = .ok (.ireturn, 1) := by decide +kernel
theorem dX7_drift_14 : decode cX7_drift 14 = .ok (.aload_n 0, 1) := by decide +kernel
theorem dX7_drift_15 : decode cX7_drift 15 = .ok (.getfield 7, 3) := by decide +kernel
theorem dX7_drift_18 : decode cX7_drift 18 = .ok (.iconst 2, 1) := by decide +kernel
theorem dX7_drift_19 : decode cX7_drift 19 = .ok (.iaload, 1) := by decide +kernel
theorem dX7_drift_20 : decode cX7_drift 20 = .ok (.iload_n 1, 1) := by decide +kernel
theorem dX7_drift_21 : decode cX7_drift 21 = .ok (.iadd, 1) := by decide +kernel
theorem dX7_drift_22 : decode cX7_drift 22 = .ok (.sipush 9999, 3) := by decide +kernel
theorem dX7_drift_25 : decode cX7_drift 25 = .ok (.if_icmp .le 6, 3) := by decide +kernel
theorem dX7_drift_28 : decode cX7_drift 28 = .ok (.bipush (-3), 2) := by decide +kernel
theorem dX7_drift_30 : decode cX7_drift 30 = .ok (.ireturn, 1) := by decide +kernel
theorem dX7_drift_31 : decode cX7_drift 31 = .ok (.iconst 0, 1) := by decide +kernel
theorem dX7_drift_32 : decode cX7_drift 32 = .ok (.istore_n 2, 1) := by decide +kernel
theorem dX7_drift_33 : decode cX7_drift 33 = .ok (.iload_n 2, 1) := by decide +kernel
theorem dX7_drift_34 : decode cX7_drift 34 = .ok (.iload_n 1, 1) := by decide +kernel
theorem dX7_drift_35 : decode cX7_drift 35 = .ok (.if_icmp .ge 96, 3) := by decide +kernel
theorem dX7_drift_38 : decode cX7_drift 38 = .ok (.aload_n 0, 1) := by decide +kernel
theorem dX7_drift_39 : decode cX7_drift 39 = .ok (.invokevirtual 191, 3) := by decide +kernel
theorem dX7_drift_42 : decode cX7_drift 42 = .ok (.aload_n 0, 1) := by decide +kernel
theorem dX7_drift_43 : decode cX7_drift 43 = .ok (.getfield 7, 3) := by decide +kernel
theorem dX7_drift_46 : decode cX7_drift 46 = .ok (.iconst 3, 1) := by decide +kernel
theorem dX7_drift_47 : decode cX7_drift 47 = .ok (.aload_n 0, 1) := by decide +kernel
theorem dX7_drift_48 : decode cX7_drift 48 = .ok (.getfield 7, 3) := by decide +kernel
theorem dX7_drift_51 : decode cX7_drift 51 = .ok (.iconst 3, 1) := by decide +kernel
theorem dX7_drift_52 : decode cX7_drift 52 = .ok (.iaload, 1) := by decide +kernel
theorem dX7_drift_53 : decode cX7_drift 53 = .ok (.i2l, 1) := by decide +kernel
theorem dX7_drift_54 : decode cX7_drift 54 = .ok (.ldc2_w 197, 3) := by decide +kernel
theorem dX7_drift_57 : decode cX7_drift 57 = .ok (.lmul, 1) := by decide +kernel
theorem dX7_drift_58 : decode cX7_drift 58 = .ok (.ldc2_w 199, 3) := by decide +kernel
theorem dX7_drift_61 : decode cX7_drift 61 = .ok (.ladd, 1) := by decide +kernel
theorem dX7_drift_62 : decode cX7_drift 62 = .ok (.ldc2_w 201, 3) := by decide +kernel
theorem dX7_drift_65 : decode cX7_drift 65 = .ok (.land, 1) := by decide +kernel
theorem dX7_drift_66 : decode cX7_drift 66 = .ok (.l2i, 1) := by decide +kernel
theorem dX7_drift_67 : decode cX7_drift 67 = .ok (.iastore, 1) := by decide +kernel
theorem dX7_drift_68 : decode cX7_drift 68 = .ok (.aload_n 0, 1) := by decide +kernel
theorem dX7_drift_69 : decode cX7_drift 69 = .ok (.getfield 7, 3) := by decide +kernel
theorem dX7_drift_72 : decode cX7_drift 72 = .ok (.iconst 0, 1) := by decide +kernel
theorem dX7_drift_73 : decode cX7_drift 73 = .ok (.iaload, 1) := by decide +kernel
theorem dX7_drift_74 : decode cX7_drift 74 = .ok (.ifCond .le 47, 3) := by decide +kernel
theorem dX7_drift_77 : decode cX7_drift 77 = .ok (.aload_n 0, 1) := by decide +kernel
theorem dX7_drift_78 : decode cX7_drift 78 = .ok (.getfield 7, 3) := by decide +kernel
theorem dX7_drift_81 : decode cX7_drift 81 = .ok (.iconst 3, 1) := by decide +kernel
theorem dX7_drift_82 : decode cX7_drift 82 = .ok (.iaload, 1) := by decide +kernel
theorem dX7_drift_83 : decode cX7_drift 83 = .ok (.ldc 203, 2) := by decide +kernel
theorem dX7_drift_85 : decode cX7_drift 85 = .ok (.idiv, 1) := by decide +kernel
theorem dX7_drift_86 : decode cX7_drift 86 = .ok (.iconst 3, 1) := by decide +kernel
theorem dX7_drift_87 : decode cX7_drift 87 = .ok (.irem, 1) := by decide +kernel
theorem dX7_drift_88 : decode cX7_drift 88 = .ok (.ifCond .ne 33, 3) := by decide +kernel
theorem dX7_drift_91 : decode cX7_drift 91 = .ok (.aload_n 0, 1) := by decide +kernel
theorem dX7_drift_92 : decode cX7_drift 92 = .ok (.getfield 7, 3) := by decide +kernel
theorem dX7_drift_95 : decode cX7_drift 95 = .ok (.iconst 3, 1) := by decide +kernel
theorem dX7_drift_96 : decode cX7_drift 96 = .ok (.iaload, 1) := by decide +kernel
theorem dX7_drift_97 : decode cX7_drift 97 = .ok (.sipush 128, 3) := by decide +kernel
theorem dX7_drift_100 : decode cX7_drift 100 = .ok (.idiv, 1) := by decide +kernel
theorem dX7_drift_101 : decode cX7_drift 101 = .ok (.aload_n 0, 1) := by decide +kernel
theorem dX7_drift_102 : decode cX7_drift 102 = .ok (.getfield 7, 3) := by decide +kernel
theorem dX7_drift_105 : decode cX7_drift 105 = .ok (.iconst 0, 1) := by decide +kernel
theorem dX7_drift_106 : decode cX7_drift 106 = .ok (.iaload, 1) := by decide +kernel
theorem dX7_drift_107 : decode cX7_drift 107 = .ok (.irem, 1) := by decide +kernel
theorem dX7_drift_108 : decode cX7_drift 108 = .ok (.istore_n 3, 1) := by decide +kernel
theorem dX7_drift_109 : decode cX7_drift 109 = .ok (.aload_n 0, 1) := by decide +kernel
theorem dX7_drift_110 : decode cX7_drift 110 = .ok (.iload_n 3, 1) := by decide +kernel
theorem dX7_drift_111 : decode cX7_drift 111 = .ok (.aload_n 0, 1) := by decide +kernel
theorem dX7_drift_112 : decode cX7_drift 112 = .ok (.iload_n 3, 1) := by decide +kernel
theorem dX7_drift_113 : decode cX7_drift 113 = .ok (.invokevirtual 78, 3) := by decide +kernel
theorem dX7_drift_116 : decode cX7_drift 116 = .ok (.iconst 2, 1) := by decide +kernel
theorem dX7_drift_117 : decode cX7_drift 117 = .ok (.idiv, 1) := by decide +kernel
theorem dX7_drift_118 : decode cX7_drift 118 = .ok (.invokevirtual 102, 3) := by decide +kernel
theorem dX7_drift_121 : decode cX7_drift 121 = .ok (.aload_n 0, 1) := by decide +kernel
theorem dX7_drift_122 : decode cX7_drift 122 = .ok (.invokevirtual 106, 3) := by decide +kernel
theorem dX7_drift_125 : decode cX7_drift 125 = .ok (.iinc 2 1, 3) := by decide +kernel
theorem dX7_drift_128 : decode cX7_drift 128 = .ok (.goto (-95), 3) := by decide +kernel
theorem dX7_drift_131 : decode cX7_drift 131 = .ok (.aload_n 0, 1) := by decide +kernel
theorem dX7_drift_132 : decode cX7_drift 132 = .ok (.invokevirtual 142, 3) := by decide +kernel
theorem dX7_drift_135 : decode cX7_drift 135 = .ok (.ireturn, 1) := by decide +kernel
theorem dX7_undo_0 : decode cX7_undo 0 = .ok (.aload_n 0, 1) := by decide +kernel
theorem dX7_undo_1 : decode cX7_undo 1 = .ok (.getfield 109, 3) := by decide +kernel
theorem dX7_undo_4 : decode cX7_undo 4 = .ok (.ifCond .ne 6, 3) := by decide +kernel
theorem dX7_undo_7 : decode cX7_undo 7 = .ok (.bipush (-4), 2) := by decide +kernel
theorem dX7_undo_9 : decode cX7_undo 9 = .ok (.ireturn, 1) := by decide +kernel
theorem dX7_undo_10 : decode cX7_undo 10 = .ok (.aload_n 0, 1) := by decide +kernel
theorem dX7_undo_11 : decode cX7_undo 11 = .ok (.dup, 1) := by decide +kernel
theorem dX7_undo_12 : decode cX7_undo 12 = .ok (.getfield 109, 3) := by decide +kernel
theorem dX7_undo_15 : decode cX7_undo 15 = .ok (.iconst 1, 1) := by decide +kernel
theorem dX7_undo_16 : decode cX7_undo 16 = .ok (.isub, 1) := by decide +kernel
theorem dX7_undo_17 : decode cX7_undo 17 = .ok (.putfield 109, 3) := by decide +kernel
theorem dX7_undo_20 : decode cX7_undo 20 = .ok (.bipush 21, 2) := by decide +kernel
theorem dX7_undo_22 : decode cX7_undo 22 = .ok (.aload_n 0, 1) := by decide +kernel
theorem dX7_undo_23 : decode cX7_undo 23 = .ok (.getfield 109, 3) := by decide +kernel
theorem dX7_undo_26 : decode cX7_undo 26 = .ok (.imul, 1) := by decide +kernel
theorem dX7_undo_27 : decode cX7_undo 27 = .ok (.istore_n 1, 1) := by decide +kernel
theorem dX7_undo_28 : decode cX7_undo 28 = .ok (.aload_n 0, 1) := by decide +kernel
theorem dX7_undo_29 : decode cX7_undo 29 = .ok (.getfield 7, 3) := by decide +kernel
theorem dX7_undo_32 : decode cX7_undo 32 = .ok (.iconst 2, 1) := by decide +kernel
theorem dX7_undo_33 : decode cX7_undo 33 = .ok (.aload_n 0, 1) := by decide +kernel
theorem dX7_undo_34 : decode cX7_undo 34 = .ok (.getfield 25, 3) := by decide +kernel
theorem dX7_undo_37 : decode cX7_undo 37 = .ok (.iload_n 1, 1) := by decide +kernel
theorem dX7_undo_38 : decode cX7_undo 38 = .ok (.iaload, 1) := by decide +kernel
theorem dX7_undo_39 : decode cX7_undo 39 = .ok (.iastore, 1) := by decide +kernel
theorem dX7_undo_40 : decode cX7_undo 40 = .ok (.aload_n 0, 1) := by decide +kernel
theorem dX7_undo_41 : decode cX7_undo 41 = .ok (.getfield 7, 3) := by decide +kernel
theorem dX7_undo_44 : decode cX7_undo 44 = .ok (.iconst 3, 1) := by decide +kernel
theorem dX7_undo_45 : decode cX7_undo 45 = .ok (.aload_n 0, 1) := by decide +kernel
theorem dX7_undo_46 : decode cX7_undo 46 = .ok (.getfield 25, 3) := by decide +kernel
theorem dX7_undo_49 : decode cX7_undo 49 = .ok (.iload_n 1, 1) := by decide +kernel
theorem dX7_undo_50 : decode cX7_undo 50 = .ok (.iconst 1, 1) := by decide +kernel
theorem dX7_undo_51 : decode cX7_undo 51 = .ok (.iadd, 1) := by decide +kernel
theorem dX7_undo_52 : decode cX7_undo 52 = .ok (.iaload, 1) := by decide +kernel
theorem dX7_undo_53 : decode cX7_undo 53 = .ok (.iastore, 1) := by decide +kernel
theorem dX7_undo_54 : decode cX7_undo 54 = .ok (.iconst 0, 1) := by decide +kernel
theorem dX7_undo_55 : decode cX7_undo 55 = .ok (.istore_n 2, 1) := by decide +kernel
theorem dX7_undo_56 : decode cX7_undo 56 = .ok (.iload_n 2, 1) := by decide +kernel
theorem dX7_undo_57 : decode cX7_undo 57 = .ok (.bipush 7, 2) := by decide +kernel
theorem dX7_undo_59 : decode cX7_undo 59 = .ok (.if_icmp .ge 31, 3) := by decide +kernel
theorem dX7_undo_62 : decode cX7_undo 62 = .ok (.aload_n 0, 1) := by decide +kernel
theorem dX7_undo_63 : decode cX7_undo 63 = .ok (.getfield 7, 3) := by decide +kernel
theorem dX7_undo_66 : decode cX7_undo 66 = .ok (.iconst 4, 1) := by decide +kernel
theorem dX7_undo_67 : decode cX7_undo 67 = .ok (.iconst 3, 1) := by decide +kernel
theorem dX7_undo_68 : decode cX7_undo 68 = .ok (.iload_n 2, 1) := by decide +kernel
theorem dX7_undo_69 : decode cX7_undo 69 = .ok (.imul, 1) := by decide +kernel
theorem dX7_undo_70 : decode cX7_undo 70 = .ok (.iadd, 1) := by decide +kernel
theorem dX7_undo_71 : decode cX7_undo 71 = .ok (.iconst 2, 1) := by decide +kernel
theorem dX7_undo_72 : decode cX7_undo 72 = .ok (.iadd, 1) := by decide +kernel
theorem dX7_undo_73 : decode cX7_undo 73 = .ok (.aload_n 0, 1) := by decide +kernel
theorem dX7_undo_74 : decode cX7_undo 74 = .ok (.getfield 25, 3) := by decide +kernel
theorem dX7_undo_77 : decode cX7_undo 77 = .ok (.iload_n 1, 1) := by decide +kernel
theorem dX7_undo_78 : decode cX7_undo 78 = .ok (.iconst 2, 1) := by decide +kernel
theorem dX7_undo_79 : decode cX7_undo 79 = .ok (.iadd, 1) := by decide +kernel
theorem dX7_undo_80 : decode cX7_undo 80 = .ok (.iload_n 2, 1) := by decide +kernel
theorem dX7_undo_81 : decode cX7_undo 81 = .ok (.iadd, 1) := by decide +kernel
theorem dX7_undo_82 : decode cX7_undo 82 = .ok (.iaload, 1) := by decide +kernel
theorem dX7_undo_83 : decode cX7_undo 83 = .ok (.iastore, 1) := by decide +kernel
theorem dX7_undo_84 : decode cX7_undo 84 = .ok (.iinc 2 1, 3) := by decide +kernel
theorem dX7_undo_87 : decode cX7_undo 87 = .ok (.goto (-31), 3) := by decide +kernel
theorem dX7_undo_90 : decode cX7_undo 90 = .ok (.iconst 0, 1) := by decide +kernel
theorem dX7_undo_91 : decode cX7_undo 91 = .ok (.istore_n 2, 1) := by decide +kernel
theorem dX7_undo_92 : decode cX7_undo 92 = .ok (.iload_n 2, 1) := by decide +kernel
theorem dX7_undo_93 : decode cX7_undo 93 = .ok (.bipush 6, 2) := by decide +kernel
theorem dX7_undo_95 : decode cX7_undo 95 = .ok (.if_icmp .ge 43, 3) := by decide +kernel
theorem dX7_undo_98 : decode cX7_undo 98 = .ok (.aload_n 0, 1) := by decide +kernel
theorem dX7_undo_99 : decode cX7_undo 99 = .ok (.iload_n 2, 1) := by decide +kernel
theorem dX7_undo_100 : decode cX7_undo 100 = .ok (.aload_n 0, 1) := by decide +kernel
theorem dX7_undo_101 : decode cX7_undo 101 = .ok (.getfield 25, 3) := by decide +kernel
theorem dX7_undo_104 : decode cX7_undo 104 = .ok (.iload_n 1, 1) := by decide +kernel
theorem dX7_undo_105 : decode cX7_undo 105 = .ok (.bipush 9, 2) := by decide +kernel
theorem dX7_undo_107 : decode cX7_undo 107 = .ok (.iadd, 1) := by decide +kernel
theorem dX7_undo_108 : decode cX7_undo 108 = .ok (.iload_n 2, 1) := by decide +kernel
theorem dX7_undo_109 : decode cX7_undo 109 = .ok (.iadd, 1) := by decide +kernel
theorem dX7_undo_110 : decode cX7_undo 110 = .ok (.iaload, 1) := by decide +kernel
theorem dX7_undo_111 : decode cX7_undo 111 = .ok (.iconst 1, 1) := by decide +kernel
theorem dX7_undo_112 : decode cX7_undo 112 = .ok (.invokevirtual 91, 3) := by decide +kernel
theorem dX7_undo_115 : decode cX7_undo 115 = .ok (.aload_n 0, 1) := by decide +kernel
theorem dX7_undo_116 : decode cX7_undo 116 = .ok (.iload_n 2, 1) := by decide +kernel
theorem dX7_undo_117 : decode cX7_undo 117 = .ok (.aload_n 0, 1) := by decide +kernel
theorem dX7_undo_118 : decode cX7_undo 118 = .ok (.getfield 25, 3) := by decide +kernel
theorem dX7_undo_121 : decode cX7_undo 121 = .ok (.iload_n 1, 1) := by decide +kernel
theorem dX7_undo_122 : decode cX7_undo 122 = .ok (.bipush 15, 2) := by decide +kernel
theorem dX7_undo_124 : decode cX7_undo 124 = .ok (.iadd, 1) := by decide +kernel
theorem dX7_undo_125 : decode cX7_undo 125 = .ok (.iload_n 2, 1) := by decide +kernel
theorem dX7_undo_126 : decode cX7_undo 126 = .ok (.iadd, 1) := by decide +kernel
theorem dX7_undo_127 : decode cX7_undo 127 = .ok (.iaload, 1) := by decide +kernel
theorem dX7_undo_128 : decode cX7_undo 128 = .ok (.iconst 3, 1) := by decide +kernel
theorem dX7_undo_129 : decode cX7_undo 129 = .ok (.invokevirtual 91, 3) := by decide +kernel
theorem dX7_undo_132 : decode cX7_undo 132 = .ok (.iinc 2 1, 3) := by decide +kernel
theorem dX7_undo_135 : decode cX7_undo 135 = .ok (.goto (-43), 3) := by decide +kernel
theorem dX7_undo_138 : decode cX7_undo 138 = .ok (.aload_n 0, 1) := by decide +kernel
theorem dX7_undo_139 : decode cX7_undo 139 = .ok (.getfield 109, 3) := by decide +kernel
theorem dX7_undo_142 : decode cX7_undo 142 = .ok (.ireturn, 1) := by decide +kernel
theorem dX7_seed_0 : decode cX7_seed 0 = .ok (.iload_n 1, 1) := by decide +kernel
theorem dX7_seed_1 : decode cX7_seed 1 = .ok (.ifCond .ge 5, 3) := by decide +kernel
theorem dX7_seed_4 : decode cX7_seed 4 = .ok (.iconst (-1), 1) := by decide +kernel
theorem dX7_seed_5 : decode cX7_seed 5 = .ok (.ireturn, 1) := by decide +kernel
theorem dX7_seed_6 : decode cX7_seed 6 = .ok (.aload_n 0, 1) := by decide +kernel
theorem dX7_seed_7 : decode cX7_seed 7 = .ok (.getfield 7, 3) := by decide +kernel
theorem dX7_seed_10 : decode cX7_seed 10 = .ok (.iconst 3, 1) := by decide +kernel
theorem dX7_seed_11 : decode cX7_seed 11 = .ok (.iaload, 1) := by decide +kernel
theorem dX7_seed_12 : decode cX7_seed 12 = .ok (.istore_n 2, 1) := by decide +kernel
theorem dX7_seed_13 : decode cX7_seed 13 = .ok (.aload_n 0, 1) := by decide +kernel
theorem dX7_seed_14 : decode cX7_seed 14 = .ok (.getfield 7, 3) := by decide +kernel
theorem dX7_seed_17 : decode cX7_seed 17 = .ok (.iconst 3, 1) := by decide +kernel
theorem dX7_seed_18 : decode cX7_seed 18 = .ok (.iload_n 1, 1) := by decide +kernel
theorem dX7_seed_19 : decode cX7_seed 19 = .ok (.iastore, 1) := by decide +kernel
theorem dX7_seed_20 : decode cX7_seed 20 = .ok (.iload_n 2, 1) := by decide +kernel
theorem dX7_seed_21 : decode cX7_seed 21 = .ok (.ireturn, 1) := by decide +kernel
theorem dX7_asides_0 : decode cX7_asides 0 = .ok (.iconst 0, 1) := by decide +kernel
theorem dX7_asides_1 : decode cX7_asides 1 = .ok (.istore_n 1, 1) := by decide +kernel
theorem dX7_asides_2 : decode cX7_asides 2 = .ok (.iload_n 1, 1) := by decide +kernel
theorem dX7_asides_3 : decode cX7_asides 3 = .ok (.bipush 49, 2) := by decide +kernel
theorem dX7_asides_5 : decode cX7_asides 5 = .ok (.if_icmp .ge 21, 3) := by decide +kernel
theorem dX7_asides_8 : decode cX7_asides 8 = .ok (.aload_n 0, 1) := by decide +kernel
theorem dX7_asides_9 : decode cX7_asides 9 = .ok (.getfield 28, 3) := by decide +kernel
theorem dX7_asides_12 : decode cX7_asides 12 = .ok (.iload_n 1, 1) := by decide +kernel
theorem dX7_asides_13 : decode cX7_asides 13 = .ok (.aload_n 0, 1) := by decide +kernel
theorem dX7_asides_14 : decode cX7_asides 14 = .ok (.getfield 7, 3) := by decide +kernel
theorem dX7_asides_17 : decode cX7_asides 17 = .ok (.iload_n 1, 1) := by decide +kernel
theorem dX7_asides_18 : decode cX7_asides 18 = .ok (.iaload, 1) := by decide +kernel
theorem dX7_asides_19 : decode cX7_asides 19 = .ok (.iastore, 1) := by decide +kernel
theorem dX7_asides_20 : decode cX7_asides 20 = .ok (.iinc 1 1, 3) := by decide +kernel
theorem dX7_asides_23 : decode cX7_asides 23 = .ok (.goto (-21), 3) := by decide +kernel
theorem dX7_asides_26 : decode cX7_asides 26 = .ok (.return_, 1) := by decide +kernel
theorem dX7_backs_0 : decode cX7_backs 0 = .ok (.iconst 0, 1) := by decide +kernel
theorem dX7_backs_1 : decode cX7_backs 1 = .ok (.istore_n 1, 1) := by decide +kernel
theorem dX7_backs_2 : decode cX7_backs 2 = .ok (.iload_n 1, 1) := by decide +kernel
theorem dX7_backs_3 : decode cX7_backs 3 = .ok (.bipush 49, 2) := by decide +kernel
theorem dX7_backs_5 : decode cX7_backs 5 = .ok (.if_icmp .ge 21, 3) := by decide +kernel
theorem dX7_backs_8 : decode cX7_backs 8 = .ok (.aload_n 0, 1) := by decide +kernel
theorem dX7_backs_9 : decode cX7_backs 9 = .ok (.getfield 7, 3) := by decide +kernel
theorem dX7_backs_12 : decode cX7_backs 12 = .ok (.iload_n 1, 1) := by decide +kernel
theorem dX7_backs_13 : decode cX7_backs 13 = .ok (.aload_n 0, 1) := by decide +kernel
theorem dX7_backs_14 : decode cX7_backs 14 = .ok (.getfield 28, 3) := by decide +kernel
theorem dX7_backs_17 : decode cX7_backs 17 = .ok (.iload_n 1, 1) := by decide +kernel
theorem dX7_backs_18 : decode cX7_backs 18 = .ok (.iaload, 1) := by decide +kernel
theorem dX7_backs_19 : decode cX7_backs 19 = .ok (.iastore, 1) := by decide +kernel
theorem dX7_backs_20 : decode cX7_backs 20 = .ok (.iinc 1 1, 3) := by decide +kernel
theorem dX7_backs_23 : decode cX7_backs 23 = .ok (.goto (-21), 3) := by decide +kernel
theorem dX7_backs_26 : decode cX7_backs 26 = .ok (.return_, 1) := by decide +kernel
theorem dX7_ahead_0 : decode cX7_ahead 0 = .ok (.aload_n 0, 1) := by decide +kernel
theorem dX7_ahead_1 : decode cX7_ahead 1 = .ok (.iload_n 1, 1) := by decide +kernel
theorem dX7_ahead_2 : decode cX7_ahead 2 = .ok (.invokevirtual 74, 3) := by decide +kernel
theorem dX7_ahead_5 : decode cX7_ahead 5 = .ok (.ifCond .eq 15, 3) := by decide +kernel
theorem dX7_ahead_8 : decode cX7_ahead 8 = .ok (.iload_n 2, 1) := by decide +kernel
theorem dX7_ahead_9 : decode cX7_ahead 9 = .ok (.i2l, 1) := by decide +kernel
theorem dX7_ahead_10 : decode cX7_ahead 10 = .ok (.lconst 0, 1) := by decide +kernel
theorem dX7_ahead_11 : decode cX7_ahead 11 = .ok (.ldc2_w 189, 3) := by decide +kernel
theorem dX7_ahead_14 : decode cX7_ahead 14 = .ok (.invokestatic 59, 3) := by decide +kernel
theorem dX7_ahead_17 : decode cX7_ahead 17 = .ok (.ifCond .ne 5, 3) := by decide +kernel
theorem dX7_ahead_20 : decode cX7_ahead 20 = .ok (.iconst (-1), 1) := by decide +kernel
theorem dX7_ahead_21 : decode cX7_ahead 21 = .ok (.ireturn, 1) := by decide +kernel
theorem dX7_ahead_22 : decode cX7_ahead 22 = .ok (.aload_n 0, 1) := by decide +kernel
theorem dX7_ahead_23 : decode cX7_ahead 23 = .ok (.invokevirtual 204, 3) := by decide +kernel
theorem dX7_ahead_26 : decode cX7_ahead 26 = .ok (.aload_n 0, 1) := by decide +kernel
theorem dX7_ahead_27 : decode cX7_ahead 27 = .ok (.iload_n 2, 1) := by decide +kernel
theorem dX7_ahead_28 : decode cX7_ahead 28 = .ok (.invokevirtual 207, 3) := by decide +kernel
theorem dX7_ahead_31 : decode cX7_ahead 31 = .ok (.aload_n 0, 1) := by decide +kernel
theorem dX7_ahead_32 : decode cX7_ahead 32 = .ok (.iload_n 1, 1) := by decide +kernel
theorem dX7_ahead_33 : decode cX7_ahead 33 = .ok (.invokevirtual 78, 3) := by decide +kernel
theorem dX7_ahead_36 : decode cX7_ahead 36 = .ok (.istore_n 3, 1) := by decide +kernel
theorem dX7_ahead_37 : decode cX7_ahead 37 = .ok (.aload_n 0, 1) := by decide +kernel
theorem dX7_ahead_38 : decode cX7_ahead 38 = .ok (.invokevirtual 210, 3) := by decide +kernel
theorem dX7_ahead_41 : decode cX7_ahead 41 = .ok (.iload_n 3, 1) := by decide +kernel
theorem dX7_ahead_42 : decode cX7_ahead 42 = .ok (.ireturn, 1) := by decide +kernel
theorem dX7_claims_0 : decode cX7_claims 0 = .ok (.aload_n 0, 1) := by decide +kernel
theorem dX7_claims_1 : decode cX7_claims 1 = .ok (.iload_n 1, 1) := by decide +kernel
theorem dX7_claims_2 : decode cX7_claims 2 = .ok (.invokevirtual 129, 3) := by decide +kernel
theorem dX7_claims_5 : decode cX7_claims 5 = .ok (.ifCond .eq 15, 3) := by decide +kernel
theorem dX7_claims_8 : decode cX7_claims 8 = .ok (.iload_n 2, 1) := by decide +kernel
theorem dX7_claims_9 : decode cX7_claims 9 = .ok (.i2l, 1) := by decide +kernel
theorem dX7_claims_10 : decode cX7_claims 10 = .ok (.lconst 0, 1) := by decide +kernel
theorem dX7_claims_11 : decode cX7_claims 11 = .ok (.ldc2_w 189, 3) := by decide +kernel
theorem dX7_claims_14 : decode cX7_claims 14 = .ok (.invokestatic 59, 3) := by decide +kernel
theorem dX7_claims_17 : decode cX7_claims 17 = .ok (.ifCond .ne 5, 3) := by decide +kernel
theorem dX7_claims_20 : decode cX7_claims 20 = .ok (.iconst (-1), 1) := by decide +kernel
theorem dX7_claims_21 : decode cX7_claims 21 = .ok (.ireturn, 1) := by decide +kernel
theorem dX7_claims_22 : decode cX7_claims 22 = .ok (.aload_n 0, 1) := by decide +kernel
theorem dX7_claims_23 : decode cX7_claims 23 = .ok (.invokevirtual 204, 3) := by decide +kernel
theorem dX7_claims_26 : decode cX7_claims 26 = .ok (.aload_n 0, 1) := by decide +kernel
theorem dX7_claims_27 : decode cX7_claims 27 = .ok (.iload_n 2, 1) := by decide +kernel
theorem dX7_claims_28 : decode cX7_claims 28 = .ok (.invokevirtual 207, 3) := by decide +kernel
theorem dX7_claims_31 : decode cX7_claims 31 = .ok (.aload_n 0, 1) := by decide +kernel
theorem dX7_claims_32 : decode cX7_claims 32 = .ok (.iload_n 1, 1) := by decide +kernel
theorem dX7_claims_33 : decode cX7_claims 33 = .ok (.invokevirtual 70, 3) := by decide +kernel
theorem dX7_claims_36 : decode cX7_claims 36 = .ok (.istore_n 3, 1) := by decide +kernel
theorem dX7_claims_37 : decode cX7_claims 37 = .ok (.aload_n 0, 1) := by decide +kernel
theorem dX7_claims_38 : decode cX7_claims 38 = .ok (.invokevirtual 210, 3) := by decide +kernel
theorem dX7_claims_41 : decode cX7_claims 41 = .ok (.iload_n 3, 1) := by decide +kernel
theorem dX7_claims_42 : decode cX7_claims 42 = .ok (.ireturn, 1) := by decide +kernel
theorem dX7_then_0 : decode cX7_then 0 = .ok (.iload_n 1, 1) := by decide +kernel
theorem dX7_then_1 : decode cX7_then 1 = .ok (.i2l, 1) := by decide +kernel
theorem dX7_then_2 : decode cX7_then 2 = .ok (.lconst 0, 1) := by decide +kernel
theorem dX7_then_3 : decode cX7_then 3 = .ok (.ldc2_w 189, 3) := by decide +kernel
theorem dX7_then_6 : decode cX7_then 6 = .ok (.invokestatic 59, 3) := by decide +kernel
theorem dX7_then_9 : decode cX7_then 9 = .ok (.ifCond .ne 5, 3) := by decide +kernel
theorem dX7_then_12 : decode cX7_then 12 = .ok (.iconst (-1), 1) := by decide +kernel
theorem dX7_then_13 : decode cX7_then 13 = .ok (.ireturn, 1) := by decide +kernel
theorem dX7_then_14 : decode cX7_then 14 = .ok (.aload_n 0, 1) := by decide +kernel
theorem dX7_then_15 : decode cX7_then 15 = .ok (.invokevirtual 204, 3) := by decide +kernel
theorem dX7_then_18 : decode cX7_then 18 = .ok (.aload_n 0, 1) := by decide +kernel
theorem dX7_then_19 : decode cX7_then 19 = .ok (.iload_n 1, 1) := by decide +kernel
theorem dX7_then_20 : decode cX7_then 20 = .ok (.invokevirtual 207, 3) := by decide +kernel
theorem dX7_then_23 : decode cX7_then 23 = .ok (.aload_n 0, 1) := by decide +kernel
theorem dX7_then_24 : decode cX7_then 24 = .ok (.invokevirtual 142, 3) := by decide +kernel
theorem dX7_then_27 : decode cX7_then 27 = .ok (.istore_n 2, 1) := by decide +kernel
theorem dX7_then_28 : decode cX7_then 28 = .ok (.aload_n 0, 1) := by decide +kernel
theorem dX7_then_29 : decode cX7_then 29 = .ok (.invokevirtual 210, 3) := by decide +kernel
theorem dX7_then_32 : decode cX7_then 32 = .ok (.iload_n 2, 1) := by decide +kernel
theorem dX7_then_33 : decode cX7_then 33 = .ok (.ireturn, 1) := by decide +kernel
theorem dX7_served_0 : decode cX7_served 0 = .ok (.aload_n 0, 1) := by decide +kernel
theorem dX7_served_1 : decode cX7_served 1 = .ok (.iload_n 1, 1) := by decide +kernel
theorem dX7_served_2 : decode cX7_served 2 = .ok (.invokevirtual 129, 3) := by decide +kernel
theorem dX7_served_5 : decode cX7_served 5 = .ok (.ifCond .ne 5, 3) := by decide +kernel
theorem dX7_served_8 : decode cX7_served 8 = .ok (.iconst (-1), 1) := by decide +kernel
theorem dX7_served_9 : decode cX7_served 9 = .ok (.ireturn, 1) := by decide +kernel
theorem dX7_served_10 : decode cX7_served 10 = .ok (.aload_n 0, 1) := by decide +kernel
theorem dX7_served_11 : decode cX7_served 11 = .ok (.invokevirtual 204, 3) := by decide +kernel
theorem dX7_served_14 : decode cX7_served 14 = .ok (.iconst 0, 1) := by decide +kernel
theorem dX7_served_15 : decode cX7_served 15 = .ok (.istore_n 2, 1) := by decide +kernel
theorem dX7_served_16 : decode cX7_served 16 = .ok (.iload_n 2, 1) := by decide +kernel
theorem dX7_served_17 : decode cX7_served 17 = .ok (.bipush 41, 2) := by decide +kernel
theorem dX7_served_19 : decode cX7_served 19 = .ok (.if_icmp .ge 23, 3) := by decide +kernel
theorem dX7_served_22 : decode cX7_served 22 = .ok (.aload_n 0, 1) := by decide +kernel
theorem dX7_served_23 : decode cX7_served 23 = .ok (.iload_n 1, 1) := by decide +kernel
theorem dX7_served_24 : decode cX7_served 24 = .ok (.invokevirtual 70, 3) := by decide +kernel
theorem dX7_served_27 : decode cX7_served 27 = .ok (.bipush (-4), 2) := by decide +kernel
theorem dX7_served_29 : decode cX7_served 29 = .ok (.if_icmp .ne 13, 3) := by decide +kernel
theorem dX7_served_32 : decode cX7_served 32 = .ok (.aload_n 0, 1) := by decide +kernel
theorem dX7_served_33 : decode cX7_served 33 = .ok (.invokevirtual 106, 3) := by decide +kernel
theorem dX7_served_36 : decode cX7_served 36 = .ok (.iinc 2 1, 3) := by decide +kernel
theorem dX7_served_39 : decode cX7_served 39 = .ok (.goto (-23), 3) := by decide +kernel
theorem dX7_served_42 : decode cX7_served 42 = .ok (.aload_n 0, 1) := by decide +kernel
theorem dX7_served_43 : decode cX7_served 43 = .ok (.invokevirtual 210, 3) := by decide +kernel
theorem dX7_served_46 : decode cX7_served 46 = .ok (.iload_n 2, 1) := by decide +kernel
theorem dX7_served_47 : decode cX7_served 47 = .ok (.bipush 41, 2) := by decide +kernel
theorem dX7_served_49 : decode cX7_served 49 = .ok (.if_icmp .ge 7, 3) := by decide +kernel
theorem dX7_served_52 : decode cX7_served 52 = .ok (.iload_n 2, 1) := by decide +kernel
theorem dX7_served_53 : decode cX7_served 53 = .ok (.goto 5, 3) := by decide +kernel
theorem dX7_served_56 : decode cX7_served 56 = .ok (.bipush (-4), 2) := by decide +kernel
theorem dX7_served_58 : decode cX7_served 58 = .ok (.ireturn, 1) := by decide +kernel
theorem dX7_dries_0 : decode cX7_dries 0 = .ok (.aload_n 0, 1) := by decide +kernel
theorem dX7_dries_1 : decode cX7_dries 1 = .ok (.iload_n 1, 1) := by decide +kernel
theorem dX7_dries_2 : decode cX7_dries 2 = .ok (.invokevirtual 74, 3) := by decide +kernel
theorem dX7_dries_5 : decode cX7_dries 5 = .ok (.ifCond .ne 5, 3) := by decide +kernel
theorem dX7_dries_8 : decode cX7_dries 8 = .ok (.iconst (-1), 1) := by decide +kernel
theorem dX7_dries_9 : decode cX7_dries 9 = .ok (.ireturn, 1) := by decide +kernel
theorem dX7_dries_10 : decode cX7_dries 10 = .ok (.aload_n 0, 1) := by decide +kernel
theorem dX7_dries_11 : decode cX7_dries 11 = .ok (.invokevirtual 204, 3) := by decide +kernel
theorem dX7_dries_14 : decode cX7_dries 14 = .ok (.iconst 0, 1) := by decide +kernel
theorem dX7_dries_15 : decode cX7_dries 15 = .ok (.istore_n 2, 1) := by decide +kernel
theorem dX7_dries_16 : decode cX7_dries 16 = .ok (.iload_n 2, 1) := by decide +kernel
theorem dX7_dries_17 : decode cX7_dries 17 = .ok (.bipush 41, 2) := by decide +kernel
theorem dX7_dries_19 : decode cX7_dries 19 = .ok (.if_icmp .ge 21, 3) := by decide +kernel
theorem dX7_dries_22 : decode cX7_dries 22 = .ok (.aload_n 0, 1) := by decide +kernel
theorem dX7_dries_23 : decode cX7_dries 23 = .ok (.iload_n 1, 1) := by decide +kernel
theorem dX7_dries_24 : decode cX7_dries 24 = .ok (.invokevirtual 81, 3) := by decide +kernel
theorem dX7_dries_27 : decode cX7_dries 27 = .ok (.ifCond .ne 13, 3) := by decide +kernel
theorem dX7_dries_30 : decode cX7_dries 30 = .ok (.aload_n 0, 1) := by decide +kernel
theorem dX7_dries_31 : decode cX7_dries 31 = .ok (.invokevirtual 106, 3) := by decide +kernel
theorem dX7_dries_34 : decode cX7_dries 34 = .ok (.iinc 2 1, 3) := by decide +kernel
theorem dX7_dries_37 : decode cX7_dries 37 = .ok (.goto (-21), 3) := by decide +kernel
theorem dX7_dries_40 : decode cX7_dries 40 = .ok (.aload_n 0, 1) := by decide +kernel
theorem dX7_dries_41 : decode cX7_dries 41 = .ok (.invokevirtual 210, 3) := by decide +kernel
theorem dX7_dries_44 : decode cX7_dries 44 = .ok (.iload_n 2, 1) := by decide +kernel
theorem dX7_dries_45 : decode cX7_dries 45 = .ok (.bipush 41, 2) := by decide +kernel
theorem dX7_dries_47 : decode cX7_dries 47 = .ok (.if_icmp .ge 7, 3) := by decide +kernel
theorem dX7_dries_50 : decode cX7_dries 50 = .ok (.iload_n 2, 1) := by decide +kernel
theorem dX7_dries_51 : decode cX7_dries 51 = .ok (.goto 5, 3) := by decide +kernel
theorem dX7_dries_54 : decode cX7_dries 54 = .ok (.bipush (-4), 2) := by decide +kernel
theorem dX7_dries_56 : decode cX7_dries 56 = .ok (.ireturn, 1) := by decide +kernel
theorem dX7_match_0 : decode cX7_match 0 = .ok (.iconst 0, 1) := by decide +kernel
theorem dX7_match_1 : decode cX7_match 1 = .ok (.istore_n 1, 1) := by decide +kernel
theorem dX7_match_2 : decode cX7_match 2 = .ok (.iload_n 1, 1) := by decide +kernel
theorem dX7_match_3 : decode cX7_match 3 = .ok (.sipush 128, 3) := by decide +kernel
theorem dX7_match_6 : decode cX7_match 6 = .ok (.if_icmp .ge 16, 3) := by decide +kernel
theorem dX7_match_9 : decode cX7_match 9 = .ok (.aload_n 0, 1) := by decide +kernel
theorem dX7_match_10 : decode cX7_match 10 = .ok (.getfield 31, 3) := by decide +kernel
theorem dX7_match_13 : decode cX7_match 13 = .ok (.iload_n 1, 1) := by decide +kernel
theorem dX7_match_14 : decode cX7_match 14 = .ok (.iconst 0, 1) := by decide +kernel
theorem dX7_match_15 : decode cX7_match 15 = .ok (.iastore, 1) := by decide +kernel
theorem dX7_match_16 : decode cX7_match 16 = .ok (.iinc 1 1, 3) := by decide +kernel
theorem dX7_match_19 : decode cX7_match 19 = .ok (.goto (-17), 3) := by decide +kernel
theorem dX7_match_22 : decode cX7_match 22 = .ok (.iconst 0, 1) := by decide +kernel
theorem dX7_match_23 : decode cX7_match 23 = .ok (.istore_n 1, 1) := by decide +kernel
theorem dX7_match_24 : decode cX7_match 24 = .ok (.iload_n 1, 1) := by decide +kernel
theorem dX7_match_25 : decode cX7_match 25 = .ok (.aload_n 0, 1) := by decide +kernel
theorem dX7_match_26 : decode cX7_match 26 = .ok (.getfield 7, 3) := by decide +kernel
theorem dX7_match_29 : decode cX7_match 29 = .ok (.iconst 1, 1) := by decide +kernel
theorem dX7_match_30 : decode cX7_match 30 = .ok (.iaload, 1) := by decide +kernel
theorem dX7_match_31 : decode cX7_match 31 = .ok (.if_icmp .ge 133, 3) := by decide +kernel
theorem dX7_match_34 : decode cX7_match 34 = .ok (.aload_n 0, 1) := by decide +kernel
theorem dX7_match_35 : decode cX7_match 35 = .ok (.iload_n 1, 1) := by decide +kernel
theorem dX7_match_36 : decode cX7_match 36 = .ok (.invokevirtual 70, 3) := by decide +kernel
theorem dX7_match_39 : decode cX7_match 39 = .ok (.bipush (-4), 2) := by decide +kernel
theorem dX7_match_41 : decode cX7_match 41 = .ok (.if_icmp .ne 11, 3) := by decide +kernel
theorem dX7_match_44 : decode cX7_match 44 = .ok (.aload_n 0, 1) := by decide +kernel
theorem dX7_match_45 : decode cX7_match 45 = .ok (.iload_n 1, 1) := by decide +kernel
theorem dX7_match_46 : decode cX7_match 46 = .ok (.invokevirtual 132, 3) := by decide +kernel
theorem dX7_match_49 : decode cX7_match 49 = .ok (.goto 4, 3) := by decide +kernel
theorem dX7_match_52 : decode cX7_match 52 = .ok (.iconst 0, 1) := by decide +kernel
theorem dX7_match_53 : decode cX7_match 53 = .ok (.istore_n 2, 1) := by decide +kernel
theorem dX7_match_54 : decode cX7_match 54 = .ok (.bipush 127, 2) := by decide +kernel
theorem dX7_match_56 : decode cX7_match 56 = .ok (.istore_n 3, 1) := by decide +kernel
theorem dX7_match_57 : decode cX7_match 57 = .ok (.iload_n 3, 1) := by decide +kernel
theorem dX7_match_58 : decode cX7_match 58 = .ok (.ifCond .lt 100, 3) := by decide +kernel
theorem dX7_match_61 : decode cX7_match 61 = .ok (.aload_n 0, 1) := by decide +kernel
theorem dX7_match_62 : decode cX7_match 62 = .ok (.getfield 31, 3) := by decide +kernel
theorem dX7_match_65 : decode cX7_match 65 = .ok (.iload_n 3, 1) := by decide +kernel
theorem dX7_match_66 : decode cX7_match 66 = .ok (.iaload, 1) := by decide +kernel
theorem dX7_match_67 : decode cX7_match 67 = .ok (.istore 4, 2) := by decide +kernel
theorem dX7_match_69 : decode cX7_match 69 = .ok (.iconst 0, 1) := by decide +kernel
theorem dX7_match_70 : decode cX7_match 70 = .ok (.istore 5, 2) := by decide +kernel
theorem dX7_match_72 : decode cX7_match 72 = .ok (.iload 5, 2) := by decide +kernel
theorem dX7_match_74 : decode cX7_match 74 = .ok (.bipush 7, 2) := by decide +kernel
theorem dX7_match_76 : decode cX7_match 76 = .ok (.if_icmp .ge 68, 3) := by decide +kernel
theorem dX7_match_79 : decode cX7_match 79 = .ok (.iload_n 3, 1) := by decide +kernel
theorem dX7_match_80 : decode cX7_match 80 = .ok (.iload_n 2, 1) := by decide +kernel
theorem dX7_match_81 : decode cX7_match 81 = .ok (.iand, 1) := by decide +kernel
theorem dX7_match_82 : decode cX7_match 82 = .ok (.iload 5, 2) := by decide +kernel
theorem dX7_match_84 : decode cX7_match 84 = .ok (.ishr, 1) := by decide +kernel
theorem dX7_match_85 : decode cX7_match 85 = .ok (.iconst 1, 1) := by decide +kernel
theorem dX7_match_86 : decode cX7_match 86 = .ok (.iand, 1) := by decide +kernel
theorem dX7_match_87 : decode cX7_match 87 = .ok (.iconst 1, 1) := by decide +kernel
theorem dX7_match_88 : decode cX7_match 88 = .ok (.if_icmp .ne 7, 3) := by decide +kernel
theorem dX7_match_91 : decode cX7_match 91 = .ok (.iconst 1, 1) := by decide +kernel
theorem dX7_match_92 : decode cX7_match 92 = .ok (.goto 4, 3) := by decide +kernel
theorem dX7_match_95 : decode cX7_match 95 = .ok (.iconst 0, 1) := by decide +kernel
theorem dX7_match_96 : decode cX7_match 96 = .ok (.istore 6, 2) := by decide +kernel
theorem dX7_match_98 : decode cX7_match 98 = .ok (.iload 6, 2) := by decide +kernel
theorem dX7_match_100 : decode cX7_match 100 = .ok (.ifCond .eq 19, 3) := by decide +kernel
theorem dX7_match_103 : decode cX7_match 103 = .ok (.aload_n 0, 1) := by decide +kernel
theorem dX7_match_104 : decode cX7_match 104 = .ok (.getfield 31, 3) := by decide +kernel
theorem dX7_match_107 : decode cX7_match 107 = .ok (.iload_n 3, 1) := by decide +kernel
theorem dX7_match_108 : decode cX7_match 108 = .ok (.iconst 1, 1) := by decide +kernel
theorem dX7_match_109 : decode cX7_match 109 = .ok (.iload 5, 2) := by decide +kernel
theorem dX7_match_111 : decode cX7_match 111 = .ok (.ishl, 1) := by decide +kernel
theorem dX7_match_112 : decode cX7_match 112 = .ok (.ixor, 1) := by decide +kernel
theorem dX7_match_113 : decode cX7_match 113 = .ok (.iaload, 1) := by decide +kernel
theorem dX7_match_114 : decode cX7_match 114 = .ok (.iconst 1, 1) := by decide +kernel
theorem dX7_match_115 : decode cX7_match 115 = .ok (.iadd, 1) := by decide +kernel
theorem dX7_match_116 : decode cX7_match 116 = .ok (.goto 4, 3) := by decide +kernel
theorem dX7_match_119 : decode cX7_match 119 = .ok (.iconst 0, 1) := by decide +kernel
theorem dX7_match_120 : decode cX7_match 120 = .ok (.istore 7, 2) := by decide +kernel
theorem dX7_match_122 : decode cX7_match 122 = .ok (.iload 7, 2) := by decide +kernel
theorem dX7_match_124 : decode cX7_match 124 = .ok (.iload 4, 2) := by decide +kernel
theorem dX7_match_126 : decode cX7_match 126 = .ok (.if_icmp .le 8, 3) := by decide +kernel
theorem dX7_match_129 : decode cX7_match 129 = .ok (.iload 7, 2) := by decide +kernel
theorem dX7_match_131 : decode cX7_match 131 = .ok (.goto 5, 3) := by decide +kernel
theorem dX7_match_134 : decode cX7_match 134 = .ok (.iload 4, 2) := by decide +kernel
theorem dX7_match_136 : decode cX7_match 136 = .ok (.istore 4, 2) := by decide +kernel
theorem dX7_match_138 : decode cX7_match 138 = .ok (.iinc 5 1, 3) := by decide +kernel
theorem dX7_match_141 : decode cX7_match 141 = .ok (.goto (-69), 3) := by decide +kernel
theorem dX7_match_144 : decode cX7_match 144 = .ok (.aload_n 0, 1) := by decide +kernel
theorem dX7_match_145 : decode cX7_match 145 = .ok (.getfield 31, 3) := by decide +kernel
theorem dX7_match_148 : decode cX7_match 148 = .ok (.iload_n 3, 1) := by decide +kernel
theorem dX7_match_149 : decode cX7_match 149 = .ok (.iload 4, 2) := by decide +kernel
theorem dX7_match_151 : decode cX7_match 151 = .ok (.iastore, 1) := by decide +kernel
theorem dX7_match_152 : decode cX7_match 152 = .ok (.iinc 3 (-1), 3) := by decide +kernel
theorem dX7_match_155 : decode cX7_match 155 = .ok (.goto (-98), 3) := by decide +kernel
theorem dX7_match_158 : decode cX7_match 158 = .ok (.iinc 1 1, 3) := by decide +kernel
theorem dX7_match_161 : decode cX7_match 161 = .ok (.goto (-137), 3) := by decide +kernel
theorem dX7_match_164 : decode cX7_match 164 = .ok (.aload_n 0, 1) := by decide +kernel
theorem dX7_match_165 : decode cX7_match 165 = .ok (.getfield 31, 3) := by decide +kernel
theorem dX7_match_168 : decode cX7_match 168 = .ok (.bipush 127, 2) := by decide +kernel
theorem dX7_match_170 : decode cX7_match 170 = .ok (.iaload, 1) := by decide +kernel
theorem dX7_match_171 : decode cX7_match 171 = .ok (.ireturn, 1) := by decide +kernel
theorem dX7_latest_0 : decode cX7_latest 0 = .ok (.aload_n 0, 1) := by decide +kernel
theorem dX7_latest_1 : decode cX7_latest 1 = .ok (.iload_n 1, 1) := by decide +kernel
theorem dX7_latest_2 : decode cX7_latest 2 = .ok (.invokevirtual 129, 3) := by decide +kernel
theorem dX7_latest_5 : decode cX7_latest 5 = .ok (.ifCond .ne 5, 3) := by decide +kernel
theorem dX7_latest_8 : decode cX7_latest 8 = .ok (.iconst (-1), 1) := by decide +kernel
theorem dX7_latest_9 : decode cX7_latest 9 = .ok (.ireturn, 1) := by decide +kernel
theorem dX7_latest_10 : decode cX7_latest 10 = .ok (.bipush (-4), 2) := by decide +kernel
theorem dX7_latest_12 : decode cX7_latest 12 = .ok (.istore_n 2, 1) := by decide +kernel
theorem dX7_latest_13 : decode cX7_latest 13 = .ok (.aload_n 0, 1) := by decide +kernel
theorem dX7_latest_14 : decode cX7_latest 14 = .ok (.invokevirtual 204, 3) := by decide +kernel
theorem dX7_latest_17 : decode cX7_latest 17 = .ok (.bipush 20, 2) := by decide +kernel
theorem dX7_latest_19 : decode cX7_latest 19 = .ok (.istore_n 3, 1) := by decide +kernel
theorem dX7_latest_20 : decode cX7_latest 20 = .ok (.iload_n 3, 1) := by decide +kernel
theorem dX7_latest_21 : decode cX7_latest 21 = .ok (.ifCond .lt 49, 3) := by decide +kernel
theorem dX7_latest_24 : decode cX7_latest 24 = .ok (.iload_n 2, 1) := by decide +kernel
theorem dX7_latest_25 : decode cX7_latest 25 = .ok (.bipush (-4), 2) := by decide +kernel
theorem dX7_latest_27 : decode cX7_latest 27 = .ok (.if_icmp .ne 43, 3) := by decide +kernel
theorem dX7_latest_30 : decode cX7_latest 30 = .ok (.aload_n 0, 1) := by decide +kernel
theorem dX7_latest_31 : decode cX7_latest 31 = .ok (.iload_n 1, 1) := by decide +kernel
theorem dX7_latest_32 : decode cX7_latest 32 = .ok (.iload_n 3, 1) := by decide +kernel
theorem dX7_latest_33 : decode cX7_latest 33 = .ok (.iconst 1, 1) := by decide +kernel
theorem dX7_latest_34 : decode cX7_latest 34 = .ok (.invokevirtual 91, 3) := by decide +kernel
theorem dX7_latest_37 : decode cX7_latest 37 = .ok (.aload_n 0, 1) := by decide +kernel
theorem dX7_latest_38 : decode cX7_latest 38 = .ok (.bipush 40, 2) := by decide +kernel
theorem dX7_latest_40 : decode cX7_latest 40 = .ok (.invokevirtual 207, 3) := by decide +kernel
theorem dX7_latest_43 : decode cX7_latest 43 = .ok (.aload_n 0, 1) := by decide +kernel
theorem dX7_latest_44 : decode cX7_latest 44 = .ok (.iload_n 1, 1) := by decide +kernel
theorem dX7_latest_45 : decode cX7_latest 45 = .ok (.invokevirtual 70, 3) := by decide +kernel
theorem dX7_latest_48 : decode cX7_latest 48 = .ok (.bipush (-4), 2) := by decide +kernel
theorem dX7_latest_50 : decode cX7_latest 50 = .ok (.if_icmp .ne 8, 3) := by decide +kernel
theorem dX7_latest_53 : decode cX7_latest 53 = .ok (.bipush (-4), 2) := by decide +kernel
theorem dX7_latest_55 : decode cX7_latest 55 = .ok (.goto 4, 3) := by decide +kernel
theorem dX7_latest_58 : decode cX7_latest 58 = .ok (.iload_n 3, 1) := by decide +kernel
theorem dX7_latest_59 : decode cX7_latest 59 = .ok (.istore_n 2, 1) := by decide +kernel
theorem dX7_latest_60 : decode cX7_latest 60 = .ok (.aload_n 0, 1) := by decide +kernel
theorem dX7_latest_61 : decode cX7_latest 61 = .ok (.invokevirtual 210, 3) := by decide +kernel
theorem dX7_latest_64 : decode cX7_latest 64 = .ok (.iinc 3 (-1), 3) := by decide +kernel
theorem dX7_latest_67 : decode cX7_latest 67 = .ok (.goto (-47), 3) := by decide +kernel
theorem dX7_latest_70 : decode cX7_latest 70 = .ok (.iload_n 2, 1) := by decide +kernel
theorem dX7_latest_71 : decode cX7_latest 71 = .ok (.ireturn, 1) := by decide +kernel
theorem dX7_isOrder_0 : decode cX7_isOrder 0 = .ok (.iload_n 1, 1) := by decide +kernel
theorem dX7_isOrder_1 : decode cX7_isOrder 1 = .ok (.istore_n 3, 1) := by decide +kernel
theorem dX7_isOrder_2 : decode cX7_isOrder 2 = .ok (.iconst 0, 1) := by decide +kernel
theorem dX7_isOrder_3 : decode cX7_isOrder 3 = .ok (.istore 4, 2) := by decide +kernel
theorem dX7_isOrder_5 : decode cX7_isOrder 5 = .ok (.iload_n 2, 1) := by decide +kernel
theorem dX7_isOrder_6 : decode cX7_isOrder 6 = .ok (.iconst 1, 1) := by decide +kernel
theorem dX7_isOrder_7 : decode cX7_isOrder 7 = .ok (.isub, 1) := by decide +kernel
theorem dX7_isOrder_8 : decode cX7_isOrder 8 = .ok (.istore 5, 2) := by decide +kernel
theorem dX7_isOrder_10 : decode cX7_isOrder 10 = .ok (.iload 5, 2) := by decide +kernel
theorem dX7_isOrder_12 : decode cX7_isOrder 12 = .ok (.ifCond .lt 38, 3) := by decide +kernel
theorem dX7_isOrder_15 : decode cX7_isOrder 15 = .ok (.aload_n 0, 1) := by decide +kernel
theorem dX7_isOrder_16 : decode cX7_isOrder 16 = .ok (.getfield 37, 3) := by decide +kernel
theorem dX7_isOrder_19 : decode cX7_isOrder 19 = .ok (.iload 5, 2) := by decide +kernel
theorem dX7_isOrder_21 : decode cX7_isOrder 21 = .ok (.aload_n 0, 1) := by decide +kernel
theorem dX7_isOrder_22 : decode cX7_isOrder 22 = .ok (.getfield 34, 3) := by decide +kernel
theorem dX7_isOrder_25 : decode cX7_isOrder 25 = .ok (.iload_n 3, 1) := by decide +kernel
theorem dX7_isOrder_26 : decode cX7_isOrder 26 = .ok (.iload_n 2, 1) := by decide +kernel
theorem dX7_isOrder_27 : decode cX7_isOrder 27 = .ok (.irem, 1) := by decide +kernel
theorem dX7_isOrder_28 : decode cX7_isOrder 28 = .ok (.iaload, 1) := by decide +kernel
theorem dX7_isOrder_29 : decode cX7_isOrder 29 = .ok (.iastore, 1) := by decide +kernel
theorem dX7_isOrder_30 : decode cX7_isOrder 30 = .ok (.iload 4, 2) := by decide +kernel
theorem dX7_isOrder_32 : decode cX7_isOrder 32 = .ok (.iconst 1, 1) := by decide +kernel
theorem dX7_isOrder_33 : decode cX7_isOrder 33 = .ok (.iload_n 3, 1) := by decide +kernel
theorem dX7_isOrder_34 : decode cX7_isOrder 34 = .ok (.iload_n 2, 1) := by decide +kernel
theorem dX7_isOrder_35 : decode cX7_isOrder 35 = .ok (.irem, 1) := by decide +kernel
theorem dX7_isOrder_36 : decode cX7_isOrder 36 = .ok (.ishl, 1) := by decide +kernel
theorem dX7_isOrder_37 : decode cX7_isOrder 37 = .ok (.ior, 1) := by decide +kernel
theorem dX7_isOrder_38 : decode cX7_isOrder 38 = .ok (.istore 4, 2) := by decide +kernel
theorem dX7_isOrder_40 : decode cX7_isOrder 40 = .ok (.iload_n 3, 1) := by decide +kernel
theorem dX7_isOrder_41 : decode cX7_isOrder 41 = .ok (.iload_n 2, 1) := by decide +kernel
theorem dX7_isOrder_42 : decode cX7_isOrder 42 = .ok (.idiv, 1) := by decide +kernel
theorem dX7_isOrder_43 : decode cX7_isOrder 43 = .ok (.istore_n 3, 1) := by decide +kernel
theorem dX7_isOrder_44 : decode cX7_isOrder 44 = .ok (.iinc 5 (-1), 3) := by decide +kernel
theorem dX7_isOrder_47 : decode cX7_isOrder 47 = .ok (.goto (-37), 3) := by decide +kernel
theorem dX7_isOrder_50 : decode cX7_isOrder 50 = .ok (.iload 4, 2) := by decide +kernel
theorem dX7_isOrder_52 : decode cX7_isOrder 52 = .ok (.iconst 1, 1) := by decide +kernel
theorem dX7_isOrder_53 : decode cX7_isOrder 53 = .ok (.iload_n 2, 1) := by decide +kernel
theorem dX7_isOrder_54 : decode cX7_isOrder 54 = .ok (.ishl, 1) := by decide +kernel
theorem dX7_isOrder_55 : decode cX7_isOrder 55 = .ok (.iconst 1, 1) := by decide +kernel
theorem dX7_isOrder_56 : decode cX7_isOrder 56 = .ok (.isub, 1) := by decide +kernel
theorem dX7_isOrder_57 : decode cX7_isOrder 57 = .ok (.if_icmp .ne 7, 3) := by decide +kernel
theorem dX7_isOrder_60 : decode cX7_isOrder 60 = .ok (.iconst 1, 1) := by decide +kernel
theorem dX7_isOrder_61 : decode cX7_isOrder 61 = .ok (.goto 4, 3) := by decide +kernel
theorem dX7_isOrder_64 : decode cX7_isOrder 64 = .ok (.iconst 0, 1) := by decide +kernel
theorem dX7_isOrder_65 : decode cX7_isOrder 65 = .ok (.ireturn, 1) := by decide +kernel
theorem dX7_comesBy_0 : decode cX7_comesBy 0 = .ok (.iconst 0, 1) := by decide +kernel
theorem dX7_comesBy_1 : decode cX7_comesBy 1 = .ok (.istore_n 2, 1) := by decide +kernel
theorem dX7_comesBy_2 : decode cX7_comesBy 2 = .ok (.iload_n 2, 1) := by decide +kernel
theorem dX7_comesBy_3 : decode cX7_comesBy 3 = .ok (.iload_n 1, 1) := by decide +kernel
theorem dX7_comesBy_4 : decode cX7_comesBy 4 = .ok (.if_icmp .ge 28, 3) := by decide +kernel
theorem dX7_comesBy_7 : decode cX7_comesBy 7 = .ok (.aload_n 0, 1) := by decide +kernel
theorem dX7_comesBy_8 : decode cX7_comesBy 8 = .ok (.aload_n 0, 1) := by decide +kernel
theorem dX7_comesBy_9 : decode cX7_comesBy 9 = .ok (.getfield 37, 3) := by decide +kernel
theorem dX7_comesBy_12 : decode cX7_comesBy 12 = .ok (.iload_n 2, 1) := by decide +kernel
theorem dX7_comesBy_13 : decode cX7_comesBy 13 = .ok (.iaload, 1) := by decide +kernel
theorem dX7_comesBy_14 : decode cX7_comesBy 14 = .ok (.aload_n 0, 1) := by decide +kernel
theorem dX7_comesBy_15 : decode cX7_comesBy 15 = .ok (.getfield 7, 3) := by decide +kernel
theorem dX7_comesBy_18 : decode cX7_comesBy 18 = .ok (.iconst 2, 1) := by decide +kernel
theorem dX7_comesBy_19 : decode cX7_comesBy 19 = .ok (.iaload, 1) := by decide +kernel
theorem dX7_comesBy_20 : decode cX7_comesBy 20 = .ok (.iload_n 2, 1) := by decide +kernel
theorem dX7_comesBy_21 : decode cX7_comesBy 21 = .ok (.iadd, 1) := by decide +kernel
theorem dX7_comesBy_22 : decode cX7_comesBy 22 = .ok (.iconst 1, 1) := by decide +kernel
theorem dX7_comesBy_23 : decode cX7_comesBy 23 = .ok (.invokevirtual 91, 3) := by decide +kernel
theorem dX7_comesBy_26 : decode cX7_comesBy 26 = .ok (.iinc 2 1, 3) := by decide +kernel
theorem dX7_comesBy_29 : decode cX7_comesBy 29 = .ok (.goto (-27), 3) := by decide +kernel
theorem dX7_comesBy_32 : decode cX7_comesBy 32 = .ok (.return_, 1) := by decide +kernel
theorem dX7_order_0 : decode cX7_order 0 = .ok (.iload_n 1, 1) := by decide +kernel
theorem dX7_order_1 : decode cX7_order 1 = .ok (.i2l, 1) := by decide +kernel
theorem dX7_order_2 : decode cX7_order 2 = .ok (.lconst 1, 1) := by decide +kernel
theorem dX7_order_3 : decode cX7_order 3 = .ok (.ldc2_w 124, 3) := by decide +kernel
theorem dX7_order_6 : decode cX7_order 6 = .ok (.invokestatic 59, 3) := by decide +kernel
theorem dX7_order_9 : decode cX7_order 9 = .ok (.ifCond .eq 8, 3) := by decide +kernel
theorem dX7_order_12 : decode cX7_order 12 = .ok (.iload_n 2, 1) := by decide +kernel
theorem dX7_order_13 : decode cX7_order 13 = .ok (.iconst (-1), 1) := by decide +kernel
theorem dX7_order_14 : decode cX7_order 14 = .ok (.if_icmp .ge 5, 3) := by decide +kernel
theorem dX7_order_17 : decode cX7_order 17 = .ok (.iconst (-1), 1) := by decide +kernel
theorem dX7_order_18 : decode cX7_order 18 = .ok (.ireturn, 1) := by decide +kernel
theorem dX7_order_19 : decode cX7_order 19 = .ok (.iconst 0, 1) := by decide +kernel
theorem dX7_order_20 : decode cX7_order 20 = .ok (.istore_n 3, 1) := by decide +kernel
theorem dX7_order_21 : decode cX7_order 21 = .ok (.iconst 1, 1) := by decide +kernel
theorem dX7_order_22 : decode cX7_order 22 = .ok (.istore 4, 2) := by decide +kernel
theorem dX7_order_24 : decode cX7_order 24 = .ok (.iconst 0, 1) := by decide +kernel
theorem dX7_order_25 : decode cX7_order 25 = .ok (.istore 5, 2) := by decide +kernel
theorem dX7_order_27 : decode cX7_order 27 = .ok (.iload 5, 2) := by decide +kernel
theorem dX7_order_29 : decode cX7_order 29 = .ok (.aload_n 0, 1) := by decide +kernel
theorem dX7_order_30 : decode cX7_order 30 = .ok (.getfield 7, 3) := by decide +kernel
theorem dX7_order_33 : decode cX7_order 33 = .ok (.iconst 1, 1) := by decide +kernel
theorem dX7_order_34 : decode cX7_order 34 = .ok (.iaload, 1) := by decide +kernel
theorem dX7_order_35 : decode cX7_order 35 = .ok (.if_icmp .ge 31, 3) := by decide +kernel
theorem dX7_order_38 : decode cX7_order 38 = .ok (.aload_n 0, 1) := by decide +kernel
theorem dX7_order_39 : decode cX7_order 39 = .ok (.iload 5, 2) := by decide +kernel
theorem dX7_order_41 : decode cX7_order 41 = .ok (.invokevirtual 70, 3) := by decide +kernel
theorem dX7_order_44 : decode cX7_order 44 = .ok (.bipush (-4), 2) := by decide +kernel
theorem dX7_order_46 : decode cX7_order 46 = .ok (.if_icmp .ne 14, 3) := by decide +kernel
theorem dX7_order_49 : decode cX7_order 49 = .ok (.aload_n 0, 1) := by decide +kernel
theorem dX7_order_50 : decode cX7_order 50 = .ok (.getfield 34, 3) := by decide +kernel
theorem dX7_order_53 : decode cX7_order 53 = .ok (.iload_n 3, 1) := by decide +kernel
theorem dX7_order_54 : decode cX7_order 54 = .ok (.iload 5, 2) := by decide +kernel
theorem dX7_order_56 : decode cX7_order 56 = .ok (.iastore, 1) := by decide +kernel
theorem dX7_order_57 : decode cX7_order 57 = .ok (.iinc 3 1, 3) := by decide +kernel
theorem dX7_order_60 : decode cX7_order 60 = .ok (.iinc 5 1, 3) := by decide +kernel
theorem dX7_order_63 : decode cX7_order 63 = .ok (.goto (-36), 3) := by decide +kernel
theorem dX7_order_66 : decode cX7_order 66 = .ok (.iconst 0, 1) := by decide +kernel
theorem dX7_order_67 : decode cX7_order 67 = .ok (.istore 5, 2) := by decide +kernel
theorem dX7_order_69 : decode cX7_order 69 = .ok (.iload 5, 2) := by decide +kernel
theorem dX7_order_71 : decode cX7_order 71 = .ok (.iload_n 3, 1) := by decide +kernel
theorem dX7_order_72 : decode cX7_order 72 = .ok (.if_icmp .ge 15, 3) := by decide +kernel
theorem dX7_order_75 : decode cX7_order 75 = .ok (.iload 4, 2) := by decide +kernel
theorem dX7_order_77 : decode cX7_order 77 = .ok (.iload_n 3, 1) := by decide +kernel
theorem dX7_order_78 : decode cX7_order 78 = .ok (.imul, 1) := by decide +kernel
theorem dX7_order_79 : decode cX7_order 79 = .ok (.istore 4, 2) := by decide +kernel
theorem dX7_order_81 : decode cX7_order 81 = .ok (.iinc 5 1, 3) := by decide +kernel
theorem dX7_order_84 : decode cX7_order 84 = .ok (.goto (-15), 3) := by decide +kernel
theorem dX7_order_87 : decode cX7_order 87 = .ok (.iconst (-1), 1) := by decide +kernel
theorem dX7_order_88 : decode cX7_order 88 = .ok (.istore 5, 2) := by decide +kernel
theorem dX7_order_90 : decode cX7_order 90 = .ok (.aload_n 0, 1) := by decide +kernel
theorem dX7_order_91 : decode cX7_order 91 = .ok (.invokevirtual 204, 3) := by decide +kernel
theorem dX7_order_94 : decode cX7_order 94 = .ok (.iconst 0, 1) := by decide +kernel
theorem dX7_order_95 : decode cX7_order 95 = .ok (.istore 6, 2) := by decide +kernel
theorem dX7_order_97 : decode cX7_order 97 = .ok (.iload 6, 2) := by decide +kernel
theorem dX7_order_99 : decode cX7_order 99 = .ok (.iload 4, 2) := by decide +kernel
theorem dX7_order_101 : decode cX7_order 101 = .ok (.if_icmp .ge 94, 3) := by decide +kernel
theorem dX7_order_104 : decode cX7_order 104 = .ok (.aload_n 0, 1) := by decide +kernel
theorem dX7_order_105 : decode cX7_order 105 = .ok (.iload 6, 2) := by decide +kernel
theorem dX7_order_107 : decode cX7_order 107 = .ok (.iload_n 3, 1) := by decide +kernel
theorem dX7_order_108 : decode cX7_order 108 = .ok (.invokevirtual 213, 3) := by decide +kernel
theorem dX7_order_111 : decode cX7_order 111 = .ok (.ifCond .eq 78, 3) := by decide +kernel
theorem dX7_order_114 : decode cX7_order 114 = .ok (.aload_n 0, 1) := by decide +kernel
theorem dX7_order_115 : decode cX7_order 115 = .ok (.iload_n 3, 1) := by decide +kernel
theorem dX7_order_116 : decode cX7_order 116 = .ok (.invokevirtual 216, 3) := by decide +kernel
theorem dX7_order_119 : decode cX7_order 119 = .ok (.aload_n 0, 1) := by decide +kernel
theorem dX7_order_120 : decode cX7_order 120 = .ok (.iload_n 1, 1) := by decide +kernel
theorem dX7_order_121 : decode cX7_order 121 = .ok (.invokevirtual 207, 3) := by decide +kernel
theorem dX7_order_124 : decode cX7_order 124 = .ok (.aload_n 0, 1) := by decide +kernel
theorem dX7_order_125 : decode cX7_order 125 = .ok (.invokevirtual 142, 3) := by decide +kernel
theorem dX7_order_128 : decode cX7_order 128 = .ok (.invokestatic 219, 3) := by decide +kernel
theorem dX7_order_131 : decode cX7_order 131 = .ok (.istore 7, 2) := by decide +kernel
theorem dX7_order_133 : decode cX7_order 133 = .ok (.aload_n 0, 1) := by decide +kernel
theorem dX7_order_134 : decode cX7_order 134 = .ok (.invokevirtual 210, 3) := by decide +kernel
theorem dX7_order_137 : decode cX7_order 137 = .ok (.iconst 0, 1) := by decide +kernel
theorem dX7_order_138 : decode cX7_order 138 = .ok (.istore 8, 2) := by decide +kernel
theorem dX7_order_140 : decode cX7_order 140 = .ok (.iload 8, 2) := by decide +kernel
theorem dX7_order_142 : decode cX7_order 142 = .ok (.iload_n 3, 1) := by decide +kernel
theorem dX7_order_143 : decode cX7_order 143 = .ok (.if_icmp .ge 30, 3) := by decide +kernel
theorem dX7_order_146 : decode cX7_order 146 = .ok (.iload 7, 2) := by decide +kernel
theorem dX7_order_148 : decode cX7_order 148 = .ok (.iload 5, 2) := by decide +kernel
theorem dX7_order_150 : decode cX7_order 150 = .ok (.if_icmp .le 23, 3) := by decide +kernel
theorem dX7_order_153 : decode cX7_order 153 = .ok (.aload_n 0, 1) := by decide +kernel
theorem dX7_order_154 : decode cX7_order 154 = .ok (.getfield 40, 3) := by decide +kernel
theorem dX7_order_157 : decode cX7_order 157 = .ok (.iload 8, 2) := by decide +kernel
theorem dX7_order_159 : decode cX7_order 159 = .ok (.aload_n 0, 1) := by decide +kernel
theorem dX7_order_160 : decode cX7_order 160 = .ok (.getfield 37, 3) := by decide +kernel
theorem dX7_order_163 : decode cX7_order 163 = .ok (.iload 8, 2) := by decide +kernel
theorem dX7_order_165 : decode cX7_order 165 = .ok (.iaload, 1) := by decide +kernel
theorem dX7_order_166 : decode cX7_order 166 = .ok (.iastore, 1) := by decide +kernel
theorem dX7_order_167 : decode cX7_order 167 = .ok (.iinc 8 1, 3) := by decide +kernel
theorem dX7_order_170 : decode cX7_order 170 = .ok (.goto (-30), 3) := by decide +kernel
theorem dX7_order_173 : decode cX7_order 173 = .ok (.iload 7, 2) := by decide +kernel
theorem dX7_order_175 : decode cX7_order 175 = .ok (.iload 5, 2) := by decide +kernel
theorem dX7_order_177 : decode cX7_order 177 = .ok (.if_icmp .le 8, 3) := by decide +kernel
theorem dX7_order_180 : decode cX7_order 180 = .ok (.iload 7, 2) := by decide +kernel
theorem dX7_order_182 : decode cX7_order 182 = .ok (.goto 5, 3) := by decide +kernel
theorem dX7_order_185 : decode cX7_order 185 = .ok (.iload 5, 2) := by decide +kernel
theorem dX7_order_187 : decode cX7_order 187 = .ok (.istore 5, 2) := by decide +kernel
theorem dX7_order_189 : decode cX7_order 189 = .ok (.iinc 6 1, 3) := by decide +kernel
theorem dX7_order_192 : decode cX7_order 192 = .ok (.goto (-95), 3) := by decide +kernel
theorem dX7_order_195 : decode cX7_order 195 = .ok (.iload_n 2, 1) := by decide +kernel
theorem dX7_order_196 : decode cX7_order 196 = .ok (.ifCond .ge 8, 3) := by decide +kernel
theorem dX7_order_199 : decode cX7_order 199 = .ok (.iload 5, 2) := by decide +kernel
theorem dX7_order_201 : decode cX7_order 201 = .ok (.goto 19, 3) := by decide +kernel
theorem dX7_order_204 : decode cX7_order 204 = .ok (.iload_n 2, 1) := by decide +kernel
theorem dX7_order_205 : decode cX7_order 205 = .ok (.iload_n 3, 1) := by decide +kernel
theorem dX7_order_206 : decode cX7_order 206 = .ok (.if_icmp .ge 12, 3) := by decide +kernel
theorem dX7_order_209 : decode cX7_order 209 = .ok (.aload_n 0, 1) := by decide +kernel
theorem dX7_order_210 : decode cX7_order 210 = .ok (.getfield 40, 3) := by decide +kernel
theorem dX7_order_213 : decode cX7_order 213 = .ok (.iload_n 2, 1) := by decide +kernel
theorem dX7_order_214 : decode cX7_order 214 = .ok (.iaload, 1) := by decide +kernel
theorem dX7_order_215 : decode cX7_order 215 = .ok (.goto 5, 3) := by decide +kernel
theorem dX7_order_218 : decode cX7_order 218 = .ok (.bipush (-4), 2) := by decide +kernel
theorem dX7_order_220 : decode cX7_order 220 = .ok (.ireturn, 1) := by decide +kernel
theorem dX7_wet_0 : decode cX7_wet 0 = .ok (.iload_n 1, 1) := by decide +kernel
theorem dX7_wet_1 : decode cX7_wet 1 = .ok (.i2l, 1) := by decide +kernel
theorem dX7_wet_2 : decode cX7_wet 2 = .ok (.lconst 1, 1) := by decide +kernel
theorem dX7_wet_3 : decode cX7_wet 3 = .ok (.ldc2_w 124, 3) := by decide +kernel
theorem dX7_wet_6 : decode cX7_wet 6 = .ok (.invokestatic 59, 3) := by decide +kernel
theorem dX7_wet_9 : decode cX7_wet 9 = .ok (.ifCond .ne 5, 3) := by decide +kernel
theorem dX7_wet_12 : decode cX7_wet 12 = .ok (.iconst (-1), 1) := by decide +kernel
theorem dX7_wet_13 : decode cX7_wet 13 = .ok (.ireturn, 1) := by decide +kernel
theorem dX7_wet_14 : decode cX7_wet 14 = .ok (.bipush (-4), 2) := by decide +kernel
theorem dX7_wet_16 : decode cX7_wet 16 = .ok (.istore_n 2, 1) := by decide +kernel
theorem dX7_wet_17 : decode cX7_wet 17 = .ok (.aload_n 0, 1) := by decide +kernel
theorem dX7_wet_18 : decode cX7_wet 18 = .ok (.invokevirtual 204, 3) := by decide +kernel
theorem dX7_wet_21 : decode cX7_wet 21 = .ok (.iconst 0, 1) := by decide +kernel
theorem dX7_wet_22 : decode cX7_wet 22 = .ok (.istore_n 3, 1) := by decide +kernel
theorem dX7_wet_23 : decode cX7_wet 23 = .ok (.iload_n 3, 1) := by decide +kernel
theorem dX7_wet_24 : decode cX7_wet 24 = .ok (.bipush 61, 2) := by decide +kernel
theorem dX7_wet_26 : decode cX7_wet 26 = .ok (.if_icmp .ge 53, 3) := by decide +kernel
theorem dX7_wet_29 : decode cX7_wet 29 = .ok (.iload_n 2, 1) := by decide +kernel
theorem dX7_wet_30 : decode cX7_wet 30 = .ok (.bipush (-4), 2) := by decide +kernel
theorem dX7_wet_32 : decode cX7_wet 32 = .ok (.if_icmp .ne 47, 3) := by decide +kernel
theorem dX7_wet_35 : decode cX7_wet 35 = .ok (.aload_n 0, 1) := by decide +kernel
theorem dX7_wet_36 : decode cX7_wet 36 = .ok (.iload_n 3, 1) := by decide +kernel
theorem dX7_wet_37 : decode cX7_wet 37 = .ok (.invokevirtual 194, 3) := by decide +kernel
theorem dX7_wet_40 : decode cX7_wet 40 = .ok (.aload_n 0, 1) := by decide +kernel
theorem dX7_wet_41 : decode cX7_wet 41 = .ok (.iload_n 1, 1) := by decide +kernel
theorem dX7_wet_42 : decode cX7_wet 42 = .ok (.invokevirtual 207, 3) := by decide +kernel
theorem dX7_wet_45 : decode cX7_wet 45 = .ok (.aload_n 0, 1) := by decide +kernel
theorem dX7_wet_46 : decode cX7_wet 46 = .ok (.invokevirtual 142, 3) := by decide +kernel
theorem dX7_wet_49 : decode cX7_wet 49 = .ok (.iconst 1, 1) := by decide +kernel
theorem dX7_wet_50 : decode cX7_wet 50 = .ok (.aload_n 0, 1) := by decide +kernel
theorem dX7_wet_51 : decode cX7_wet 51 = .ok (.getfield 7, 3) := by decide +kernel
theorem dX7_wet_54 : decode cX7_wet 54 = .ok (.iconst 1, 1) := by decide +kernel
theorem dX7_wet_55 : decode cX7_wet 55 = .ok (.iaload, 1) := by decide +kernel
theorem dX7_wet_56 : decode cX7_wet 56 = .ok (.ishl, 1) := by decide +kernel
theorem dX7_wet_57 : decode cX7_wet 57 = .ok (.iconst 1, 1) := by decide +kernel
theorem dX7_wet_58 : decode cX7_wet 58 = .ok (.isub, 1) := by decide +kernel
theorem dX7_wet_59 : decode cX7_wet 59 = .ok (.if_icmp .ne 7, 3) := by decide +kernel
theorem dX7_wet_62 : decode cX7_wet 62 = .ok (.iload_n 3, 1) := by decide +kernel
theorem dX7_wet_63 : decode cX7_wet 63 = .ok (.goto 5, 3) := by decide +kernel
theorem dX7_wet_66 : decode cX7_wet 66 = .ok (.bipush (-4), 2) := by decide +kernel
theorem dX7_wet_68 : decode cX7_wet 68 = .ok (.istore_n 2, 1) := by decide +kernel
theorem dX7_wet_69 : decode cX7_wet 69 = .ok (.aload_n 0, 1) := by decide +kernel
theorem dX7_wet_70 : decode cX7_wet 70 = .ok (.invokevirtual 210, 3) := by decide +kernel
theorem dX7_wet_73 : decode cX7_wet 73 = .ok (.iinc 3 1, 3) := by decide +kernel
theorem dX7_wet_76 : decode cX7_wet 76 = .ok (.goto (-53), 3) := by decide +kernel
theorem dX7_wet_79 : decode cX7_wet 79 = .ok (.iload_n 2, 1) := by decide +kernel
theorem dX7_wet_80 : decode cX7_wet 80 = .ok (.ireturn, 1) := by decide +kernel
theorem dX7_matters_0 : decode cX7_matters 0 = .ok (.iload_n 1, 1) := by decide +kernel
theorem dX7_matters_1 : decode cX7_matters 1 = .ok (.i2l, 1) := by decide +kernel
theorem dX7_matters_2 : decode cX7_matters 2 = .ok (.lconst 1, 1) := by decide +kernel
theorem dX7_matters_3 : decode cX7_matters 3 = .ok (.ldc2_w 124, 3) := by decide +kernel
theorem dX7_matters_6 : decode cX7_matters 6 = .ok (.invokestatic 59, 3) := by decide +kernel
theorem dX7_matters_9 : decode cX7_matters 9 = .ok (.ifCond .eq 13, 3) := by decide +kernel
theorem dX7_matters_12 : decode cX7_matters 12 = .ok (.iload_n 2, 1) := by decide +kernel
theorem dX7_matters_13 : decode cX7_matters 13 = .ok (.i2l, 1) := by decide +kernel
theorem dX7_matters_14 : decode cX7_matters 14 = .ok (.lconst 0, 1) := by decide +kernel
theorem dX7_matters_15 : decode cX7_matters 15 = .ok (.lconst 1, 1) := by decide +kernel
theorem dX7_matters_16 : decode cX7_matters 16 = .ok (.invokestatic 59, 3) := by decide +kernel
theorem dX7_matters_19 : decode cX7_matters 19 = .ok (.ifCond .ne 5, 3) := by decide +kernel
theorem dX7_matters_22 : decode cX7_matters 22 = .ok (.iconst (-1), 1) := by decide +kernel
theorem dX7_matters_23 : decode cX7_matters 23 = .ok (.ireturn, 1) := by decide +kernel
theorem dX7_matters_24 : decode cX7_matters 24 = .ok (.bipush (-4), 2) := by decide +kernel
theorem dX7_matters_26 : decode cX7_matters 26 = .ok (.istore_n 3, 1) := by decide +kernel
theorem dX7_matters_27 : decode cX7_matters 27 = .ok (.bipush 99, 2) := by decide +kernel
theorem dX7_matters_29 : decode cX7_matters 29 = .ok (.istore 4, 2) := by decide +kernel
theorem dX7_matters_31 : decode cX7_matters 31 = .ok (.aload_n 0, 1) := by decide +kernel
theorem dX7_matters_32 : decode cX7_matters 32 = .ok (.invokevirtual 204, 3) := by decide +kernel
theorem dX7_matters_35 : decode cX7_matters 35 = .ok (.iconst 0, 1) := by decide +kernel
theorem dX7_matters_36 : decode cX7_matters 36 = .ok (.istore 5, 2) := by decide +kernel
theorem dX7_matters_38 : decode cX7_matters 38 = .ok (.iload 5, 2) := by decide +kernel
theorem dX7_matters_40 : decode cX7_matters 40 = .ok (.aload_n 0, 1) := by decide +kernel
theorem dX7_matters_41 : decode cX7_matters 41 = .ok (.getfield 7, 3) := by decide +kernel
theorem dX7_matters_44 : decode cX7_matters 44 = .ok (.iconst 0, 1) := by decide +kernel
theorem dX7_matters_45 : decode cX7_matters 45 = .ok (.iaload, 1) := by decide +kernel
theorem dX7_matters_46 : decode cX7_matters 46 = .ok (.if_icmp .ge 64, 3) := by decide +kernel
theorem dX7_matters_49 : decode cX7_matters 49 = .ok (.aload_n 0, 1) := by decide +kernel
theorem dX7_matters_50 : decode cX7_matters 50 = .ok (.iload 5, 2) := by decide +kernel
theorem dX7_matters_52 : decode cX7_matters 52 = .ok (.iconst 0, 1) := by decide +kernel
theorem dX7_matters_53 : decode cX7_matters 53 = .ok (.invokevirtual 102, 3) := by decide +kernel
theorem dX7_matters_56 : decode cX7_matters 56 = .ok (.aload_n 0, 1) := by decide +kernel
theorem dX7_matters_57 : decode cX7_matters 57 = .ok (.iload_n 1, 1) := by decide +kernel
theorem dX7_matters_58 : decode cX7_matters 58 = .ok (.invokevirtual 207, 3) := by decide +kernel
theorem dX7_matters_61 : decode cX7_matters 61 = .ok (.aload_n 0, 1) := by decide +kernel
theorem dX7_matters_62 : decode cX7_matters 62 = .ok (.invokevirtual 142, 3) := by decide +kernel
theorem dX7_matters_65 : decode cX7_matters 65 = .ok (.invokestatic 219, 3) := by decide +kernel
theorem dX7_matters_68 : decode cX7_matters 68 = .ok (.istore 6, 2) := by decide +kernel
theorem dX7_matters_70 : decode cX7_matters 70 = .ok (.aload_n 0, 1) := by decide +kernel
theorem dX7_matters_71 : decode cX7_matters 71 = .ok (.invokevirtual 210, 3) := by decide +kernel
theorem dX7_matters_74 : decode cX7_matters 74 = .ok (.iload 6, 2) := by decide +kernel
theorem dX7_matters_76 : decode cX7_matters 76 = .ok (.iload 4, 2) := by decide +kernel
theorem dX7_matters_78 : decode cX7_matters 78 = .ok (.if_icmp .ge 8, 3) := by decide +kernel
theorem dX7_matters_81 : decode cX7_matters 81 = .ok (.iload 5, 2) := by decide +kernel
theorem dX7_matters_83 : decode cX7_matters 83 = .ok (.goto 4, 3) := by decide +kernel
theorem dX7_matters_86 : decode cX7_matters 86 = .ok (.iload_n 3, 1) := by decide +kernel
theorem dX7_matters_87 : decode cX7_matters 87 = .ok (.istore_n 3, 1) := by decide +kernel
theorem dX7_matters_88 : decode cX7_matters 88 = .ok (.iload 6, 2) := by decide +kernel
theorem dX7_matters_90 : decode cX7_matters 90 = .ok (.iload 4, 2) := by decide +kernel
theorem dX7_matters_92 : decode cX7_matters 92 = .ok (.if_icmp .ge 8, 3) := by decide +kernel
theorem dX7_matters_95 : decode cX7_matters 95 = .ok (.iload 6, 2) := by decide +kernel
theorem dX7_matters_97 : decode cX7_matters 97 = .ok (.goto 5, 3) := by decide +kernel
theorem dX7_matters_100 : decode cX7_matters 100 = .ok (.iload 4, 2) := by decide +kernel
theorem dX7_matters_102 : decode cX7_matters 102 = .ok (.istore 4, 2) := by decide +kernel
theorem dX7_matters_104 : decode cX7_matters 104 = .ok (.iinc 5 1, 3) := by decide +kernel
theorem dX7_matters_107 : decode cX7_matters 107 = .ok (.goto (-69), 3) := by decide +kernel
theorem dX7_matters_110 : decode cX7_matters 110 = .ok (.iload_n 2, 1) := by decide +kernel
theorem dX7_matters_111 : decode cX7_matters 111 = .ok (.ifCond .eq 9, 3) := by decide +kernel
theorem dX7_matters_114 : decode cX7_matters 114 = .ok (.iload_n 3, 1) := by decide +kernel
theorem dX7_matters_115 : decode cX7_matters 115 = .ok (.bipush (-4), 2) := by decide +kernel
theorem dX7_matters_117 : decode cX7_matters 117 = .ok (.if_icmp .ne 7, 3) := by decide +kernel
theorem dX7_matters_120 : decode cX7_matters 120 = .ok (.iload_n 3, 1) := by decide +kernel
theorem dX7_matters_121 : decode cX7_matters 121 = .ok (.goto 5, 3) := by decide +kernel
theorem dX7_matters_124 : decode cX7_matters 124 = .ok (.iload 4, 2) := by decide +kernel
theorem dX7_matters_126 : decode cX7_matters 126 = .ok (.ireturn, 1) := by decide +kernel
theorem dX7_sight_0 : decode cX7_sight 0 = .ok (.aload_n 0, 1) := by decide +kernel
theorem dX7_sight_1 : decode cX7_sight 1 = .ok (.iload_n 1, 1) := by decide +kernel
theorem dX7_sight_2 : decode cX7_sight 2 = .ok (.invokevirtual 74, 3) := by decide +kernel
theorem dX7_sight_5 : decode cX7_sight 5 = .ok (.ifCond .eq 25, 3) := by decide +kernel
theorem dX7_sight_8 : decode cX7_sight 8 = .ok (.iload_n 2, 1) := by decide +kernel
theorem dX7_sight_9 : decode cX7_sight 9 = .ok (.i2l, 1) := by decide +kernel
theorem dX7_sight_10 : decode cX7_sight 10 = .ok (.lconst 1, 1) := by decide +kernel
theorem dX7_sight_11 : decode cX7_sight 11 = .ok (.ldc2_w 124, 3) := by decide +kernel
theorem dX7_sight_14 : decode cX7_sight 14 = .ok (.invokestatic 59, 3) := by decide +kernel
theorem dX7_sight_17 : decode cX7_sight 17 = .ok (.ifCond .eq 13, 3) := by decide +kernel
theorem dX7_sight_20 : decode cX7_sight 20 = .ok (.iload_n 3, 1) := by decide +kernel
theorem dX7_sight_21 : decode cX7_sight 21 = .ok (.i2l, 1) := by decide +kernel
theorem dX7_sight_22 : decode cX7_sight 22 = .ok (.lconst 0, 1) := by decide +kernel
theorem dX7_sight_23 : decode cX7_sight 23 = .ok (.lconst 1, 1) := by decide +kernel
theorem dX7_sight_24 : decode cX7_sight 24 = .ok (.invokestatic 59, 3) := by decide +kernel
theorem dX7_sight_27 : decode cX7_sight 27 = .ok (.ifCond .ne 5, 3) := by decide +kernel
theorem dX7_sight_30 : decode cX7_sight 30 = .ok (.iconst (-1), 1) := by decide +kernel
theorem dX7_sight_31 : decode cX7_sight 31 = .ok (.ireturn, 1) := by decide +kernel
theorem dX7_sight_32 : decode cX7_sight 32 = .ok (.iconst 0, 1) := by decide +kernel
theorem dX7_sight_33 : decode cX7_sight 33 = .ok (.istore 4, 2) := by decide +kernel
theorem dX7_sight_35 : decode cX7_sight 35 = .ok (.iconst (-1), 1) := by decide +kernel
theorem dX7_sight_36 : decode cX7_sight 36 = .ok (.istore 5, 2) := by decide +kernel
theorem dX7_sight_38 : decode cX7_sight 38 = .ok (.aload_n 0, 1) := by decide +kernel
theorem dX7_sight_39 : decode cX7_sight 39 = .ok (.invokevirtual 204, 3) := by decide +kernel
theorem dX7_sight_42 : decode cX7_sight 42 = .ok (.iconst 0, 1) := by decide +kernel
theorem dX7_sight_43 : decode cX7_sight 43 = .ok (.istore 6, 2) := by decide +kernel
theorem dX7_sight_45 : decode cX7_sight 45 = .ok (.iload 6, 2) := by decide +kernel
theorem dX7_sight_47 : decode cX7_sight 47 = .ok (.bipush 8, 2) := by decide +kernel
theorem dX7_sight_49 : decode cX7_sight 49 = .ok (.if_icmp .ge 73, 3) := by decide +kernel
theorem dX7_sight_52 : decode cX7_sight 52 = .ok (.aload_n 0, 1) := by decide +kernel
theorem dX7_sight_53 : decode cX7_sight 53 = .ok (.getfield 7, 3) := by decide +kernel
theorem dX7_sight_56 : decode cX7_sight 56 = .ok (.iconst 4, 1) := by decide +kernel
theorem dX7_sight_57 : decode cX7_sight 57 = .ok (.iconst 3, 1) := by decide +kernel
theorem dX7_sight_58 : decode cX7_sight 58 = .ok (.iload_n 1, 1) := by decide +kernel
theorem dX7_sight_59 : decode cX7_sight 59 = .ok (.imul, 1) := by decide +kernel
theorem dX7_sight_60 : decode cX7_sight 60 = .ok (.iadd, 1) := by decide +kernel
theorem dX7_sight_61 : decode cX7_sight 61 = .ok (.iconst 1, 1) := by decide +kernel
theorem dX7_sight_62 : decode cX7_sight 62 = .ok (.iadd, 1) := by decide +kernel
theorem dX7_sight_63 : decode cX7_sight 63 = .ok (.iload 6, 2) := by decide +kernel
theorem dX7_sight_65 : decode cX7_sight 65 = .ok (.iastore, 1) := by decide +kernel
theorem dX7_sight_66 : decode cX7_sight 66 = .ok (.aload_n 0, 1) := by decide +kernel
theorem dX7_sight_67 : decode cX7_sight 67 = .ok (.iload_n 2, 1) := by decide +kernel
theorem dX7_sight_68 : decode cX7_sight 68 = .ok (.invokevirtual 207, 3) := by decide +kernel
theorem dX7_sight_71 : decode cX7_sight 71 = .ok (.aload_n 0, 1) := by decide +kernel
theorem dX7_sight_72 : decode cX7_sight 72 = .ok (.invokevirtual 142, 3) := by decide +kernel
theorem dX7_sight_75 : decode cX7_sight 75 = .ok (.invokestatic 219, 3) := by decide +kernel
theorem dX7_sight_78 : decode cX7_sight 78 = .ok (.istore 7, 2) := by decide +kernel
theorem dX7_sight_80 : decode cX7_sight 80 = .ok (.aload_n 0, 1) := by decide +kernel
theorem dX7_sight_81 : decode cX7_sight 81 = .ok (.invokevirtual 210, 3) := by decide +kernel
theorem dX7_sight_84 : decode cX7_sight 84 = .ok (.iload 7, 2) := by decide +kernel
theorem dX7_sight_86 : decode cX7_sight 86 = .ok (.iload 5, 2) := by decide +kernel
theorem dX7_sight_88 : decode cX7_sight 88 = .ok (.if_icmp .le 8, 3) := by decide +kernel
theorem dX7_sight_91 : decode cX7_sight 91 = .ok (.iload 6, 2) := by decide +kernel
theorem dX7_sight_93 : decode cX7_sight 93 = .ok (.goto 5, 3) := by decide +kernel
theorem dX7_sight_96 : decode cX7_sight 96 = .ok (.iload 4, 2) := by decide +kernel
theorem dX7_sight_98 : decode cX7_sight 98 = .ok (.istore 4, 2) := by decide +kernel
theorem dX7_sight_100 : decode cX7_sight 100 = .ok (.iload 7, 2) := by decide +kernel
theorem dX7_sight_102 : decode cX7_sight 102 = .ok (.iload 5, 2) := by decide +kernel
theorem dX7_sight_104 : decode cX7_sight 104 = .ok (.if_icmp .le 8, 3) := by decide +kernel
theorem dX7_sight_107 : decode cX7_sight 107 = .ok (.iload 7, 2) := by decide +kernel
theorem dX7_sight_109 : decode cX7_sight 109 = .ok (.goto 5, 3) := by decide +kernel
theorem dX7_sight_112 : decode cX7_sight 112 = .ok (.iload 5, 2) := by decide +kernel
theorem dX7_sight_114 : decode cX7_sight 114 = .ok (.istore 5, 2) := by decide +kernel
theorem dX7_sight_116 : decode cX7_sight 116 = .ok (.iinc 6 1, 3) := by decide +kernel
theorem dX7_sight_119 : decode cX7_sight 119 = .ok (.goto (-74), 3) := by decide +kernel
theorem dX7_sight_122 : decode cX7_sight 122 = .ok (.iload_n 3, 1) := by decide +kernel
theorem dX7_sight_123 : decode cX7_sight 123 = .ok (.ifCond .ne 8, 3) := by decide +kernel
theorem dX7_sight_126 : decode cX7_sight 126 = .ok (.iload 4, 2) := by decide +kernel
theorem dX7_sight_128 : decode cX7_sight 128 = .ok (.goto 5, 3) := by decide +kernel
theorem dX7_sight_131 : decode cX7_sight 131 = .ok (.iload 5, 2) := by decide +kernel
theorem dX7_sight_133 : decode cX7_sight 133 = .ok (.ireturn, 1) := by decide +kernel
theorem dX7_carts_0 : decode cX7_carts 0 = .ok (.aload_n 0, 1) := by decide +kernel
theorem dX7_carts_1 : decode cX7_carts 1 = .ok (.iload_n 1, 1) := by decide +kernel
theorem dX7_carts_2 : decode cX7_carts 2 = .ok (.invokevirtual 129, 3) := by decide +kernel
theorem dX7_carts_5 : decode cX7_carts 5 = .ok (.ifCond .eq 25, 3) := by decide +kernel
theorem dX7_carts_8 : decode cX7_carts 8 = .ok (.iload_n 2, 1) := by decide +kernel
theorem dX7_carts_9 : decode cX7_carts 9 = .ok (.i2l, 1) := by decide +kernel
theorem dX7_carts_10 : decode cX7_carts 10 = .ok (.lconst 0, 1) := by decide +kernel
theorem dX7_carts_11 : decode cX7_carts 11 = .ok (.ldc2_w 222, 3) := by decide +kernel
theorem dX7_carts_14 : decode cX7_carts 14 = .ok (.invokestatic 59, 3) := by decide +kernel
theorem dX7_carts_17 : decode cX7_carts 17 = .ok (.ifCond .eq 13, 3) := by decide +kernel
theorem dX7_carts_20 : decode cX7_carts 20 = .ok (.iload_n 3, 1) := by decide +kernel
theorem dX7_carts_21 : decode cX7_carts 21 = .ok (.i2l, 1) := by decide +kernel
theorem dX7_carts_22 : decode cX7_carts 22 = .ok (.lconst 0, 1) := by decide +kernel
theorem dX7_carts_23 : decode cX7_carts 23 = .ok (.lconst 1, 1) := by decide +kernel
theorem dX7_carts_24 : decode cX7_carts 24 = .ok (.invokestatic 59, 3) := by decide +kernel
theorem dX7_carts_27 : decode cX7_carts 27 = .ok (.ifCond .ne 5, 3) := by decide +kernel
theorem dX7_carts_30 : decode cX7_carts 30 = .ok (.iconst (-1), 1) := by decide +kernel
theorem dX7_carts_31 : decode cX7_carts 31 = .ok (.ireturn, 1) := by decide +kernel
theorem dX7_carts_32 : decode cX7_carts 32 = .ok (.iconst 1, 1) := by decide +kernel
theorem dX7_carts_33 : decode cX7_carts 33 = .ok (.aload_n 0, 1) := by decide +kernel
theorem dX7_carts_34 : decode cX7_carts 34 = .ok (.getfield 7, 3) := by decide +kernel
theorem dX7_carts_37 : decode cX7_carts 37 = .ok (.iconst 0, 1) := by decide +kernel
theorem dX7_carts_38 : decode cX7_carts 38 = .ok (.iaload, 1) := by decide +kernel
theorem dX7_carts_39 : decode cX7_carts 39 = .ok (.ishl, 1) := by decide +kernel
theorem dX7_carts_40 : decode cX7_carts 40 = .ok (.iconst 1, 1) := by decide +kernel
theorem dX7_carts_41 : decode cX7_carts 41 = .ok (.isub, 1) := by decide +kernel
theorem dX7_carts_42 : decode cX7_carts 42 = .ok (.aload_n 0, 1) := by decide +kernel
theorem dX7_carts_43 : decode cX7_carts 43 = .ok (.invokevirtual 139, 3) := by decide +kernel
theorem dX7_carts_46 : decode cX7_carts 46 = .ok (.iconst (-1), 1) := by decide +kernel
theorem dX7_carts_47 : decode cX7_carts 47 = .ok (.ixor, 1) := by decide +kernel
theorem dX7_carts_48 : decode cX7_carts 48 = .ok (.iand, 1) := by decide +kernel
theorem dX7_carts_49 : decode cX7_carts 49 = .ok (.istore 4, 2) := by decide +kernel
theorem dX7_carts_51 : decode cX7_carts 51 = .ok (.iconst 0, 1) := by decide +kernel
theorem dX7_carts_52 : decode cX7_carts 52 = .ok (.istore 5, 2) := by decide +kernel
theorem dX7_carts_54 : decode cX7_carts 54 = .ok (.iconst 0, 1) := by decide +kernel
theorem dX7_carts_55 : decode cX7_carts 55 = .ok (.istore 6, 2) := by decide +kernel
theorem dX7_carts_57 : decode cX7_carts 57 = .ok (.aload_n 0, 1) := by decide +kernel
theorem dX7_carts_58 : decode cX7_carts 58 = .ok (.invokevirtual 204, 3) := by decide +kernel
theorem dX7_carts_61 : decode cX7_carts 61 = .ok (.iconst 0, 1) := by decide +kernel
theorem dX7_carts_62 : decode cX7_carts 62 = .ok (.istore 7, 2) := by decide +kernel
theorem dX7_carts_64 : decode cX7_carts 64 = .ok (.iload 7, 2) := by decide +kernel
theorem dX7_carts_66 : decode cX7_carts 66 = .ok (.sipush 128, 3) := by decide +kernel
theorem dX7_carts_69 : decode cX7_carts 69 = .ok (.if_icmp .ge 156, 3) := by decide +kernel
theorem dX7_carts_72 : decode cX7_carts 72 = .ok (.iload 7, 2) := by decide +kernel
theorem dX7_carts_74 : decode cX7_carts 74 = .ok (.iload 4, 2) := by decide +kernel
theorem dX7_carts_76 : decode cX7_carts 76 = .ok (.iconst (-1), 1) := by decide +kernel
theorem dX7_carts_77 : decode cX7_carts 77 = .ok (.ixor, 1) := by decide +kernel
theorem dX7_carts_78 : decode cX7_carts 78 = .ok (.iand, 1) := by decide +kernel
theorem dX7_carts_79 : decode cX7_carts 79 = .ok (.ifCond .ne 140, 3) := by decide +kernel
theorem dX7_carts_82 : decode cX7_carts 82 = .ok (.iconst 1, 1) := by decide +kernel
theorem dX7_carts_83 : decode cX7_carts 83 = .ok (.istore 8, 2) := by decide +kernel
theorem dX7_carts_85 : decode cX7_carts 85 = .ok (.iconst 0, 1) := by decide +kernel
theorem dX7_carts_86 : decode cX7_carts 86 = .ok (.istore 9, 2) := by decide +kernel
theorem dX7_carts_88 : decode cX7_carts 88 = .ok (.iload 9, 2) := by decide +kernel
theorem dX7_carts_90 : decode cX7_carts 90 = .ok (.aload_n 0, 1) := by decide +kernel
theorem dX7_carts_91 : decode cX7_carts 91 = .ok (.getfield 7, 3) := by decide +kernel
theorem dX7_carts_94 : decode cX7_carts 94 = .ok (.iconst 0, 1) := by decide +kernel
theorem dX7_carts_95 : decode cX7_carts 95 = .ok (.iaload, 1) := by decide +kernel
theorem dX7_carts_96 : decode cX7_carts 96 = .ok (.if_icmp .ge 87, 3) := by decide +kernel
theorem dX7_carts_99 : decode cX7_carts 99 = .ok (.iload 7, 2) := by decide +kernel
theorem dX7_carts_101 : decode cX7_carts 101 = .ok (.iload 9, 2) := by decide +kernel
theorem dX7_carts_103 : decode cX7_carts 103 = .ok (.ishr, 1) := by decide +kernel
theorem dX7_carts_104 : decode cX7_carts 104 = .ok (.iconst 1, 1) := by decide +kernel
theorem dX7_carts_105 : decode cX7_carts 105 = .ok (.iand, 1) := by decide +kernel
theorem dX7_carts_106 : decode cX7_carts 106 = .ok (.iconst 1, 1) := by decide +kernel
theorem dX7_carts_107 : decode cX7_carts 107 = .ok (.if_icmp .ne 7, 3) := by decide +kernel
theorem dX7_carts_110 : decode cX7_carts 110 = .ok (.iconst 1, 1) := by decide +kernel
theorem dX7_carts_111 : decode cX7_carts 111 = .ok (.goto 4, 3) := by decide +kernel
theorem dX7_carts_114 : decode cX7_carts 114 = .ok (.iconst 0, 1) := by decide +kernel
theorem dX7_carts_115 : decode cX7_carts 115 = .ok (.istore 10, 2) := by decide +kernel
theorem dX7_carts_117 : decode cX7_carts 117 = .ok (.iload 8, 2) := by decide +kernel
theorem dX7_carts_119 : decode cX7_carts 119 = .ok (.iload 4, 2) := by decide +kernel
theorem dX7_carts_121 : decode cX7_carts 121 = .ok (.iload 9, 2) := by decide +kernel
theorem dX7_carts_123 : decode cX7_carts 123 = .ok (.ishr, 1) := by decide +kernel
theorem dX7_carts_124 : decode cX7_carts 124 = .ok (.iconst 1, 1) := by decide +kernel
theorem dX7_carts_125 : decode cX7_carts 125 = .ok (.iand, 1) := by decide +kernel
theorem dX7_carts_126 : decode cX7_carts 126 = .ok (.ifCond .ne 7, 3) := by decide +kernel
theorem dX7_carts_129 : decode cX7_carts 129 = .ok (.iconst 1, 1) := by decide +kernel
theorem dX7_carts_130 : decode cX7_carts 130 = .ok (.goto 16, 3) := by decide +kernel
theorem dX7_carts_133 : decode cX7_carts 133 = .ok (.iload 10, 2) := by decide +kernel
theorem dX7_carts_135 : decode cX7_carts 135 = .ok (.ifCond .eq 7, 3) := by decide +kernel
theorem dX7_carts_138 : decode cX7_carts 138 = .ok (.iload_n 2, 1) := by decide +kernel
theorem dX7_carts_139 : decode cX7_carts 139 = .ok (.goto 7, 3) := by decide +kernel
theorem dX7_carts_142 : decode cX7_carts 142 = .ok (.bipush 10, 2) := by decide +kernel
theorem dX7_carts_144 : decode cX7_carts 144 = .ok (.iload_n 2, 1) := by decide +kernel
theorem dX7_carts_145 : decode cX7_carts 145 = .ok (.isub, 1) := by decide +kernel
theorem dX7_carts_146 : decode cX7_carts 146 = .ok (.imul, 1) := by decide +kernel
theorem dX7_carts_147 : decode cX7_carts 147 = .ok (.istore 8, 2) := by decide +kernel
theorem dX7_carts_149 : decode cX7_carts 149 = .ok (.aload_n 0, 1) := by decide +kernel
theorem dX7_carts_150 : decode cX7_carts 150 = .ok (.iload 9, 2) := by decide +kernel
theorem dX7_carts_152 : decode cX7_carts 152 = .ok (.iload 10, 2) := by decide +kernel
theorem dX7_carts_154 : decode cX7_carts 154 = .ok (.ifCond .eq 14, 3) := by decide +kernel
theorem dX7_carts_157 : decode cX7_carts 157 = .ok (.aload_n 0, 1) := by decide +kernel
theorem dX7_carts_158 : decode cX7_carts 158 = .ok (.iload 9, 2) := by decide +kernel
theorem dX7_carts_160 : decode cX7_carts 160 = .ok (.invokevirtual 78, 3) := by decide +kernel
theorem dX7_carts_163 : decode cX7_carts 163 = .ok (.iconst 2, 1) := by decide +kernel
theorem dX7_carts_164 : decode cX7_carts 164 = .ok (.idiv, 1) := by decide +kernel
theorem dX7_carts_165 : decode cX7_carts 165 = .ok (.goto 9, 3) := by decide +kernel
theorem dX7_carts_168 : decode cX7_carts 168 = .ok (.aload_n 0, 1) := by decide +kernel
theorem dX7_carts_169 : decode cX7_carts 169 = .ok (.iload 9, 2) := by decide +kernel
theorem dX7_carts_171 : decode cX7_carts 171 = .ok (.invokevirtual 78, 3) := by decide +kernel
theorem dX7_carts_174 : decode cX7_carts 174 = .ok (.invokevirtual 102, 3) := by decide +kernel
theorem dX7_carts_177 : decode cX7_carts 177 = .ok (.iinc 9 1, 3) := by decide +kernel
theorem dX7_carts_180 : decode cX7_carts 180 = .ok (.goto (-92), 3) := by decide +kernel
theorem dX7_carts_183 : decode cX7_carts 183 = .ok (.aload_n 0, 1) := by decide +kernel
theorem dX7_carts_184 : decode cX7_carts 184 = .ok (.invokevirtual 106, 3) := by decide +kernel
theorem dX7_carts_187 : decode cX7_carts 187 = .ok (.iload 6, 2) := by decide +kernel
theorem dX7_carts_189 : decode cX7_carts 189 = .ok (.iload 8, 2) := by decide +kernel
theorem dX7_carts_191 : decode cX7_carts 191 = .ok (.iadd, 1) := by decide +kernel
theorem dX7_carts_192 : decode cX7_carts 192 = .ok (.istore 6, 2) := by decide +kernel
theorem dX7_carts_194 : decode cX7_carts 194 = .ok (.iload 5, 2) := by decide +kernel
theorem dX7_carts_196 : decode cX7_carts 196 = .ok (.aload_n 0, 1) := by decide +kernel
theorem dX7_carts_197 : decode cX7_carts 197 = .ok (.iload_n 1, 1) := by decide +kernel
theorem dX7_carts_198 : decode cX7_carts 198 = .ok (.invokevirtual 70, 3) := by decide +kernel
theorem dX7_carts_201 : decode cX7_carts 201 = .ok (.bipush (-4), 2) := by decide +kernel
theorem dX7_carts_203 : decode cX7_carts 203 = .ok (.if_icmp .ne 7, 3) := by decide +kernel
theorem dX7_carts_206 : decode cX7_carts 206 = .ok (.iconst 0, 1) := by decide +kernel
theorem dX7_carts_207 : decode cX7_carts 207 = .ok (.goto 5, 3) := by decide +kernel
theorem dX7_carts_210 : decode cX7_carts 210 = .ok (.iload 8, 2) := by decide +kernel
theorem dX7_carts_212 : decode cX7_carts 212 = .ok (.iadd, 1) := by decide +kernel
theorem dX7_carts_213 : decode cX7_carts 213 = .ok (.istore 5, 2) := by decide +kernel
theorem dX7_carts_215 : decode cX7_carts 215 = .ok (.aload_n 0, 1) := by decide +kernel
theorem dX7_carts_216 : decode cX7_carts 216 = .ok (.invokevirtual 210, 3) := by decide +kernel
theorem dX7_carts_219 : decode cX7_carts 219 = .ok (.iinc 7 1, 3) := by decide +kernel
theorem dX7_carts_222 : decode cX7_carts 222 = .ok (.goto (-158), 3) := by decide +kernel
theorem dX7_carts_225 : decode cX7_carts 225 = .ok (.iload 5, 2) := by decide +kernel
theorem dX7_carts_227 : decode cX7_carts 227 = .ok (.istore 7, 2) := by decide +kernel
theorem dX7_carts_229 : decode cX7_carts 229 = .ok (.iload 6, 2) := by decide +kernel
theorem dX7_carts_231 : decode cX7_carts 231 = .ok (.istore 8, 2) := by decide +kernel
theorem dX7_carts_233 : decode cX7_carts 233 = .ok (.iload 8, 2) := by decide +kernel
theorem dX7_carts_235 : decode cX7_carts 235 = .ok (.ifCond .eq 21, 3) := by decide +kernel
theorem dX7_carts_238 : decode cX7_carts 238 = .ok (.iload 7, 2) := by decide +kernel
theorem dX7_carts_240 : decode cX7_carts 240 = .ok (.iload 8, 2) := by decide +kernel
theorem dX7_carts_242 : decode cX7_carts 242 = .ok (.irem, 1) := by decide +kernel
theorem dX7_carts_243 : decode cX7_carts 243 = .ok (.istore 9, 2) := by decide +kernel
theorem dX7_carts_245 : decode cX7_carts 245 = .ok (.iload 8, 2) := by decide +kernel
theorem dX7_carts_247 : decode cX7_carts 247 = .ok (.istore 7, 2) := by decide +kernel
theorem dX7_carts_249 : decode cX7_carts 249 = .ok (.iload 9, 2) := by decide +kernel
theorem dX7_carts_251 : decode cX7_carts 251 = .ok (.istore 8, 2) := by decide +kernel
theorem dX7_carts_253 : decode cX7_carts 253 = .ok (.goto (-20), 3) := by decide +kernel
theorem dX7_carts_256 : decode cX7_carts 256 = .ok (.iload_n 3, 1) := by decide +kernel
theorem dX7_carts_257 : decode cX7_carts 257 = .ok (.ifCond .ne 11, 3) := by decide +kernel
theorem dX7_carts_260 : decode cX7_carts 260 = .ok (.iload 5, 2) := by decide +kernel
theorem dX7_carts_262 : decode cX7_carts 262 = .ok (.iload 7, 2) := by decide +kernel
theorem dX7_carts_264 : decode cX7_carts 264 = .ok (.idiv, 1) := by decide +kernel
theorem dX7_carts_265 : decode cX7_carts 265 = .ok (.goto 8, 3) := by decide +kernel
theorem dX7_carts_268 : decode cX7_carts 268 = .ok (.iload 6, 2) := by decide +kernel
theorem dX7_carts_270 : decode cX7_carts 270 = .ok (.iload 7, 2) := by decide +kernel
theorem dX7_carts_272 : decode cX7_carts 272 = .ok (.idiv, 1) := by decide +kernel
theorem dX7_carts_273 : decode cX7_carts 273 = .ok (.ireturn, 1) := by decide +kernel
theorem dX7_image_0 : decode cX7_image 0 = .ok (.iconst 0, 1) := by decide +kernel
theorem dX7_image_1 : decode cX7_image 1 = .ok (.istore_n 1, 1) := by decide +kernel
theorem dX7_image_2 : decode cX7_image 2 = .ok (.iload_n 1, 1) := by decide +kernel
theorem dX7_image_3 : decode cX7_image 3 = .ok (.bipush 49, 2) := by decide +kernel
theorem dX7_image_5 : decode cX7_image 5 = .ok (.if_icmp .ge 21, 3) := by decide +kernel
theorem dX7_image_8 : decode cX7_image 8 = .ok (.aload_n 0, 1) := by decide +kernel
theorem dX7_image_9 : decode cX7_image 9 = .ok (.getfield 43, 3) := by decide +kernel
theorem dX7_image_12 : decode cX7_image 12 = .ok (.iload_n 1, 1) := by decide +kernel
theorem dX7_image_13 : decode cX7_image 13 = .ok (.aload_n 0, 1) := by decide +kernel
theorem dX7_image_14 : decode cX7_image 14 = .ok (.getfield 7, 3) := by decide +kernel
theorem dX7_image_17 : decode cX7_image 17 = .ok (.iload_n 1, 1) := by decide +kernel
theorem dX7_image_18 : decode cX7_image 18 = .ok (.iaload, 1) := by decide +kernel
theorem dX7_image_19 : decode cX7_image 19 = .ok (.iastore, 1) := by decide +kernel
theorem dX7_image_20 : decode cX7_image 20 = .ok (.iinc 1 1, 3) := by decide +kernel
theorem dX7_image_23 : decode cX7_image 23 = .ok (.goto (-21), 3) := by decide +kernel
theorem dX7_image_26 : decode cX7_image 26 = .ok (.iconst 0, 1) := by decide +kernel
theorem dX7_image_27 : decode cX7_image 27 = .ok (.istore_n 1, 1) := by decide +kernel
theorem dX7_image_28 : decode cX7_image 28 = .ok (.iload_n 1, 1) := by decide +kernel
theorem dX7_image_29 : decode cX7_image 29 = .ok (.sipush 168, 3) := by decide +kernel
theorem dX7_image_32 : decode cX7_image 32 = .ok (.if_icmp .ge 24, 3) := by decide +kernel
theorem dX7_image_35 : decode cX7_image 35 = .ok (.aload_n 0, 1) := by decide +kernel
theorem dX7_image_36 : decode cX7_image 36 = .ok (.getfield 43, 3) := by decide +kernel
theorem dX7_image_39 : decode cX7_image 39 = .ok (.bipush 49, 2) := by decide +kernel
theorem dX7_image_41 : decode cX7_image 41 = .ok (.iload_n 1, 1) := by decide +kernel
theorem dX7_image_42 : decode cX7_image 42 = .ok (.iadd, 1) := by decide +kernel
theorem dX7_image_43 : decode cX7_image 43 = .ok (.aload_n 0, 1) := by decide +kernel
theorem dX7_image_44 : decode cX7_image 44 = .ok (.getfield 25, 3) := by decide +kernel
theorem dX7_image_47 : decode cX7_image 47 = .ok (.iload_n 1, 1) := by decide +kernel
theorem dX7_image_48 : decode cX7_image 48 = .ok (.iaload, 1) := by decide +kernel
theorem dX7_image_49 : decode cX7_image 49 = .ok (.iastore, 1) := by decide +kernel
theorem dX7_image_50 : decode cX7_image 50 = .ok (.iinc 1 1, 3) := by decide +kernel
theorem dX7_image_53 : decode cX7_image 53 = .ok (.goto (-25), 3) := by decide +kernel
theorem dX7_image_56 : decode cX7_image 56 = .ok (.aload_n 0, 1) := by decide +kernel
theorem dX7_image_57 : decode cX7_image 57 = .ok (.aload_n 0, 1) := by decide +kernel
theorem dX7_image_58 : decode cX7_image 58 = .ok (.getfield 109, 3) := by decide +kernel
theorem dX7_image_61 : decode cX7_image 61 = .ok (.putfield 224, 3) := by decide +kernel
theorem dX7_image_64 : decode cX7_image 64 = .ok (.aload_n 0, 1) := by decide +kernel
theorem dX7_image_65 : decode cX7_image 65 = .ok (.iconst 1, 1) := by decide +kernel
theorem dX7_image_66 : decode cX7_image 66 = .ok (.putfield 227, 3) := by decide +kernel
theorem dX7_image_69 : decode cX7_image 69 = .ok (.iconst 1, 1) := by decide +kernel
theorem dX7_image_70 : decode cX7_image 70 = .ok (.ireturn, 1) := by decide +kernel
theorem dX7_restore_0 : decode cX7_restore 0 = .ok (.aload_n 0, 1) := by decide +kernel
theorem dX7_restore_1 : decode cX7_restore 1 = .ok (.getfield 227, 3) := by decide +kernel
theorem dX7_restore_4 : decode cX7_restore 4 = .ok (.ifCond .ne 6, 3) := by decide +kernel
theorem dX7_restore_7 : decode cX7_restore 7 = .ok (.bipush (-4), 2) := by decide +kernel
theorem dX7_restore_9 : decode cX7_restore 9 = .ok (.ireturn, 1) := by decide +kernel
theorem dX7_restore_10 : decode cX7_restore 10 = .ok (.iconst 0, 1) := by decide +kernel
theorem dX7_restore_11 : decode cX7_restore 11 = .ok (.istore_n 1, 1) := by decide +kernel
theorem dX7_restore_12 : decode cX7_restore 12 = .ok (.iload_n 1, 1) := by decide +kernel
theorem dX7_restore_13 : decode cX7_restore 13 = .ok (.bipush 49, 2) := by decide +kernel
theorem dX7_restore_15 : decode cX7_restore 15 = .ok (.if_icmp .ge 21, 3) := by decide +kernel
theorem dX7_restore_18 : decode cX7_restore 18 = .ok (.aload_n 0, 1) := by decide +kernel
theorem dX7_restore_19 : decode cX7_restore 19 = .ok (.getfield 7, 3) := by decide +kernel
theorem dX7_restore_22 : decode cX7_restore 22 = .ok (.iload_n 1, 1) := by decide +kernel
theorem dX7_restore_23 : decode cX7_restore 23 = .ok (.aload_n 0, 1) := by decide +kernel
theorem dX7_restore_24 : decode cX7_restore 24 = .ok (.getfield 43, 3) := by decide +kernel
theorem dX7_restore_27 : decode cX7_restore 27 = .ok (.iload_n 1, 1) := by decide +kernel
theorem dX7_restore_28 : decode cX7_restore 28 = .ok (.iaload, 1) := by decide +kernel
theorem dX7_restore_29 : decode cX7_restore 29 = .ok (.iastore, 1) := by decide +kernel
theorem dX7_restore_30 : decode cX7_restore 30 = .ok (.iinc 1 1, 3) := by decide +kernel
theorem dX7_restore_33 : decode cX7_restore 33 = .ok (.goto (-21), 3) := by decide +kernel
theorem dX7_restore_36 : decode cX7_restore 36 = .ok (.iconst 0, 1) := by decide +kernel
theorem dX7_restore_37 : decode cX7_restore 37 = .ok (.istore_n 1, 1) := by decide +kernel
theorem dX7_restore_38 : decode cX7_restore 38 = .ok (.iload_n 1, 1) := by decide +kernel
theorem dX7_restore_39 : decode cX7_restore 39 = .ok (.sipush 168, 3) := by decide +kernel
theorem dX7_restore_42 : decode cX7_restore 42 = .ok (.if_icmp .ge 24, 3) := by decide +kernel
theorem dX7_restore_45 : decode cX7_restore 45 = .ok (.aload_n 0, 1) := by decide +kernel
theorem dX7_restore_46 : decode cX7_restore 46 = .ok (.getfield 25, 3) := by decide +kernel
theorem dX7_restore_49 : decode cX7_restore 49 = .ok (.iload_n 1, 1) := by decide +kernel
theorem dX7_restore_50 : decode cX7_restore 50 = .ok (.aload_n 0, 1) := by decide +kernel
theorem dX7_restore_51 : decode cX7_restore 51 = .ok (.getfield 43, 3) := by decide +kernel
theorem dX7_restore_54 : decode cX7_restore 54 = .ok (.bipush 49, 2) := by decide +kernel
theorem dX7_restore_56 : decode cX7_restore 56 = .ok (.iload_n 1, 1) := by decide +kernel
theorem dX7_restore_57 : decode cX7_restore 57 = .ok (.iadd, 1) := by decide +kernel
theorem dX7_restore_58 : decode cX7_restore 58 = .ok (.iaload, 1) := by decide +kernel
theorem dX7_restore_59 : decode cX7_restore 59 = .ok (.iastore, 1) := by decide +kernel
theorem dX7_restore_60 : decode cX7_restore 60 = .ok (.iinc 1 1, 3) := by decide +kernel
theorem dX7_restore_63 : decode cX7_restore 63 = .ok (.goto (-25), 3) := by decide +kernel
theorem dX7_restore_66 : decode cX7_restore 66 = .ok (.aload_n 0, 1) := by decide +kernel
theorem dX7_restore_67 : decode cX7_restore 67 = .ok (.aload_n 0, 1) := by decide +kernel
theorem dX7_restore_68 : decode cX7_restore 68 = .ok (.getfield 224, 3) := by decide +kernel
theorem dX7_restore_71 : decode cX7_restore 71 = .ok (.putfield 109, 3) := by decide +kernel
theorem dX7_restore_74 : decode cX7_restore 74 = .ok (.iconst 1, 1) := by decide +kernel
theorem dX7_restore_75 : decode cX7_restore 75 = .ok (.ireturn, 1) := by decide +kernel
theorem dX7_isSheet_0 : decode cX7_isSheet 0 = .ok (.iload_n 0, 1) := by decide +kernel
theorem dX7_isSheet_1 : decode cX7_isSheet 1 = .ok (.i2l, 1) := by decide +kernel
theorem dX7_isSheet_2 : decode cX7_isSheet 2 = .ok (.lconst 0, 1) := by decide +kernel
theorem dX7_isSheet_3 : decode cX7_isSheet 3 = .ok (.ldc2_w 230, 3) := by decide +kernel
theorem dX7_isSheet_6 : decode cX7_isSheet 6 = .ok (.invokestatic 59, 3) := by decide +kernel
theorem dX7_isSheet_9 : decode cX7_isSheet 9 = .ok (.ireturn, 1) := by decide +kernel
theorem dX7_isLane_0 : decode cX7_isLane 0 = .ok (.iload_n 0, 1) := by decide +kernel
theorem dX7_isLane_1 : decode cX7_isLane 1 = .ok (.i2l, 1) := by decide +kernel
theorem dX7_isLane_2 : decode cX7_isLane 2 = .ok (.lconst 0, 1) := by decide +kernel
theorem dX7_isLane_3 : decode cX7_isLane 3 = .ok (.ldc2_w 230, 3) := by decide +kernel
theorem dX7_isLane_6 : decode cX7_isLane 6 = .ok (.invokestatic 59, 3) := by decide +kernel
theorem dX7_isLane_9 : decode cX7_isLane 9 = .ok (.ireturn, 1) := by decide +kernel
theorem dX7_why_0 : decode cX7_why 0 = .ok (.aload_n 0, 1) := by decide +kernel
theorem dX7_why_1 : decode cX7_why 1 = .ok (.getfield 46, 3) := by decide +kernel
theorem dX7_why_4 : decode cX7_why 4 = .ok (.iload_n 1, 1) := by decide +kernel
theorem dX7_why_5 : decode cX7_why 5 = .ok (.iaload, 1) := by decide +kernel
theorem dX7_why_6 : decode cX7_why 6 = .ok (.ifCond .ge 6, 3) := by decide +kernel
theorem dX7_why_9 : decode cX7_why 9 = .ok (.bipush (-11), 2) := by decide +kernel
theorem dX7_why_11 : decode cX7_why 11 = .ok (.ireturn, 1) := by decide +kernel
theorem dX7_why_12 : decode cX7_why 12 = .ok (.aload_n 0, 1) := by decide +kernel
theorem dX7_why_13 : decode cX7_why 13 = .ok (.getfield 46, 3) := by decide +kernel
theorem dX7_why_16 : decode cX7_why 16 = .ok (.iload_n 1, 1) := by decide +kernel
theorem dX7_why_17 : decode cX7_why 17 = .ok (.iaload, 1) := by decide +kernel
theorem dX7_why_18 : decode cX7_why 18 = .ok (.iload_n 2, 1) := by decide +kernel
theorem dX7_why_19 : decode cX7_why 19 = .ok (.if_icmp .eq 6, 3) := by decide +kernel
theorem dX7_why_22 : decode cX7_why 22 = .ok (.bipush (-12), 2) := by decide +kernel
theorem dX7_why_24 : decode cX7_why 24 = .ok (.ireturn, 1) := by decide +kernel
theorem dX7_why_25 : decode cX7_why 25 = .ok (.iload_n 3, 1) := by decide +kernel
theorem dX7_why_26 : decode cX7_why 26 = .ok (.ifCond .lt 25, 3) := by decide +kernel
theorem dX7_why_29 : decode cX7_why 29 = .ok (.iload 4, 2) := by decide +kernel
theorem dX7_why_31 : decode cX7_why 31 = .ok (.ifCond .lt 20, 3) := by decide +kernel
theorem dX7_why_34 : decode cX7_why 34 = .ok (.iload_n 3, 1) := by decide +kernel
theorem dX7_why_35 : decode cX7_why 35 = .ok (.i2l, 1) := by decide +kernel
theorem dX7_why_36 : decode cX7_why 36 = .ok (.iload 4, 2) := by decide +kernel
theorem dX7_why_38 : decode cX7_why 38 = .ok (.i2l, 1) := by decide +kernel
theorem dX7_why_39 : decode cX7_why 39 = .ok (.ladd, 1) := by decide +kernel
theorem dX7_why_40 : decode cX7_why 40 = .ok (.aload_n 0, 1) := by decide +kernel
theorem dX7_why_41 : decode cX7_why 41 = .ok (.getfield 49, 3) := by decide +kernel
theorem dX7_why_44 : decode cX7_why 44 = .ok (.iload_n 1, 1) := by decide +kernel
theorem dX7_why_45 : decode cX7_why 45 = .ok (.iaload, 1) := by decide +kernel
theorem dX7_why_46 : decode cX7_why 46 = .ok (.i2l, 1) := by decide +kernel
theorem dX7_why_47 : decode cX7_why 47 = .ok (.lcmp, 1) := by decide +kernel
theorem dX7_why_48 : decode cX7_why 48 = .ok (.ifCond .le 8, 3) := by decide +kernel
theorem dX7_why_51 : decode cX7_why 51 = .ok (.bipush (-13), 2) := by decide +kernel
theorem dX7_why_53 : decode cX7_why 53 = .ok (.goto 4, 3) := by decide +kernel
theorem dX7_why_56 : decode cX7_why 56 = .ok (.iconst 0, 1) := by decide +kernel
theorem dX7_why_57 : decode cX7_why 57 = .ok (.ireturn, 1) := by decide +kernel
theorem dX7_isSo_0 : decode cX7_isSo 0 = .ok (.iconst 1, 1) := by decide +kernel
theorem dX7_isSo_1 : decode cX7_isSo 1 = .ok (.istore 4, 2) := by decide +kernel
theorem dX7_isSo_3 : decode cX7_isSo 3 = .ok (.iconst 0, 1) := by decide +kernel
theorem dX7_isSo_4 : decode cX7_isSo 4 = .ok (.istore 5, 2) := by decide +kernel
theorem dX7_isSo_6 : decode cX7_isSo 6 = .ok (.iload 5, 2) := by decide +kernel
theorem dX7_isSo_8 : decode cX7_isSo 8 = .ok (.iload_n 3, 1) := by decide +kernel
theorem dX7_isSo_9 : decode cX7_isSo 9 = .ok (.if_icmp .ge 44, 3) := by decide +kernel
theorem dX7_isSo_12 : decode cX7_isSo 12 = .ok (.aload_n 0, 1) := by decide +kernel
theorem dX7_isSo_13 : decode cX7_isSo 13 = .ok (.invokevirtual 106, 3) := by decide +kernel
theorem dX7_isSo_16 : decode cX7_isSo 16 = .ok (.iload 4, 2) := by decide +kernel
theorem dX7_isSo_18 : decode cX7_isSo 18 = .ok (.ifCond .eq 26, 3) := by decide +kernel
theorem dX7_isSo_21 : decode cX7_isSo 21 = .ok (.aload_n 0, 1) := by decide +kernel
theorem dX7_isSo_22 : decode cX7_isSo 22 = .ok (.iload_n 1, 1) := by decide +kernel
theorem dX7_isSo_23 : decode cX7_isSo 23 = .ok (.invokevirtual 78, 3) := by decide +kernel
theorem dX7_isSo_26 : decode cX7_isSo 26 = .ok (.i2l, 1) := by decide +kernel
theorem dX7_isSo_27 : decode cX7_isSo 27 = .ok (.aload_n 0, 1) := by decide +kernel
theorem dX7_isSo_28 : decode cX7_isSo 28 = .ok (.getfield 52, 3) := by decide +kernel
theorem dX7_isSo_31 : decode cX7_isSo 31 = .ok (.iload_n 2, 1) := by decide +kernel
theorem dX7_isSo_32 : decode cX7_isSo 32 = .ok (.iload 5, 2) := by decide +kernel
theorem dX7_isSo_34 : decode cX7_isSo 34 = .ok (.iadd, 1) := by decide +kernel
theorem dX7_isSo_35 : decode cX7_isSo 35 = .ok (.laload, 1) := by decide +kernel
theorem dX7_isSo_36 : decode cX7_isSo 36 = .ok (.lcmp, 1) := by decide +kernel
theorem dX7_isSo_37 : decode cX7_isSo 37 = .ok (.ifCond .ne 7, 3) := by decide +kernel
theorem dX7_isSo_40 : decode cX7_isSo 40 = .ok (.iconst 1, 1) := by decide +kernel
theorem dX7_isSo_41 : decode cX7_isSo 41 = .ok (.goto 4, 3) := by decide +kernel
theorem dX7_isSo_44 : decode cX7_isSo 44 = .ok (.iconst 0, 1) := by decide +kernel
theorem dX7_isSo_45 : decode cX7_isSo 45 = .ok (.istore 4, 2) := by decide +kernel
theorem dX7_isSo_47 : decode cX7_isSo 47 = .ok (.iinc 5 1, 3) := by decide +kernel
theorem dX7_isSo_50 : decode cX7_isSo 50 = .ok (.goto (-44), 3) := by decide +kernel
theorem dX7_isSo_53 : decode cX7_isSo 53 = .ok (.aload_n 0, 1) := by decide +kernel
theorem dX7_isSo_54 : decode cX7_isSo 54 = .ok (.invokevirtual 210, 3) := by decide +kernel
theorem dX7_isSo_57 : decode cX7_isSo 57 = .ok (.iload 4, 2) := by decide +kernel
theorem dX7_isSo_59 : decode cX7_isSo 59 = .ok (.ireturn, 1) := by decide +kernel
theorem dX7_dipped_0 : decode cX7_dipped 0 = .ok (.aload_n 0, 1) := by decide +kernel
theorem dX7_dipped_1 : decode cX7_dipped 1 = .ok (.iload_n 1, 1) := by decide +kernel
theorem dX7_dipped_2 : decode cX7_dipped 2 = .ok (.invokevirtual 74, 3) := by decide +kernel
theorem dX7_dipped_5 : decode cX7_dipped 5 = .ok (.ifCond .eq 43, 3) := by decide +kernel
theorem dX7_dipped_8 : decode cX7_dipped 8 = .ok (.iload_n 2, 1) := by decide +kernel
theorem dX7_dipped_9 : decode cX7_dipped 9 = .ok (.invokestatic 232, 3) := by decide +kernel
theorem dX7_dipped_12 : decode cX7_dipped 12 = .ok (.ifCond .eq 36, 3) := by decide +kernel
theorem dX7_dipped_15 : decode cX7_dipped 15 = .ok (.iload_n 3, 1) := by decide +kernel
theorem dX7_dipped_16 : decode cX7_dipped 16 = .ok (.invokestatic 235, 3) := by decide +kernel
theorem dX7_dipped_19 : decode cX7_dipped 19 = .ok (.ifCond .eq 29, 3) := by decide +kernel
theorem dX7_dipped_22 : decode cX7_dipped 22 = .ok (.iload 5, 2) := by decide +kernel
theorem dX7_dipped_24 : decode cX7_dipped 24 = .ok (.i2l, 1) := by decide +kernel
theorem dX7_dipped_25 : decode cX7_dipped 25 = .ok (.lconst 1, 1) := by decide +kernel
theorem dX7_dipped_26 : decode cX7_dipped 26 = .ok (.ldc2_w 238, 3) := by decide +kernel
theorem dX7_dipped_29 : decode cX7_dipped 29 = .ok (.invokestatic 59, 3) := by decide +kernel
theorem dX7_dipped_32 : decode cX7_dipped 32 = .ok (.ifCond .eq 16, 3) := by decide +kernel
theorem dX7_dipped_35 : decode cX7_dipped 35 = .ok (.iload 6, 2) := by decide +kernel
theorem dX7_dipped_37 : decode cX7_dipped 37 = .ok (.i2l, 1) := by decide +kernel
theorem dX7_dipped_38 : decode cX7_dipped 38 = .ok (.lconst 0, 1) := by decide +kernel
theorem dX7_dipped_39 : decode cX7_dipped 39 = .ok (.ldc2_w 240, 3) := by decide +kernel
theorem dX7_dipped_42 : decode cX7_dipped 42 = .ok (.invokestatic 59, 3) := by decide +kernel
theorem dX7_dipped_45 : decode cX7_dipped 45 = .ok (.ifCond .ne 5, 3) := by decide +kernel
theorem dX7_dipped_48 : decode cX7_dipped 48 = .ok (.iconst (-1), 1) := by decide +kernel
theorem dX7_dipped_49 : decode cX7_dipped 49 = .ok (.ireturn, 1) := by decide +kernel
theorem dX7_dipped_50 : decode cX7_dipped 50 = .ok (.aload_n 0, 1) := by decide +kernel
theorem dX7_dipped_51 : decode cX7_dipped 51 = .ok (.iload_n 2, 1) := by decide +kernel
theorem dX7_dipped_52 : decode cX7_dipped 52 = .ok (.iload_n 3, 1) := by decide +kernel
theorem dX7_dipped_53 : decode cX7_dipped 53 = .ok (.iload 4, 2) := by decide +kernel
theorem dX7_dipped_55 : decode cX7_dipped 55 = .ok (.iload 5, 2) := by decide +kernel
theorem dX7_dipped_57 : decode cX7_dipped 57 = .ok (.invokevirtual 242, 3) := by decide +kernel
theorem dX7_dipped_60 : decode cX7_dipped 60 = .ok (.istore 7, 2) := by decide +kernel
theorem dX7_dipped_62 : decode cX7_dipped 62 = .ok (.iload 7, 2) := by decide +kernel
theorem dX7_dipped_64 : decode cX7_dipped 64 = .ok (.ifCond .ge 6, 3) := by decide +kernel
theorem dX7_dipped_67 : decode cX7_dipped 67 = .ok (.iload 7, 2) := by decide +kernel
theorem dX7_dipped_69 : decode cX7_dipped 69 = .ok (.ireturn, 1) := by decide +kernel
theorem dX7_dipped_70 : decode cX7_dipped 70 = .ok (.iconst 0, 1) := by decide +kernel
theorem dX7_dipped_71 : decode cX7_dipped 71 = .ok (.istore 8, 2) := by decide +kernel
theorem dX7_dipped_73 : decode cX7_dipped 73 = .ok (.iconst 0, 1) := by decide +kernel
theorem dX7_dipped_74 : decode cX7_dipped 74 = .ok (.istore 9, 2) := by decide +kernel
theorem dX7_dipped_76 : decode cX7_dipped 76 = .ok (.bipush (-4), 2) := by decide +kernel
theorem dX7_dipped_78 : decode cX7_dipped 78 = .ok (.istore 10, 2) := by decide +kernel
theorem dX7_dipped_80 : decode cX7_dipped 80 = .ok (.iconst 4, 1) := by decide +kernel
theorem dX7_dipped_81 : decode cX7_dipped 81 = .ok (.iconst 3, 1) := by decide +kernel
theorem dX7_dipped_82 : decode cX7_dipped 82 = .ok (.iload_n 1, 1) := by decide +kernel
theorem dX7_dipped_83 : decode cX7_dipped 83 = .ok (.imul, 1) := by decide +kernel
theorem dX7_dipped_84 : decode cX7_dipped 84 = .ok (.iadd, 1) := by decide +kernel
theorem dX7_dipped_85 : decode cX7_dipped 85 = .ok (.iload 6, 2) := by decide +kernel
theorem dX7_dipped_87 : decode cX7_dipped 87 = .ok (.ifCond .ne 7, 3) := by decide +kernel
theorem dX7_dipped_90 : decode cX7_dipped 90 = .ok (.iconst 0, 1) := by decide +kernel
theorem dX7_dipped_91 : decode cX7_dipped 91 = .ok (.goto 4, 3) := by decide +kernel
theorem dX7_dipped_94 : decode cX7_dipped 94 = .ok (.iconst 2, 1) := by decide +kernel
theorem dX7_dipped_95 : decode cX7_dipped 95 = .ok (.iadd, 1) := by decide +kernel
theorem dX7_dipped_96 : decode cX7_dipped 96 = .ok (.istore 11, 2) := by decide +kernel
theorem dX7_dipped_98 : decode cX7_dipped 98 = .ok (.aload_n 0, 1) := by decide +kernel
theorem dX7_dipped_99 : decode cX7_dipped 99 = .ok (.invokevirtual 204, 3) := by decide +kernel
theorem dX7_dipped_102 : decode cX7_dipped 102 = .ok (.iconst 0, 1) := by decide +kernel
theorem dX7_dipped_103 : decode cX7_dipped 103 = .ok (.istore 12, 2) := by decide +kernel
theorem dX7_dipped_105 : decode cX7_dipped 105 = .ok (.iload 12, 2) := by decide +kernel
theorem dX7_dipped_107 : decode cX7_dipped 107 = .ok (.iload 6, 2) := by decide +kernel
theorem dX7_dipped_109 : decode cX7_dipped 109 = .ok (.ifCond .ne 7, 3) := by decide +kernel
theorem dX7_dipped_112 : decode cX7_dipped 112 = .ok (.iconst 5, 1) := by decide +kernel
theorem dX7_dipped_113 : decode cX7_dipped 113 = .ok (.goto 5, 3) := by decide +kernel
theorem dX7_dipped_116 : decode cX7_dipped 116 = .ok (.bipush 61, 2) := by decide +kernel
theorem dX7_dipped_118 : decode cX7_dipped 118 = .ok (.if_icmp .ge 91, 3) := by decide +kernel
theorem dX7_dipped_121 : decode cX7_dipped 121 = .ok (.aload_n 0, 1) := by decide +kernel
theorem dX7_dipped_122 : decode cX7_dipped 122 = .ok (.getfield 7, 3) := by decide +kernel
theorem dX7_dipped_125 : decode cX7_dipped 125 = .ok (.iload 11, 2) := by decide +kernel
theorem dX7_dipped_127 : decode cX7_dipped 127 = .ok (.iload 12, 2) := by decide +kernel
theorem dX7_dipped_129 : decode cX7_dipped 129 = .ok (.iastore, 1) := by decide +kernel
theorem dX7_dipped_130 : decode cX7_dipped 130 = .ok (.aload_n 0, 1) := by decide +kernel
theorem dX7_dipped_131 : decode cX7_dipped 131 = .ok (.iload_n 1, 1) := by decide +kernel
theorem dX7_dipped_132 : decode cX7_dipped 132 = .ok (.bipush 24, 2) := by decide +kernel
theorem dX7_dipped_134 : decode cX7_dipped 134 = .ok (.iload_n 2, 1) := by decide +kernel
theorem dX7_dipped_135 : decode cX7_dipped 135 = .ok (.imul, 1) := by decide +kernel
theorem dX7_dipped_136 : decode cX7_dipped 136 = .ok (.iload 4, 2) := by decide +kernel
theorem dX7_dipped_138 : decode cX7_dipped 138 = .ok (.iadd, 1) := by decide +kernel
theorem dX7_dipped_139 : decode cX7_dipped 139 = .ok (.iload 5, 2) := by decide +kernel
theorem dX7_dipped_141 : decode cX7_dipped 141 = .ok (.invokevirtual 245, 3) := by decide +kernel
theorem dX7_dipped_144 : decode cX7_dipped 144 = .ok (.istore 13, 2) := by decide +kernel
theorem dX7_dipped_146 : decode cX7_dipped 146 = .ok (.iload 8, 2) := by decide +kernel
theorem dX7_dipped_148 : decode cX7_dipped 148 = .ok (.iload 13, 2) := by decide +kernel
theorem dX7_dipped_150 : decode cX7_dipped 150 = .ok (.ifCond .eq 15, 3) := by decide +kernel
theorem dX7_dipped_153 : decode cX7_dipped 153 = .ok (.iload 6, 2) := by decide +kernel
theorem dX7_dipped_155 : decode cX7_dipped 155 = .ok (.ifCond .ne 10, 3) := by decide +kernel
theorem dX7_dipped_158 : decode cX7_dipped 158 = .ok (.iconst 1, 1) := by decide +kernel
theorem dX7_dipped_159 : decode cX7_dipped 159 = .ok (.iload 12, 2) := by decide +kernel
theorem dX7_dipped_161 : decode cX7_dipped 161 = .ok (.ishl, 1) := by decide +kernel
theorem dX7_dipped_162 : decode cX7_dipped 162 = .ok (.goto 4, 3) := by decide +kernel
theorem dX7_dipped_165 : decode cX7_dipped 165 = .ok (.iconst 0, 1) := by decide +kernel
theorem dX7_dipped_166 : decode cX7_dipped 166 = .ok (.ior, 1) := by decide +kernel
theorem dX7_dipped_167 : decode cX7_dipped 167 = .ok (.istore 8, 2) := by decide +kernel
theorem dX7_dipped_169 : decode cX7_dipped 169 = .ok (.iload 13, 2) := by decide +kernel
theorem dX7_dipped_171 : decode cX7_dipped 171 = .ok (.ifCond .eq 13, 3) := by decide +kernel
theorem dX7_dipped_174 : decode cX7_dipped 174 = .ok (.iload 9, 2) := by decide +kernel
theorem dX7_dipped_176 : decode cX7_dipped 176 = .ok (.ifCond .ne 8, 3) := by decide +kernel
theorem dX7_dipped_179 : decode cX7_dipped 179 = .ok (.iload 12, 2) := by decide +kernel
theorem dX7_dipped_181 : decode cX7_dipped 181 = .ok (.goto 5, 3) := by decide +kernel
theorem dX7_dipped_184 : decode cX7_dipped 184 = .ok (.iload 10, 2) := by decide +kernel
theorem dX7_dipped_186 : decode cX7_dipped 186 = .ok (.istore 10, 2) := by decide +kernel
theorem dX7_dipped_188 : decode cX7_dipped 188 = .ok (.iload 9, 2) := by decide +kernel
theorem dX7_dipped_190 : decode cX7_dipped 190 = .ok (.iload 13, 2) := by decide +kernel
theorem dX7_dipped_192 : decode cX7_dipped 192 = .ok (.ifCond .eq 7, 3) := by decide +kernel
theorem dX7_dipped_195 : decode cX7_dipped 195 = .ok (.iconst 1, 1) := by decide +kernel
theorem dX7_dipped_196 : decode cX7_dipped 196 = .ok (.goto 4, 3) := by decide +kernel
theorem dX7_dipped_199 : decode cX7_dipped 199 = .ok (.iconst 0, 1) := by decide +kernel
theorem dX7_dipped_200 : decode cX7_dipped 200 = .ok (.iadd, 1) := by decide +kernel
theorem dX7_dipped_201 : decode cX7_dipped 201 = .ok (.istore 9, 2) := by decide +kernel
theorem dX7_dipped_203 : decode cX7_dipped 203 = .ok (.iinc 12 1, 3) := by decide +kernel
theorem dX7_dipped_206 : decode cX7_dipped 206 = .ok (.goto (-101), 3) := by decide +kernel
theorem dX7_dipped_209 : decode cX7_dipped 209 = .ok (.iload 6, 2) := by decide +kernel
theorem dX7_dipped_211 : decode cX7_dipped 211 = .ok (.ifCond .ne 8, 3) := by decide +kernel
theorem dX7_dipped_214 : decode cX7_dipped 214 = .ok (.iload 8, 2) := by decide +kernel
theorem dX7_dipped_216 : decode cX7_dipped 216 = .ok (.goto 16, 3) := by decide +kernel
theorem dX7_dipped_219 : decode cX7_dipped 219 = .ok (.iload 6, 2) := by decide +kernel
theorem dX7_dipped_221 : decode cX7_dipped 221 = .ok (.iconst 1, 1) := by decide +kernel
theorem dX7_dipped_222 : decode cX7_dipped 222 = .ok (.if_icmp .ne 8, 3) := by decide +kernel
theorem dX7_dipped_225 : decode cX7_dipped 225 = .ok (.iload 9, 2) := by decide +kernel
theorem dX7_dipped_227 : decode cX7_dipped 227 = .ok (.goto 5, 3) := by decide +kernel
theorem dX7_dipped_230 : decode cX7_dipped 230 = .ok (.iload 10, 2) := by decide +kernel
theorem dX7_dipped_232 : decode cX7_dipped 232 = .ok (.ireturn, 1) := by decide +kernel
theorem dX7_film_0 : decode cX7_film 0 = .ok (.aload_n 0, 1) := by decide +kernel
theorem dX7_film_1 : decode cX7_film 1 = .ok (.iload_n 1, 1) := by decide +kernel
theorem dX7_film_2 : decode cX7_film 2 = .ok (.invokevirtual 74, 3) := by decide +kernel
theorem dX7_film_5 : decode cX7_film 5 = .ok (.ifCond .eq 30, 3) := by decide +kernel
theorem dX7_film_8 : decode cX7_film 8 = .ok (.iload_n 2, 1) := by decide +kernel
theorem dX7_film_9 : decode cX7_film 9 = .ok (.i2l, 1) := by decide +kernel
theorem dX7_film_10 : decode cX7_film 10 = .ok (.lconst 1, 1) := by decide +kernel
theorem dX7_film_11 : decode cX7_film 11 = .ok (.ldc2_w 249, 3) := by decide +kernel
theorem dX7_film_14 : decode cX7_film 14 = .ok (.invokestatic 59, 3) := by decide +kernel
theorem dX7_film_17 : decode cX7_film 17 = .ok (.ifCond .eq 18, 3) := by decide +kernel
theorem dX7_film_20 : decode cX7_film 20 = .ok (.iload_n 3, 1) := by decide +kernel
theorem dX7_film_21 : decode cX7_film 21 = .ok (.invokestatic 232, 3) := by decide +kernel
theorem dX7_film_24 : decode cX7_film 24 = .ok (.ifCond .eq 11, 3) := by decide +kernel
theorem dX7_film_27 : decode cX7_film 27 = .ok (.iload 4, 2) := by decide +kernel
theorem dX7_film_29 : decode cX7_film 29 = .ok (.invokestatic 235, 3) := by decide +kernel
theorem dX7_film_32 : decode cX7_film 32 = .ok (.ifCond .ne 5, 3) := by decide +kernel
theorem dX7_film_35 : decode cX7_film 35 = .ok (.iconst (-1), 1) := by decide +kernel
theorem dX7_film_36 : decode cX7_film 36 = .ok (.ireturn, 1) := by decide +kernel
theorem dX7_film_37 : decode cX7_film 37 = .ok (.aload_n 0, 1) := by decide +kernel
theorem dX7_film_38 : decode cX7_film 38 = .ok (.iload_n 3, 1) := by decide +kernel
theorem dX7_film_39 : decode cX7_film 39 = .ok (.iload 4, 2) := by decide +kernel
theorem dX7_film_41 : decode cX7_film 41 = .ok (.iload 5, 2) := by decide +kernel
theorem dX7_film_43 : decode cX7_film 43 = .ok (.iload_n 2, 1) := by decide +kernel
theorem dX7_film_44 : decode cX7_film 44 = .ok (.invokevirtual 242, 3) := by decide +kernel
theorem dX7_film_47 : decode cX7_film 47 = .ok (.istore 6, 2) := by decide +kernel
theorem dX7_film_49 : decode cX7_film 49 = .ok (.iload 6, 2) := by decide +kernel
theorem dX7_film_51 : decode cX7_film 51 = .ok (.ifCond .ge 6, 3) := by decide +kernel
theorem dX7_film_54 : decode cX7_film 54 = .ok (.iload 6, 2) := by decide +kernel
theorem dX7_film_56 : decode cX7_film 56 = .ok (.ireturn, 1) := by decide +kernel
theorem dX7_film_57 : decode cX7_film 57 = .ok (.aload_n 0, 1) := by decide +kernel
theorem dX7_film_58 : decode cX7_film 58 = .ok (.invokevirtual 204, 3) := by decide +kernel
theorem dX7_film_61 : decode cX7_film 61 = .ok (.iconst 0, 1) := by decide +kernel
theorem dX7_film_62 : decode cX7_film 62 = .ok (.istore 7, 2) := by decide +kernel
theorem dX7_film_64 : decode cX7_film 64 = .ok (.iload 7, 2) := by decide +kernel
theorem dX7_film_66 : decode cX7_film 66 = .ok (.iload_n 2, 1) := by decide +kernel
theorem dX7_film_67 : decode cX7_film 67 = .ok (.if_icmp .ge 34, 3) := by decide +kernel
theorem dX7_film_70 : decode cX7_film 70 = .ok (.aload_n 0, 1) := by decide +kernel
theorem dX7_film_71 : decode cX7_film 71 = .ok (.invokevirtual 106, 3) := by decide +kernel
theorem dX7_film_74 : decode cX7_film 74 = .ok (.aload_n 0, 1) := by decide +kernel
theorem dX7_film_75 : decode cX7_film 75 = .ok (.getfield 52, 3) := by decide +kernel
theorem dX7_film_78 : decode cX7_film 78 = .ok (.bipush 24, 2) := by decide +kernel
theorem dX7_film_80 : decode cX7_film 80 = .ok (.iload_n 3, 1) := by decide +kernel
theorem dX7_film_81 : decode cX7_film 81 = .ok (.imul, 1) := by decide +kernel
theorem dX7_film_82 : decode cX7_film 82 = .ok (.iload 5, 2) := by decide +kernel
theorem dX7_film_84 : decode cX7_film 84 = .ok (.iadd, 1) := by decide +kernel
theorem dX7_film_85 : decode cX7_film 85 = .ok (.iload 7, 2) := by decide +kernel
theorem dX7_film_87 : decode cX7_film 87 = .ok (.iadd, 1) := by decide +kernel
theorem dX7_film_88 : decode cX7_film 88 = .ok (.aload_n 0, 1) := by decide +kernel
theorem dX7_film_89 : decode cX7_film 89 = .ok (.iload_n 1, 1) := by decide +kernel
theorem dX7_film_90 : decode cX7_film 90 = .ok (.invokevirtual 78, 3) := by decide +kernel
theorem dX7_film_93 : decode cX7_film 93 = .ok (.i2l, 1) := by decide +kernel
theorem dX7_film_94 : decode cX7_film 94 = .ok (.lastore, 1) := by decide +kernel
theorem dX7_film_95 : decode cX7_film 95 = .ok (.iinc 7 1, 3) := by decide +kernel
theorem dX7_film_98 : decode cX7_film 98 = .ok (.goto (-34), 3) := by decide +kernel
theorem dX7_film_101 : decode cX7_film 101 = .ok (.aload_n 0, 1) := by decide +kernel
theorem dX7_film_102 : decode cX7_film 102 = .ok (.invokevirtual 210, 3) := by decide +kernel
theorem dX7_film_105 : decode cX7_film 105 = .ok (.iload_n 2, 1) := by decide +kernel
theorem dX7_film_106 : decode cX7_film 106 = .ok (.ireturn, 1) := by decide +kernel
theorem dX7_sheet_0 : decode cX7_sheet 0 = .ok (.iload_n 1, 1) := by decide +kernel
theorem dX7_sheet_1 : decode cX7_sheet 1 = .ok (.invokestatic 232, 3) := by decide +kernel
theorem dX7_sheet_4 : decode cX7_sheet 4 = .ok (.ifCond .eq 16, 3) := by decide +kernel
theorem dX7_sheet_7 : decode cX7_sheet 7 = .ok (.iload_n 2, 1) := by decide +kernel
theorem dX7_sheet_8 : decode cX7_sheet 8 = .ok (.invokestatic 235, 3) := by decide +kernel
theorem dX7_sheet_11 : decode cX7_sheet 11 = .ok (.ifCond .eq 9, 3) := by decide +kernel
theorem dX7_sheet_14 : decode cX7_sheet 14 = .ok (.iload_n 3, 1) := by decide +kernel
theorem dX7_sheet_15 : decode cX7_sheet 15 = .ok (.bipush 24, 2) := by decide +kernel
theorem dX7_sheet_17 : decode cX7_sheet 17 = .ok (.if_icmp .le 5, 3) := by decide +kernel
theorem dX7_sheet_20 : decode cX7_sheet 20 = .ok (.iconst (-1), 1) := by decide +kernel
theorem dX7_sheet_21 : decode cX7_sheet 21 = .ok (.ireturn, 1) := by decide +kernel
theorem dX7_sheet_22 : decode cX7_sheet 22 = .ok (.iload_n 3, 1) := by decide +kernel
theorem dX7_sheet_23 : decode cX7_sheet 23 = .ok (.ifCond .ge 6, 3) := by decide +kernel
theorem dX7_sheet_26 : decode cX7_sheet 26 = .ok (.bipush (-14), 2) := by decide +kernel
theorem dX7_sheet_28 : decode cX7_sheet 28 = .ok (.ireturn, 1) := by decide +kernel
theorem dX7_sheet_29 : decode cX7_sheet 29 = .ok (.aload_n 0, 1) := by decide +kernel
theorem dX7_sheet_30 : decode cX7_sheet 30 = .ok (.getfield 46, 3) := by decide +kernel
theorem dX7_sheet_33 : decode cX7_sheet 33 = .ok (.iload_n 1, 1) := by decide +kernel
theorem dX7_sheet_34 : decode cX7_sheet 34 = .ok (.iload_n 2, 1) := by decide +kernel
theorem dX7_sheet_35 : decode cX7_sheet 35 = .ok (.iastore, 1) := by decide +kernel
theorem dX7_sheet_36 : decode cX7_sheet 36 = .ok (.aload_n 0, 1) := by decide +kernel
theorem dX7_sheet_37 : decode cX7_sheet 37 = .ok (.getfield 49, 3) := by decide +kernel
theorem dX7_sheet_40 : decode cX7_sheet 40 = .ok (.iload_n 1, 1) := by decide +kernel
theorem dX7_sheet_41 : decode cX7_sheet 41 = .ok (.iload_n 3, 1) := by decide +kernel
theorem dX7_sheet_42 : decode cX7_sheet 42 = .ok (.iastore, 1) := by decide +kernel
theorem dX7_sheet_43 : decode cX7_sheet 43 = .ok (.iconst 0, 1) := by decide +kernel
theorem dX7_sheet_44 : decode cX7_sheet 44 = .ok (.istore 4, 2) := by decide +kernel
theorem dX7_sheet_46 : decode cX7_sheet 46 = .ok (.iload 4, 2) := by decide +kernel
theorem dX7_sheet_48 : decode cX7_sheet 48 = .ok (.bipush 24, 2) := by decide +kernel
theorem dX7_sheet_50 : decode cX7_sheet 50 = .ok (.if_icmp .ge 22, 3) := by decide +kernel
theorem dX7_sheet_53 : decode cX7_sheet 53 = .ok (.aload_n 0, 1) := by decide +kernel
theorem dX7_sheet_54 : decode cX7_sheet 54 = .ok (.getfield 52, 3) := by decide +kernel
theorem dX7_sheet_57 : decode cX7_sheet 57 = .ok (.bipush 24, 2) := by decide +kernel
theorem dX7_sheet_59 : decode cX7_sheet 59 = .ok (.iload_n 1, 1) := by decide +kernel
theorem dX7_sheet_60 : decode cX7_sheet 60 = .ok (.imul, 1) := by decide +kernel
theorem dX7_sheet_61 : decode cX7_sheet 61 = .ok (.iload 4, 2) := by decide +kernel
theorem dX7_sheet_63 : decode cX7_sheet 63 = .ok (.iadd, 1) := by decide +kernel
theorem dX7_sheet_64 : decode cX7_sheet 64 = .ok (.lconst 0, 1) := by decide +kernel
theorem dX7_sheet_65 : decode cX7_sheet 65 = .ok (.lastore, 1) := by decide +kernel
theorem dX7_sheet_66 : decode cX7_sheet 66 = .ok (.iinc 4 1, 3) := by decide +kernel
theorem dX7_sheet_69 : decode cX7_sheet 69 = .ok (.goto (-23), 3) := by decide +kernel
theorem dX7_sheet_72 : decode cX7_sheet 72 = .ok (.iload_n 3, 1) := by decide +kernel
theorem dX7_sheet_73 : decode cX7_sheet 73 = .ok (.ireturn, 1) := by decide +kernel
theorem dX7_drop_0 : decode cX7_drop 0 = .ok (.iload_n 1, 1) := by decide +kernel
theorem dX7_drop_1 : decode cX7_drop 1 = .ok (.invokestatic 232, 3) := by decide +kernel
theorem dX7_drop_4 : decode cX7_drop 4 = .ok (.ifCond .ne 5, 3) := by decide +kernel
theorem dX7_drop_7 : decode cX7_drop 7 = .ok (.iconst (-1), 1) := by decide +kernel
theorem dX7_drop_8 : decode cX7_drop 8 = .ok (.ireturn, 1) := by decide +kernel
theorem dX7_drop_9 : decode cX7_drop 9 = .ok (.aload_n 0, 1) := by decide +kernel
theorem dX7_drop_10 : decode cX7_drop 10 = .ok (.getfield 46, 3) := by decide +kernel
theorem dX7_drop_13 : decode cX7_drop 13 = .ok (.iload_n 1, 1) := by decide +kernel
theorem dX7_drop_14 : decode cX7_drop 14 = .ok (.iaload, 1) := by decide +kernel
theorem dX7_drop_15 : decode cX7_drop 15 = .ok (.ifCond .ge 6, 3) := by decide +kernel
theorem dX7_drop_18 : decode cX7_drop 18 = .ok (.bipush (-11), 2) := by decide +kernel
theorem dX7_drop_20 : decode cX7_drop 20 = .ok (.ireturn, 1) := by decide +kernel
theorem dX7_drop_21 : decode cX7_drop 21 = .ok (.aload_n 0, 1) := by decide +kernel
theorem dX7_drop_22 : decode cX7_drop 22 = .ok (.getfield 46, 3) := by decide +kernel
theorem dX7_drop_25 : decode cX7_drop 25 = .ok (.iload_n 1, 1) := by decide +kernel
theorem dX7_drop_26 : decode cX7_drop 26 = .ok (.iconst (-1), 1) := by decide +kernel
theorem dX7_drop_27 : decode cX7_drop 27 = .ok (.iastore, 1) := by decide +kernel
theorem dX7_drop_28 : decode cX7_drop 28 = .ok (.aload_n 0, 1) := by decide +kernel
theorem dX7_drop_29 : decode cX7_drop 29 = .ok (.getfield 49, 3) := by decide +kernel
theorem dX7_drop_32 : decode cX7_drop 32 = .ok (.iload_n 1, 1) := by decide +kernel
theorem dX7_drop_33 : decode cX7_drop 33 = .ok (.iaload, 1) := by decide +kernel
theorem dX7_drop_34 : decode cX7_drop 34 = .ok (.ireturn, 1) := by decide +kernel
theorem dX7_item_0 : decode cX7_item 0 = .ok (.iload_n 1, 1) := by decide +kernel
theorem dX7_item_1 : decode cX7_item 1 = .ok (.invokestatic 232, 3) := by decide +kernel
theorem dX7_item_4 : decode cX7_item 4 = .ok (.ifCond .eq 10, 3) := by decide +kernel
theorem dX7_item_7 : decode cX7_item 7 = .ok (.iload_n 2, 1) := by decide +kernel
theorem dX7_item_8 : decode cX7_item 8 = .ok (.invokestatic 235, 3) := by decide +kernel
theorem dX7_item_11 : decode cX7_item 11 = .ok (.ifCond .ne 5, 3) := by decide +kernel
theorem dX7_item_14 : decode cX7_item 14 = .ok (.iconst (-1), 1) := by decide +kernel
theorem dX7_item_15 : decode cX7_item 15 = .ok (.ireturn, 1) := by decide +kernel
theorem dX7_item_16 : decode cX7_item 16 = .ok (.aload_n 0, 1) := by decide +kernel
theorem dX7_item_17 : decode cX7_item 17 = .ok (.iload_n 1, 1) := by decide +kernel
theorem dX7_item_18 : decode cX7_item 18 = .ok (.iload_n 2, 1) := by decide +kernel
theorem dX7_item_19 : decode cX7_item 19 = .ok (.iload_n 3, 1) := by decide +kernel
theorem dX7_item_20 : decode cX7_item 20 = .ok (.iconst 1, 1) := by decide +kernel
theorem dX7_item_21 : decode cX7_item 21 = .ok (.invokevirtual 242, 3) := by decide +kernel
theorem dX7_item_24 : decode cX7_item 24 = .ok (.istore 6, 2) := by decide +kernel
theorem dX7_item_26 : decode cX7_item 26 = .ok (.iload 6, 2) := by decide +kernel
theorem dX7_item_28 : decode cX7_item 28 = .ok (.ifCond .ge 6, 3) := by decide +kernel
theorem dX7_item_31 : decode cX7_item 31 = .ok (.iload 6, 2) := by decide +kernel
theorem dX7_item_33 : decode cX7_item 33 = .ok (.ireturn, 1) := by decide +kernel
theorem dX7_item_34 : decode cX7_item 34 = .ok (.aload_n 0, 1) := by decide +kernel
theorem dX7_item_35 : decode cX7_item 35 = .ok (.getfield 52, 3) := by decide +kernel
theorem dX7_item_38 : decode cX7_item 38 = .ok (.bipush 24, 2) := by decide +kernel
theorem dX7_item_40 : decode cX7_item 40 = .ok (.iload_n 1, 1) := by decide +kernel
theorem dX7_item_41 : decode cX7_item 41 = .ok (.imul, 1) := by decide +kernel
theorem dX7_item_42 : decode cX7_item 42 = .ok (.iload_n 3, 1) := by decide +kernel
theorem dX7_item_43 : decode cX7_item 43 = .ok (.iadd, 1) := by decide +kernel
theorem dX7_item_44 : decode cX7_item 44 = .ok (.iload_n 2, 1) := by decide +kernel
theorem dX7_item_45 : decode cX7_item 45 = .ok (.ifCond .ne 11, 3) := by decide +kernel
theorem dX7_item_48 : decode cX7_item 48 = .ok (.lload 4, 2) := by decide +kernel
theorem dX7_item_50 : decode cX7_item 50 = .ok (.l2i, 1) := by decide +kernel
theorem dX7_item_51 : decode cX7_item 51 = .ok (.i2b, 1) := by decide +kernel
theorem dX7_item_52 : decode cX7_item 52 = .ok (.i2l, 1) := by decide +kernel
theorem dX7_item_53 : decode cX7_item 53 = .ok (.goto 30, 3) := by decide +kernel
theorem dX7_item_56 : decode cX7_item 56 = .ok (.iload_n 2, 1) := by decide +kernel
theorem dX7_item_57 : decode cX7_item 57 = .ok (.iconst 1, 1) := by decide +kernel
theorem dX7_item_58 : decode cX7_item 58 = .ok (.if_icmp .ne 11, 3) := by decide +kernel
theorem dX7_item_61 : decode cX7_item 61 = .ok (.lload 4, 2) := by decide +kernel
theorem dX7_item_63 : decode cX7_item 63 = .ok (.l2i, 1) := by decide +kernel
theorem dX7_item_64 : decode cX7_item 64 = .ok (.i2s, 1) := by decide +kernel
theorem dX7_item_65 : decode cX7_item 65 = .ok (.i2l, 1) := by decide +kernel
theorem dX7_item_66 : decode cX7_item 66 = .ok (.goto 17, 3) := by decide +kernel
theorem dX7_item_69 : decode cX7_item 69 = .ok (.iload_n 2, 1) := by decide +kernel
theorem dX7_item_70 : decode cX7_item 70 = .ok (.iconst 2, 1) := by decide +kernel
theorem dX7_item_71 : decode cX7_item 71 = .ok (.if_icmp .ne 10, 3) := by decide +kernel
theorem dX7_item_74 : decode cX7_item 74 = .ok (.lload 4, 2) := by decide +kernel
theorem dX7_item_76 : decode cX7_item 76 = .ok (.l2i, 1) := by decide +kernel
theorem dX7_item_77 : decode cX7_item 77 = .ok (.i2l, 1) := by decide +kernel
theorem dX7_item_78 : decode cX7_item 78 = .ok (.goto 5, 3) := by decide +kernel
theorem dX7_item_81 : decode cX7_item 81 = .ok (.lload 4, 2) := by decide +kernel
theorem dX7_item_83 : decode cX7_item 83 = .ok (.lastore, 1) := by decide +kernel
theorem dX7_item_84 : decode cX7_item 84 = .ok (.iconst 1, 1) := by decide +kernel
theorem dX7_item_85 : decode cX7_item 85 = .ok (.ireturn, 1) := by decide +kernel
theorem dX7_copy_0 : decode cX7_copy 0 = .ok (.iload_n 1, 1) := by decide +kernel
theorem dX7_copy_1 : decode cX7_copy 1 = .ok (.invokestatic 232, 3) := by decide +kernel
theorem dX7_copy_4 : decode cX7_copy 4 = .ok (.ifCond .eq 10, 3) := by decide +kernel
theorem dX7_copy_7 : decode cX7_copy 7 = .ok (.iload_n 3, 1) := by decide +kernel
theorem dX7_copy_8 : decode cX7_copy 8 = .ok (.invokestatic 232, 3) := by decide +kernel
theorem dX7_copy_11 : decode cX7_copy 11 = .ok (.ifCond .ne 5, 3) := by decide +kernel
theorem dX7_copy_14 : decode cX7_copy 14 = .ok (.iconst (-1), 1) := by decide +kernel
theorem dX7_copy_15 : decode cX7_copy 15 = .ok (.ireturn, 1) := by decide +kernel
theorem dX7_copy_16 : decode cX7_copy 16 = .ok (.aload_n 0, 1) := by decide +kernel
theorem dX7_copy_17 : decode cX7_copy 17 = .ok (.getfield 46, 3) := by decide +kernel
theorem dX7_copy_20 : decode cX7_copy 20 = .ok (.iload_n 1, 1) := by decide +kernel
theorem dX7_copy_21 : decode cX7_copy 21 = .ok (.iaload, 1) := by decide +kernel
theorem dX7_copy_22 : decode cX7_copy 22 = .ok (.ifCond .lt 12, 3) := by decide +kernel
theorem dX7_copy_25 : decode cX7_copy 25 = .ok (.aload_n 0, 1) := by decide +kernel
theorem dX7_copy_26 : decode cX7_copy 26 = .ok (.getfield 46, 3) := by decide +kernel
theorem dX7_copy_29 : decode cX7_copy 29 = .ok (.iload_n 3, 1) := by decide +kernel
theorem dX7_copy_30 : decode cX7_copy 30 = .ok (.iaload, 1) := by decide +kernel
theorem dX7_copy_31 : decode cX7_copy 31 = .ok (.ifCond .ge 6, 3) := by decide +kernel
theorem dX7_copy_34 : decode cX7_copy 34 = .ok (.bipush (-11), 2) := by decide +kernel
theorem dX7_copy_36 : decode cX7_copy 36 = .ok (.ireturn, 1) := by decide +kernel
theorem dX7_copy_37 : decode cX7_copy 37 = .ok (.aload_n 0, 1) := by decide +kernel
theorem dX7_copy_38 : decode cX7_copy 38 = .ok (.iload_n 3, 1) := by decide +kernel
theorem dX7_copy_39 : decode cX7_copy 39 = .ok (.aload_n 0, 1) := by decide +kernel
theorem dX7_copy_40 : decode cX7_copy 40 = .ok (.getfield 46, 3) := by decide +kernel
theorem dX7_copy_43 : decode cX7_copy 43 = .ok (.iload_n 1, 1) := by decide +kernel
theorem dX7_copy_44 : decode cX7_copy 44 = .ok (.iaload, 1) := by decide +kernel
theorem dX7_copy_45 : decode cX7_copy 45 = .ok (.iload 4, 2) := by decide +kernel
theorem dX7_copy_47 : decode cX7_copy 47 = .ok (.iload 5, 2) := by decide +kernel
theorem dX7_copy_49 : decode cX7_copy 49 = .ok (.invokevirtual 242, 3) := by decide +kernel
theorem dX7_copy_52 : decode cX7_copy 52 = .ok (.istore 6, 2) := by decide +kernel
theorem dX7_copy_54 : decode cX7_copy 54 = .ok (.iload 6, 2) := by decide +kernel
theorem dX7_copy_56 : decode cX7_copy 56 = .ok (.ifCond .ne 20, 3) := by decide +kernel
theorem dX7_copy_59 : decode cX7_copy 59 = .ok (.aload_n 0, 1) := by decide +kernel
theorem dX7_copy_60 : decode cX7_copy 60 = .ok (.iload_n 1, 1) := by decide +kernel
theorem dX7_copy_61 : decode cX7_copy 61 = .ok (.aload_n 0, 1) := by decide +kernel
theorem dX7_copy_62 : decode cX7_copy 62 = .ok (.getfield 46, 3) := by decide +kernel
theorem dX7_copy_65 : decode cX7_copy 65 = .ok (.iload_n 1, 1) := by decide +kernel
theorem dX7_copy_66 : decode cX7_copy 66 = .ok (.iaload, 1) := by decide +kernel
theorem dX7_copy_67 : decode cX7_copy 67 = .ok (.iload_n 2, 1) := by decide +kernel
theorem dX7_copy_68 : decode cX7_copy 68 = .ok (.iload 5, 2) := by decide +kernel
theorem dX7_copy_70 : decode cX7_copy 70 = .ok (.invokevirtual 242, 3) := by decide +kernel
theorem dX7_copy_73 : decode cX7_copy 73 = .ok (.goto 5, 3) := by decide +kernel
theorem dX7_copy_76 : decode cX7_copy 76 = .ok (.iload 6, 2) := by decide +kernel
theorem dX7_copy_78 : decode cX7_copy 78 = .ok (.istore 6, 2) := by decide +kernel
theorem dX7_copy_80 : decode cX7_copy 80 = .ok (.iload 6, 2) := by decide +kernel
theorem dX7_copy_82 : decode cX7_copy 82 = .ok (.ifCond .ge 6, 3) := by decide +kernel
theorem dX7_copy_85 : decode cX7_copy 85 = .ok (.iload 6, 2) := by decide +kernel
theorem dX7_copy_87 : decode cX7_copy 87 = .ok (.ireturn, 1) := by decide +kernel
theorem dX7_copy_88 : decode cX7_copy 88 = .ok (.iconst 0, 1) := by decide +kernel
theorem dX7_copy_89 : decode cX7_copy 89 = .ok (.istore 7, 2) := by decide +kernel
theorem dX7_copy_91 : decode cX7_copy 91 = .ok (.iload 7, 2) := by decide +kernel
theorem dX7_copy_93 : decode cX7_copy 93 = .ok (.iload 5, 2) := by decide +kernel
theorem dX7_copy_95 : decode cX7_copy 95 = .ok (.if_icmp .ge 30, 3) := by decide +kernel
theorem dX7_copy_98 : decode cX7_copy 98 = .ok (.aload_n 0, 1) := by decide +kernel
theorem dX7_copy_99 : decode cX7_copy 99 = .ok (.getfield 56, 3) := by decide +kernel
theorem dX7_copy_102 : decode cX7_copy 102 = .ok (.iload 7, 2) := by decide +kernel
theorem dX7_copy_104 : decode cX7_copy 104 = .ok (.aload_n 0, 1) := by decide +kernel
theorem dX7_copy_105 : decode cX7_copy 105 = .ok (.getfield 52, 3) := by decide +kernel
theorem dX7_copy_108 : decode cX7_copy 108 = .ok (.bipush 24, 2) := by decide +kernel
theorem dX7_copy_110 : decode cX7_copy 110 = .ok (.iload_n 1, 1) := by decide +kernel
theorem dX7_copy_111 : decode cX7_copy 111 = .ok (.imul, 1) := by decide +kernel
theorem dX7_copy_112 : decode cX7_copy 112 = .ok (.iload_n 2, 1) := by decide +kernel
theorem dX7_copy_113 : decode cX7_copy 113 = .ok (.iadd, 1) := by decide +kernel
theorem dX7_copy_114 : decode cX7_copy 114 = .ok (.iload 7, 2) := by decide +kernel
theorem dX7_copy_116 : decode cX7_copy 116 = .ok (.iadd, 1) := by decide +kernel
theorem dX7_copy_117 : decode cX7_copy 117 = .ok (.laload, 1) := by decide +kernel
theorem dX7_copy_118 : decode cX7_copy 118 = .ok (.lastore, 1) := by decide +kernel
theorem dX7_copy_119 : decode cX7_copy 119 = .ok (.iinc 7 1, 3) := by decide +kernel
theorem dX7_copy_122 : decode cX7_copy 122 = .ok (.goto (-31), 3) := by decide +kernel
theorem dX7_copy_125 : decode cX7_copy 125 = .ok (.iconst 0, 1) := by decide +kernel
theorem dX7_copy_126 : decode cX7_copy 126 = .ok (.istore 7, 2) := by decide +kernel
theorem dX7_copy_128 : decode cX7_copy 128 = .ok (.iload 7, 2) := by decide +kernel
theorem dX7_copy_130 : decode cX7_copy 130 = .ok (.iload 5, 2) := by decide +kernel
theorem dX7_copy_132 : decode cX7_copy 132 = .ok (.if_icmp .ge 31, 3) := by decide +kernel
theorem dX7_copy_135 : decode cX7_copy 135 = .ok (.aload_n 0, 1) := by decide +kernel
theorem dX7_copy_136 : decode cX7_copy 136 = .ok (.getfield 52, 3) := by decide +kernel
theorem dX7_copy_139 : decode cX7_copy 139 = .ok (.bipush 24, 2) := by decide +kernel
theorem dX7_copy_141 : decode cX7_copy 141 = .ok (.iload_n 3, 1) := by decide +kernel
theorem dX7_copy_142 : decode cX7_copy 142 = .ok (.imul, 1) := by decide +kernel
theorem dX7_copy_143 : decode cX7_copy 143 = .ok (.iload 4, 2) := by decide +kernel
theorem dX7_copy_145 : decode cX7_copy 145 = .ok (.iadd, 1) := by decide +kernel
theorem dX7_copy_146 : decode cX7_copy 146 = .ok (.iload 7, 2) := by decide +kernel
theorem dX7_copy_148 : decode cX7_copy 148 = .ok (.iadd, 1) := by decide +kernel
theorem dX7_copy_149 : decode cX7_copy 149 = .ok (.aload_n 0, 1) := by decide +kernel
theorem dX7_copy_150 : decode cX7_copy 150 = .ok (.getfield 56, 3) := by decide +kernel
theorem dX7_copy_153 : decode cX7_copy 153 = .ok (.iload 7, 2) := by decide +kernel
theorem dX7_copy_155 : decode cX7_copy 155 = .ok (.laload, 1) := by decide +kernel
theorem dX7_copy_156 : decode cX7_copy 156 = .ok (.lastore, 1) := by decide +kernel
theorem dX7_copy_157 : decode cX7_copy 157 = .ok (.iinc 7 1, 3) := by decide +kernel
theorem dX7_copy_160 : decode cX7_copy 160 = .ok (.goto (-32), 3) := by decide +kernel
theorem dX7_copy_163 : decode cX7_copy 163 = .ok (.iload 5, 2) := by decide +kernel
theorem dX7_copy_165 : decode cX7_copy 165 = .ok (.ireturn, 1) := by decide +kernel
