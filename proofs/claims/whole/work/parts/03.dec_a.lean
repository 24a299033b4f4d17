theorem dX0_init_0 : decode cX0_init 0 = .ok (.aload_n 0, 1) := by decide +kernel
theorem dX0_init_1 : decode cX0_init 1 = .ok (.invokespecial 5, 3) := by decide +kernel
theorem dX0_init_4 : decode cX0_init 4 = .ok (.aload_n 0, 1) := by decide +kernel
theorem dX0_init_5 : decode cX0_init 5 = .ok (.sipush 168, 3) := by decide +kernel
theorem dX0_init_8 : decode cX0_init 8 = .ok (.newarray .int, 2) := by decide +kernel
theorem dX0_init_10 : decode cX0_init 10 = .ok (.putfield 11, 3) := by decide +kernel
theorem dX0_init_13 : decode cX0_init 13 = .ok (.aload_n 0, 1) := by decide +kernel
theorem dX0_init_14 : decode cX0_init 14 = .ok (.iconst 0, 1) := by decide +kernel
theorem dX0_init_15 : decode cX0_init 15 = .ok (.putfield 15, 3) := by decide +kernel
theorem dX0_init_18 : decode cX0_init 18 = .ok (.aload_n 0, 1) := by decide +kernel
theorem dX0_init_19 : decode cX0_init 19 = .ok (.iconst 0, 1) := by decide +kernel
theorem dX0_init_20 : decode cX0_init 20 = .ok (.putfield 19, 3) := by decide +kernel
theorem dX0_init_23 : decode cX0_init 23 = .ok (.return_, 1) := by decide +kernel
theorem dX0_remember_0 : decode cX0_remember 0 = .ok (.aload_n 0, 1) := by decide +kernel
theorem dX0_remember_1 : decode cX0_remember 1 = .ok (.getfield 15, 3) := by decide +kernel
theorem dX0_remember_4 : decode cX0_remember 4 = .ok (.bipush 21, 2) := by decide +kernel
theorem dX0_remember_6 : decode cX0_remember 6 = .ok (.imul, 1) := by decide +kernel
theorem dX0_remember_7 : decode cX0_remember 7 = .ok (.istore_n 2, 1) := by decide +kernel
theorem dX0_remember_8 : decode cX0_remember 8 = .ok (.aload_n 1, 1) := by decide +kernel
theorem dX0_remember_9 : decode cX0_remember 9 = .ok (.getfield 22, 3) := by decide +kernel
theorem dX0_remember_12 : decode cX0_remember 12 = .ok (.iconst 0, 1) := by decide +kernel
theorem dX0_remember_13 : decode cX0_remember 13 = .ok (.aload_n 0, 1) := by decide +kernel
theorem dX0_remember_14 : decode cX0_remember 14 = .ok (.getfield 11, 3) := by decide +kernel
theorem dX0_remember_17 : decode cX0_remember 17 = .ok (.iload_n 2, 1) := by decide +kernel
theorem dX0_remember_18 : decode cX0_remember 18 = .ok (.bipush 7, 2) := by decide +kernel
theorem dX0_remember_20 : decode cX0_remember 20 = .ok (.invokestatic 25, 3) := by decide +kernel
theorem dX0_remember_23 : decode cX0_remember 23 = .ok (.aload_n 1, 1) := by decide +kernel
theorem dX0_remember_24 : decode cX0_remember 24 = .ok (.getfield 31, 3) := by decide +kernel
theorem dX0_remember_27 : decode cX0_remember 27 = .ok (.iconst 0, 1) := by decide +kernel
theorem dX0_remember_28 : decode cX0_remember 28 = .ok (.aload_n 0, 1) := by decide +kernel
theorem dX0_remember_29 : decode cX0_remember 29 = .ok (.getfield 11, 3) := by decide +kernel
theorem dX0_remember_32 : decode cX0_remember 32 = .ok (.iload_n 2, 1) := by decide +kernel
theorem dX0_remember_33 : decode cX0_remember 33 = .ok (.bipush 7, 2) := by decide +kernel
theorem dX0_remember_35 : decode cX0_remember 35 = .ok (.iadd, 1) := by decide +kernel
theorem dX0_remember_36 : decode cX0_remember 36 = .ok (.bipush 6, 2) := by decide +kernel
theorem dX0_remember_38 : decode cX0_remember 38 = .ok (.invokestatic 25, 3) := by decide +kernel
theorem dX0_remember_41 : decode cX0_remember 41 = .ok (.aload_n 1, 1) := by decide +kernel
theorem dX0_remember_42 : decode cX0_remember 42 = .ok (.getfield 34, 3) := by decide +kernel
theorem dX0_remember_45 : decode cX0_remember 45 = .ok (.iconst 0, 1) := by decide +kernel
theorem dX0_remember_46 : decode cX0_remember 46 = .ok (.aload_n 0, 1) := by decide +kernel
theorem dX0_remember_47 : decode cX0_remember 47 = .ok (.getfield 11, 3) := by decide +kernel
theorem dX0_remember_50 : decode cX0_remember 50 = .ok (.iload_n 2, 1) := by decide +kernel
theorem dX0_remember_51 : decode cX0_remember 51 = .ok (.bipush 13, 2) := by decide +kernel
theorem dX0_remember_53 : decode cX0_remember 53 = .ok (.iadd, 1) := by decide +kernel
theorem dX0_remember_54 : decode cX0_remember 54 = .ok (.bipush 6, 2) := by decide +kernel
theorem dX0_remember_56 : decode cX0_remember 56 = .ok (.invokestatic 25, 3) := by decide +kernel
theorem dX0_remember_59 : decode cX0_remember 59 = .ok (.aload_n 0, 1) := by decide +kernel
theorem dX0_remember_60 : decode cX0_remember 60 = .ok (.getfield 11, 3) := by decide +kernel
theorem dX0_remember_63 : decode cX0_remember 63 = .ok (.iload_n 2, 1) := by decide +kernel
theorem dX0_remember_64 : decode cX0_remember 64 = .ok (.bipush 19, 2) := by decide +kernel
theorem dX0_remember_66 : decode cX0_remember 66 = .ok (.iadd, 1) := by decide +kernel
theorem dX0_remember_67 : decode cX0_remember 67 = .ok (.aload_n 1, 1) := by decide +kernel
theorem dX0_remember_68 : decode cX0_remember 68 = .ok (.getfield 37, 3) := by decide +kernel
theorem dX0_remember_71 : decode cX0_remember 71 = .ok (.iastore, 1) := by decide +kernel
theorem dX0_remember_72 : decode cX0_remember 72 = .ok (.aload_n 0, 1) := by decide +kernel
theorem dX0_remember_73 : decode cX0_remember 73 = .ok (.getfield 11, 3) := by decide +kernel
theorem dX0_remember_76 : decode cX0_remember 76 = .ok (.iload_n 2, 1) := by decide +kernel
theorem dX0_remember_77 : decode cX0_remember 77 = .ok (.bipush 20, 2) := by decide +kernel
theorem dX0_remember_79 : decode cX0_remember 79 = .ok (.iadd, 1) := by decide +kernel
theorem dX0_remember_80 : decode cX0_remember 80 = .ok (.aload_n 1, 1) := by decide +kernel
theorem dX0_remember_81 : decode cX0_remember 81 = .ok (.getfield 40, 3) := by decide +kernel
theorem dX0_remember_84 : decode cX0_remember 84 = .ok (.iastore, 1) := by decide +kernel
theorem dX0_remember_85 : decode cX0_remember 85 = .ok (.aload_n 0, 1) := by decide +kernel
theorem dX0_remember_86 : decode cX0_remember 86 = .ok (.aload_n 0, 1) := by decide +kernel
theorem dX0_remember_87 : decode cX0_remember 87 = .ok (.getfield 15, 3) := by decide +kernel
theorem dX0_remember_90 : decode cX0_remember 90 = .ok (.iconst 1, 1) := by decide +kernel
theorem dX0_remember_91 : decode cX0_remember 91 = .ok (.iadd, 1) := by decide +kernel
theorem dX0_remember_92 : decode cX0_remember 92 = .ok (.bipush 8, 2) := by decide +kernel
theorem dX0_remember_94 : decode cX0_remember 94 = .ok (.irem, 1) := by decide +kernel
theorem dX0_remember_95 : decode cX0_remember 95 = .ok (.putfield 15, 3) := by decide +kernel
theorem dX0_remember_98 : decode cX0_remember 98 = .ok (.aload_n 0, 1) := by decide +kernel
theorem dX0_remember_99 : decode cX0_remember 99 = .ok (.bipush 8, 2) := by decide +kernel
theorem dX0_remember_101 : decode cX0_remember 101 = .ok (.aload_n 0, 1) := by decide +kernel
theorem dX0_remember_102 : decode cX0_remember 102 = .ok (.getfield 19, 3) := by decide +kernel
theorem dX0_remember_105 : decode cX0_remember 105 = .ok (.iconst 1, 1) := by decide +kernel
theorem dX0_remember_106 : decode cX0_remember 106 = .ok (.iadd, 1) := by decide +kernel
theorem dX0_remember_107 : decode cX0_remember 107 = .ok (.invokestatic 43, 3) := by decide +kernel
theorem dX0_remember_110 : decode cX0_remember 110 = .ok (.putfield 19, 3) := by decide +kernel
theorem dX0_remember_113 : decode cX0_remember 113 = .ok (.return_, 1) := by decide +kernel
theorem dX0_recall_0 : decode cX0_recall 0 = .ok (.aload_n 0, 1) := by decide +kernel
theorem dX0_recall_1 : decode cX0_recall 1 = .ok (.getfield 19, 3) := by decide +kernel
theorem dX0_recall_4 : decode cX0_recall 4 = .ok (.ifCond .ne 5, 3) := by decide +kernel
theorem dX0_recall_7 : decode cX0_recall 7 = .ok (.iconst 0, 1) := by decide +kernel
theorem dX0_recall_8 : decode cX0_recall 8 = .ok (.ireturn, 1) := by decide +kernel
theorem dX0_recall_9 : decode cX0_recall 9 = .ok (.aload_n 0, 1) := by decide +kernel
theorem dX0_recall_10 : decode cX0_recall 10 = .ok (.dup, 1) := by decide +kernel
theorem dX0_recall_11 : decode cX0_recall 11 = .ok (.getfield 19, 3) := by decide +kernel
theorem dX0_recall_14 : decode cX0_recall 14 = .ok (.iconst 1, 1) := by decide +kernel
theorem dX0_recall_15 : decode cX0_recall 15 = .ok (.isub, 1) := by decide +kernel
theorem dX0_recall_16 : decode cX0_recall 16 = .ok (.putfield 19, 3) := by decide +kernel
theorem dX0_recall_19 : decode cX0_recall 19 = .ok (.aload_n 0, 1) := by decide +kernel
theorem dX0_recall_20 : decode cX0_recall 20 = .ok (.aload_n 0, 1) := by decide +kernel
theorem dX0_recall_21 : decode cX0_recall 21 = .ok (.getfield 15, 3) := by decide +kernel
theorem dX0_recall_24 : decode cX0_recall 24 = .ok (.bipush 8, 2) := by decide +kernel
theorem dX0_recall_26 : decode cX0_recall 26 = .ok (.iadd, 1) := by decide +kernel
theorem dX0_recall_27 : decode cX0_recall 27 = .ok (.iconst 1, 1) := by decide +kernel
theorem dX0_recall_28 : decode cX0_recall 28 = .ok (.isub, 1) := by decide +kernel
theorem dX0_recall_29 : decode cX0_recall 29 = .ok (.bipush 8, 2) := by decide +kernel
theorem dX0_recall_31 : decode cX0_recall 31 = .ok (.irem, 1) := by decide +kernel
theorem dX0_recall_32 : decode cX0_recall 32 = .ok (.putfield 15, 3) := by decide +kernel
theorem dX0_recall_35 : decode cX0_recall 35 = .ok (.aload_n 0, 1) := by decide +kernel
theorem dX0_recall_36 : decode cX0_recall 36 = .ok (.getfield 15, 3) := by decide +kernel
theorem dX0_recall_39 : decode cX0_recall 39 = .ok (.bipush 21, 2) := by decide +kernel
theorem dX0_recall_41 : decode cX0_recall 41 = .ok (.imul, 1) := by decide +kernel
theorem dX0_recall_42 : decode cX0_recall 42 = .ok (.istore_n 2, 1) := by decide +kernel
theorem dX0_recall_43 : decode cX0_recall 43 = .ok (.aload_n 0, 1) := by decide +kernel
theorem dX0_recall_44 : decode cX0_recall 44 = .ok (.getfield 11, 3) := by decide +kernel
theorem dX0_recall_47 : decode cX0_recall 47 = .ok (.iload_n 2, 1) := by decide +kernel
theorem dX0_recall_48 : decode cX0_recall 48 = .ok (.aload_n 1, 1) := by decide +kernel
theorem dX0_recall_49 : decode cX0_recall 49 = .ok (.getfield 22, 3) := by decide +kernel
theorem dX0_recall_52 : decode cX0_recall 52 = .ok (.iconst 0, 1) := by decide +kernel
theorem dX0_recall_53 : decode cX0_recall 53 = .ok (.bipush 7, 2) := by decide +kernel
theorem dX0_recall_55 : decode cX0_recall 55 = .ok (.invokestatic 25, 3) := by decide +kernel
theorem dX0_recall_58 : decode cX0_recall 58 = .ok (.aload_n 0, 1) := by decide +kernel
theorem dX0_recall_59 : decode cX0_recall 59 = .ok (.getfield 11, 3) := by decide +kernel
theorem dX0_recall_62 : decode cX0_recall 62 = .ok (.iload_n 2, 1) := by decide +kernel
theorem dX0_recall_63 : decode cX0_recall 63 = .ok (.bipush 7, 2) := by decide +kernel
theorem dX0_recall_65 : decode cX0_recall 65 = .ok (.iadd, 1) := by decide +kernel
theorem dX0_recall_66 : decode cX0_recall 66 = .ok (.aload_n 1, 1) := by decide +kernel
theorem dX0_recall_67 : decode cX0_recall 67 = .ok (.getfield 31, 3) := by decide +kernel
theorem dX0_recall_70 : decode cX0_recall 70 = .ok (.iconst 0, 1) := by decide +kernel
theorem dX0_recall_71 : decode cX0_recall 71 = .ok (.bipush 6, 2) := by decide +kernel
theorem dX0_recall_73 : decode cX0_recall 73 = .ok (.invokestatic 25, 3) := by decide +kernel
theorem dX0_recall_76 : decode cX0_recall 76 = .ok (.aload_n 0, 1) := by decide +kernel
theorem dX0_recall_77 : decode cX0_recall 77 = .ok (.getfield 11, 3) := by decide +kernel
theorem dX0_recall_80 : decode cX0_recall 80 = .ok (.iload_n 2, 1) := by decide +kernel
theorem dX0_recall_81 : decode cX0_recall 81 = .ok (.bipush 13, 2) := by decide +kernel
theorem dX0_recall_83 : decode cX0_recall 83 = .ok (.iadd, 1) := by decide +kernel
theorem dX0_recall_84 : decode cX0_recall 84 = .ok (.aload_n 1, 1) := by decide +kernel
theorem dX0_recall_85 : decode cX0_recall 85 = .ok (.getfield 34, 3) := by decide +kernel
theorem dX0_recall_88 : decode cX0_recall 88 = .ok (.iconst 0, 1) := by decide +kernel
theorem dX0_recall_89 : decode cX0_recall 89 = .ok (.bipush 6, 2) := by decide +kernel
theorem dX0_recall_91 : decode cX0_recall 91 = .ok (.invokestatic 25, 3) := by decide +kernel
theorem dX0_recall_94 : decode cX0_recall 94 = .ok (.aload_n 1, 1) := by decide +kernel
theorem dX0_recall_95 : decode cX0_recall 95 = .ok (.aload_n 0, 1) := by decide +kernel
theorem dX0_recall_96 : decode cX0_recall 96 = .ok (.getfield 11, 3) := by decide +kernel
theorem dX0_recall_99 : decode cX0_recall 99 = .ok (.iload_n 2, 1) := by decide +kernel
theorem dX0_recall_100 : decode cX0_recall 100 = .ok (.bipush 19, 2) := by decide +kernel
theorem dX0_recall_102 : decode cX0_recall 102 = .ok (.iadd, 1) := by decide +kernel
theorem dX0_recall_103 : decode cX0_recall 103 = .ok (.iaload, 1) := by decide +kernel
theorem dX0_recall_104 : decode cX0_recall 104 = .ok (.putfield 37, 3) := by decide +kernel
theorem dX0_recall_107 : decode cX0_recall 107 = .ok (.aload_n 1, 1) := by decide +kernel
theorem dX0_recall_108 : decode cX0_recall 108 = .ok (.aload_n 0, 1) := by decide +kernel
theorem dX0_recall_109 : decode cX0_recall 109 = .ok (.getfield 11, 3) := by decide +kernel
theorem dX0_recall_112 : decode cX0_recall 112 = .ok (.iload_n 2, 1) := by decide +kernel
theorem dX0_recall_113 : decode cX0_recall 113 = .ok (.bipush 20, 2) := by decide +kernel
theorem dX0_recall_115 : decode cX0_recall 115 = .ok (.iadd, 1) := by decide +kernel
theorem dX0_recall_116 : decode cX0_recall 116 = .ok (.iaload, 1) := by decide +kernel
theorem dX0_recall_117 : decode cX0_recall 117 = .ok (.putfield 40, 3) := by decide +kernel
theorem dX0_recall_120 : decode cX0_recall 120 = .ok (.iconst 1, 1) := by decide +kernel
theorem dX0_recall_121 : decode cX0_recall 121 = .ok (.ireturn, 1) := by decide +kernel
theorem dX0_forget_0 : decode cX0_forget 0 = .ok (.aload_n 0, 1) := by decide +kernel
theorem dX0_forget_1 : decode cX0_forget 1 = .ok (.iconst 0, 1) := by decide +kernel
theorem dX0_forget_2 : decode cX0_forget 2 = .ok (.putfield 19, 3) := by decide +kernel
theorem dX0_forget_5 : decode cX0_forget 5 = .ok (.return_, 1) := by decide +kernel
theorem dX0_copyFrom_0 : decode cX0_copyFrom 0 = .ok (.aload_n 1, 1) := by decide +kernel
theorem dX0_copyFrom_1 : decode cX0_copyFrom 1 = .ok (.getfield 11, 3) := by decide +kernel
theorem dX0_copyFrom_4 : decode cX0_copyFrom 4 = .ok (.iconst 0, 1) := by decide +kernel
theorem dX0_copyFrom_5 : decode cX0_copyFrom 5 = .ok (.aload_n 0, 1) := by decide +kernel
theorem dX0_copyFrom_6 : decode cX0_copyFrom 6 = .ok (.getfield 11, 3) := by decide +kernel
theorem dX0_copyFrom_9 : decode cX0_copyFrom 9 = .ok (.iconst 0, 1) := by decide +kernel
theorem dX0_copyFrom_10 : decode cX0_copyFrom 10 = .ok (.sipush 168, 3) := by decide +kernel
theorem dX0_copyFrom_13 : decode cX0_copyFrom 13 = .ok (.invokestatic 25, 3) := by decide +kernel
theorem dX0_copyFrom_16 : decode cX0_copyFrom 16 = .ok (.aload_n 0, 1) := by decide +kernel
theorem dX0_copyFrom_17 : decode cX0_copyFrom 17 = .ok (.aload_n 1, 1) := by decide +kernel
theorem dX0_copyFrom_18 : decode cX0_copyFrom 18 = .ok (.getfield 15, 3) := by decide +kernel
theorem dX0_copyFrom_21 : decode cX0_copyFrom 21 = .ok (.putfield 15, 3) := by decide +kernel
theorem dX0_copyFrom_24 : decode cX0_copyFrom 24 = .ok (.aload_n 0, 1) := by decide +kernel
theorem dX0_copyFrom_25 : decode cX0_copyFrom 25 = .ok (.aload_n 1, 1) := by decide +kernel
theorem dX0_copyFrom_26 : decode cX0_copyFrom 26 = .ok (.getfield 19, 3) := by decide +kernel
theorem dX0_copyFrom_29 : decode cX0_copyFrom 29 = .ok (.putfield 19, 3) := by decide +kernel
theorem dX0_copyFrom_32 : decode cX0_copyFrom 32 = .ok (.return_, 1) := by decide +kernel
theorem dX1_init_0 : decode cX1_init 0 = .ok (.aload_n 0, 1) := by decide +kernel
theorem dX1_init_1 : decode cX1_init 1 = .ok (.invokespecial 3, 3) := by decide +kernel
theorem dX1_init_4 : decode cX1_init 4 = .ok (.aload_n 0, 1) := by decide +kernel
theorem dX1_init_5 : decode cX1_init 5 = .ok (.bipush 6, 2) := by decide +kernel
theorem dX1_init_7 : decode cX1_init 7 = .ok (.newarray .int, 2) := by decide +kernel
theorem dX1_init_9 : decode cX1_init 9 = .ok (.putfield 11, 3) := by decide +kernel
theorem dX1_init_12 : decode cX1_init 12 = .ok (.aload_n 0, 1) := by decide +kernel
theorem dX1_init_13 : decode cX1_init 13 = .ok (.bipush 7, 2) := by decide +kernel
theorem dX1_init_15 : decode cX1_init 15 = .ok (.newarray .int, 2) := by decide +kernel
theorem dX1_init_17 : decode cX1_init 17 = .ok (.putfield 17, 3) := by decide +kernel
theorem dX1_init_20 : decode cX1_init 20 = .ok (.aload_n 0, 1) := by decide +kernel
theorem dX1_init_21 : decode cX1_init 21 = .ok (.iconst 0, 1) := by decide +kernel
theorem dX1_init_22 : decode cX1_init 22 = .ok (.putfield 20, 3) := by decide +kernel
theorem dX1_init_25 : decode cX1_init 25 = .ok (.return_, 1) := by decide +kernel
theorem dX1_greatest_0 : decode cX1_greatest 0 = .ok (.iconst 0, 1) := by decide +kernel
theorem dX1_greatest_1 : decode cX1_greatest 1 = .ok (.istore_n 2, 1) := by decide +kernel
theorem dX1_greatest_2 : decode cX1_greatest 2 = .ok (.iload_n 2, 1) := by decide +kernel
theorem dX1_greatest_3 : decode cX1_greatest 3 = .ok (.bipush 7, 2) := by decide +kernel
theorem dX1_greatest_5 : decode cX1_greatest 5 = .ok (.if_icmp .ge 17, 3) := by decide +kernel
theorem dX1_greatest_8 : decode cX1_greatest 8 = .ok (.aload_n 0, 1) := by decide +kernel
theorem dX1_greatest_9 : decode cX1_greatest 9 = .ok (.getfield 17, 3) := by decide +kernel
theorem dX1_greatest_12 : decode cX1_greatest 12 = .ok (.iload_n 2, 1) := by decide +kernel
theorem dX1_greatest_13 : decode cX1_greatest 13 = .ok (.bipush (-4), 2) := by decide +kernel
theorem dX1_greatest_15 : decode cX1_greatest 15 = .ok (.iastore, 1) := by decide +kernel
theorem dX1_greatest_16 : decode cX1_greatest 16 = .ok (.iinc 2 1, 3) := by decide +kernel
theorem dX1_greatest_19 : decode cX1_greatest 19 = .ok (.goto (-17), 3) := by decide +kernel
theorem dX1_greatest_22 : decode cX1_greatest 22 = .ok (.iconst 0, 1) := by decide +kernel
theorem dX1_greatest_23 : decode cX1_greatest 23 = .ok (.istore_n 2, 1) := by decide +kernel
theorem dX1_greatest_24 : decode cX1_greatest 24 = .ok (.iconst 0, 1) := by decide +kernel
theorem dX1_greatest_25 : decode cX1_greatest 25 = .ok (.istore_n 3, 1) := by decide +kernel
theorem dX1_greatest_26 : decode cX1_greatest 26 = .ok (.iload_n 3, 1) := by decide +kernel
theorem dX1_greatest_27 : decode cX1_greatest 27 = .ok (.aload_n 1, 1) := by decide +kernel
theorem dX1_greatest_28 : decode cX1_greatest 28 = .ok (.getfield 24, 3) := by decide +kernel
theorem dX1_greatest_31 : decode cX1_greatest 31 = .ok (.if_icmp .ge 45, 3) := by decide +kernel
theorem dX1_greatest_34 : decode cX1_greatest 34 = .ok (.aload_n 0, 1) := by decide +kernel
theorem dX1_greatest_35 : decode cX1_greatest 35 = .ok (.getfield 11, 3) := by decide +kernel
theorem dX1_greatest_38 : decode cX1_greatest 38 = .ok (.iload_n 3, 1) := by decide +kernel
theorem dX1_greatest_39 : decode cX1_greatest 39 = .ok (.aload_n 1, 1) := by decide +kernel
theorem dX1_greatest_40 : decode cX1_greatest 40 = .ok (.iload_n 3, 1) := by decide +kernel
theorem dX1_greatest_41 : decode cX1_greatest 41 = .ok (.invokevirtual 27, 3) := by decide +kernel
theorem dX1_greatest_44 : decode cX1_greatest 44 = .ok (.iastore, 1) := by decide +kernel
theorem dX1_greatest_45 : decode cX1_greatest 45 = .ok (.aload_n 0, 1) := by decide +kernel
theorem dX1_greatest_46 : decode cX1_greatest 46 = .ok (.iconst 0, 1) := by decide +kernel
theorem dX1_greatest_47 : decode cX1_greatest 47 = .ok (.putfield 20, 3) := by decide +kernel
theorem dX1_greatest_50 : decode cX1_greatest 50 = .ok (.aload_n 1, 1) := by decide +kernel
theorem dX1_greatest_51 : decode cX1_greatest 51 = .ok (.iload_n 3, 1) := by decide +kernel
theorem dX1_greatest_52 : decode cX1_greatest 52 = .ok (.invokevirtual 31, 3) := by decide +kernel
theorem dX1_greatest_55 : decode cX1_greatest 55 = .ok (.ifCond .ne 15, 3) := by decide +kernel
theorem dX1_greatest_58 : decode cX1_greatest 58 = .ok (.aload_n 0, 1) := by decide +kernel
theorem dX1_greatest_59 : decode cX1_greatest 59 = .ok (.iload_n 3, 1) := by decide +kernel
theorem dX1_greatest_60 : decode cX1_greatest 60 = .ok (.iconst 0, 1) := by decide +kernel
theorem dX1_greatest_61 : decode cX1_greatest 61 = .ok (.invokevirtual 35, 3) := by decide +kernel
theorem dX1_greatest_64 : decode cX1_greatest 64 = .ok (.ifCond .eq 6, 3) := by decide +kernel
theorem dX1_greatest_67 : decode cX1_greatest 67 = .ok (.iinc 2 1, 3) := by decide +kernel
theorem dX1_greatest_70 : decode cX1_greatest 70 = .ok (.iinc 3 1, 3) := by decide +kernel
theorem dX1_greatest_73 : decode cX1_greatest 73 = .ok (.goto (-47), 3) := by decide +kernel
theorem dX1_greatest_76 : decode cX1_greatest 76 = .ok (.iload_n 2, 1) := by decide +kernel
theorem dX1_greatest_77 : decode cX1_greatest 77 = .ok (.ireturn, 1) := by decide +kernel
theorem dX1_findsOne_0 : decode cX1_findsOne 0 = .ok (.iload_n 2, 1) := by decide +kernel
theorem dX1_findsOne_1 : decode cX1_findsOne 1 = .ok (.bipush 7, 2) := by decide +kernel
theorem dX1_findsOne_3 : decode cX1_findsOne 3 = .ok (.if_icmp .le 5, 3) := by decide +kernel
theorem dX1_findsOne_6 : decode cX1_findsOne 6 = .ok (.iconst 0, 1) := by decide +kernel
theorem dX1_findsOne_7 : decode cX1_findsOne 7 = .ok (.ireturn, 1) := by decide +kernel
theorem dX1_findsOne_8 : decode cX1_findsOne 8 = .ok (.iconst 0, 1) := by decide +kernel
theorem dX1_findsOne_9 : decode cX1_findsOne 9 = .ok (.istore_n 3, 1) := by decide +kernel
theorem dX1_findsOne_10 : decode cX1_findsOne 10 = .ok (.iload_n 3, 1) := by decide +kernel
theorem dX1_findsOne_11 : decode cX1_findsOne 11 = .ok (.bipush 7, 2) := by decide +kernel
theorem dX1_findsOne_13 : decode cX1_findsOne 13 = .ok (.if_icmp .ge 81, 3) := by decide +kernel
theorem dX1_findsOne_16 : decode cX1_findsOne 16 = .ok (.iconst 1, 1) := by decide +kernel
theorem dX1_findsOne_17 : decode cX1_findsOne 17 = .ok (.iload_n 3, 1) := by decide +kernel
theorem dX1_findsOne_18 : decode cX1_findsOne 18 = .ok (.ishl, 1) := by decide +kernel
theorem dX1_findsOne_19 : decode cX1_findsOne 19 = .ok (.istore 4, 2) := by decide +kernel
theorem dX1_findsOne_21 : decode cX1_findsOne 21 = .ok (.aload_n 0, 1) := by decide +kernel
theorem dX1_findsOne_22 : decode cX1_findsOne 22 = .ok (.getfield 11, 3) := by decide +kernel
theorem dX1_findsOne_25 : decode cX1_findsOne 25 = .ok (.iload_n 1, 1) := by decide +kernel
theorem dX1_findsOne_26 : decode cX1_findsOne 26 = .ok (.iaload, 1) := by decide +kernel
theorem dX1_findsOne_27 : decode cX1_findsOne 27 = .ok (.aload_n 0, 1) := by decide +kernel
theorem dX1_findsOne_28 : decode cX1_findsOne 28 = .ok (.getfield 20, 3) := by decide +kernel
theorem dX1_findsOne_31 : decode cX1_findsOne 31 = .ok (.iconst (-1), 1) := by decide +kernel
theorem dX1_findsOne_32 : decode cX1_findsOne 32 = .ok (.ixor, 1) := by decide +kernel
theorem dX1_findsOne_33 : decode cX1_findsOne 33 = .ok (.iand, 1) := by decide +kernel
theorem dX1_findsOne_34 : decode cX1_findsOne 34 = .ok (.iload 4, 2) := by decide +kernel
theorem dX1_findsOne_36 : decode cX1_findsOne 36 = .ok (.iand, 1) := by decide +kernel
theorem dX1_findsOne_37 : decode cX1_findsOne 37 = .ok (.ifCond .ne 6, 3) := by decide +kernel
theorem dX1_findsOne_40 : decode cX1_findsOne 40 = .ok (.goto 48, 3) := by decide +kernel
theorem dX1_findsOne_43 : decode cX1_findsOne 43 = .ok (.aload_n 0, 1) := by decide +kernel
theorem dX1_findsOne_44 : decode cX1_findsOne 44 = .ok (.dup, 1) := by decide +kernel
theorem dX1_findsOne_45 : decode cX1_findsOne 45 = .ok (.getfield 20, 3) := by decide +kernel
theorem dX1_findsOne_48 : decode cX1_findsOne 48 = .ok (.iload 4, 2) := by decide +kernel
theorem dX1_findsOne_50 : decode cX1_findsOne 50 = .ok (.ior, 1) := by decide +kernel
theorem dX1_findsOne_51 : decode cX1_findsOne 51 = .ok (.putfield 20, 3) := by decide +kernel
theorem dX1_findsOne_54 : decode cX1_findsOne 54 = .ok (.aload_n 0, 1) := by decide +kernel
theorem dX1_findsOne_55 : decode cX1_findsOne 55 = .ok (.getfield 17, 3) := by decide +kernel
theorem dX1_findsOne_58 : decode cX1_findsOne 58 = .ok (.iload_n 3, 1) := by decide +kernel
theorem dX1_findsOne_59 : decode cX1_findsOne 59 = .ok (.iaload, 1) := by decide +kernel
theorem dX1_findsOne_60 : decode cX1_findsOne 60 = .ok (.ifCond .lt 19, 3) := by decide +kernel
theorem dX1_findsOne_63 : decode cX1_findsOne 63 = .ok (.aload_n 0, 1) := by decide +kernel
theorem dX1_findsOne_64 : decode cX1_findsOne 64 = .ok (.aload_n 0, 1) := by decide +kernel
theorem dX1_findsOne_65 : decode cX1_findsOne 65 = .ok (.getfield 17, 3) := by decide +kernel
theorem dX1_findsOne_68 : decode cX1_findsOne 68 = .ok (.iload_n 3, 1) := by decide +kernel
theorem dX1_findsOne_69 : decode cX1_findsOne 69 = .ok (.iaload, 1) := by decide +kernel
theorem dX1_findsOne_70 : decode cX1_findsOne 70 = .ok (.iload_n 2, 1) := by decide +kernel
theorem dX1_findsOne_71 : decode cX1_findsOne 71 = .ok (.iconst 1, 1) := by decide +kernel
theorem dX1_findsOne_72 : decode cX1_findsOne 72 = .ok (.iadd, 1) := by decide +kernel
theorem dX1_findsOne_73 : decode cX1_findsOne 73 = .ok (.invokevirtual 35, 3) := by decide +kernel
theorem dX1_findsOne_76 : decode cX1_findsOne 76 = .ok (.ifCond .eq 12, 3) := by decide +kernel
theorem dX1_findsOne_79 : decode cX1_findsOne 79 = .ok (.aload_n 0, 1) := by decide +kernel
theorem dX1_findsOne_80 : decode cX1_findsOne 80 = .ok (.getfield 17, 3) := by decide +kernel
theorem dX1_findsOne_83 : decode cX1_findsOne 83 = .ok (.iload_n 3, 1) := by decide +kernel
theorem dX1_findsOne_84 : decode cX1_findsOne 84 = .ok (.iload_n 1, 1) := by decide +kernel
theorem dX1_findsOne_85 : decode cX1_findsOne 85 = .ok (.iastore, 1) := by decide +kernel
theorem dX1_findsOne_86 : decode cX1_findsOne 86 = .ok (.iconst 1, 1) := by decide +kernel
theorem dX1_findsOne_87 : decode cX1_findsOne 87 = .ok (.ireturn, 1) := by decide +kernel
theorem dX1_findsOne_88 : decode cX1_findsOne 88 = .ok (.iinc 3 1, 3) := by decide +kernel
theorem dX1_findsOne_91 : decode cX1_findsOne 91 = .ok (.goto (-81), 3) := by decide +kernel
theorem dX1_findsOne_94 : decode cX1_findsOne 94 = .ok (.iconst 0, 1) := by decide +kernel
theorem dX1_findsOne_95 : decode cX1_findsOne 95 = .ok (.ireturn, 1) := by decide +kernel
theorem dX2_init_0 : decode cX2_init 0 = .ok (.aload_n 0, 1) := by decide +kernel
theorem dX2_init_1 : decode cX2_init 1 = .ok (.invokespecial 3, 3) := by decide +kernel
theorem dX2_init_4 : decode cX2_init 4 = .ok (.aload_n 0, 1) := by decide +kernel
theorem dX2_init_5 : decode cX2_init 5 = .ok (.bipush 42, 2) := by decide +kernel
theorem dX2_init_7 : decode cX2_init 7 = .ok (.newarray .int, 2) := by decide +kernel
theorem dX2_init_9 : decode cX2_init 9 = .ok (.putfield 11, 3) := by decide +kernel
theorem dX2_init_12 : decode cX2_init 12 = .ok (.aload_n 0, 1) := by decide +kernel
theorem dX2_init_13 : decode cX2_init 13 = .ok (.bipush 6, 2) := by decide +kernel
theorem dX2_init_15 : decode cX2_init 15 = .ok (.newarray .int, 2) := by decide +kernel
theorem dX2_init_17 : decode cX2_init 17 = .ok (.putfield 17, 3) := by decide +kernel
theorem dX2_init_20 : decode cX2_init 20 = .ok (.aload_n 0, 1) := by decide +kernel
theorem dX2_init_21 : decode cX2_init 21 = .ok (.bipush 6, 2) := by decide +kernel
theorem dX2_init_23 : decode cX2_init 23 = .ok (.newarray .int, 2) := by decide +kernel
theorem dX2_init_25 : decode cX2_init 25 = .ok (.putfield 20, 3) := by decide +kernel
theorem dX2_init_28 : decode cX2_init 28 = .ok (.aload_n 0, 1) := by decide +kernel
theorem dX2_init_29 : decode cX2_init 29 = .ok (.iconst 0, 1) := by decide +kernel
theorem dX2_init_30 : decode cX2_init 30 = .ok (.putfield 23, 3) := by decide +kernel
theorem dX2_init_33 : decode cX2_init 33 = .ok (.aload_n 0, 1) := by decide +kernel
theorem dX2_init_34 : decode cX2_init 34 = .ok (.iconst 0, 1) := by decide +kernel
theorem dX2_init_35 : decode cX2_init 35 = .ok (.putfield 27, 3) := by decide +kernel
theorem dX2_init_38 : decode cX2_init 38 = .ok (.aload_n 0, 1) := by decide +kernel
theorem dX2_init_39 : decode cX2_init 39 = .ok (.iconst 0, 1) := by decide +kernel
theorem dX2_init_40 : decode cX2_init 40 = .ok (.putfield 30, 3) := by decide +kernel
theorem dX2_init_43 : decode cX2_init 43 = .ok (.return_, 1) := by decide +kernel
theorem dX2_search_0 : decode cX2_search 0 = .ok (.aload_n 1, 1) := by decide +kernel
theorem dX2_search_1 : decode cX2_search 1 = .ok (.invokevirtual 33, 3) := by decide +kernel
theorem dX2_search_4 : decode cX2_search 4 = .ok (.istore_n 3, 1) := by decide +kernel
theorem dX2_search_5 : decode cX2_search 5 = .ok (.iconst 1, 1) := by decide +kernel
theorem dX2_search_6 : decode cX2_search 6 = .ok (.aload_n 1, 1) := by decide +kernel
theorem dX2_search_7 : decode cX2_search 7 = .ok (.getfield 37, 3) := by decide +kernel
theorem dX2_search_10 : decode cX2_search 10 = .ok (.ishl, 1) := by decide +kernel
theorem dX2_search_11 : decode cX2_search 11 = .ok (.iconst 1, 1) := by decide +kernel
theorem dX2_search_12 : decode cX2_search 12 = .ok (.isub, 1) := by decide +kernel
theorem dX2_search_13 : decode cX2_search 13 = .ok (.iload_n 3, 1) := by decide +kernel
theorem dX2_search_14 : decode cX2_search 14 = .ok (.iconst (-1), 1) := by decide +kernel
theorem dX2_search_15 : decode cX2_search 15 = .ok (.ixor, 1) := by decide +kernel
theorem dX2_search_16 : decode cX2_search 16 = .ok (.iand, 1) := by decide +kernel
theorem dX2_search_17 : decode cX2_search 17 = .ok (.istore 4, 2) := by decide +kernel
theorem dX2_search_19 : decode cX2_search 19 = .ok (.aload_n 0, 1) := by decide +kernel
theorem dX2_search_20 : decode cX2_search 20 = .ok (.iload 4, 2) := by decide +kernel
theorem dX2_search_22 : decode cX2_search 22 = .ok (.invokestatic 40, 3) := by decide +kernel
theorem dX2_search_25 : decode cX2_search 25 = .ok (.putfield 23, 3) := by decide +kernel
theorem dX2_search_28 : decode cX2_search 28 = .ok (.aload_n 0, 1) := by decide +kernel
theorem dX2_search_29 : decode cX2_search 29 = .ok (.iload_n 2, 1) := by decide +kernel
theorem dX2_search_30 : decode cX2_search 30 = .ok (.putfield 27, 3) := by decide +kernel
theorem dX2_search_33 : decode cX2_search 33 = .ok (.aload_n 0, 1) := by decide +kernel
theorem dX2_search_34 : decode cX2_search 34 = .ok (.iconst (-1), 1) := by decide +kernel
theorem dX2_search_35 : decode cX2_search 35 = .ok (.putfield 30, 3) := by decide +kernel
theorem dX2_search_38 : decode cX2_search 38 = .ok (.iconst 0, 1) := by decide +kernel
theorem dX2_search_39 : decode cX2_search 39 = .ok (.istore 5, 2) := by decide +kernel
theorem dX2_search_41 : decode cX2_search 41 = .ok (.iload 5, 2) := by decide +kernel
theorem dX2_search_43 : decode cX2_search 43 = .ok (.aload_n 0, 1) := by decide +kernel
theorem dX2_search_44 : decode cX2_search 44 = .ok (.getfield 23, 3) := by decide +kernel
theorem dX2_search_47 : decode cX2_search 47 = .ok (.if_icmp .ge 32, 3) := by decide +kernel
theorem dX2_search_50 : decode cX2_search 50 = .ok (.aload_n 1, 1) := by decide +kernel
theorem dX2_search_51 : decode cX2_search 51 = .ok (.getfield 46, 3) := by decide +kernel
theorem dX2_search_54 : decode cX2_search 54 = .ok (.iconst 0, 1) := by decide +kernel
theorem dX2_search_55 : decode cX2_search 55 = .ok (.aload_n 0, 1) := by decide +kernel
theorem dX2_search_56 : decode cX2_search 56 = .ok (.getfield 11, 3) := by decide +kernel
theorem dX2_search_59 : decode cX2_search 59 = .ok (.iload 5, 2) := by decide +kernel
theorem dX2_search_61 : decode cX2_search 61 = .ok (.bipush 7, 2) := by decide +kernel
theorem dX2_search_63 : decode cX2_search 63 = .ok (.imul, 1) := by decide +kernel
theorem dX2_search_64 : decode cX2_search 64 = .ok (.bipush 7, 2) := by decide +kernel
theorem dX2_search_66 : decode cX2_search 66 = .ok (.invokestatic 49, 3) := by decide +kernel
theorem dX2_search_69 : decode cX2_search 69 = .ok (.aload_n 1, 1) := by decide +kernel
theorem dX2_search_70 : decode cX2_search 70 = .ok (.invokevirtual 55, 3) := by decide +kernel
theorem dX2_search_73 : decode cX2_search 73 = .ok (.iinc 5 1, 3) := by decide +kernel
theorem dX2_search_76 : decode cX2_search 76 = .ok (.goto (-35), 3) := by decide +kernel
theorem dX2_search_79 : decode cX2_search 79 = .ok (.aload_n 0, 1) := by decide +kernel
theorem dX2_search_80 : decode cX2_search 80 = .ok (.aload_n 1, 1) := by decide +kernel
theorem dX2_search_81 : decode cX2_search 81 = .ok (.iconst 0, 1) := by decide +kernel
theorem dX2_search_82 : decode cX2_search 82 = .ok (.iload 4, 2) := by decide +kernel
theorem dX2_search_84 : decode cX2_search 84 = .ok (.aload_n 1, 1) := by decide +kernel
theorem dX2_search_85 : decode cX2_search 85 = .ok (.invokevirtual 58, 3) := by decide +kernel
theorem dX2_search_88 : decode cX2_search 88 = .ok (.iload_n 3, 1) := by decide +kernel
theorem dX2_search_89 : decode cX2_search 89 = .ok (.invokestatic 40, 3) := by decide +kernel
theorem dX2_search_92 : decode cX2_search 92 = .ok (.invokevirtual 61, 3) := by decide +kernel
theorem dX2_search_95 : decode cX2_search 95 = .ok (.return_, 1) := by decide +kernel
theorem dX2_nth_0 : decode cX2_nth 0 = .ok (.iload_n 1, 1) := by decide +kernel
theorem dX2_nth_1 : decode cX2_nth 1 = .ok (.ifCond .lt 20, 3) := by decide +kernel
theorem dX2_nth_4 : decode cX2_nth 4 = .ok (.iload_n 1, 1) := by decide +kernel
theorem dX2_nth_5 : decode cX2_nth 5 = .ok (.aload_n 0, 1) := by decide +kernel
theorem dX2_nth_6 : decode cX2_nth 6 = .ok (.getfield 23, 3) := by decide +kernel
theorem dX2_nth_9 : decode cX2_nth 9 = .ok (.if_icmp .ge 12, 3) := by decide +kernel
theorem dX2_nth_12 : decode cX2_nth 12 = .ok (.aload_n 0, 1) := by decide +kernel
theorem dX2_nth_13 : decode cX2_nth 13 = .ok (.getfield 20, 3) := by decide +kernel
theorem dX2_nth_16 : decode cX2_nth 16 = .ok (.iload_n 1, 1) := by decide +kernel
theorem dX2_nth_17 : decode cX2_nth 17 = .ok (.iaload, 1) := by decide +kernel
theorem dX2_nth_18 : decode cX2_nth 18 = .ok (.goto 5, 3) := by decide +kernel
theorem dX2_nth_21 : decode cX2_nth 21 = .ok (.bipush (-4), 2) := by decide +kernel
theorem dX2_nth_23 : decode cX2_nth 23 = .ok (.ireturn, 1) := by decide +kernel
theorem dX2_choose_0 : decode cX2_choose 0 = .ok (.iload 5, 2) := by decide +kernel
theorem dX2_choose_2 : decode cX2_choose 2 = .ok (.aload_n 0, 1) := by decide +kernel
theorem dX2_choose_3 : decode cX2_choose 3 = .ok (.getfield 23, 3) := by decide +kernel
theorem dX2_choose_6 : decode cX2_choose 6 = .ok (.iadd, 1) := by decide +kernel
theorem dX2_choose_7 : decode cX2_choose 7 = .ok (.iload_n 2, 1) := by decide +kernel
theorem dX2_choose_8 : decode cX2_choose 8 = .ok (.isub, 1) := by decide +kernel
theorem dX2_choose_9 : decode cX2_choose 9 = .ok (.aload_n 0, 1) := by decide +kernel
theorem dX2_choose_10 : decode cX2_choose 10 = .ok (.getfield 30, 3) := by decide +kernel
theorem dX2_choose_13 : decode cX2_choose 13 = .ok (.if_icmp .gt 4, 3) := by decide +kernel
theorem dX2_choose_16 : decode cX2_choose 16 = .ok (.return_, 1) := by decide +kernel
theorem dX2_choose_17 : decode cX2_choose 17 = .ok (.iload_n 2, 1) := by decide +kernel
theorem dX2_choose_18 : decode cX2_choose 18 = .ok (.aload_n 0, 1) := by decide +kernel
theorem dX2_choose_19 : decode cX2_choose 19 = .ok (.getfield 23, 3) := by decide +kernel
theorem dX2_choose_22 : decode cX2_choose 22 = .ok (.if_icmp .lt 27, 3) := by decide +kernel
theorem dX2_choose_25 : decode cX2_choose 25 = .ok (.aload_n 0, 1) := by decide +kernel
theorem dX2_choose_26 : decode cX2_choose 26 = .ok (.iload 5, 2) := by decide +kernel
theorem dX2_choose_28 : decode cX2_choose 28 = .ok (.putfield 30, 3) := by decide +kernel
theorem dX2_choose_31 : decode cX2_choose 31 = .ok (.aload_n 0, 1) := by decide +kernel
theorem dX2_choose_32 : decode cX2_choose 32 = .ok (.getfield 17, 3) := by decide +kernel
theorem dX2_choose_35 : decode cX2_choose 35 = .ok (.iconst 0, 1) := by decide +kernel
theorem dX2_choose_36 : decode cX2_choose 36 = .ok (.aload_n 0, 1) := by decide +kernel
theorem dX2_choose_37 : decode cX2_choose 37 = .ok (.getfield 20, 3) := by decide +kernel
theorem dX2_choose_40 : decode cX2_choose 40 = .ok (.iconst 0, 1) := by decide +kernel
theorem dX2_choose_41 : decode cX2_choose 41 = .ok (.aload_n 0, 1) := by decide +kernel
theorem dX2_choose_42 : decode cX2_choose 42 = .ok (.getfield 23, 3) := by decide +kernel
theorem dX2_choose_45 : decode cX2_choose 45 = .ok (.invokestatic 49, 3) := by decide +kernel
theorem dX2_choose_48 : decode cX2_choose 48 = .ok (.return_, 1) := by decide +kernel
theorem dX2_choose_49 : decode cX2_choose 49 = .ok (.iconst 0, 1) := by decide +kernel
theorem dX2_choose_50 : decode cX2_choose 50 = .ok (.istore 6, 2) := by decide +kernel
theorem dX2_choose_52 : decode cX2_choose 52 = .ok (.iload 6, 2) := by decide +kernel
theorem dX2_choose_54 : decode cX2_choose 54 = .ok (.aload_n 1, 1) := by decide +kernel
theorem dX2_choose_55 : decode cX2_choose 55 = .ok (.getfield 37, 3) := by decide +kernel
theorem dX2_choose_58 : decode cX2_choose 58 = .ok (.if_icmp .ge 113, 3) := by decide +kernel
theorem dX2_choose_61 : decode cX2_choose 61 = .ok (.iload_n 3, 1) := by decide +kernel
theorem dX2_choose_62 : decode cX2_choose 62 = .ok (.iload 6, 2) := by decide +kernel
theorem dX2_choose_64 : decode cX2_choose 64 = .ok (.ishr, 1) := by decide +kernel
theorem dX2_choose_65 : decode cX2_choose 65 = .ok (.iconst 1, 1) := by decide +kernel
theorem dX2_choose_66 : decode cX2_choose 66 = .ok (.iand, 1) := by decide +kernel
theorem dX2_choose_67 : decode cX2_choose 67 = .ok (.ifCond .ne 6, 3) := by decide +kernel
theorem dX2_choose_70 : decode cX2_choose 70 = .ok (.goto 95, 3) := by decide +kernel
theorem dX2_choose_73 : decode cX2_choose 73 = .ok (.aload_n 0, 1) := by decide +kernel
theorem dX2_choose_74 : decode cX2_choose 74 = .ok (.getfield 17, 3) := by decide +kernel
theorem dX2_choose_77 : decode cX2_choose 77 = .ok (.iload_n 2, 1) := by decide +kernel
theorem dX2_choose_78 : decode cX2_choose 78 = .ok (.iload 6, 2) := by decide +kernel
theorem dX2_choose_80 : decode cX2_choose 80 = .ok (.iastore, 1) := by decide +kernel
theorem dX2_choose_81 : decode cX2_choose 81 = .ok (.iload_n 2, 1) := by decide +kernel
theorem dX2_choose_82 : decode cX2_choose 82 = .ok (.aload_n 0, 1) := by decide +kernel
theorem dX2_choose_83 : decode cX2_choose 83 = .ok (.getfield 27, 3) := by decide +kernel
theorem dX2_choose_86 : decode cX2_choose 86 = .ok (.if_icmp .ge 22, 3) := by decide +kernel
theorem dX2_choose_89 : decode cX2_choose 89 = .ok (.aload_n 1, 1) := by decide +kernel
theorem dX2_choose_90 : decode cX2_choose 90 = .ok (.iload 6, 2) := by decide +kernel
theorem dX2_choose_92 : decode cX2_choose 92 = .ok (.iload 4, 2) := by decide +kernel
theorem dX2_choose_94 : decode cX2_choose 94 = .ok (.aload_n 0, 1) := by decide +kernel
theorem dX2_choose_95 : decode cX2_choose 95 = .ok (.getfield 11, 3) := by decide +kernel
theorem dX2_choose_98 : decode cX2_choose 98 = .ok (.iload_n 2, 1) := by decide +kernel
theorem dX2_choose_99 : decode cX2_choose 99 = .ok (.bipush 7, 2) := by decide +kernel
theorem dX2_choose_101 : decode cX2_choose 101 = .ok (.imul, 1) := by decide +kernel
theorem dX2_choose_102 : decode cX2_choose 102 = .ok (.invokevirtual 65, 3) := by decide +kernel
theorem dX2_choose_105 : decode cX2_choose 105 = .ok (.goto 5, 3) := by decide +kernel
theorem dX2_choose_108 : decode cX2_choose 108 = .ok (.bipush (-4), 2) := by decide +kernel
theorem dX2_choose_110 : decode cX2_choose 110 = .ok (.istore 7, 2) := by decide +kernel
theorem dX2_choose_112 : decode cX2_choose 112 = .ok (.iload_n 3, 1) := by decide +kernel
theorem dX2_choose_113 : decode cX2_choose 113 = .ok (.iconst 1, 1) := by decide +kernel
theorem dX2_choose_114 : decode cX2_choose 114 = .ok (.iload 6, 2) := by decide +kernel
theorem dX2_choose_116 : decode cX2_choose 116 = .ok (.ishl, 1) := by decide +kernel
theorem dX2_choose_117 : decode cX2_choose 117 = .ok (.iconst (-1), 1) := by decide +kernel
theorem dX2_choose_118 : decode cX2_choose 118 = .ok (.ixor, 1) := by decide +kernel
theorem dX2_choose_119 : decode cX2_choose 119 = .ok (.iand, 1) := by decide +kernel
theorem dX2_choose_120 : decode cX2_choose 120 = .ok (.istore 8, 2) := by decide +kernel
theorem dX2_choose_122 : decode cX2_choose 122 = .ok (.iload 7, 2) := by decide +kernel
theorem dX2_choose_124 : decode cX2_choose 124 = .ok (.ifCond .ge 20, 3) := by decide +kernel
theorem dX2_choose_127 : decode cX2_choose 127 = .ok (.aload_n 0, 1) := by decide +kernel
theorem dX2_choose_128 : decode cX2_choose 128 = .ok (.aload_n 1, 1) := by decide +kernel
theorem dX2_choose_129 : decode cX2_choose 129 = .ok (.iload_n 2, 1) := by decide +kernel
theorem dX2_choose_130 : decode cX2_choose 130 = .ok (.iconst 1, 1) := by decide +kernel
theorem dX2_choose_131 : decode cX2_choose 131 = .ok (.iadd, 1) := by decide +kernel
theorem dX2_choose_132 : decode cX2_choose 132 = .ok (.iload 8, 2) := by decide +kernel
theorem dX2_choose_134 : decode cX2_choose 134 = .ok (.iload 4, 2) := by decide +kernel
theorem dX2_choose_136 : decode cX2_choose 136 = .ok (.iload 5, 2) := by decide +kernel
theorem dX2_choose_138 : decode cX2_choose 138 = .ok (.invokevirtual 61, 3) := by decide +kernel
theorem dX2_choose_141 : decode cX2_choose 141 = .ok (.goto 24, 3) := by decide +kernel
theorem dX2_choose_144 : decode cX2_choose 144 = .ok (.aload_n 0, 1) := by decide +kernel
theorem dX2_choose_145 : decode cX2_choose 145 = .ok (.aload_n 1, 1) := by decide +kernel
theorem dX2_choose_146 : decode cX2_choose 146 = .ok (.iload_n 2, 1) := by decide +kernel
theorem dX2_choose_147 : decode cX2_choose 147 = .ok (.iconst 1, 1) := by decide +kernel
theorem dX2_choose_148 : decode cX2_choose 148 = .ok (.iadd, 1) := by decide +kernel
theorem dX2_choose_149 : decode cX2_choose 149 = .ok (.iload 8, 2) := by decide +kernel
theorem dX2_choose_151 : decode cX2_choose 151 = .ok (.iload 4, 2) := by decide +kernel
theorem dX2_choose_153 : decode cX2_choose 153 = .ok (.iconst 1, 1) := by decide +kernel
theorem dX2_choose_154 : decode cX2_choose 154 = .ok (.iload 7, 2) := by decide +kernel
theorem dX2_choose_156 : decode cX2_choose 156 = .ok (.ishl, 1) := by decide +kernel
theorem dX2_choose_157 : decode cX2_choose 157 = .ok (.ior, 1) := by decide +kernel
theorem dX2_choose_158 : decode cX2_choose 158 = .ok (.iload 5, 2) := by decide +kernel
theorem dX2_choose_160 : decode cX2_choose 160 = .ok (.iconst 1, 1) := by decide +kernel
theorem dX2_choose_161 : decode cX2_choose 161 = .ok (.iadd, 1) := by decide +kernel
theorem dX2_choose_162 : decode cX2_choose 162 = .ok (.invokevirtual 61, 3) := by decide +kernel
theorem dX2_choose_165 : decode cX2_choose 165 = .ok (.iinc 6 1, 3) := by decide +kernel
theorem dX2_choose_168 : decode cX2_choose 168 = .ok (.goto (-116), 3) := by decide +kernel
theorem dX2_choose_171 : decode cX2_choose 171 = .ok (.return_, 1) := by decide +kernel
theorem dX3_init_0 : decode cX3_init 0 = .ok (.aload_n 0, 1) := by decide +kernel
theorem dX3_init_1 : decode cX3_init 1 = .ok (.invokespecial 3, 3) := by decide +kernel
theorem dX3_init_4 : decode cX3_init 4 = .ok (.aload_n 0, 1) := by decide +kernel
theorem dX3_init_5 : decode cX3_init 5 = .ok (.iconst 4, 1) := by decide +kernel
theorem dX3_init_6 : decode cX3_init 6 = .ok (.newarray .int, 2) := by decide +kernel
theorem dX3_init_8 : decode cX3_init 8 = .ok (.dup, 1) := by decide +kernel
theorem dX3_init_9 : decode cX3_init 9 = .ok (.iconst 0, 1) := by decide +kernel
theorem dX3_init_10 : decode cX3_init 10 = .ok (.iconst (-1), 1) := by decide +kernel
theorem dX3_init_11 : decode cX3_init 11 = .ok (.iastore, 1) := by decide +kernel
theorem dX3_init_12 : decode cX3_init 12 = .ok (.dup, 1) := by decide +kernel
theorem dX3_init_13 : decode cX3_init 13 = .ok (.iconst 1, 1) := by decide +kernel
theorem dX3_init_14 : decode cX3_init 14 = .ok (.iconst (-1), 1) := by decide +kernel
theorem dX3_init_15 : decode cX3_init 15 = .ok (.iastore, 1) := by decide +kernel
theorem dX3_init_16 : decode cX3_init 16 = .ok (.dup, 1) := by decide +kernel
theorem dX3_init_17 : decode cX3_init 17 = .ok (.iconst 2, 1) := by decide +kernel
theorem dX3_init_18 : decode cX3_init 18 = .ok (.iconst (-1), 1) := by decide +kernel
theorem dX3_init_19 : decode cX3_init 19 = .ok (.iastore, 1) := by decide +kernel
theorem dX3_init_20 : decode cX3_init 20 = .ok (.dup, 1) := by decide +kernel
theorem dX3_init_21 : decode cX3_init 21 = .ok (.iconst 3, 1) := by decide +kernel
theorem dX3_init_22 : decode cX3_init 22 = .ok (.iconst (-1), 1) := by decide +kernel
theorem dX3_init_23 : decode cX3_init 23 = .ok (.iastore, 1) := by decide +kernel
theorem dX3_init_24 : decode cX3_init 24 = .ok (.putfield 11, 3) := by decide +kernel
theorem dX3_init_27 : decode cX3_init 27 = .ok (.aload_n 0, 1) := by decide +kernel
theorem dX3_init_28 : decode cX3_init 28 = .ok (.iconst 4, 1) := by decide +kernel
theorem dX3_init_29 : decode cX3_init 29 = .ok (.newarray .int, 2) := by decide +kernel
theorem dX3_init_31 : decode cX3_init 31 = .ok (.putfield 15, 3) := by decide +kernel
theorem dX3_init_34 : decode cX3_init 34 = .ok (.aload_n 0, 1) := by decide +kernel
theorem dX3_init_35 : decode cX3_init 35 = .ok (.bipush 96, 2) := by decide +kernel
theorem dX3_init_37 : decode cX3_init 37 = .ok (.newarray .long, 2) := by decide +kernel
theorem dX3_init_39 : decode cX3_init 39 = .ok (.putfield 18, 3) := by decide +kernel
theorem dX3_init_42 : decode cX3_init 42 = .ok (.return_, 1) := by decide +kernel
theorem dX3_isSheet_0 : decode cX3_isSheet 0 = .ok (.iload_n 0, 1) := by decide +kernel
theorem dX3_isSheet_1 : decode cX3_isSheet 1 = .ok (.ifCond .lt 12, 3) := by decide +kernel
theorem dX3_isSheet_4 : decode cX3_isSheet 4 = .ok (.iload_n 0, 1) := by decide +kernel
theorem dX3_isSheet_5 : decode cX3_isSheet 5 = .ok (.iconst 4, 1) := by decide +kernel
theorem dX3_isSheet_6 : decode cX3_isSheet 6 = .ok (.if_icmp .ge 7, 3) := by decide +kernel
theorem dX3_isSheet_9 : decode cX3_isSheet 9 = .ok (.iconst 1, 1) := by decide +kernel
theorem dX3_isSheet_10 : decode cX3_isSheet 10 = .ok (.goto 4, 3) := by decide +kernel
theorem dX3_isSheet_13 : decode cX3_isSheet 13 = .ok (.iconst 0, 1) := by decide +kernel
theorem dX3_isSheet_14 : decode cX3_isSheet 14 = .ok (.ireturn, 1) := by decide +kernel
theorem dX3_isLane_0 : decode cX3_isLane 0 = .ok (.iload_n 0, 1) := by decide +kernel
theorem dX3_isLane_1 : decode cX3_isLane 1 = .ok (.ifCond .lt 12, 3) := by decide +kernel
theorem dX3_isLane_4 : decode cX3_isLane 4 = .ok (.iload_n 0, 1) := by decide +kernel
theorem dX3_isLane_5 : decode cX3_isLane 5 = .ok (.iconst 4, 1) := by decide +kernel
theorem dX3_isLane_6 : decode cX3_isLane 6 = .ok (.if_icmp .ge 7, 3) := by decide +kernel
theorem dX3_isLane_9 : decode cX3_isLane 9 = .ok (.iconst 1, 1) := by decide +kernel
theorem dX3_isLane_10 : decode cX3_isLane 10 = .ok (.goto 4, 3) := by decide +kernel
theorem dX3_isLane_13 : decode cX3_isLane 13 = .ok (.iconst 0, 1) := by decide +kernel
theorem dX3_isLane_14 : decode cX3_isLane 14 = .ok (.ireturn, 1) := by decide +kernel
theorem dX3_isHeld_0 : decode cX3_isHeld 0 = .ok (.aload_n 0, 1) := by decide +kernel
theorem dX3_isHeld_1 : decode cX3_isHeld 1 = .ok (.getfield 11, 3) := by decide +kernel
theorem dX3_isHeld_4 : decode cX3_isHeld 4 = .ok (.iload_n 1, 1) := by decide +kernel
theorem dX3_isHeld_5 : decode cX3_isHeld 5 = .ok (.iaload, 1) := by decide +kernel
theorem dX3_isHeld_6 : decode cX3_isHeld 6 = .ok (.iconst (-1), 1) := by decide +kernel
theorem dX3_isHeld_7 : decode cX3_isHeld 7 = .ok (.if_icmp .eq 7, 3) := by decide +kernel
theorem dX3_isHeld_10 : decode cX3_isHeld 10 = .ok (.iconst 1, 1) := by decide +kernel
theorem dX3_isHeld_11 : decode cX3_isHeld 11 = .ok (.goto 4, 3) := by decide +kernel
theorem dX3_isHeld_14 : decode cX3_isHeld 14 = .ok (.iconst 0, 1) := by decide +kernel
theorem dX3_isHeld_15 : decode cX3_isHeld 15 = .ok (.ireturn, 1) := by decide +kernel
theorem dX3_holds_0 : decode cX3_holds 0 = .ok (.iload_n 2, 1) := by decide +kernel
theorem dX3_holds_1 : decode cX3_holds 1 = .ok (.ifCond .lt 33, 3) := by decide +kernel
theorem dX3_holds_4 : decode cX3_holds 4 = .ok (.iload_n 3, 1) := by decide +kernel
theorem dX3_holds_5 : decode cX3_holds 5 = .ok (.ifCond .lt 29, 3) := by decide +kernel
theorem dX3_holds_8 : decode cX3_holds 8 = .ok (.iload_n 3, 1) := by decide +kernel
theorem dX3_holds_9 : decode cX3_holds 9 = .ok (.aload_n 0, 1) := by decide +kernel
theorem dX3_holds_10 : decode cX3_holds 10 = .ok (.getfield 15, 3) := by decide +kernel
theorem dX3_holds_13 : decode cX3_holds 13 = .ok (.iload_n 1, 1) := by decide +kernel
theorem dX3_holds_14 : decode cX3_holds 14 = .ok (.iaload, 1) := by decide +kernel
theorem dX3_holds_15 : decode cX3_holds 15 = .ok (.if_icmp .gt 19, 3) := by decide +kernel
theorem dX3_holds_18 : decode cX3_holds 18 = .ok (.iload_n 2, 1) := by decide +kernel
theorem dX3_holds_19 : decode cX3_holds 19 = .ok (.aload_n 0, 1) := by decide +kernel
theorem dX3_holds_20 : decode cX3_holds 20 = .ok (.getfield 15, 3) := by decide +kernel
theorem dX3_holds_23 : decode cX3_holds 23 = .ok (.iload_n 1, 1) := by decide +kernel
theorem dX3_holds_24 : decode cX3_holds 24 = .ok (.iaload, 1) := by decide +kernel
theorem dX3_holds_25 : decode cX3_holds 25 = .ok (.iload_n 3, 1) := by decide +kernel
theorem dX3_holds_26 : decode cX3_holds 26 = .ok (.isub, 1) := by decide +kernel
theorem dX3_holds_27 : decode cX3_holds 27 = .ok (.if_icmp .gt 7, 3) := by decide +kernel
theorem dX3_holds_30 : decode cX3_holds 30 = .ok (.iconst 1, 1) := by decide +kernel
theorem dX3_holds_31 : decode cX3_holds 31 = .ok (.goto 4, 3) := by decide +kernel
theorem dX3_holds_34 : decode cX3_holds 34 = .ok (.iconst 0, 1) := by decide +kernel
theorem dX3_holds_35 : decode cX3_holds 35 = .ok (.ireturn, 1) := by decide +kernel
theorem dX3_refusal_0 : decode cX3_refusal 0 = .ok (.aload_n 0, 1) := by decide +kernel
theorem dX3_refusal_1 : decode cX3_refusal 1 = .ok (.iload_n 1, 1) := by decide +kernel
theorem dX3_refusal_2 : decode cX3_refusal 2 = .ok (.invokevirtual 22, 3) := by decide +kernel
theorem dX3_refusal_5 : decode cX3_refusal 5 = .ok (.ifCond .ne 6, 3) := by decide +kernel
theorem dX3_refusal_8 : decode cX3_refusal 8 = .ok (.bipush (-11), 2) := by decide +kernel
theorem dX3_refusal_10 : decode cX3_refusal 10 = .ok (.ireturn, 1) := by decide +kernel
theorem dX3_refusal_11 : decode cX3_refusal 11 = .ok (.aload_n 0, 1) := by decide +kernel
theorem dX3_refusal_12 : decode cX3_refusal 12 = .ok (.getfield 11, 3) := by decide +kernel
theorem dX3_refusal_15 : decode cX3_refusal 15 = .ok (.iload_n 1, 1) := by decide +kernel
theorem dX3_refusal_16 : decode cX3_refusal 16 = .ok (.iaload, 1) := by decide +kernel
theorem dX3_refusal_17 : decode cX3_refusal 17 = .ok (.iload_n 2, 1) := by decide +kernel
theorem dX3_refusal_18 : decode cX3_refusal 18 = .ok (.if_icmp .eq 6, 3) := by decide +kernel
theorem dX3_refusal_21 : decode cX3_refusal 21 = .ok (.bipush (-12), 2) := by decide +kernel
theorem dX3_refusal_23 : decode cX3_refusal 23 = .ok (.ireturn, 1) := by decide +kernel
theorem dX3_refusal_24 : decode cX3_refusal 24 = .ok (.aload_n 0, 1) := by decide +kernel
theorem dX3_refusal_25 : decode cX3_refusal 25 = .ok (.iload_n 1, 1) := by decide +kernel
theorem dX3_refusal_26 : decode cX3_refusal 26 = .ok (.iload_n 3, 1) := by decide +kernel
theorem dX3_refusal_27 : decode cX3_refusal 27 = .ok (.iload 4, 2) := by decide +kernel
theorem dX3_refusal_29 : decode cX3_refusal 29 = .ok (.invokevirtual 26, 3) := by decide +kernel
theorem dX3_refusal_32 : decode cX3_refusal 32 = .ok (.ifCond .eq 7, 3) := by decide +kernel
theorem dX3_refusal_35 : decode cX3_refusal 35 = .ok (.iconst 0, 1) := by decide +kernel
theorem dX3_refusal_36 : decode cX3_refusal 36 = .ok (.goto 5, 3) := by decide +kernel
theorem dX3_refusal_39 : decode cX3_refusal 39 = .ok (.bipush (-13), 2) := by decide +kernel
theorem dX3_refusal_41 : decode cX3_refusal 41 = .ok (.ireturn, 1) := by decide +kernel
theorem dX3_renew_0 : decode cX3_renew 0 = .ok (.aload_n 0, 1) := by decide +kernel
theorem dX3_renew_1 : decode cX3_renew 1 = .ok (.getfield 11, 3) := by decide +kernel
theorem dX3_renew_4 : decode cX3_renew 4 = .ok (.iload_n 1, 1) := by decide +kernel
theorem dX3_renew_5 : decode cX3_renew 5 = .ok (.iload_n 2, 1) := by decide +kernel
theorem dX3_renew_6 : decode cX3_renew 6 = .ok (.iastore, 1) := by decide +kernel
theorem dX3_renew_7 : decode cX3_renew 7 = .ok (.aload_n 0, 1) := by decide +kernel
theorem dX3_renew_8 : decode cX3_renew 8 = .ok (.getfield 15, 3) := by decide +kernel
theorem dX3_renew_11 : decode cX3_renew 11 = .ok (.iload_n 1, 1) := by decide +kernel
theorem dX3_renew_12 : decode cX3_renew 12 = .ok (.iload_n 3, 1) := by decide +kernel
theorem dX3_renew_13 : decode cX3_renew 13 = .ok (.iastore, 1) := by decide +kernel
theorem dX3_renew_14 : decode cX3_renew 14 = .ok (.iconst 0, 1) := by decide +kernel
theorem dX3_renew_15 : decode cX3_renew 15 = .ok (.istore 4, 2) := by decide +kernel
theorem dX3_renew_17 : decode cX3_renew 17 = .ok (.iload 4, 2) := by decide +kernel
theorem dX3_renew_19 : decode cX3_renew 19 = .ok (.iload_n 3, 1) := by decide +kernel
theorem dX3_renew_20 : decode cX3_renew 20 = .ok (.if_icmp .ge 22, 3) := by decide +kernel
theorem dX3_renew_23 : decode cX3_renew 23 = .ok (.aload_n 0, 1) := by decide +kernel
theorem dX3_renew_24 : decode cX3_renew 24 = .ok (.getfield 18, 3) := by decide +kernel
theorem dX3_renew_27 : decode cX3_renew 27 = .ok (.iload_n 1, 1) := by decide +kernel
theorem dX3_renew_28 : decode cX3_renew 28 = .ok (.bipush 24, 2) := by decide +kernel
theorem dX3_renew_30 : decode cX3_renew 30 = .ok (.imul, 1) := by decide +kernel
theorem dX3_renew_31 : decode cX3_renew 31 = .ok (.iload 4, 2) := by decide +kernel
theorem dX3_renew_33 : decode cX3_renew 33 = .ok (.iadd, 1) := by decide +kernel
theorem dX3_renew_34 : decode cX3_renew 34 = .ok (.lconst 0, 1) := by decide +kernel
theorem dX3_renew_35 : decode cX3_renew 35 = .ok (.lastore, 1) := by decide +kernel
theorem dX3_renew_36 : decode cX3_renew 36 = .ok (.iinc 4 1, 3) := by decide +kernel
theorem dX3_renew_39 : decode cX3_renew 39 = .ok (.goto (-22), 3) := by decide +kernel
theorem dX3_renew_42 : decode cX3_renew 42 = .ok (.return_, 1) := by decide +kernel
theorem dX3_clear_0 : decode cX3_clear 0 = .ok (.aload_n 0, 1) := by decide +kernel
theorem dX3_clear_1 : decode cX3_clear 1 = .ok (.getfield 11, 3) := by decide +kernel
theorem dX3_clear_4 : decode cX3_clear 4 = .ok (.iload_n 1, 1) := by decide +kernel
theorem dX3_clear_5 : decode cX3_clear 5 = .ok (.iconst (-1), 1) := by decide +kernel
theorem dX3_clear_6 : decode cX3_clear 6 = .ok (.iastore, 1) := by decide +kernel
theorem dX3_clear_7 : decode cX3_clear 7 = .ok (.aload_n 0, 1) := by decide +kernel
theorem dX3_clear_8 : decode cX3_clear 8 = .ok (.getfield 15, 3) := by decide +kernel
theorem dX3_clear_11 : decode cX3_clear 11 = .ok (.iload_n 1, 1) := by decide +kernel
theorem dX3_clear_12 : decode cX3_clear 12 = .ok (.iaload, 1) := by decide +kernel
theorem dX3_clear_13 : decode cX3_clear 13 = .ok (.ireturn, 1) := by decide +kernel
theorem dX3_valueAt_0 : decode cX3_valueAt 0 = .ok (.aload_n 0, 1) := by decide +kernel
theorem dX3_valueAt_1 : decode cX3_valueAt 1 = .ok (.getfield 18, 3) := by decide +kernel
theorem dX3_valueAt_4 : decode cX3_valueAt 4 = .ok (.iload_n 1, 1) := by decide +kernel
theorem dX3_valueAt_5 : decode cX3_valueAt 5 = .ok (.bipush 24, 2) := by decide +kernel
theorem dX3_valueAt_7 : decode cX3_valueAt 7 = .ok (.imul, 1) := by decide +kernel
theorem dX3_valueAt_8 : decode cX3_valueAt 8 = .ok (.iload_n 2, 1) := by decide +kernel
theorem dX3_valueAt_9 : decode cX3_valueAt 9 = .ok (.iadd, 1) := by decide +kernel
theorem dX3_valueAt_10 : decode cX3_valueAt 10 = .ok (.laload, 1) := by decide +kernel
theorem dX3_valueAt_11 : decode cX3_valueAt 11 = .ok (.lreturn, 1) := by decide +kernel
theorem dX3_put_0 : decode cX3_put 0 = .ok (.aload_n 0, 1) := by decide +kernel
theorem dX3_put_1 : decode cX3_put 1 = .ok (.getfield 18, 3) := by decide +kernel
theorem dX3_put_4 : decode cX3_put 4 = .ok (.iload_n 1, 1) := by decide +kernel
theorem dX3_put_5 : decode cX3_put 5 = .ok (.bipush 24, 2) := by decide +kernel
theorem dX3_put_7 : decode cX3_put 7 = .ok (.imul, 1) := by decide +kernel
theorem dX3_put_8 : decode cX3_put 8 = .ok (.iload_n 2, 1) := by decide +kernel
theorem dX3_put_9 : decode cX3_put 9 = .ok (.iadd, 1) := by decide +kernel
theorem dX3_put_10 : decode cX3_put 10 = .ok (.aload_n 0, 1) := by decide +kernel
theorem dX3_put_11 : decode cX3_put 11 = .ok (.getfield 11, 3) := by decide +kernel
theorem dX3_put_14 : decode cX3_put 14 = .ok (.iload_n 1, 1) := by decide +kernel
theorem dX3_put_15 : decode cX3_put 15 = .ok (.iaload, 1) := by decide +kernel
theorem dX3_put_16 : decode cX3_put 16 = .ok (.lload_n 3, 1) := by decide +kernel
theorem dX3_put_17 : decode cX3_put 17 = .ok (.invokestatic 30, 3) := by decide +kernel
theorem dX3_put_20 : decode cX3_put 20 = .ok (.lastore, 1) := by decide +kernel
theorem dX3_put_21 : decode cX3_put 21 = .ok (.return_, 1) := by decide +kernel
theorem dX3_move_0 : decode cX3_move 0 = .ok (.aload_n 0, 1) := by decide +kernel
theorem dX3_move_1 : decode cX3_move 1 = .ok (.getfield 18, 3) := by decide +kernel
theorem dX3_move_4 : decode cX3_move 4 = .ok (.iload_n 1, 1) := by decide +kernel
theorem dX3_move_5 : decode cX3_move 5 = .ok (.bipush 24, 2) := by decide +kernel
theorem dX3_move_7 : decode cX3_move 7 = .ok (.imul, 1) := by decide +kernel
theorem dX3_move_8 : decode cX3_move 8 = .ok (.iload_n 2, 1) := by decide +kernel
theorem dX3_move_9 : decode cX3_move 9 = .ok (.iadd, 1) := by decide +kernel
theorem dX3_move_10 : decode cX3_move 10 = .ok (.aload_n 0, 1) := by decide +kernel
theorem dX3_move_11 : decode cX3_move 11 = .ok (.getfield 18, 3) := by decide +kernel
theorem dX3_move_14 : decode cX3_move 14 = .ok (.iload_n 3, 1) := by decide +kernel
theorem dX3_move_15 : decode cX3_move 15 = .ok (.bipush 24, 2) := by decide +kernel
theorem dX3_move_17 : decode cX3_move 17 = .ok (.imul, 1) := by decide +kernel
theorem dX3_move_18 : decode cX3_move 18 = .ok (.iload 4, 2) := by decide +kernel
theorem dX3_move_20 : decode cX3_move 20 = .ok (.iadd, 1) := by decide +kernel
theorem dX3_move_21 : decode cX3_move 21 = .ok (.iload 5, 2) := by decide +kernel
theorem dX3_move_23 : decode cX3_move 23 = .ok (.invokestatic 34, 3) := by decide +kernel
theorem dX3_move_26 : decode cX3_move 26 = .ok (.return_, 1) := by decide +kernel
theorem dX3_lowestBits_0 : decode cX3_lowestBits 0 = .ok (.iload_n 0, 1) := by decide +kernel
theorem dX3_lowestBits_1 : decode cX3_lowestBits 1 = .ok (.tableswitch 41 0 2 #[27, 32, 37], 27) := by decide +kernel
theorem dX3_lowestBits_28 : decode cX3_lowestBits 28 = .ok (.lload_n 1, 1) := by decide +kernel
theorem dX3_lowestBits_29 : decode cX3_lowestBits 29 = .ok (.l2i, 1) := by decide +kernel
theorem dX3_lowestBits_30 : decode cX3_lowestBits 30 = .ok (.i2b, 1) := by decide +kernel
theorem dX3_lowestBits_31 : decode cX3_lowestBits 31 = .ok (.i2l, 1) := by decide +kernel
theorem dX3_lowestBits_32 : decode cX3_lowestBits 32 = .ok (.lreturn, 1) := by decide +kernel
theorem dX3_lowestBits_33 : decode cX3_lowestBits 33 = .ok (.lload_n 1, 1) := by decide +kernel
theorem dX3_lowestBits_34 : decode cX3_lowestBits 34 = .ok (.l2i, 1) := by decide +kernel
theorem dX3_lowestBits_35 : decode cX3_lowestBits 35 = .ok (.i2s, 1) := by decide +kernel
theorem dX3_lowestBits_36 : decode cX3_lowestBits 36 = .ok (.i2l, 1) := by decide +kernel
theorem dX3_lowestBits_37 : decode cX3_lowestBits 37 = .ok (.lreturn, 1) := by decide +kernel
theorem dX3_lowestBits_38 : decode cX3_lowestBits 38 = .ok (.lload_n 1, 1) := by decide +kernel
theorem dX3_lowestBits_39 : decode cX3_lowestBits 39 = .ok (.l2i, 1) := by decide +kernel
theorem dX3_lowestBits_40 : decode cX3_lowestBits 40 = .ok (.i2l, 1) := by decide +kernel
theorem dX3_lowestBits_41 : decode cX3_lowestBits 41 = .ok (.lreturn, 1) := by decide +kernel
theorem dX3_lowestBits_42 : decode cX3_lowestBits 42 = .ok (.lload_n 1, 1) := by decide +kernel
theorem dX3_lowestBits_43 : decode cX3_lowestBits 43 = .ok (.lreturn, 1) := by decide +kernel
theorem dX4_init_0 : decode cX4_init 0 = .ok (.aload_n 0, 1) := by decide +kernel
theorem dX4_init_1 : decode cX4_init 1 = .ok (.invokespecial 3, 3) := by decide +kernel
theorem dX4_init_4 : decode cX4_init 4 = .ok (.aload_n 0, 1) := by decide +kernel
theorem dX4_init_5 : decode cX4_init 5 = .ok (.bipush 7, 2) := by decide +kernel
theorem dX4_init_7 : decode cX4_init 7 = .ok (.newarray .int, 2) := by decide +kernel
theorem dX4_init_9 : decode cX4_init 9 = .ok (.putfield 11, 3) := by decide +kernel
theorem dX4_init_12 : decode cX4_init 12 = .ok (.aload_n 0, 1) := by decide +kernel
theorem dX4_init_13 : decode cX4_init 13 = .ok (.bipush 7, 2) := by decide +kernel
theorem dX4_init_15 : decode cX4_init 15 = .ok (.newarray .int, 2) := by decide +kernel
theorem dX4_init_17 : decode cX4_init 17 = .ok (.putfield 15, 3) := by decide +kernel
theorem dX4_init_20 : decode cX4_init 20 = .ok (.aload_n 0, 1) := by decide +kernel
theorem dX4_init_21 : decode cX4_init 21 = .ok (.bipush 7, 2) := by decide +kernel
theorem dX4_init_23 : decode cX4_init 23 = .ok (.newarray .int, 2) := by decide +kernel
theorem dX4_init_25 : decode cX4_init 25 = .ok (.putfield 18, 3) := by decide +kernel
theorem dX4_init_28 : decode cX4_init 28 = .ok (.aload_n 0, 1) := by decide +kernel
theorem dX4_init_29 : decode cX4_init 29 = .ok (.bipush 6, 2) := by decide +kernel
theorem dX4_init_31 : decode cX4_init 31 = .ok (.newarray .int, 2) := by decide +kernel
theorem dX4_init_33 : decode cX4_init 33 = .ok (.putfield 21, 3) := by decide +kernel
theorem dX4_init_36 : decode cX4_init 36 = .ok (.aload_n 0, 1) := by decide +kernel
theorem dX4_init_37 : decode cX4_init 37 = .ok (.bipush 6, 2) := by decide +kernel
theorem dX4_init_39 : decode cX4_init 39 = .ok (.newarray .int, 2) := by decide +kernel
theorem dX4_init_41 : decode cX4_init 41 = .ok (.putfield 24, 3) := by decide +kernel
theorem dX4_init_44 : decode cX4_init 44 = .ok (.aload_n 0, 1) := by decide +kernel
theorem dX4_init_45 : decode cX4_init 45 = .ok (.bipush 6, 2) := by decide +kernel
theorem dX4_init_47 : decode cX4_init 47 = .ok (.newarray .int, 2) := by decide +kernel
theorem dX4_init_49 : decode cX4_init 49 = .ok (.putfield 27, 3) := by decide +kernel
theorem dX4_init_52 : decode cX4_init 52 = .ok (.aload_n 0, 1) := by decide +kernel
theorem dX4_init_53 : decode cX4_init 53 = .ok (.bipush 6, 2) := by decide +kernel
theorem dX4_init_55 : decode cX4_init 55 = .ok (.newarray .int, 2) := by decide +kernel
theorem dX4_init_57 : decode cX4_init 57 = .ok (.putfield 30, 3) := by decide +kernel
theorem dX4_init_60 : decode cX4_init 60 = .ok (.aload_n 0, 1) := by decide +kernel
theorem dX4_init_61 : decode cX4_init 61 = .ok (.iconst 0, 1) := by decide +kernel
theorem dX4_init_62 : decode cX4_init 62 = .ok (.putfield 33, 3) := by decide +kernel
theorem dX4_init_65 : decode cX4_init 65 = .ok (.aload_n 0, 1) := by decide +kernel
theorem dX4_init_66 : decode cX4_init 66 = .ok (.iconst 0, 1) := by decide +kernel
theorem dX4_init_67 : decode cX4_init 67 = .ok (.putfield 37, 3) := by decide +kernel
theorem dX4_init_70 : decode cX4_init 70 = .ok (.aload_n 0, 1) := by decide +kernel
theorem dX4_init_71 : decode cX4_init 71 = .ok (.iconst 0, 1) := by decide +kernel
theorem dX4_init_72 : decode cX4_init 72 = .ok (.putfield 40, 3) := by decide +kernel
theorem dX4_init_75 : decode cX4_init 75 = .ok (.aload_n 0, 1) := by decide +kernel
theorem dX4_init_76 : decode cX4_init 76 = .ok (.iconst 1, 1) := by decide +kernel
theorem dX4_init_77 : decode cX4_init 77 = .ok (.putfield 43, 3) := by decide +kernel
theorem dX4_init_80 : decode cX4_init 80 = .ok (.return_, 1) := by decide +kernel
theorem dX4_copyFrom_0 : decode cX4_copyFrom 0 = .ok (.aload_n 1, 1) := by decide +kernel
theorem dX4_copyFrom_1 : decode cX4_copyFrom 1 = .ok (.getfield 11, 3) := by decide +kernel
theorem dX4_copyFrom_4 : decode cX4_copyFrom 4 = .ok (.iconst 0, 1) := by decide +kernel
theorem dX4_copyFrom_5 : decode cX4_copyFrom 5 = .ok (.aload_n 0, 1) := by decide +kernel
theorem dX4_copyFrom_6 : decode cX4_copyFrom 6 = .ok (.getfield 11, 3) := by decide +kernel
theorem dX4_copyFrom_9 : decode cX4_copyFrom 9 = .ok (.iconst 0, 1) := by decide +kernel
theorem dX4_copyFrom_10 : decode cX4_copyFrom 10 = .ok (.bipush 7, 2) := by decide +kernel
theorem dX4_copyFrom_12 : decode cX4_copyFrom 12 = .ok (.invokestatic 46, 3) := by decide +kernel
theorem dX4_copyFrom_15 : decode cX4_copyFrom 15 = .ok (.aload_n 1, 1) := by decide +kernel
theorem dX4_copyFrom_16 : decode cX4_copyFrom 16 = .ok (.getfield 15, 3) := by decide +kernel
theorem dX4_copyFrom_19 : decode cX4_copyFrom 19 = .ok (.iconst 0, 1) := by decide +kernel
theorem dX4_copyFrom_20 : decode cX4_copyFrom 20 = .ok (.aload_n 0, 1) := by decide +kernel
theorem dX4_copyFrom_21 : decode cX4_copyFrom 21 = .ok (.getfield 15, 3) := by decide +kernel
theorem dX4_copyFrom_24 : decode cX4_copyFrom 24 = .ok (.iconst 0, 1) := by decide +kernel
theorem dX4_copyFrom_25 : decode cX4_copyFrom 25 = .ok (.bipush 7, 2) := by decide +kernel
theorem dX4_copyFrom_27 : decode cX4_copyFrom 27 = .ok (.invokestatic 46, 3) := by decide +kernel
theorem dX4_copyFrom_30 : decode cX4_copyFrom 30 = .ok (.aload_n 1, 1) := by decide +kernel
theorem dX4_copyFrom_31 : decode cX4_copyFrom 31 = .ok (.getfield 18, 3) := by decide +kernel
theorem dX4_copyFrom_34 : decode cX4_copyFrom 34 = .ok (.iconst 0, 1) := by decide +kernel
theorem dX4_copyFrom_35 : decode cX4_copyFrom 35 = .ok (.aload_n 0, 1) := by decide +kernel
theorem dX4_copyFrom_36 : decode cX4_copyFrom 36 = .ok (.getfield 18, 3) := by decide +kernel
theorem dX4_copyFrom_39 : decode cX4_copyFrom 39 = .ok (.iconst 0, 1) := by decide +kernel
theorem dX4_copyFrom_40 : decode cX4_copyFrom 40 = .ok (.bipush 7, 2) := by decide +kernel
theorem dX4_copyFrom_42 : decode cX4_copyFrom 42 = .ok (.invokestatic 46, 3) := by decide +kernel
theorem dX4_copyFrom_45 : decode cX4_copyFrom 45 = .ok (.aload_n 1, 1) := by decide +kernel
theorem dX4_copyFrom_46 : decode cX4_copyFrom 46 = .ok (.getfield 21, 3) := by decide +kernel
theorem dX4_copyFrom_49 : decode cX4_copyFrom 49 = .ok (.iconst 0, 1) := by decide +kernel
theorem dX4_copyFrom_50 : decode cX4_copyFrom 50 = .ok (.aload_n 0, 1) := by decide +kernel
theorem dX4_copyFrom_51 : decode cX4_copyFrom 51 = .ok (.getfield 21, 3) := by decide +kernel
theorem dX4_copyFrom_54 : decode cX4_copyFrom 54 = .ok (.iconst 0, 1) := by decide +kernel
theorem dX4_copyFrom_55 : decode cX4_copyFrom 55 = .ok (.bipush 6, 2) := by decide +kernel
theorem dX4_copyFrom_57 : decode cX4_copyFrom 57 = .ok (.invokestatic 46, 3) := by decide +kernel
theorem dX4_copyFrom_60 : decode cX4_copyFrom 60 = .ok (.aload_n 1, 1) := by decide +kernel
theorem dX4_copyFrom_61 : decode cX4_copyFrom 61 = .ok (.getfield 24, 3) := by decide +kernel
theorem dX4_copyFrom_64 : decode cX4_copyFrom 64 = .ok (.iconst 0, 1) := by decide +kernel
theorem dX4_copyFrom_65 : decode cX4_copyFrom 65 = .ok (.aload_n 0, 1) := by decide +kernel
theorem dX4_copyFrom_66 : decode cX4_copyFrom 66 = .ok (.getfield 24, 3) := by decide +kernel
theorem dX4_copyFrom_69 : decode cX4_copyFrom 69 = .ok (.iconst 0, 1) := by decide +kernel
theorem dX4_copyFrom_70 : decode cX4_copyFrom 70 = .ok (.bipush 6, 2) := by decide +kernel
theorem dX4_copyFrom_72 : decode cX4_copyFrom 72 = .ok (.invokestatic 46, 3) := by decide +kernel
theorem dX4_copyFrom_75 : decode cX4_copyFrom 75 = .ok (.aload_n 1, 1) := by decide +kernel
theorem dX4_copyFrom_76 : decode cX4_copyFrom 76 = .ok (.getfield 27, 3) := by decide +kernel
theorem dX4_copyFrom_79 : decode cX4_copyFrom 79 = .ok (.iconst 0, 1) := by decide +kernel
theorem dX4_copyFrom_80 : decode cX4_copyFrom 80 = .ok (.aload_n 0, 1) := by decide +kernel
theorem dX4_copyFrom_81 : decode cX4_copyFrom 81 = .ok (.getfield 27, 3) := by decide +kernel
theorem dX4_copyFrom_84 : decode cX4_copyFrom 84 = .ok (.iconst 0, 1) := by decide +kernel
theorem dX4_copyFrom_85 : decode cX4_copyFrom 85 = .ok (.bipush 6, 2) := by decide +kernel
theorem dX4_copyFrom_87 : decode cX4_copyFrom 87 = .ok (.invokestatic 46, 3) := by decide +kernel
theorem dX4_copyFrom_90 : decode cX4_copyFrom 90 = .ok (.aload_n 1, 1) := by decide +kernel
theorem dX4_copyFrom_91 : decode cX4_copyFrom 91 = .ok (.getfield 30, 3) := by decide +kernel
theorem dX4_copyFrom_94 : decode cX4_copyFrom 94 = .ok (.iconst 0, 1) := by decide +kernel
theorem dX4_copyFrom_95 : decode cX4_copyFrom 95 = .ok (.aload_n 0, 1) := by decide +kernel
theorem dX4_copyFrom_96 : decode cX4_copyFrom 96 = .ok (.getfield 30, 3) := by decide +kernel
theorem dX4_copyFrom_99 : decode cX4_copyFrom 99 = .ok (.iconst 0, 1) := by decide +kernel
theorem dX4_copyFrom_100 : decode cX4_copyFrom 100 = .ok (.bipush 6, 2) := by decide +kernel
theorem dX4_copyFrom_102 : decode cX4_copyFrom 102 = .ok (.invokestatic 46, 3) := by decide +kernel
theorem dX4_copyFrom_105 : decode cX4_copyFrom 105 = .ok (.aload_n 0, 1) := by decide +kernel
theorem dX4_copyFrom_106 : decode cX4_copyFrom 106 = .ok (.aload_n 1, 1) := by decide +kernel
theorem dX4_copyFrom_107 : decode cX4_copyFrom 107 = .ok (.getfield 33, 3) := by decide +kernel
theorem dX4_copyFrom_110 : decode cX4_copyFrom 110 = .ok (.putfield 33, 3) := by decide +kernel
theorem dX4_copyFrom_113 : decode cX4_copyFrom 113 = .ok (.aload_n 0, 1) := by decide +kernel
theorem dX4_copyFrom_114 : decode cX4_copyFrom 114 = .ok (.aload_n 1, 1) := by decide +kernel
theorem dX4_copyFrom_115 : decode cX4_copyFrom 115 = .ok (.getfield 37, 3) := by decide +kernel
theorem dX4_copyFrom_118 : decode cX4_copyFrom 118 = .ok (.putfield 37, 3) := by decide +kernel
theorem dX4_copyFrom_121 : decode cX4_copyFrom 121 = .ok (.aload_n 0, 1) := by decide +kernel
theorem dX4_copyFrom_122 : decode cX4_copyFrom 122 = .ok (.aload_n 1, 1) := by decide +kernel
theorem dX4_copyFrom_123 : decode cX4_copyFrom 123 = .ok (.getfield 40, 3) := by decide +kernel
theorem dX4_copyFrom_126 : decode cX4_copyFrom 126 = .ok (.putfield 40, 3) := by decide +kernel
theorem dX4_copyFrom_129 : decode cX4_copyFrom 129 = .ok (.aload_n 0, 1) := by decide +kernel
theorem dX4_copyFrom_130 : decode cX4_copyFrom 130 = .ok (.aload_n 1, 1) := by decide +kernel
theorem dX4_copyFrom_131 : decode cX4_copyFrom 131 = .ok (.getfield 43, 3) := by decide +kernel
theorem dX4_copyFrom_134 : decode cX4_copyFrom 134 = .ok (.putfield 43, 3) := by decide +kernel
theorem dX4_copyFrom_137 : decode cX4_copyFrom 137 = .ok (.return_, 1) := by decide +kernel
theorem dX4_empty_0 : decode cX4_empty 0 = .ok (.aload_n 0, 1) := by decide +kernel
theorem dX4_empty_1 : decode cX4_empty 1 = .ok (.iconst 0, 1) := by decide +kernel
theorem dX4_empty_2 : decode cX4_empty 2 = .ok (.putfield 33, 3) := by decide +kernel
theorem dX4_empty_5 : decode cX4_empty 5 = .ok (.aload_n 0, 1) := by decide +kernel
theorem dX4_empty_6 : decode cX4_empty 6 = .ok (.iconst 0, 1) := by decide +kernel
theorem dX4_empty_7 : decode cX4_empty 7 = .ok (.putfield 37, 3) := by decide +kernel
theorem dX4_empty_10 : decode cX4_empty 10 = .ok (.aload_n 0, 1) := by decide +kernel
theorem dX4_empty_11 : decode cX4_empty 11 = .ok (.iconst 0, 1) := by decide +kernel
theorem dX4_empty_12 : decode cX4_empty 12 = .ok (.putfield 40, 3) := by decide +kernel
theorem dX4_empty_15 : decode cX4_empty 15 = .ok (.return_, 1) := by decide +kernel
theorem dX4_addPuddle_0 : decode cX4_addPuddle 0 = .ok (.aload_n 0, 1) := by decide +kernel
theorem dX4_addPuddle_1 : decode cX4_addPuddle 1 = .ok (.getfield 33, 3) := by decide +kernel
theorem dX4_addPuddle_4 : decode cX4_addPuddle 4 = .ok (.bipush 7, 2) := by decide +kernel
theorem dX4_addPuddle_6 : decode cX4_addPuddle 6 = .ok (.if_icmp .lt 6, 3) := by decide +kernel
theorem dX4_addPuddle_9 : decode cX4_addPuddle 9 = .ok (.bipush (-3), 2) := by decide +kernel
theorem dX4_addPuddle_11 : decode cX4_addPuddle 11 = .ok (.ireturn, 1) := by decide +kernel
theorem dX4_addPuddle_12 : decode cX4_addPuddle 12 = .ok (.aload_n 0, 1) := by decide +kernel
theorem dX4_addPuddle_13 : decode cX4_addPuddle 13 = .ok (.getfield 11, 3) := by decide +kernel
theorem dX4_addPuddle_16 : decode cX4_addPuddle 16 = .ok (.aload_n 0, 1) := by decide +kernel
theorem dX4_addPuddle_17 : decode cX4_addPuddle 17 = .ok (.getfield 33, 3) := by decide +kernel
theorem dX4_addPuddle_20 : decode cX4_addPuddle 20 = .ok (.iload_n 1, 1) := by decide +kernel
theorem dX4_addPuddle_21 : decode cX4_addPuddle 21 = .ok (.iastore, 1) := by decide +kernel
theorem dX4_addPuddle_22 : decode cX4_addPuddle 22 = .ok (.aload_n 0, 1) := by decide +kernel
theorem dX4_addPuddle_23 : decode cX4_addPuddle 23 = .ok (.getfield 15, 3) := by decide +kernel
theorem dX4_addPuddle_26 : decode cX4_addPuddle 26 = .ok (.aload_n 0, 1) := by decide +kernel
theorem dX4_addPuddle_27 : decode cX4_addPuddle 27 = .ok (.getfield 33, 3) := by decide +kernel
theorem dX4_addPuddle_30 : decode cX4_addPuddle 30 = .ok (.iload_n 2, 1) := by decide +kernel
theorem dX4_addPuddle_31 : decode cX4_addPuddle 31 = .ok (.iastore, 1) := by decide +kernel
theorem dX4_addPuddle_32 : decode cX4_addPuddle 32 = .ok (.aload_n 0, 1) := by decide +kernel
theorem dX4_addPuddle_33 : decode cX4_addPuddle 33 = .ok (.getfield 18, 3) := by decide +kernel
theorem dX4_addPuddle_36 : decode cX4_addPuddle 36 = .ok (.aload_n 0, 1) := by decide +kernel
theorem dX4_addPuddle_37 : decode cX4_addPuddle 37 = .ok (.getfield 33, 3) := by decide +kernel
theorem dX4_addPuddle_40 : decode cX4_addPuddle 40 = .ok (.iload_n 3, 1) := by decide +kernel
theorem dX4_addPuddle_41 : decode cX4_addPuddle 41 = .ok (.iastore, 1) := by decide +kernel
theorem dX4_addPuddle_42 : decode cX4_addPuddle 42 = .ok (.aload_n 0, 1) := by decide +kernel
theorem dX4_addPuddle_43 : decode cX4_addPuddle 43 = .ok (.dup, 1) := by decide +kernel
theorem dX4_addPuddle_44 : decode cX4_addPuddle 44 = .ok (.getfield 33, 3) := by decide +kernel
theorem dX4_addPuddle_47 : decode cX4_addPuddle 47 = .ok (.iconst 1, 1) := by decide +kernel
theorem dX4_addPuddle_48 : decode cX4_addPuddle 48 = .ok (.iadd, 1) := by decide +kernel
theorem dX4_addPuddle_49 : decode cX4_addPuddle 49 = .ok (.putfield 33, 3) := by decide +kernel
theorem dX4_addPuddle_52 : decode cX4_addPuddle 52 = .ok (.aload_n 0, 1) := by decide +kernel
theorem dX4_addPuddle_53 : decode cX4_addPuddle 53 = .ok (.getfield 33, 3) := by decide +kernel
theorem dX4_addPuddle_56 : decode cX4_addPuddle 56 = .ok (.iconst 1, 1) := by decide +kernel
theorem dX4_addPuddle_57 : decode cX4_addPuddle 57 = .ok (.isub, 1) := by decide +kernel
theorem dX4_addPuddle_58 : decode cX4_addPuddle 58 = .ok (.ireturn, 1) := by decide +kernel
theorem dX4_addPerson_0 : decode cX4_addPerson 0 = .ok (.aload_n 0, 1) := by decide +kernel
theorem dX4_addPerson_1 : decode cX4_addPerson 1 = .ok (.getfield 37, 3) := by decide +kernel
theorem dX4_addPerson_4 : decode cX4_addPerson 4 = .ok (.bipush 6, 2) := by decide +kernel
theorem dX4_addPerson_6 : decode cX4_addPerson 6 = .ok (.if_icmp .lt 6, 3) := by decide +kernel
theorem dX4_addPerson_9 : decode cX4_addPerson 9 = .ok (.bipush (-3), 2) := by decide +kernel
theorem dX4_addPerson_11 : decode cX4_addPerson 11 = .ok (.ireturn, 1) := by decide +kernel
theorem dX4_addPerson_12 : decode cX4_addPerson 12 = .ok (.aload_n 0, 1) := by decide +kernel
theorem dX4_addPerson_13 : decode cX4_addPerson 13 = .ok (.getfield 21, 3) := by decide +kernel
theorem dX4_addPerson_16 : decode cX4_addPerson 16 = .ok (.aload_n 0, 1) := by decide +kernel
theorem dX4_addPerson_17 : decode cX4_addPerson 17 = .ok (.getfield 37, 3) := by decide +kernel
theorem dX4_addPerson_20 : decode cX4_addPerson 20 = .ok (.iload_n 1, 1) := by decide +kernel
theorem dX4_addPerson_21 : decode cX4_addPerson 21 = .ok (.iastore, 1) := by decide +kernel
theorem dX4_addPerson_22 : decode cX4_addPerson 22 = .ok (.aload_n 0, 1) := by decide +kernel
theorem dX4_addPerson_23 : decode cX4_addPerson 23 = .ok (.getfield 24, 3) := by decide +kernel
theorem dX4_addPerson_26 : decode cX4_addPerson 26 = .ok (.aload_n 0, 1) := by decide +kernel
theorem dX4_addPerson_27 : decode cX4_addPerson 27 = .ok (.getfield 37, 3) := by decide +kernel
theorem dX4_addPerson_30 : decode cX4_addPerson 30 = .ok (.iload_n 2, 1) := by decide +kernel
theorem dX4_addPerson_31 : decode cX4_addPerson 31 = .ok (.iastore, 1) := by decide +kernel
theorem dX4_addPerson_32 : decode cX4_addPerson 32 = .ok (.aload_n 0, 1) := by decide +kernel
theorem dX4_addPerson_33 : decode cX4_addPerson 33 = .ok (.getfield 27, 3) := by decide +kernel
theorem dX4_addPerson_36 : decode cX4_addPerson 36 = .ok (.aload_n 0, 1) := by decide +kernel
theorem dX4_addPerson_37 : decode cX4_addPerson 37 = .ok (.getfield 37, 3) := by decide +kernel
theorem dX4_addPerson_40 : decode cX4_addPerson 40 = .ok (.iload_n 3, 1) := by decide +kernel
theorem dX4_addPerson_41 : decode cX4_addPerson 41 = .ok (.iastore, 1) := by decide +kernel
theorem dX4_addPerson_42 : decode cX4_addPerson 42 = .ok (.aload_n 0, 1) := by decide +kernel
theorem dX4_addPerson_43 : decode cX4_addPerson 43 = .ok (.getfield 30, 3) := by decide +kernel
theorem dX4_addPerson_46 : decode cX4_addPerson 46 = .ok (.aload_n 0, 1) := by decide +kernel
theorem dX4_addPerson_47 : decode cX4_addPerson 47 = .ok (.getfield 37, 3) := by decide +kernel
theorem dX4_addPerson_50 : decode cX4_addPerson 50 = .ok (.bipush (-4), 2) := by decide +kernel
theorem dX4_addPerson_52 : decode cX4_addPerson 52 = .ok (.iastore, 1) := by decide +kernel
theorem dX4_addPerson_53 : decode cX4_addPerson 53 = .ok (.aload_n 0, 1) := by decide +kernel
theorem dX4_addPerson_54 : decode cX4_addPerson 54 = .ok (.dup, 1) := by decide +kernel
theorem dX4_addPerson_55 : decode cX4_addPerson 55 = .ok (.getfield 37, 3) := by decide +kernel
theorem dX4_addPerson_58 : decode cX4_addPerson 58 = .ok (.iconst 1, 1) := by decide +kernel
theorem dX4_addPerson_59 : decode cX4_addPerson 59 = .ok (.iadd, 1) := by decide +kernel
theorem dX4_addPerson_60 : decode cX4_addPerson 60 = .ok (.putfield 37, 3) := by decide +kernel
theorem dX4_addPerson_63 : decode cX4_addPerson 63 = .ok (.aload_n 0, 1) := by decide +kernel
theorem dX4_addPerson_64 : decode cX4_addPerson 64 = .ok (.getfield 37, 3) := by decide +kernel
theorem dX4_addPerson_67 : decode cX4_addPerson 67 = .ok (.iconst 1, 1) := by decide +kernel
theorem dX4_addPerson_68 : decode cX4_addPerson 68 = .ok (.isub, 1) := by decide +kernel
theorem dX4_addPerson_69 : decode cX4_addPerson 69 = .ok (.ireturn, 1) := by decide +kernel
theorem dX4_hasPuddle_0 : decode cX4_hasPuddle 0 = .ok (.iload_n 1, 1) := by decide +kernel
theorem dX4_hasPuddle_1 : decode cX4_hasPuddle 1 = .ok (.ifCond .lt 15, 3) := by decide +kernel
theorem dX4_hasPuddle_4 : decode cX4_hasPuddle 4 = .ok (.iload_n 1, 1) := by decide +kernel
theorem dX4_hasPuddle_5 : decode cX4_hasPuddle 5 = .ok (.aload_n 0, 1) := by decide +kernel
theorem dX4_hasPuddle_6 : decode cX4_hasPuddle 6 = .ok (.getfield 33, 3) := by decide +kernel
theorem dX4_hasPuddle_9 : decode cX4_hasPuddle 9 = .ok (.if_icmp .ge 7, 3) := by decide +kernel
theorem dX4_hasPuddle_12 : decode cX4_hasPuddle 12 = .ok (.iconst 1, 1) := by decide +kernel
theorem dX4_hasPuddle_13 : decode cX4_hasPuddle 13 = .ok (.goto 4, 3) := by decide +kernel
theorem dX4_hasPuddle_16 : decode cX4_hasPuddle 16 = .ok (.iconst 0, 1) := by decide +kernel
theorem dX4_hasPuddle_17 : decode cX4_hasPuddle 17 = .ok (.ireturn, 1) := by decide +kernel
theorem dX4_hasPerson_0 : decode cX4_hasPerson 0 = .ok (.iload_n 1, 1) := by decide +kernel
theorem dX4_hasPerson_1 : decode cX4_hasPerson 1 = .ok (.ifCond .lt 15, 3) := by decide +kernel
theorem dX4_hasPerson_4 : decode cX4_hasPerson 4 = .ok (.iload_n 1, 1) := by decide +kernel
theorem dX4_hasPerson_5 : decode cX4_hasPerson 5 = .ok (.aload_n 0, 1) := by decide +kernel
theorem dX4_hasPerson_6 : decode cX4_hasPerson 6 = .ok (.getfield 37, 3) := by decide +kernel
theorem dX4_hasPerson_9 : decode cX4_hasPerson 9 = .ok (.if_icmp .ge 7, 3) := by decide +kernel
theorem dX4_hasPerson_12 : decode cX4_hasPerson 12 = .ok (.iconst 1, 1) := by decide +kernel
theorem dX4_hasPerson_13 : decode cX4_hasPerson 13 = .ok (.goto 4, 3) := by decide +kernel
theorem dX4_hasPerson_16 : decode cX4_hasPerson 16 = .ok (.iconst 0, 1) := by decide +kernel
theorem dX4_hasPerson_17 : decode cX4_hasPerson 17 = .ok (.ireturn, 1) := by decide +kernel
theorem dX4_isDry_0 : decode cX4_isDry 0 = .ok (.aload_n 0, 1) := by decide +kernel
theorem dX4_isDry_1 : decode cX4_isDry 1 = .ok (.getfield 18, 3) := by decide +kernel
theorem dX4_isDry_4 : decode cX4_isDry 4 = .ok (.iload_n 1, 1) := by decide +kernel
theorem dX4_isDry_5 : decode cX4_isDry 5 = .ok (.iaload, 1) := by decide +kernel
theorem dX4_isDry_6 : decode cX4_isDry 6 = .ok (.ifCond .ne 7, 3) := by decide +kernel
theorem dX4_isDry_9 : decode cX4_isDry 9 = .ok (.iconst 1, 1) := by decide +kernel
theorem dX4_isDry_10 : decode cX4_isDry 10 = .ok (.goto 4, 3) := by decide +kernel
theorem dX4_isDry_13 : decode cX4_isDry 13 = .ok (.iconst 0, 1) := by decide +kernel
theorem dX4_isDry_14 : decode cX4_isDry 14 = .ok (.ireturn, 1) := by decide +kernel
theorem dX4_hasClaimed_0 : decode cX4_hasClaimed 0 = .ok (.aload_n 0, 1) := by decide +kernel
theorem dX4_hasClaimed_1 : decode cX4_hasClaimed 1 = .ok (.getfield 30, 3) := by decide +kernel
theorem dX4_hasClaimed_4 : decode cX4_hasClaimed 4 = .ok (.iload_n 1, 1) := by decide +kernel
theorem dX4_hasClaimed_5 : decode cX4_hasClaimed 5 = .ok (.iaload, 1) := by decide +kernel
theorem dX4_hasClaimed_6 : decode cX4_hasClaimed 6 = .ok (.ifCond .lt 7, 3) := by decide +kernel
theorem dX4_hasClaimed_9 : decode cX4_hasClaimed 9 = .ok (.iconst 1, 1) := by decide +kernel
theorem dX4_hasClaimed_10 : decode cX4_hasClaimed 10 = .ok (.goto 4, 3) := by decide +kernel
theorem dX4_hasClaimed_13 : decode cX4_hasClaimed 13 = .ok (.iconst 0, 1) := by decide +kernel
theorem dX4_hasClaimed_14 : decode cX4_hasClaimed 14 = .ok (.ireturn, 1) := by decide +kernel
theorem dX4_drySet_0 : decode cX4_drySet 0 = .ok (.iconst 0, 1) := by decide +kernel
theorem dX4_drySet_1 : decode cX4_drySet 1 = .ok (.istore_n 1, 1) := by decide +kernel
theorem dX4_drySet_2 : decode cX4_drySet 2 = .ok (.iconst 0, 1) := by decide +kernel
theorem dX4_drySet_3 : decode cX4_drySet 3 = .ok (.istore_n 2, 1) := by decide +kernel
theorem dX4_drySet_4 : decode cX4_drySet 4 = .ok (.iload_n 2, 1) := by decide +kernel
theorem dX4_drySet_5 : decode cX4_drySet 5 = .ok (.aload_n 0, 1) := by decide +kernel
theorem dX4_drySet_6 : decode cX4_drySet 6 = .ok (.getfield 33, 3) := by decide +kernel
theorem dX4_drySet_9 : decode cX4_drySet 9 = .ok (.if_icmp .ge 27, 3) := by decide +kernel
theorem dX4_drySet_12 : decode cX4_drySet 12 = .ok (.iload_n 1, 1) := by decide +kernel
theorem dX4_drySet_13 : decode cX4_drySet 13 = .ok (.aload_n 0, 1) := by decide +kernel
theorem dX4_drySet_14 : decode cX4_drySet 14 = .ok (.iload_n 2, 1) := by decide +kernel
theorem dX4_drySet_15 : decode cX4_drySet 15 = .ok (.invokevirtual 52, 3) := by decide +kernel
theorem dX4_drySet_18 : decode cX4_drySet 18 = .ok (.ifCond .eq 9, 3) := by decide +kernel
theorem dX4_drySet_21 : decode cX4_drySet 21 = .ok (.iconst 1, 1) := by decide +kernel
theorem dX4_drySet_22 : decode cX4_drySet 22 = .ok (.iload_n 2, 1) := by decide +kernel
theorem dX4_drySet_23 : decode cX4_drySet 23 = .ok (.ishl, 1) := by decide +kernel
theorem dX4_drySet_24 : decode cX4_drySet 24 = .ok (.goto 4, 3) := by decide +kernel
theorem dX4_drySet_27 : decode cX4_drySet 27 = .ok (.iconst 0, 1) := by decide +kernel
theorem dX4_drySet_28 : decode cX4_drySet 28 = .ok (.ior, 1) := by decide +kernel
theorem dX4_drySet_29 : decode cX4_drySet 29 = .ok (.istore_n 1, 1) := by decide +kernel
theorem dX4_drySet_30 : decode cX4_drySet 30 = .ok (.iinc 2 1, 3) := by decide +kernel
theorem dX4_drySet_33 : decode cX4_drySet 33 = .ok (.goto (-29), 3) := by decide +kernel
theorem dX4_drySet_36 : decode cX4_drySet 36 = .ok (.iload_n 1, 1) := by decide +kernel
theorem dX4_drySet_37 : decode cX4_drySet 37 = .ok (.ireturn, 1) := by decide +kernel
theorem dX4_claimants_0 : decode cX4_claimants 0 = .ok (.iconst 0, 1) := by decide +kernel
theorem dX4_claimants_1 : decode cX4_claimants 1 = .ok (.istore_n 1, 1) := by decide +kernel
theorem dX4_claimants_2 : decode cX4_claimants 2 = .ok (.iconst 0, 1) := by decide +kernel
theorem dX4_claimants_3 : decode cX4_claimants 3 = .ok (.istore_n 2, 1) := by decide +kernel
theorem dX4_claimants_4 : decode cX4_claimants 4 = .ok (.iload_n 2, 1) := by decide +kernel
theorem dX4_claimants_5 : decode cX4_claimants 5 = .ok (.aload_n 0, 1) := by decide +kernel
theorem dX4_claimants_6 : decode cX4_claimants 6 = .ok (.getfield 37, 3) := by decide +kernel
theorem dX4_claimants_9 : decode cX4_claimants 9 = .ok (.if_icmp .ge 27, 3) := by decide +kernel
theorem dX4_claimants_12 : decode cX4_claimants 12 = .ok (.iload_n 1, 1) := by decide +kernel
theorem dX4_claimants_13 : decode cX4_claimants 13 = .ok (.aload_n 0, 1) := by decide +kernel
theorem dX4_claimants_14 : decode cX4_claimants 14 = .ok (.iload_n 2, 1) := by decide +kernel
theorem dX4_claimants_15 : decode cX4_claimants 15 = .ok (.invokevirtual 56, 3) := by decide +kernel
theorem dX4_claimants_18 : decode cX4_claimants 18 = .ok (.ifCond .eq 9, 3) := by decide +kernel
theorem dX4_claimants_21 : decode cX4_claimants 21 = .ok (.iconst 1, 1) := by decide +kernel
theorem dX4_claimants_22 : decode cX4_claimants 22 = .ok (.iload_n 2, 1) := by decide +kernel
theorem dX4_claimants_23 : decode cX4_claimants 23 = .ok (.ishl, 1) := by decide +kernel
theorem dX4_claimants_24 : decode cX4_claimants 24 = .ok (.goto 4, 3) := by decide +kernel
theorem dX4_claimants_27 : decode cX4_claimants 27 = .ok (.iconst 0, 1) := by decide +kernel
theorem dX4_claimants_28 : decode cX4_claimants 28 = .ok (.ior, 1) := by decide +kernel
theorem dX4_claimants_29 : decode cX4_claimants 29 = .ok (.istore_n 1, 1) := by decide +kernel
theorem dX4_claimants_30 : decode cX4_claimants 30 = .ok (.iinc 2 1, 3) := by decide +kernel
theorem dX4_claimants_33 : decode cX4_claimants 33 = .ok (.goto (-29), 3) := by decide +kernel
theorem dX4_claimants_36 : decode cX4_claimants 36 = .ok (.iload_n 1, 1) := by decide +kernel
theorem dX4_claimants_37 : decode cX4_claimants 37 = .ok (.ireturn, 1) := by decide +kernel
theorem dX4_claimedSet_0 : decode cX4_claimedSet 0 = .ok (.iconst 0, 1) := by decide +kernel
theorem dX4_claimedSet_1 : decode cX4_claimedSet 1 = .ok (.istore_n 1, 1) := by decide +kernel
theorem dX4_claimedSet_2 : decode cX4_claimedSet 2 = .ok (.iconst 0, 1) := by decide +kernel
theorem dX4_claimedSet_3 : decode cX4_claimedSet 3 = .ok (.istore_n 2, 1) := by decide +kernel
theorem dX4_claimedSet_4 : decode cX4_claimedSet 4 = .ok (.iload_n 2, 1) := by decide +kernel
theorem dX4_claimedSet_5 : decode cX4_claimedSet 5 = .ok (.aload_n 0, 1) := by decide +kernel
theorem dX4_claimedSet_6 : decode cX4_claimedSet 6 = .ok (.getfield 37, 3) := by decide +kernel
theorem dX4_claimedSet_9 : decode cX4_claimedSet 9 = .ok (.if_icmp .ge 32, 3) := by decide +kernel
theorem dX4_claimedSet_12 : decode cX4_claimedSet 12 = .ok (.iload_n 1, 1) := by decide +kernel
theorem dX4_claimedSet_13 : decode cX4_claimedSet 13 = .ok (.aload_n 0, 1) := by decide +kernel
theorem dX4_claimedSet_14 : decode cX4_claimedSet 14 = .ok (.iload_n 2, 1) := by decide +kernel
theorem dX4_claimedSet_15 : decode cX4_claimedSet 15 = .ok (.invokevirtual 56, 3) := by decide +kernel
theorem dX4_claimedSet_18 : decode cX4_claimedSet 18 = .ok (.ifCond .eq 14, 3) := by decide +kernel
theorem dX4_claimedSet_21 : decode cX4_claimedSet 21 = .ok (.iconst 1, 1) := by decide +kernel
theorem dX4_claimedSet_22 : decode cX4_claimedSet 22 = .ok (.aload_n 0, 1) := by decide +kernel
theorem dX4_claimedSet_23 : decode cX4_claimedSet 23 = .ok (.getfield 30, 3) := by decide +kernel
theorem dX4_claimedSet_26 : decode cX4_claimedSet 26 = .ok (.iload_n 2, 1) := by decide +kernel
theorem dX4_claimedSet_27 : decode cX4_claimedSet 27 = .ok (.iaload, 1) := by decide +kernel
theorem dX4_claimedSet_28 : decode cX4_claimedSet 28 = .ok (.ishl, 1) := by decide +kernel
theorem dX4_claimedSet_29 : decode cX4_claimedSet 29 = .ok (.goto 4, 3) := by decide +kernel
theorem dX4_claimedSet_32 : decode cX4_claimedSet 32 = .ok (.iconst 0, 1) := by decide +kernel
theorem dX4_claimedSet_33 : decode cX4_claimedSet 33 = .ok (.ior, 1) := by decide +kernel
theorem dX4_claimedSet_34 : decode cX4_claimedSet 34 = .ok (.istore_n 1, 1) := by decide +kernel
theorem dX4_claimedSet_35 : decode cX4_claimedSet 35 = .ok (.iinc 2 1, 3) := by decide +kernel
theorem dX4_claimedSet_38 : decode cX4_claimedSet 38 = .ok (.goto (-34), 3) := by decide +kernel
theorem dX4_claimedSet_41 : decode cX4_claimedSet 41 = .ok (.iload_n 1, 1) := by decide +kernel
theorem dX4_claimedSet_42 : decode cX4_claimedSet 42 = .ok (.ireturn, 1) := by decide +kernel
theorem dX4_claimantOf_0 : decode cX4_claimantOf 0 = .ok (.iconst 0, 1) := by decide +kernel
theorem dX4_claimantOf_1 : decode cX4_claimantOf 1 = .ok (.istore_n 2, 1) := by decide +kernel
theorem dX4_claimantOf_2 : decode cX4_claimantOf 2 = .ok (.iload_n 2, 1) := by decide +kernel
theorem dX4_claimantOf_3 : decode cX4_claimantOf 3 = .ok (.aload_n 0, 1) := by decide +kernel
theorem dX4_claimantOf_4 : decode cX4_claimantOf 4 = .ok (.getfield 37, 3) := by decide +kernel
theorem dX4_claimantOf_7 : decode cX4_claimantOf 7 = .ok (.if_icmp .ge 21, 3) := by decide +kernel
theorem dX4_claimantOf_10 : decode cX4_claimantOf 10 = .ok (.aload_n 0, 1) := by decide +kernel
theorem dX4_claimantOf_11 : decode cX4_claimantOf 11 = .ok (.getfield 30, 3) := by decide +kernel
theorem dX4_claimantOf_14 : decode cX4_claimantOf 14 = .ok (.iload_n 2, 1) := by decide +kernel
theorem dX4_claimantOf_15 : decode cX4_claimantOf 15 = .ok (.iaload, 1) := by decide +kernel
theorem dX4_claimantOf_16 : decode cX4_claimantOf 16 = .ok (.iload_n 1, 1) := by decide +kernel
theorem dX4_claimantOf_17 : decode cX4_claimantOf 17 = .ok (.if_icmp .ne 5, 3) := by decide +kernel
theorem dX4_claimantOf_20 : decode cX4_claimantOf 20 = .ok (.iload_n 2, 1) := by decide +kernel
theorem dX4_claimantOf_21 : decode cX4_claimantOf 21 = .ok (.ireturn, 1) := by decide +kernel
theorem dX4_claimantOf_22 : decode cX4_claimantOf 22 = .ok (.iinc 2 1, 3) := by decide +kernel
theorem dX4_claimantOf_25 : decode cX4_claimantOf 25 = .ok (.goto (-23), 3) := by decide +kernel
theorem dX4_claimantOf_28 : decode cX4_claimantOf 28 = .ok (.bipush (-4), 2) := by decide +kernel
theorem dX4_claimantOf_30 : decode cX4_claimantOf 30 = .ok (.ireturn, 1) := by decide +kernel
theorem dX4_depthOfAll_0 : decode cX4_depthOfAll 0 = .ok (.iconst 0, 1) := by decide +kernel
theorem dX4_depthOfAll_1 : decode cX4_depthOfAll 1 = .ok (.istore_n 1, 1) := by decide +kernel
theorem dX4_depthOfAll_2 : decode cX4_depthOfAll 2 = .ok (.iconst 0, 1) := by decide +kernel
theorem dX4_depthOfAll_3 : decode cX4_depthOfAll 3 = .ok (.istore_n 2, 1) := by decide +kernel
theorem dX4_depthOfAll_4 : decode cX4_depthOfAll 4 = .ok (.iload_n 2, 1) := by decide +kernel
theorem dX4_depthOfAll_5 : decode cX4_depthOfAll 5 = .ok (.aload_n 0, 1) := by decide +kernel
theorem dX4_depthOfAll_6 : decode cX4_depthOfAll 6 = .ok (.getfield 33, 3) := by decide +kernel
theorem dX4_depthOfAll_9 : decode cX4_depthOfAll 9 = .ok (.if_icmp .ge 18, 3) := by decide +kernel
theorem dX4_depthOfAll_12 : decode cX4_depthOfAll 12 = .ok (.iload_n 1, 1) := by decide +kernel
theorem dX4_depthOfAll_13 : decode cX4_depthOfAll 13 = .ok (.aload_n 0, 1) := by decide +kernel
theorem dX4_depthOfAll_14 : decode cX4_depthOfAll 14 = .ok (.getfield 18, 3) := by decide +kernel
theorem dX4_depthOfAll_17 : decode cX4_depthOfAll 17 = .ok (.iload_n 2, 1) := by decide +kernel
theorem dX4_depthOfAll_18 : decode cX4_depthOfAll 18 = .ok (.iaload, 1) := by decide +kernel
theorem dX4_depthOfAll_19 : decode cX4_depthOfAll 19 = .ok (.iadd, 1) := by decide +kernel
theorem dX4_depthOfAll_20 : decode cX4_depthOfAll 20 = .ok (.istore_n 1, 1) := by decide +kernel
theorem dX4_depthOfAll_21 : decode cX4_depthOfAll 21 = .ok (.iinc 2 1, 3) := by decide +kernel
theorem dX4_depthOfAll_24 : decode cX4_depthOfAll 24 = .ok (.goto (-20), 3) := by decide +kernel
theorem dX4_depthOfAll_27 : decode cX4_depthOfAll 27 = .ok (.iload_n 1, 1) := by decide +kernel
theorem dX4_depthOfAll_28 : decode cX4_depthOfAll 28 = .ok (.ireturn, 1) := by decide +kernel
theorem dX4_fitSet_0 : decode cX4_fitSet 0 = .ok (.aload_n 0, 1) := by decide +kernel
theorem dX4_fitSet_1 : decode cX4_fitSet 1 = .ok (.invokevirtual 59, 3) := by decide +kernel
theorem dX4_fitSet_4 : decode cX4_fitSet 4 = .ok (.istore_n 2, 1) := by decide +kernel
theorem dX4_fitSet_5 : decode cX4_fitSet 5 = .ok (.iconst 0, 1) := by decide +kernel
theorem dX4_fitSet_6 : decode cX4_fitSet 6 = .ok (.istore_n 3, 1) := by decide +kernel
theorem dX4_fitSet_7 : decode cX4_fitSet 7 = .ok (.iconst 0, 1) := by decide +kernel
theorem dX4_fitSet_8 : decode cX4_fitSet 8 = .ok (.istore 4, 2) := by decide +kernel
theorem dX4_fitSet_10 : decode cX4_fitSet 10 = .ok (.iload 4, 2) := by decide +kernel
theorem dX4_fitSet_12 : decode cX4_fitSet 12 = .ok (.aload_n 0, 1) := by decide +kernel
theorem dX4_fitSet_13 : decode cX4_fitSet 13 = .ok (.getfield 33, 3) := by decide +kernel
theorem dX4_fitSet_16 : decode cX4_fitSet 16 = .ok (.if_icmp .ge 38, 3) := by decide +kernel
theorem dX4_fitSet_19 : decode cX4_fitSet 19 = .ok (.iload_n 3, 1) := by decide +kernel
theorem dX4_fitSet_20 : decode cX4_fitSet 20 = .ok (.aload_n 0, 1) := by decide +kernel
theorem dX4_fitSet_21 : decode cX4_fitSet 21 = .ok (.iload 4, 2) := by decide +kernel
theorem dX4_fitSet_23 : decode cX4_fitSet 23 = .ok (.iload_n 1, 1) := by decide +kernel
theorem dX4_fitSet_24 : decode cX4_fitSet 24 = .ok (.iload_n 2, 1) := by decide +kernel
theorem dX4_fitSet_25 : decode cX4_fitSet 25 = .ok (.aload_n 0, 1) := by decide +kernel
theorem dX4_fitSet_26 : decode cX4_fitSet 26 = .ok (.getfield 18, 3) := by decide +kernel
theorem dX4_fitSet_29 : decode cX4_fitSet 29 = .ok (.iload 4, 2) := by decide +kernel
theorem dX4_fitSet_31 : decode cX4_fitSet 31 = .ok (.iaload, 1) := by decide +kernel
theorem dX4_fitSet_32 : decode cX4_fitSet 32 = .ok (.invokevirtual 63, 3) := by decide +kernel
theorem dX4_fitSet_35 : decode cX4_fitSet 35 = .ok (.ifCond .eq 10, 3) := by decide +kernel
theorem dX4_fitSet_38 : decode cX4_fitSet 38 = .ok (.iconst 1, 1) := by decide +kernel
theorem dX4_fitSet_39 : decode cX4_fitSet 39 = .ok (.iload 4, 2) := by decide +kernel
theorem dX4_fitSet_41 : decode cX4_fitSet 41 = .ok (.ishl, 1) := by decide +kernel
theorem dX4_fitSet_42 : decode cX4_fitSet 42 = .ok (.goto 4, 3) := by decide +kernel
theorem dX4_fitSet_45 : decode cX4_fitSet 45 = .ok (.iconst 0, 1) := by decide +kernel
theorem dX4_fitSet_46 : decode cX4_fitSet 46 = .ok (.ior, 1) := by decide +kernel
theorem dX4_fitSet_47 : decode cX4_fitSet 47 = .ok (.istore_n 3, 1) := by decide +kernel
theorem dX4_fitSet_48 : decode cX4_fitSet 48 = .ok (.iinc 4 1, 3) := by decide +kernel
theorem dX4_fitSet_51 : decode cX4_fitSet 51 = .ok (.goto (-41), 3) := by decide +kernel
theorem dX4_fitSet_54 : decode cX4_fitSet 54 = .ok (.iload_n 3, 1) := by decide +kernel
theorem dX4_fitSet_55 : decode cX4_fitSet 55 = .ok (.ireturn, 1) := by decide +kernel
theorem dX4_isFit_0 : decode cX4_isFit 0 = .ok (.aload_n 0, 1) := by decide +kernel
theorem dX4_isFit_1 : decode cX4_isFit 1 = .ok (.getfield 15, 3) := by decide +kernel
theorem dX4_isFit_4 : decode cX4_isFit 4 = .ok (.iload_n 1, 1) := by decide +kernel
theorem dX4_isFit_5 : decode cX4_isFit 5 = .ok (.iaload, 1) := by decide +kernel
theorem dX4_isFit_6 : decode cX4_isFit 6 = .ok (.aload_n 0, 1) := by decide +kernel
theorem dX4_isFit_7 : decode cX4_isFit 7 = .ok (.getfield 21, 3) := by decide +kernel
theorem dX4_isFit_10 : decode cX4_isFit 10 = .ok (.iload_n 2, 1) := by decide +kernel
theorem dX4_isFit_11 : decode cX4_isFit 11 = .ok (.iaload, 1) := by decide +kernel
theorem dX4_isFit_12 : decode cX4_isFit 12 = .ok (.if_icmp .ne 26, 3) := by decide +kernel
theorem dX4_isFit_15 : decode cX4_isFit 15 = .ok (.iload 4, 2) := by decide +kernel
theorem dX4_isFit_17 : decode cX4_isFit 17 = .ok (.aload_n 0, 1) := by decide +kernel
theorem dX4_isFit_18 : decode cX4_isFit 18 = .ok (.getfield 27, 3) := by decide +kernel
theorem dX4_isFit_21 : decode cX4_isFit 21 = .ok (.iload_n 2, 1) := by decide +kernel
theorem dX4_isFit_22 : decode cX4_isFit 22 = .ok (.iaload, 1) := by decide +kernel
theorem dX4_isFit_23 : decode cX4_isFit 23 = .ok (.if_icmp .lt 15, 3) := by decide +kernel
theorem dX4_isFit_26 : decode cX4_isFit 26 = .ok (.iload_n 3, 1) := by decide +kernel
theorem dX4_isFit_27 : decode cX4_isFit 27 = .ok (.iload_n 1, 1) := by decide +kernel
theorem dX4_isFit_28 : decode cX4_isFit 28 = .ok (.ishr, 1) := by decide +kernel
theorem dX4_isFit_29 : decode cX4_isFit 29 = .ok (.iconst 1, 1) := by decide +kernel
theorem dX4_isFit_30 : decode cX4_isFit 30 = .ok (.iand, 1) := by decide +kernel
theorem dX4_isFit_31 : decode cX4_isFit 31 = .ok (.ifCond .ne 7, 3) := by decide +kernel
theorem dX4_isFit_34 : decode cX4_isFit 34 = .ok (.iconst 1, 1) := by decide +kernel
theorem dX4_isFit_35 : decode cX4_isFit 35 = .ok (.goto 4, 3) := by decide +kernel
theorem dX4_isFit_38 : decode cX4_isFit 38 = .ok (.iconst 0, 1) := by decide +kernel
theorem dX4_isFit_39 : decode cX4_isFit 39 = .ok (.ireturn, 1) := by decide +kernel
theorem dX4_deepestFit_0 : decode cX4_deepestFit 0 = .ok (.bipush (-4), 2) := by decide +kernel
theorem dX4_deepestFit_2 : decode cX4_deepestFit 2 = .ok (.istore 5, 2) := by decide +kernel
theorem dX4_deepestFit_4 : decode cX4_deepestFit 4 = .ok (.iconst 0, 1) := by decide +kernel
theorem dX4_deepestFit_5 : decode cX4_deepestFit 5 = .ok (.istore 6, 2) := by decide +kernel
theorem dX4_deepestFit_7 : decode cX4_deepestFit 7 = .ok (.iload 6, 2) := by decide +kernel
theorem dX4_deepestFit_9 : decode cX4_deepestFit 9 = .ok (.aload_n 0, 1) := by decide +kernel
theorem dX4_deepestFit_10 : decode cX4_deepestFit 10 = .ok (.getfield 33, 3) := by decide +kernel
theorem dX4_deepestFit_13 : decode cX4_deepestFit 13 = .ok (.if_icmp .ge 52, 3) := by decide +kernel
theorem dX4_deepestFit_16 : decode cX4_deepestFit 16 = .ok (.aload_n 3, 1) := by decide +kernel
theorem dX4_deepestFit_17 : decode cX4_deepestFit 17 = .ok (.iload 4, 2) := by decide +kernel
theorem dX4_deepestFit_19 : decode cX4_deepestFit 19 = .ok (.iload 6, 2) := by decide +kernel
theorem dX4_deepestFit_21 : decode cX4_deepestFit 21 = .ok (.iadd, 1) := by decide +kernel
theorem dX4_deepestFit_22 : decode cX4_deepestFit 22 = .ok (.iaload, 1) := by decide +kernel
theorem dX4_deepestFit_23 : decode cX4_deepestFit 23 = .ok (.istore 7, 2) := by decide +kernel
theorem dX4_deepestFit_25 : decode cX4_deepestFit 25 = .ok (.aload_n 0, 1) := by decide +kernel
theorem dX4_deepestFit_26 : decode cX4_deepestFit 26 = .ok (.iload 6, 2) := by decide +kernel
theorem dX4_deepestFit_28 : decode cX4_deepestFit 28 = .ok (.iload_n 1, 1) := by decide +kernel
theorem dX4_deepestFit_29 : decode cX4_deepestFit 29 = .ok (.iload_n 2, 1) := by decide +kernel
theorem dX4_deepestFit_30 : decode cX4_deepestFit 30 = .ok (.iload 7, 2) := by decide +kernel
theorem dX4_deepestFit_32 : decode cX4_deepestFit 32 = .ok (.invokevirtual 63, 3) := by decide +kernel
theorem dX4_deepestFit_35 : decode cX4_deepestFit 35 = .ok (.ifCond .eq 24, 3) := by decide +kernel
theorem dX4_deepestFit_38 : decode cX4_deepestFit 38 = .ok (.iload 5, 2) := by decide +kernel
theorem dX4_deepestFit_40 : decode cX4_deepestFit 40 = .ok (.ifCond .lt 15, 3) := by decide +kernel
theorem dX4_deepestFit_43 : decode cX4_deepestFit 43 = .ok (.iload 7, 2) := by decide +kernel
theorem dX4_deepestFit_45 : decode cX4_deepestFit 45 = .ok (.aload_n 3, 1) := by decide +kernel
theorem dX4_deepestFit_46 : decode cX4_deepestFit 46 = .ok (.iload 4, 2) := by decide +kernel
theorem dX4_deepestFit_48 : decode cX4_deepestFit 48 = .ok (.iload 5, 2) := by decide +kernel
theorem dX4_deepestFit_50 : decode cX4_deepestFit 50 = .ok (.iadd, 1) := by decide +kernel
theorem dX4_deepestFit_51 : decode cX4_deepestFit 51 = .ok (.iaload, 1) := by decide +kernel
theorem dX4_deepestFit_52 : decode cX4_deepestFit 52 = .ok (.if_icmp .le 7, 3) := by decide +kernel
theorem dX4_deepestFit_55 : decode cX4_deepestFit 55 = .ok (.iload 6, 2) := by decide +kernel
theorem dX4_deepestFit_57 : decode cX4_deepestFit 57 = .ok (.istore 5, 2) := by decide +kernel
theorem dX4_deepestFit_59 : decode cX4_deepestFit 59 = .ok (.iinc 6 1, 3) := by decide +kernel
theorem dX4_deepestFit_62 : decode cX4_deepestFit 62 = .ok (.goto (-55), 3) := by decide +kernel
theorem dX4_deepestFit_65 : decode cX4_deepestFit 65 = .ok (.iload 5, 2) := by decide +kernel
theorem dX4_deepestFit_67 : decode cX4_deepestFit 67 = .ok (.ireturn, 1) := by decide +kernel
theorem dX4_lessBy_0 : decode cX4_lessBy 0 = .ok (.aload_n 0, 1) := by decide +kernel
theorem dX4_lessBy_1 : decode cX4_lessBy 1 = .ok (.getfield 11, 3) := by decide +kernel
theorem dX4_lessBy_4 : decode cX4_lessBy 4 = .ok (.iload_n 1, 1) := by decide +kernel
theorem dX4_lessBy_5 : decode cX4_lessBy 5 = .ok (.iaload, 1) := by decide +kernel
theorem dX4_lessBy_6 : decode cX4_lessBy 6 = .ok (.tableswitch 75 1 4 #[30, 34, 39, 58], 30) := by decide +kernel
theorem dX4_lessBy_36 : decode cX4_lessBy 36 = .ok (.invokestatic 67, 3) := by decide +kernel
theorem dX4_lessBy_39 : decode cX4_lessBy 39 = .ok (.ireturn, 1) := by decide +kernel
theorem dX4_lessBy_40 : decode cX4_lessBy 40 = .ok (.aload_n 0, 1) := by decide +kernel
theorem dX4_lessBy_41 : decode cX4_lessBy 41 = .ok (.invokevirtual 70, 3) := by decide +kernel
theorem dX4_lessBy_44 : decode cX4_lessBy 44 = .ok (.ireturn, 1) := by decide +kernel
theorem dX4_lessBy_45 : decode cX4_lessBy 45 = .ok (.aload_n 0, 1) := by decide +kernel
theorem dX4_lessBy_46 : decode cX4_lessBy 46 = .ok (.getfield 18, 3) := by decide +kernel
theorem dX4_lessBy_49 : decode cX4_lessBy 49 = .ok (.iload_n 1, 1) := by decide +kernel
theorem dX4_lessBy_50 : decode cX4_lessBy 50 = .ok (.iaload, 1) := by decide +kernel
theorem dX4_lessBy_51 : decode cX4_lessBy 51 = .ok (.bipush 30, 2) := by decide +kernel
theorem dX4_lessBy_53 : decode cX4_lessBy 53 = .ok (.if_icmp .lt 7, 3) := by decide +kernel
theorem dX4_lessBy_56 : decode cX4_lessBy 56 = .ok (.iconst 0, 1) := by decide +kernel
theorem dX4_lessBy_57 : decode cX4_lessBy 57 = .ok (.goto 6, 3) := by decide +kernel
theorem dX4_lessBy_60 : decode cX4_lessBy 60 = .ok (.invokestatic 67, 3) := by decide +kernel
theorem dX4_lessBy_63 : decode cX4_lessBy 63 = .ok (.ireturn, 1) := by decide +kernel
theorem dX4_lessBy_64 : decode cX4_lessBy 64 = .ok (.aload_n 0, 1) := by decide +kernel
theorem dX4_lessBy_65 : decode cX4_lessBy 65 = .ok (.invokevirtual 70, 3) := by decide +kernel
theorem dX4_lessBy_68 : decode cX4_lessBy 68 = .ok (.iconst 2, 1) := by decide +kernel
theorem dX4_lessBy_69 : decode cX4_lessBy 69 = .ok (.iload_n 2, 1) := by decide +kernel
theorem dX4_lessBy_70 : decode cX4_lessBy 70 = .ok (.iload_n 1, 1) := by decide +kernel
theorem dX4_lessBy_71 : decode cX4_lessBy 71 = .ok (.invokestatic 73, 3) := by decide +kernel
theorem dX4_lessBy_74 : decode cX4_lessBy 74 = .ok (.iand, 1) := by decide +kernel
theorem dX4_lessBy_75 : decode cX4_lessBy 75 = .ok (.invokestatic 77, 3) := by decide +kernel
theorem dX4_lessBy_78 : decode cX4_lessBy 78 = .ok (.imul, 1) := by decide +kernel
theorem dX4_lessBy_79 : decode cX4_lessBy 79 = .ok (.iadd, 1) := by decide +kernel
theorem dX4_lessBy_80 : decode cX4_lessBy 80 = .ok (.ireturn, 1) := by decide +kernel
theorem dX4_lessBy_81 : decode cX4_lessBy 81 = .ok (.iconst 2, 1) := by decide +kernel
theorem dX4_lessBy_82 : decode cX4_lessBy 82 = .ok (.ireturn, 1) := by decide +kernel
theorem dX4_shadyLoss_0 : decode cX4_shadyLoss 0 = .ok (.iconst 1, 1) := by decide +kernel
theorem dX4_shadyLoss_1 : decode cX4_shadyLoss 1 = .ok (.ireturn, 1) := by decide +kernel
theorem dX4_kerbLoss_0 : decode cX4_kerbLoss 0 = .ok (.aload_n 0, 1) := by decide +kernel
theorem dX4_kerbLoss_1 : decode cX4_kerbLoss 1 = .ok (.getfield 40, 3) := by decide +kernel
theorem dX4_kerbLoss_4 : decode cX4_kerbLoss 4 = .ok (.iconst 2, 1) := by decide +kernel
theorem dX4_kerbLoss_5 : decode cX4_kerbLoss 5 = .ok (.irem, 1) := by decide +kernel
theorem dX4_kerbLoss_6 : decode cX4_kerbLoss 6 = .ok (.ifCond .ne 7, 3) := by decide +kernel
theorem dX4_kerbLoss_9 : decode cX4_kerbLoss 9 = .ok (.iconst 4, 1) := by decide +kernel
theorem dX4_kerbLoss_10 : decode cX4_kerbLoss 10 = .ok (.goto 4, 3) := by decide +kernel
theorem dX4_kerbLoss_13 : decode cX4_kerbLoss 13 = .ok (.iconst 2, 1) := by decide +kernel
theorem dX4_kerbLoss_14 : decode cX4_kerbLoss 14 = .ok (.ireturn, 1) := by decide +kernel
theorem dX4_neighbours_0 : decode cX4_neighbours 0 = .ok (.iconst 1, 1) := by decide +kernel
theorem dX4_neighbours_1 : decode cX4_neighbours 1 = .ok (.iload_n 0, 1) := by decide +kernel
theorem dX4_neighbours_2 : decode cX4_neighbours 2 = .ok (.ishl, 1) := by decide +kernel
theorem dX4_neighbours_3 : decode cX4_neighbours 3 = .ok (.istore_n 1, 1) := by decide +kernel
theorem dX4_neighbours_4 : decode cX4_neighbours 4 = .ok (.iload_n 1, 1) := by decide +kernel
theorem dX4_neighbours_5 : decode cX4_neighbours 5 = .ok (.iconst 1, 1) := by decide +kernel
theorem dX4_neighbours_6 : decode cX4_neighbours 6 = .ok (.ishl, 1) := by decide +kernel
theorem dX4_neighbours_7 : decode cX4_neighbours 7 = .ok (.iload_n 1, 1) := by decide +kernel
theorem dX4_neighbours_8 : decode cX4_neighbours 8 = .ok (.iconst 1, 1) := by decide +kernel
theorem dX4_neighbours_9 : decode cX4_neighbours 9 = .ok (.ishr, 1) := by decide +kernel
theorem dX4_neighbours_10 : decode cX4_neighbours 10 = .ok (.ior, 1) := by decide +kernel
theorem dX4_neighbours_11 : decode cX4_neighbours 11 = .ok (.ireturn, 1) := by decide +kernel
theorem dX4_passHour_0 : decode cX4_passHour 0 = .ok (.aload_n 0, 1) := by decide +kernel
theorem dX4_passHour_1 : decode cX4_passHour 1 = .ok (.invokevirtual 82, 3) := by decide +kernel
theorem dX4_passHour_4 : decode cX4_passHour 4 = .ok (.aload_n 0, 1) := by decide +kernel
theorem dX4_passHour_5 : decode cX4_passHour 5 = .ok (.invokevirtual 85, 3) := by decide +kernel
theorem dX4_passHour_8 : decode cX4_passHour 8 = .ok (.return_, 1) := by decide +kernel
theorem dX4_letClaim_0 : decode cX4_letClaim 0 = .ok (.iconst 0, 1) := by decide +kernel
theorem dX4_letClaim_1 : decode cX4_letClaim 1 = .ok (.istore_n 1, 1) := by decide +kernel
theorem dX4_letClaim_2 : decode cX4_letClaim 2 = .ok (.iload_n 1, 1) := by decide +kernel
theorem dX4_letClaim_3 : decode cX4_letClaim 3 = .ok (.aload_n 0, 1) := by decide +kernel
theorem dX4_letClaim_4 : decode cX4_letClaim 4 = .ok (.getfield 37, 3) := by decide +kernel
theorem dX4_letClaim_7 : decode cX4_letClaim 7 = .ok (.if_icmp .ge 50, 3) := by decide +kernel
theorem dX4_letClaim_10 : decode cX4_letClaim 10 = .ok (.aload_n 0, 1) := by decide +kernel
theorem dX4_letClaim_11 : decode cX4_letClaim 11 = .ok (.getfield 24, 3) := by decide +kernel
theorem dX4_letClaim_14 : decode cX4_letClaim 14 = .ok (.iload_n 1, 1) := by decide +kernel
theorem dX4_letClaim_15 : decode cX4_letClaim 15 = .ok (.iaload, 1) := by decide +kernel
theorem dX4_letClaim_16 : decode cX4_letClaim 16 = .ok (.aload_n 0, 1) := by decide +kernel
theorem dX4_letClaim_17 : decode cX4_letClaim 17 = .ok (.getfield 40, 3) := by decide +kernel
theorem dX4_letClaim_20 : decode cX4_letClaim 20 = .ok (.if_icmp .gt 31, 3) := by decide +kernel
theorem dX4_letClaim_23 : decode cX4_letClaim 23 = .ok (.aload_n 0, 1) := by decide +kernel
theorem dX4_letClaim_24 : decode cX4_letClaim 24 = .ok (.iload_n 1, 1) := by decide +kernel
theorem dX4_letClaim_25 : decode cX4_letClaim 25 = .ok (.invokevirtual 56, 3) := by decide +kernel
theorem dX4_letClaim_28 : decode cX4_letClaim 28 = .ok (.ifCond .ne 23, 3) := by decide +kernel
theorem dX4_letClaim_31 : decode cX4_letClaim 31 = .ok (.aload_n 0, 1) := by decide +kernel
theorem dX4_letClaim_32 : decode cX4_letClaim 32 = .ok (.getfield 30, 3) := by decide +kernel
theorem dX4_letClaim_35 : decode cX4_letClaim 35 = .ok (.iload_n 1, 1) := by decide +kernel
theorem dX4_letClaim_36 : decode cX4_letClaim 36 = .ok (.aload_n 0, 1) := by decide +kernel
theorem dX4_letClaim_37 : decode cX4_letClaim 37 = .ok (.iload_n 1, 1) := by decide +kernel
theorem dX4_letClaim_38 : decode cX4_letClaim 38 = .ok (.aload_n 0, 1) := by decide +kernel
theorem dX4_letClaim_39 : decode cX4_letClaim 39 = .ok (.invokevirtual 59, 3) := by decide +kernel
theorem dX4_letClaim_42 : decode cX4_letClaim 42 = .ok (.aload_n 0, 1) := by decide +kernel
theorem dX4_letClaim_43 : decode cX4_letClaim 43 = .ok (.getfield 18, 3) := by decide +kernel
theorem dX4_letClaim_46 : decode cX4_letClaim 46 = .ok (.iconst 0, 1) := by decide +kernel
theorem dX4_letClaim_47 : decode cX4_letClaim 47 = .ok (.invokevirtual 88, 3) := by decide +kernel
theorem dX4_letClaim_50 : decode cX4_letClaim 50 = .ok (.iastore, 1) := by decide +kernel
theorem dX4_letClaim_51 : decode cX4_letClaim 51 = .ok (.iinc 1 1, 3) := by decide +kernel
theorem dX4_letClaim_54 : decode cX4_letClaim 54 = .ok (.goto (-52), 3) := by decide +kernel
theorem dX4_letClaim_57 : decode cX4_letClaim 57 = .ok (.return_, 1) := by decide +kernel
theorem dX4_lessen_0 : decode cX4_lessen 0 = .ok (.aload_n 0, 1) := by decide +kernel
theorem dX4_lessen_1 : decode cX4_lessen 1 = .ok (.invokevirtual 92, 3) := by decide +kernel
theorem dX4_lessen_4 : decode cX4_lessen 4 = .ok (.istore_n 1, 1) := by decide +kernel
theorem dX4_lessen_5 : decode cX4_lessen 5 = .ok (.iconst 0, 1) := by decide +kernel
theorem dX4_lessen_6 : decode cX4_lessen 6 = .ok (.istore_n 2, 1) := by decide +kernel
theorem dX4_lessen_7 : decode cX4_lessen 7 = .ok (.iload_n 2, 1) := by decide +kernel
theorem dX4_lessen_8 : decode cX4_lessen 8 = .ok (.aload_n 0, 1) := by decide +kernel
theorem dX4_lessen_9 : decode cX4_lessen 9 = .ok (.getfield 33, 3) := by decide +kernel
theorem dX4_lessen_12 : decode cX4_lessen 12 = .ok (.if_icmp .ge 32, 3) := by decide +kernel
theorem dX4_lessen_15 : decode cX4_lessen 15 = .ok (.aload_n 0, 1) := by decide +kernel
theorem dX4_lessen_16 : decode cX4_lessen 16 = .ok (.getfield 18, 3) := by decide +kernel
theorem dX4_lessen_19 : decode cX4_lessen 19 = .ok (.iload_n 2, 1) := by decide +kernel
theorem dX4_lessen_20 : decode cX4_lessen 20 = .ok (.iconst 0, 1) := by decide +kernel
theorem dX4_lessen_21 : decode cX4_lessen 21 = .ok (.aload_n 0, 1) := by decide +kernel
theorem dX4_lessen_22 : decode cX4_lessen 22 = .ok (.getfield 18, 3) := by decide +kernel
theorem dX4_lessen_25 : decode cX4_lessen 25 = .ok (.iload_n 2, 1) := by decide +kernel
theorem dX4_lessen_26 : decode cX4_lessen 26 = .ok (.iaload, 1) := by decide +kernel
theorem dX4_lessen_27 : decode cX4_lessen 27 = .ok (.aload_n 0, 1) := by decide +kernel
theorem dX4_lessen_28 : decode cX4_lessen 28 = .ok (.iload_n 2, 1) := by decide +kernel
theorem dX4_lessen_29 : decode cX4_lessen 29 = .ok (.iload_n 1, 1) := by decide +kernel
theorem dX4_lessen_30 : decode cX4_lessen 30 = .ok (.invokevirtual 95, 3) := by decide +kernel
theorem dX4_lessen_33 : decode cX4_lessen 33 = .ok (.isub, 1) := by decide +kernel
theorem dX4_lessen_34 : decode cX4_lessen 34 = .ok (.invokestatic 99, 3) := by decide +kernel
theorem dX4_lessen_37 : decode cX4_lessen 37 = .ok (.iastore, 1) := by decide +kernel
theorem dX4_lessen_38 : decode cX4_lessen 38 = .ok (.iinc 2 1, 3) := by decide +kernel
theorem dX4_lessen_41 : decode cX4_lessen 41 = .ok (.goto (-34), 3) := by decide +kernel
theorem dX4_lessen_44 : decode cX4_lessen 44 = .ok (.aload_n 0, 1) := by decide +kernel
theorem dX4_lessen_45 : decode cX4_lessen 45 = .ok (.dup, 1) := by decide +kernel
theorem dX4_lessen_46 : decode cX4_lessen 46 = .ok (.getfield 40, 3) := by decide +kernel
theorem dX4_lessen_49 : decode cX4_lessen 49 = .ok (.iconst 1, 1) := by decide +kernel
theorem dX4_lessen_50 : decode cX4_lessen 50 = .ok (.iadd, 1) := by decide +kernel
theorem dX4_lessen_51 : decode cX4_lessen 51 = .ok (.putfield 40, 3) := by decide +kernel
theorem dX4_lessen_54 : decode cX4_lessen 54 = .ok (.return_, 1) := by decide +kernel
theorem dX4_claimantsBehind_0 : decode cX4_claimantsBehind 0 = .ok (.iconst 0, 1) := by decide +kernel
theorem dX4_claimantsBehind_1 : decode cX4_claimantsBehind 1 = .ok (.istore_n 2, 1) := by decide +kernel
theorem dX4_claimantsBehind_2 : decode cX4_claimantsBehind 2 = .ok (.iload_n 2, 1) := by decide +kernel
theorem dX4_claimantsBehind_3 : decode cX4_claimantsBehind 3 = .ok (.iload_n 1, 1) := by decide +kernel
theorem dX4_claimantsBehind_4 : decode cX4_claimantsBehind 4 = .ok (.if_icmp .ge 27, 3) := by decide +kernel
theorem dX4_claimantsBehind_7 : decode cX4_claimantsBehind 7 = .ok (.iload_n 2, 1) := by decide +kernel
theorem dX4_claimantsBehind_8 : decode cX4_claimantsBehind 8 = .ok (.ifCond .le 13, 3) := by decide +kernel
theorem dX4_claimantsBehind_11 : decode cX4_claimantsBehind 11 = .ok (.aload_n 0, 1) := by decide +kernel
theorem dX4_claimantsBehind_12 : decode cX4_claimantsBehind 12 = .ok (.invokevirtual 104, 3) := by decide +kernel
theorem dX4_claimantsBehind_15 : decode cX4_claimantsBehind 15 = .ok (.ifCond .ne 6, 3) := by decide +kernel
theorem dX4_claimantsBehind_18 : decode cX4_claimantsBehind 18 = .ok (.goto 13, 3) := by decide +kernel
theorem dX4_claimantsBehind_21 : decode cX4_claimantsBehind 21 = .ok (.aload_n 0, 1) := by decide +kernel
theorem dX4_claimantsBehind_22 : decode cX4_claimantsBehind 22 = .ok (.invokevirtual 108, 3) := by decide +kernel
theorem dX4_claimantsBehind_25 : decode cX4_claimantsBehind 25 = .ok (.iinc 2 1, 3) := by decide +kernel
theorem dX4_claimantsBehind_28 : decode cX4_claimantsBehind 28 = .ok (.goto (-26), 3) := by decide +kernel
theorem dX4_claimantsBehind_31 : decode cX4_claimantsBehind 31 = .ok (.aload_n 0, 1) := by decide +kernel
theorem dX4_claimantsBehind_32 : decode cX4_claimantsBehind 32 = .ok (.invokevirtual 111, 3) := by decide +kernel
theorem dX4_claimantsBehind_35 : decode cX4_claimantsBehind 35 = .ok (.ireturn, 1) := by decide +kernel
theorem dX4_isAnyoneToCome_0 : decode cX4_isAnyoneToCome 0 = .ok (.iconst 0, 1) := by decide +kernel
theorem dX4_isAnyoneToCome_1 : decode cX4_isAnyoneToCome 1 = .ok (.istore_n 1, 1) := by decide +kernel
theorem dX4_isAnyoneToCome_2 : decode cX4_isAnyoneToCome 2 = .ok (.iload_n 1, 1) := by decide +kernel
theorem dX4_isAnyoneToCome_3 : decode cX4_isAnyoneToCome 3 = .ok (.aload_n 0, 1) := by decide +kernel
theorem dX4_isAnyoneToCome_4 : decode cX4_isAnyoneToCome 4 = .ok (.getfield 37, 3) := by decide +kernel
theorem dX4_isAnyoneToCome_7 : decode cX4_isAnyoneToCome 7 = .ok (.if_icmp .ge 32, 3) := by decide +kernel
theorem dX4_isAnyoneToCome_10 : decode cX4_isAnyoneToCome 10 = .ok (.aload_n 0, 1) := by decide +kernel
theorem dX4_isAnyoneToCome_11 : decode cX4_isAnyoneToCome 11 = .ok (.getfield 24, 3) := by decide +kernel
theorem dX4_isAnyoneToCome_14 : decode cX4_isAnyoneToCome 14 = .ok (.iload_n 1, 1) := by decide +kernel
theorem dX4_isAnyoneToCome_15 : decode cX4_isAnyoneToCome 15 = .ok (.iaload, 1) := by decide +kernel
theorem dX4_isAnyoneToCome_16 : decode cX4_isAnyoneToCome 16 = .ok (.aload_n 0, 1) := by decide +kernel
theorem dX4_isAnyoneToCome_17 : decode cX4_isAnyoneToCome 17 = .ok (.getfield 40, 3) := by decide +kernel
theorem dX4_isAnyoneToCome_20 : decode cX4_isAnyoneToCome 20 = .ok (.if_icmp .lt 13, 3) := by decide +kernel
theorem dX4_isAnyoneToCome_23 : decode cX4_isAnyoneToCome 23 = .ok (.aload_n 0, 1) := by decide +kernel
theorem dX4_isAnyoneToCome_24 : decode cX4_isAnyoneToCome 24 = .ok (.iload_n 1, 1) := by decide +kernel
theorem dX4_isAnyoneToCome_25 : decode cX4_isAnyoneToCome 25 = .ok (.invokevirtual 56, 3) := by decide +kernel
theorem dX4_isAnyoneToCome_28 : decode cX4_isAnyoneToCome 28 = .ok (.ifCond .ne 5, 3) := by decide +kernel
theorem dX4_isAnyoneToCome_31 : decode cX4_isAnyoneToCome 31 = .ok (.iconst 1, 1) := by decide +kernel
theorem dX4_isAnyoneToCome_32 : decode cX4_isAnyoneToCome 32 = .ok (.ireturn, 1) := by decide +kernel
theorem dX4_isAnyoneToCome_33 : decode cX4_isAnyoneToCome 33 = .ok (.iinc 1 1, 3) := by decide +kernel
theorem dX4_isAnyoneToCome_36 : decode cX4_isAnyoneToCome 36 = .ok (.goto (-34), 3) := by decide +kernel
theorem dX4_isAnyoneToCome_39 : decode cX4_isAnyoneToCome 39 = .ok (.iconst 0, 1) := by decide +kernel
theorem dX4_isAnyoneToCome_40 : decode cX4_isAnyoneToCome 40 = .ok (.ireturn, 1) := by decide +kernel
theorem dX4_deepen_0 : decode cX4_deepen 0 = .ok (.iconst 0, 1) := by decide +kernel
theorem dX4_deepen_1 : decode cX4_deepen 1 = .ok (.istore_n 2, 1) := by decide +kernel
theorem dX4_deepen_2 : decode cX4_deepen 2 = .ok (.iload_n 2, 1) := by decide +kernel
theorem dX4_deepen_3 : decode cX4_deepen 3 = .ok (.aload_n 0, 1) := by decide +kernel
theorem dX4_deepen_4 : decode cX4_deepen 4 = .ok (.getfield 33, 3) := by decide +kernel
theorem dX4_deepen_7 : decode cX4_deepen 7 = .ok (.if_icmp .ge 28, 3) := by decide +kernel
theorem dX4_deepen_10 : decode cX4_deepen 10 = .ok (.aload_n 0, 1) := by decide +kernel
theorem dX4_deepen_11 : decode cX4_deepen 11 = .ok (.getfield 18, 3) := by decide +kernel
theorem dX4_deepen_14 : decode cX4_deepen 14 = .ok (.iload_n 2, 1) := by decide +kernel
theorem dX4_deepen_15 : decode cX4_deepen 15 = .ok (.bipush 60, 2) := by decide +kernel
theorem dX4_deepen_17 : decode cX4_deepen 17 = .ok (.aload_n 0, 1) := by decide +kernel
theorem dX4_deepen_18 : decode cX4_deepen 18 = .ok (.getfield 18, 3) := by decide +kernel
theorem dX4_deepen_21 : decode cX4_deepen 21 = .ok (.iload_n 2, 1) := by decide +kernel
theorem dX4_deepen_22 : decode cX4_deepen 22 = .ok (.iaload, 1) := by decide +kernel
theorem dX4_deepen_23 : decode cX4_deepen 23 = .ok (.iload_n 1, 1) := by decide +kernel
theorem dX4_deepen_24 : decode cX4_deepen 24 = .ok (.iadd, 1) := by decide +kernel
theorem dX4_deepen_25 : decode cX4_deepen 25 = .ok (.invokestatic 114, 3) := by decide +kernel
theorem dX4_deepen_28 : decode cX4_deepen 28 = .ok (.iastore, 1) := by decide +kernel
theorem dX4_deepen_29 : decode cX4_deepen 29 = .ok (.iinc 2 1, 3) := by decide +kernel
theorem dX4_deepen_32 : decode cX4_deepen 32 = .ok (.goto (-30), 3) := by decide +kernel
theorem dX4_deepen_35 : decode cX4_deepen 35 = .ok (.return_, 1) := by decide +kernel
theorem dX4_halve_0 : decode cX4_halve 0 = .ok (.aload_n 0, 1) := by decide +kernel
theorem dX4_halve_1 : decode cX4_halve 1 = .ok (.getfield 18, 3) := by decide +kernel
theorem dX4_halve_4 : decode cX4_halve 4 = .ok (.iload_n 1, 1) := by decide +kernel
theorem dX4_halve_5 : decode cX4_halve 5 = .ok (.dup2, 1) := by decide +kernel
theorem dX4_halve_6 : decode cX4_halve 6 = .ok (.iaload, 1) := by decide +kernel
theorem dX4_halve_7 : decode cX4_halve 7 = .ok (.iconst 2, 1) := by decide +kernel
theorem dX4_halve_8 : decode cX4_halve 8 = .ok (.idiv, 1) := by decide +kernel
theorem dX4_halve_9 : decode cX4_halve 9 = .ok (.iastore, 1) := by decide +kernel
theorem dX4_halve_10 : decode cX4_halve 10 = .ok (.return_, 1) := by decide +kernel
theorem dX4_drawCart_0 : decode cX4_drawCart 0 = .ok (.aload_n 0, 1) := by decide +kernel
theorem dX4_drawCart_1 : decode cX4_drawCart 1 = .ok (.aload_n 0, 1) := by decide +kernel
theorem dX4_drawCart_2 : decode cX4_drawCart 2 = .ok (.getfield 43, 3) := by decide +kernel
theorem dX4_drawCart_5 : decode cX4_drawCart 5 = .ok (.ldc 117, 2) := by decide +kernel
theorem dX4_drawCart_7 : decode cX4_drawCart 7 = .ok (.imul, 1) := by decide +kernel
theorem dX4_drawCart_8 : decode cX4_drawCart 8 = .ok (.sipush 12345, 3) := by decide +kernel
theorem dX4_drawCart_11 : decode cX4_drawCart 11 = .ok (.iadd, 1) := by decide +kernel
theorem dX4_drawCart_12 : decode cX4_drawCart 12 = .ok (.ldc 118, 2) := by decide +kernel
theorem dX4_drawCart_14 : decode cX4_drawCart 14 = .ok (.iand, 1) := by decide +kernel
theorem dX4_drawCart_15 : decode cX4_drawCart 15 = .ok (.putfield 43, 3) := by decide +kernel
theorem dX4_drawCart_18 : decode cX4_drawCart 18 = .ok (.aload_n 0, 1) := by decide +kernel
theorem dX4_drawCart_19 : decode cX4_drawCart 19 = .ok (.getfield 33, 3) := by decide +kernel
theorem dX4_drawCart_22 : decode cX4_drawCart 22 = .ok (.ifCond .le 32, 3) := by decide +kernel
theorem dX4_drawCart_25 : decode cX4_drawCart 25 = .ok (.aload_n 0, 1) := by decide +kernel
theorem dX4_drawCart_26 : decode cX4_drawCart 26 = .ok (.getfield 43, 3) := by decide +kernel
theorem dX4_drawCart_29 : decode cX4_drawCart 29 = .ok (.ldc 119, 2) := by decide +kernel
theorem dX4_drawCart_31 : decode cX4_drawCart 31 = .ok (.idiv, 1) := by decide +kernel
theorem dX4_drawCart_32 : decode cX4_drawCart 32 = .ok (.iconst 3, 1) := by decide +kernel
theorem dX4_drawCart_33 : decode cX4_drawCart 33 = .ok (.irem, 1) := by decide +kernel
theorem dX4_drawCart_34 : decode cX4_drawCart 34 = .ok (.ifCond .ne 20, 3) := by decide +kernel
theorem dX4_drawCart_37 : decode cX4_drawCart 37 = .ok (.aload_n 0, 1) := by decide +kernel
theorem dX4_drawCart_38 : decode cX4_drawCart 38 = .ok (.aload_n 0, 1) := by decide +kernel
theorem dX4_drawCart_39 : decode cX4_drawCart 39 = .ok (.getfield 43, 3) := by decide +kernel
theorem dX4_drawCart_42 : decode cX4_drawCart 42 = .ok (.sipush 128, 3) := by decide +kernel
theorem dX4_drawCart_45 : decode cX4_drawCart 45 = .ok (.idiv, 1) := by decide +kernel
theorem dX4_drawCart_46 : decode cX4_drawCart 46 = .ok (.aload_n 0, 1) := by decide +kernel
theorem dX4_drawCart_47 : decode cX4_drawCart 47 = .ok (.getfield 33, 3) := by decide +kernel
theorem dX4_drawCart_50 : decode cX4_drawCart 50 = .ok (.irem, 1) := by decide +kernel
theorem dX4_drawCart_51 : decode cX4_drawCart 51 = .ok (.invokevirtual 120, 3) := by decide +kernel
theorem dX4_drawCart_54 : decode cX4_drawCart 54 = .ok (.return_, 1) := by decide +kernel
theorem dX5_init_0 : decode cX5_init 0 = .ok (.aload_n 0, 1) := by decide +kernel
theorem dX5_init_1 : decode cX5_init 1 = .ok (.invokespecial 3, 3) := by decide +kernel
theorem dX5_init_4 : decode cX5_init 4 = .ok (.aload_n 0, 1) := by decide +kernel
theorem dX5_init_5 : decode cX5_init 5 = .ok (.bipush 90, 2) := by decide +kernel
theorem dX5_init_7 : decode cX5_init 7 = .ok (.newarray .char, 2) := by decide +kernel
theorem dX5_init_9 : decode cX5_init 9 = .ok (.putfield 11, 3) := by decide +kernel
theorem dX5_init_12 : decode cX5_init 12 = .ok (.aload_n 0, 1) := by decide +kernel
theorem dX5_init_13 : decode cX5_init 13 = .ok (.iconst 0, 1) := by decide +kernel
theorem dX5_init_14 : decode cX5_init 14 = .ok (.putfield 15, 3) := by decide +kernel
theorem dX5_init_17 : decode cX5_init 17 = .ok (.aload_n 0, 1) := by decide +kernel
theorem dX5_init_18 : decode cX5_init 18 = .ok (.iconst 0, 1) := by decide +kernel
theorem dX5_init_19 : decode cX5_init 19 = .ok (.putfield 19, 3) := by decide +kernel
theorem dX5_init_22 : decode cX5_init 22 = .ok (.return_, 1) := by decide +kernel
theorem dX5_add_0 : decode cX5_add 0 = .ok (.aload_n 0, 1) := by decide +kernel
theorem dX5_add_1 : decode cX5_add 1 = .ok (.getfield 15, 3) := by decide +kernel
theorem dX5_add_4 : decode cX5_add 4 = .ok (.bipush 90, 2) := by decide +kernel
theorem dX5_add_6 : decode cX5_add 6 = .ok (.if_icmp .lt 6, 3) := by decide +kernel
theorem dX5_add_9 : decode cX5_add 9 = .ok (.bipush (-3), 2) := by decide +kernel
theorem dX5_add_11 : decode cX5_add 11 = .ok (.ireturn, 1) := by decide +kernel
theorem dX5_add_12 : decode cX5_add 12 = .ok (.aload_n 0, 1) := by decide +kernel
theorem dX5_add_13 : decode cX5_add 13 = .ok (.getfield 11, 3) := by decide +kernel
theorem dX5_add_16 : decode cX5_add 16 = .ok (.aload_n 0, 1) := by decide +kernel
theorem dX5_add_17 : decode cX5_add 17 = .ok (.getfield 15, 3) := by decide +kernel
theorem dX5_add_20 : decode cX5_add 20 = .ok (.iload_n 1, 1) := by decide +kernel
theorem dX5_add_21 : decode cX5_add 21 = .ok (.castore, 1) := by decide +kernel
theorem dX5_add_22 : decode cX5_add 22 = .ok (.aload_n 0, 1) := by decide +kernel
theorem dX5_add_23 : decode cX5_add 23 = .ok (.dup, 1) := by decide +kernel
theorem dX5_add_24 : decode cX5_add 24 = .ok (.getfield 15, 3) := by decide +kernel
theorem dX5_add_27 : decode cX5_add 27 = .ok (.iconst 1, 1) := by decide +kernel
theorem dX5_add_28 : decode cX5_add 28 = .ok (.iadd, 1) := by decide +kernel
theorem dX5_add_29 : decode cX5_add 29 = .ok (.putfield 15, 3) := by decide +kernel
theorem dX5_add_32 : decode cX5_add 32 = .ok (.aload_n 0, 1) := by decide +kernel
theorem dX5_add_33 : decode cX5_add 33 = .ok (.getfield 15, 3) := by decide +kernel
theorem dX5_add_36 : decode cX5_add 36 = .ok (.ireturn, 1) := by decide +kernel
theorem dX5_parse_0 : decode cX5_parse 0 = .ok (.aload_n 0, 1) := by decide +kernel
theorem dX5_parse_1 : decode cX5_parse 1 = .ok (.iconst 0, 1) := by decide +kernel
theorem dX5_parse_2 : decode cX5_parse 2 = .ok (.putfield 19, 3) := by decide +kernel
theorem dX5_parse_5 : decode cX5_parse 5 = .ok (.aload_n 1, 1) := by decide +kernel
theorem dX5_parse_6 : decode cX5_parse 6 = .ok (.invokevirtual 22, 3) := by decide +kernel
theorem dX5_parse_9 : decode cX5_parse 9 = .ok (.aload_n 0, 1) := by decide +kernel
theorem dX5_parse_10 : decode cX5_parse 10 = .ok (.aload_n 1, 1) := by decide +kernel
theorem dX5_parse_11 : decode cX5_parse 11 = .ok (.invokevirtual 27, 3) := by decide +kernel
theorem dX5_parse_14 : decode cX5_parse 14 = .ok (.istore_n 2, 1) := by decide +kernel
theorem dX5_parse_15 : decode cX5_parse 15 = .ok (.iload_n 2, 1) := by decide +kernel
theorem dX5_parse_16 : decode cX5_parse 16 = .ok (.ifCond .ne 18, 3) := by decide +kernel
theorem dX5_parse_19 : decode cX5_parse 19 = .ok (.aload_n 0, 1) := by decide +kernel
theorem dX5_parse_20 : decode cX5_parse 20 = .ok (.bipush 59, 2) := by decide +kernel
theorem dX5_parse_22 : decode cX5_parse 22 = .ok (.invokevirtual 31, 3) := by decide +kernel
theorem dX5_parse_25 : decode cX5_parse 25 = .ok (.ifCond .eq 9, 3) := by decide +kernel
theorem dX5_parse_28 : decode cX5_parse 28 = .ok (.aload_n 0, 1) := by decide +kernel
theorem dX5_parse_29 : decode cX5_parse 29 = .ok (.aload_n 1, 1) := by decide +kernel
theorem dX5_parse_30 : decode cX5_parse 30 = .ok (.invokevirtual 35, 3) := by decide +kernel
theorem dX5_parse_33 : decode cX5_parse 33 = .ok (.istore_n 2, 1) := by decide +kernel
theorem dX5_parse_34 : decode cX5_parse 34 = .ok (.iload_n 2, 1) := by decide +kernel
theorem dX5_parse_35 : decode cX5_parse 35 = .ok (.ifCond .ne 30, 3) := by decide +kernel
theorem dX5_parse_38 : decode cX5_parse 38 = .ok (.aload_n 0, 1) := by decide +kernel
theorem dX5_parse_39 : decode cX5_parse 39 = .ok (.invokevirtual 38, 3) := by decide +kernel
theorem dX5_parse_42 : decode cX5_parse 42 = .ok (.aload_n 0, 1) := by decide +kernel
theorem dX5_parse_43 : decode cX5_parse 43 = .ok (.getfield 19, 3) := by decide +kernel
theorem dX5_parse_46 : decode cX5_parse 46 = .ok (.aload_n 0, 1) := by decide +kernel
theorem dX5_parse_47 : decode cX5_parse 47 = .ok (.getfield 15, 3) := by decide +kernel
theorem dX5_parse_50 : decode cX5_parse 50 = .ok (.if_icmp .ge 13, 3) := by decide +kernel
theorem dX5_parse_53 : decode cX5_parse 53 = .ok (.aload_n 0, 1) := by decide +kernel
theorem dX5_parse_54 : decode cX5_parse 54 = .ok (.getfield 19, 3) := by decide +kernel
theorem dX5_parse_57 : decode cX5_parse 57 = .ok (.invokestatic 41, 3) := by decide +kernel
theorem dX5_parse_60 : decode cX5_parse 60 = .ok (.goto 4, 3) := by decide +kernel
theorem dX5_parse_63 : decode cX5_parse 63 = .ok (.iconst 0, 1) := by decide +kernel
theorem dX5_parse_64 : decode cX5_parse 64 = .ok (.istore_n 2, 1) := by decide +kernel
theorem dX5_parse_65 : decode cX5_parse 65 = .ok (.aload_n 0, 1) := by decide +kernel
theorem dX5_parse_66 : decode cX5_parse 66 = .ok (.iconst 0, 1) := by decide +kernel
theorem dX5_parse_67 : decode cX5_parse 67 = .ok (.putfield 15, 3) := by decide +kernel
theorem dX5_parse_70 : decode cX5_parse 70 = .ok (.iload_n 2, 1) := by decide +kernel
theorem dX5_parse_71 : decode cX5_parse 71 = .ok (.ireturn, 1) := by decide +kernel
theorem dX5_parsePuddles_0 : decode cX5_parsePuddles 0 = .ok (.iconst 0, 1) := by decide +kernel
theorem dX5_parsePuddles_1 : decode cX5_parsePuddles 1 = .ok (.istore_n 2, 1) := by decide +kernel
theorem dX5_parsePuddles_2 : decode cX5_parsePuddles 2 = .ok (.iload_n 2, 1) := by decide +kernel
theorem dX5_parsePuddles_3 : decode cX5_parsePuddles 3 = .ok (.bipush 7, 2) := by decide +kernel
theorem dX5_parsePuddles_5 : decode cX5_parsePuddles 5 = .ok (.if_icmp .ge 76, 3) := by decide +kernel
theorem dX5_parsePuddles_8 : decode cX5_parsePuddles 8 = .ok (.iload_n 2, 1) := by decide +kernel
theorem dX5_parsePuddles_9 : decode cX5_parsePuddles 9 = .ok (.ifCond .le 14, 3) := by decide +kernel
theorem dX5_parsePuddles_12 : decode cX5_parsePuddles 12 = .ok (.aload_n 0, 1) := by decide +kernel
theorem dX5_parsePuddles_13 : decode cX5_parsePuddles 13 = .ok (.bipush 44, 2) := by decide +kernel
theorem dX5_parsePuddles_15 : decode cX5_parsePuddles 15 = .ok (.invokevirtual 31, 3) := by decide +kernel
theorem dX5_parsePuddles_18 : decode cX5_parsePuddles 18 = .ok (.ifCond .ne 5, 3) := by decide +kernel
theorem dX5_parsePuddles_21 : decode cX5_parsePuddles 21 = .ok (.iconst 0, 1) := by decide +kernel
theorem dX5_parsePuddles_22 : decode cX5_parsePuddles 22 = .ok (.ireturn, 1) := by decide +kernel
theorem dX5_parsePuddles_23 : decode cX5_parsePuddles 23 = .ok (.aload_n 0, 1) := by decide +kernel
theorem dX5_parsePuddles_24 : decode cX5_parsePuddles 24 = .ok (.invokevirtual 45, 3) := by decide +kernel
theorem dX5_parsePuddles_27 : decode cX5_parsePuddles 27 = .ok (.istore_n 3, 1) := by decide +kernel
theorem dX5_parsePuddles_28 : decode cX5_parsePuddles 28 = .ok (.iload_n 3, 1) := by decide +kernel
theorem dX5_parsePuddles_29 : decode cX5_parsePuddles 29 = .ok (.ifCond .ge 5, 3) := by decide +kernel
theorem dX5_parsePuddles_32 : decode cX5_parsePuddles 32 = .ok (.iload_n 3, 1) := by decide +kernel
theorem dX5_parsePuddles_33 : decode cX5_parsePuddles 33 = .ok (.ireturn, 1) := by decide +kernel
theorem dX5_parsePuddles_34 : decode cX5_parsePuddles 34 = .ok (.aload_n 0, 1) := by decide +kernel
theorem dX5_parsePuddles_35 : decode cX5_parsePuddles 35 = .ok (.invokevirtual 49, 3) := by decide +kernel
theorem dX5_parsePuddles_38 : decode cX5_parsePuddles 38 = .ok (.istore 4, 2) := by decide +kernel
theorem dX5_parsePuddles_40 : decode cX5_parsePuddles 40 = .ok (.iload 4, 2) := by decide +kernel
theorem dX5_parsePuddles_42 : decode cX5_parsePuddles 42 = .ok (.ifCond .ge 6, 3) := by decide +kernel
theorem dX5_parsePuddles_45 : decode cX5_parsePuddles 45 = .ok (.iload 4, 2) := by decide +kernel
theorem dX5_parsePuddles_47 : decode cX5_parsePuddles 47 = .ok (.ireturn, 1) := by decide +kernel
theorem dX5_parsePuddles_48 : decode cX5_parsePuddles 48 = .ok (.aload_n 0, 1) := by decide +kernel
theorem dX5_parsePuddles_49 : decode cX5_parsePuddles 49 = .ok (.iconst 0, 1) := by decide +kernel
theorem dX5_parsePuddles_50 : decode cX5_parsePuddles 50 = .ok (.bipush 60, 2) := by decide +kernel
theorem dX5_parsePuddles_52 : decode cX5_parsePuddles 52 = .ok (.invokevirtual 52, 3) := by decide +kernel
theorem dX5_parsePuddles_55 : decode cX5_parsePuddles 55 = .ok (.istore 5, 2) := by decide +kernel
theorem dX5_parsePuddles_57 : decode cX5_parsePuddles 57 = .ok (.iload 5, 2) := by decide +kernel
theorem dX5_parsePuddles_59 : decode cX5_parsePuddles 59 = .ok (.ifCond .ge 6, 3) := by decide +kernel
theorem dX5_parsePuddles_62 : decode cX5_parsePuddles 62 = .ok (.iload 5, 2) := by decide +kernel
theorem dX5_parsePuddles_64 : decode cX5_parsePuddles 64 = .ok (.ireturn, 1) := by decide +kernel
theorem dX5_parsePuddles_65 : decode cX5_parsePuddles 65 = .ok (.aload_n 1, 1) := by decide +kernel
theorem dX5_parsePuddles_66 : decode cX5_parsePuddles 66 = .ok (.iload_n 3, 1) := by decide +kernel
theorem dX5_parsePuddles_67 : decode cX5_parsePuddles 67 = .ok (.iload 4, 2) := by decide +kernel
theorem dX5_parsePuddles_69 : decode cX5_parsePuddles 69 = .ok (.iload 5, 2) := by decide +kernel
theorem dX5_parsePuddles_71 : decode cX5_parsePuddles 71 = .ok (.invokevirtual 56, 3) := by decide +kernel
theorem dX5_parsePuddles_74 : decode cX5_parsePuddles 74 = .ok (.pop, 1) := by decide +kernel
theorem dX5_parsePuddles_75 : decode cX5_parsePuddles 75 = .ok (.iinc 2 1, 3) := by decide +kernel
theorem dX5_parsePuddles_78 : decode cX5_parsePuddles 78 = .ok (.goto (-76), 3) := by decide +kernel
theorem dX5_parsePuddles_81 : decode cX5_parsePuddles 81 = .ok (.iconst 0, 1) := by decide +kernel
theorem dX5_parsePuddles_82 : decode cX5_parsePuddles 82 = .ok (.ireturn, 1) := by decide +kernel
theorem dX5_parsePeople_0 : decode cX5_parsePeople 0 = .ok (.iconst 0, 1) := by decide +kernel
theorem dX5_parsePeople_1 : decode cX5_parsePeople 1 = .ok (.istore_n 2, 1) := by decide +kernel
theorem dX5_parsePeople_2 : decode cX5_parsePeople 2 = .ok (.iload_n 2, 1) := by decide +kernel
theorem dX5_parsePeople_3 : decode cX5_parsePeople 3 = .ok (.bipush 6, 2) := by decide +kernel
theorem dX5_parsePeople_5 : decode cX5_parsePeople 5 = .ok (.if_icmp .ge 105, 3) := by decide +kernel
theorem dX5_parsePeople_8 : decode cX5_parsePeople 8 = .ok (.iload_n 2, 1) := by decide +kernel
theorem dX5_parsePeople_9 : decode cX5_parsePeople 9 = .ok (.ifCond .le 14, 3) := by decide +kernel
theorem dX5_parsePeople_12 : decode cX5_parsePeople 12 = .ok (.aload_n 0, 1) := by decide +kernel
theorem dX5_parsePeople_13 : decode cX5_parsePeople 13 = .ok (.bipush 44, 2) := by decide +kernel
theorem dX5_parsePeople_15 : decode cX5_parsePeople 15 = .ok (.invokevirtual 31, 3) := by decide +kernel
theorem dX5_parsePeople_18 : decode cX5_parsePeople 18 = .ok (.ifCond .ne 5, 3) := by decide +kernel
theorem dX5_parsePeople_21 : decode cX5_parsePeople 21 = .ok (.iconst 0, 1) := by decide +kernel
theorem dX5_parsePeople_22 : decode cX5_parsePeople 22 = .ok (.ireturn, 1) := by decide +kernel
theorem dX5_parsePeople_23 : decode cX5_parsePeople 23 = .ok (.aload_n 0, 1) := by decide +kernel
theorem dX5_parsePeople_24 : decode cX5_parsePeople 24 = .ok (.invokevirtual 49, 3) := by decide +kernel
theorem dX5_parsePeople_27 : decode cX5_parsePeople 27 = .ok (.istore_n 3, 1) := by decide +kernel
theorem dX5_parsePeople_28 : decode cX5_parsePeople 28 = .ok (.iload_n 3, 1) := by decide +kernel
theorem dX5_parsePeople_29 : decode cX5_parsePeople 29 = .ok (.ifCond .ge 5, 3) := by decide +kernel
theorem dX5_parsePeople_32 : decode cX5_parsePeople 32 = .ok (.iload_n 3, 1) := by decide +kernel
theorem dX5_parsePeople_33 : decode cX5_parsePeople 33 = .ok (.ireturn, 1) := by decide +kernel
theorem dX5_parsePeople_34 : decode cX5_parsePeople 34 = .ok (.aload_n 0, 1) := by decide +kernel
theorem dX5_parsePeople_35 : decode cX5_parsePeople 35 = .ok (.bipush 64, 2) := by decide +kernel
theorem dX5_parsePeople_37 : decode cX5_parsePeople 37 = .ok (.invokevirtual 31, 3) := by decide +kernel
theorem dX5_parsePeople_40 : decode cX5_parsePeople 40 = .ok (.ifCond .eq 13, 3) := by decide +kernel
theorem dX5_parsePeople_43 : decode cX5_parsePeople 43 = .ok (.aload_n 0, 1) := by decide +kernel
theorem dX5_parsePeople_44 : decode cX5_parsePeople 44 = .ok (.iconst 0, 1) := by decide +kernel
theorem dX5_parsePeople_45 : decode cX5_parsePeople 45 = .ok (.bipush 20, 2) := by decide +kernel
theorem dX5_parsePeople_47 : decode cX5_parsePeople 47 = .ok (.invokevirtual 52, 3) := by decide +kernel
theorem dX5_parsePeople_50 : decode cX5_parsePeople 50 = .ok (.goto 4, 3) := by decide +kernel
theorem dX5_parsePeople_53 : decode cX5_parsePeople 53 = .ok (.iconst 0, 1) := by decide +kernel
theorem dX5_parsePeople_54 : decode cX5_parsePeople 54 = .ok (.istore 4, 2) := by decide +kernel
theorem dX5_parsePeople_56 : decode cX5_parsePeople 56 = .ok (.iload 4, 2) := by decide +kernel
theorem dX5_parsePeople_58 : decode cX5_parsePeople 58 = .ok (.ifCond .ge 6, 3) := by decide +kernel
theorem dX5_parsePeople_61 : decode cX5_parsePeople 61 = .ok (.iload 4, 2) := by decide +kernel
theorem dX5_parsePeople_63 : decode cX5_parsePeople 63 = .ok (.ireturn, 1) := by decide +kernel
theorem dX5_parsePeople_64 : decode cX5_parsePeople 64 = .ok (.aload_n 0, 1) := by decide +kernel
theorem dX5_parsePeople_65 : decode cX5_parsePeople 65 = .ok (.bipush 47, 2) := by decide +kernel
theorem dX5_parsePeople_67 : decode cX5_parsePeople 67 = .ok (.invokevirtual 31, 3) := by decide +kernel
theorem dX5_parsePeople_70 : decode cX5_parsePeople 70 = .ok (.ifCond .eq 13, 3) := by decide +kernel
theorem dX5_parsePeople_73 : decode cX5_parsePeople 73 = .ok (.aload_n 0, 1) := by decide +kernel
theorem dX5_parsePeople_74 : decode cX5_parsePeople 74 = .ok (.iconst 1, 1) := by decide +kernel
theorem dX5_parsePeople_75 : decode cX5_parsePeople 75 = .ok (.bipush 30, 2) := by decide +kernel
theorem dX5_parsePeople_77 : decode cX5_parsePeople 77 = .ok (.invokevirtual 52, 3) := by decide +kernel
theorem dX5_parsePeople_80 : decode cX5_parsePeople 80 = .ok (.goto 4, 3) := by decide +kernel
theorem dX5_parsePeople_83 : decode cX5_parsePeople 83 = .ok (.iconst 1, 1) := by decide +kernel
theorem dX5_parsePeople_84 : decode cX5_parsePeople 84 = .ok (.istore 5, 2) := by decide +kernel
theorem dX5_parsePeople_86 : decode cX5_parsePeople 86 = .ok (.iload 5, 2) := by decide +kernel
theorem dX5_parsePeople_88 : decode cX5_parsePeople 88 = .ok (.ifCond .ge 6, 3) := by decide +kernel
theorem dX5_parsePeople_91 : decode cX5_parsePeople 91 = .ok (.iload 5, 2) := by decide +kernel
theorem dX5_parsePeople_93 : decode cX5_parsePeople 93 = .ok (.ireturn, 1) := by decide +kernel
theorem dX5_parsePeople_94 : decode cX5_parsePeople 94 = .ok (.aload_n 1, 1) := by decide +kernel
theorem dX5_parsePeople_95 : decode cX5_parsePeople 95 = .ok (.iload_n 3, 1) := by decide +kernel
theorem dX5_parsePeople_96 : decode cX5_parsePeople 96 = .ok (.iload 4, 2) := by decide +kernel
theorem dX5_parsePeople_98 : decode cX5_parsePeople 98 = .ok (.iload 5, 2) := by decide +kernel
theorem dX5_parsePeople_100 : decode cX5_parsePeople 100 = .ok (.invokevirtual 60, 3) := by decide +kernel
theorem dX5_parsePeople_103 : decode cX5_parsePeople 103 = .ok (.pop, 1) := by decide +kernel
theorem dX5_parsePeople_104 : decode cX5_parsePeople 104 = .ok (.iinc 2 1, 3) := by decide +kernel
theorem dX5_parsePeople_107 : decode cX5_parsePeople 107 = .ok (.goto (-105), 3) := by decide +kernel
theorem dX5_parsePeople_110 : decode cX5_parsePeople 110 = .ok (.iconst 0, 1) := by decide +kernel
theorem dX5_parsePeople_111 : decode cX5_parsePeople 111 = .ok (.ireturn, 1) := by decide +kernel
theorem dX5_parseKind_0 : decode cX5_parseKind 0 = .ok (.aload_n 0, 1) := by decide +kernel
theorem dX5_parseKind_1 : decode cX5_parseKind 1 = .ok (.invokevirtual 38, 3) := by decide +kernel
theorem dX5_parseKind_4 : decode cX5_parseKind 4 = .ok (.aload_n 0, 1) := by decide +kernel
theorem dX5_parseKind_5 : decode cX5_parseKind 5 = .ok (.getfield 19, 3) := by decide +kernel
theorem dX5_parseKind_8 : decode cX5_parseKind 8 = .ok (.aload_n 0, 1) := by decide +kernel
theorem dX5_parseKind_9 : decode cX5_parseKind 9 = .ok (.getfield 15, 3) := by decide +kernel
theorem dX5_parseKind_12 : decode cX5_parseKind 12 = .ok (.if_icmp .ge 20, 3) := by decide +kernel
theorem dX5_parseKind_15 : decode cX5_parseKind 15 = .ok (.ldc 63, 2) := by decide +kernel
theorem dX5_parseKind_17 : decode cX5_parseKind 17 = .ok (.aload_n 0, 1) := by decide +kernel
theorem dX5_parseKind_18 : decode cX5_parseKind 18 = .ok (.getfield 11, 3) := by decide +kernel
theorem dX5_parseKind_21 : decode cX5_parseKind 21 = .ok (.aload_n 0, 1) := by decide +kernel
theorem dX5_parseKind_22 : decode cX5_parseKind 22 = .ok (.getfield 19, 3) := by decide +kernel
theorem dX5_parseKind_25 : decode cX5_parseKind 25 = .ok (.caload, 1) := by decide +kernel
theorem dX5_parseKind_26 : decode cX5_parseKind 26 = .ok (.invokevirtual 65, 3) := by decide +kernel
theorem dX5_parseKind_29 : decode cX5_parseKind 29 = .ok (.goto 4, 3) := by decide +kernel
theorem dX5_parseKind_32 : decode cX5_parseKind 32 = .ok (.iconst (-1), 1) := by decide +kernel
theorem dX5_parseKind_33 : decode cX5_parseKind 33 = .ok (.istore_n 1, 1) := by decide +kernel
theorem dX5_parseKind_34 : decode cX5_parseKind 34 = .ok (.iload_n 1, 1) := by decide +kernel
theorem dX5_parseKind_35 : decode cX5_parseKind 35 = .ok (.ifCond .ge 11, 3) := by decide +kernel
theorem dX5_parseKind_38 : decode cX5_parseKind 38 = .ok (.aload_n 0, 1) := by decide +kernel
theorem dX5_parseKind_39 : decode cX5_parseKind 39 = .ok (.getfield 19, 3) := by decide +kernel
theorem dX5_parseKind_42 : decode cX5_parseKind 42 = .ok (.invokestatic 41, 3) := by decide +kernel
theorem dX5_parseKind_45 : decode cX5_parseKind 45 = .ok (.ireturn, 1) := by decide +kernel
theorem dX5_parseKind_46 : decode cX5_parseKind 46 = .ok (.aload_n 0, 1) := by decide +kernel
theorem dX5_parseKind_47 : decode cX5_parseKind 47 = .ok (.dup, 1) := by decide +kernel
theorem dX5_parseKind_48 : decode cX5_parseKind 48 = .ok (.getfield 19, 3) := by decide +kernel
theorem dX5_parseKind_51 : decode cX5_parseKind 51 = .ok (.iconst 1, 1) := by decide +kernel
theorem dX5_parseKind_52 : decode cX5_parseKind 52 = .ok (.iadd, 1) := by decide +kernel
theorem dX5_parseKind_53 : decode cX5_parseKind 53 = .ok (.putfield 19, 3) := by decide +kernel
theorem dX5_parseKind_56 : decode cX5_parseKind 56 = .ok (.iload_n 1, 1) := by decide +kernel
theorem dX5_parseKind_57 : decode cX5_parseKind 57 = .ok (.ireturn, 1) := by decide +kernel
theorem dX5_parseSight_0 : decode cX5_parseSight 0 = .ok (.aload_n 0, 1) := by decide +kernel
theorem dX5_parseSight_1 : decode cX5_parseSight 1 = .ok (.invokevirtual 38, 3) := by decide +kernel
theorem dX5_parseSight_4 : decode cX5_parseSight 4 = .ok (.aload_n 0, 1) := by decide +kernel
theorem dX5_parseSight_5 : decode cX5_parseSight 5 = .ok (.invokevirtual 70, 3) := by decide +kernel
theorem dX5_parseSight_8 : decode cX5_parseSight 8 = .ok (.istore_n 1, 1) := by decide +kernel
theorem dX5_parseSight_9 : decode cX5_parseSight 9 = .ok (.iload_n 1, 1) := by decide +kernel
theorem dX5_parseSight_10 : decode cX5_parseSight 10 = .ok (.ifCond .lt 9, 3) := by decide +kernel
theorem dX5_parseSight_13 : decode cX5_parseSight 13 = .ok (.iload_n 1, 1) := by decide +kernel
theorem dX5_parseSight_14 : decode cX5_parseSight 14 = .ok (.bipush 8, 2) := by decide +kernel
theorem dX5_parseSight_16 : decode cX5_parseSight 16 = .ok (.if_icmp .lt 11, 3) := by decide +kernel
theorem dX5_parseSight_19 : decode cX5_parseSight 19 = .ok (.aload_n 0, 1) := by decide +kernel
theorem dX5_parseSight_20 : decode cX5_parseSight 20 = .ok (.getfield 19, 3) := by decide +kernel
theorem dX5_parseSight_23 : decode cX5_parseSight 23 = .ok (.invokestatic 41, 3) := by decide +kernel
theorem dX5_parseSight_26 : decode cX5_parseSight 26 = .ok (.ireturn, 1) := by decide +kernel
theorem dX5_parseSight_27 : decode cX5_parseSight 27 = .ok (.aload_n 0, 1) := by decide +kernel
theorem dX5_parseSight_28 : decode cX5_parseSight 28 = .ok (.dup, 1) := by decide +kernel
theorem dX5_parseSight_29 : decode cX5_parseSight 29 = .ok (.getfield 19, 3) := by decide +kernel
theorem dX5_parseSight_32 : decode cX5_parseSight 32 = .ok (.iconst 1, 1) := by decide +kernel
theorem dX5_parseSight_33 : decode cX5_parseSight 33 = .ok (.iadd, 1) := by decide +kernel
theorem dX5_parseSight_34 : decode cX5_parseSight 34 = .ok (.putfield 19, 3) := by decide +kernel
theorem dX5_parseSight_37 : decode cX5_parseSight 37 = .ok (.iload_n 1, 1) := by decide +kernel
theorem dX5_parseSight_38 : decode cX5_parseSight 38 = .ok (.ireturn, 1) := by decide +kernel
theorem dX5_parseNumber_0 : decode cX5_parseNumber 0 = .ok (.aload_n 0, 1) := by decide +kernel
theorem dX5_parseNumber_1 : decode cX5_parseNumber 1 = .ok (.invokevirtual 38, 3) := by decide +kernel
theorem dX5_parseNumber_4 : decode cX5_parseNumber 4 = .ok (.aload_n 0, 1) := by decide +kernel
theorem dX5_parseNumber_5 : decode cX5_parseNumber 5 = .ok (.getfield 19, 3) := by decide +kernel
theorem dX5_parseNumber_8 : decode cX5_parseNumber 8 = .ok (.istore_n 3, 1) := by decide +kernel
theorem dX5_parseNumber_9 : decode cX5_parseNumber 9 = .ok (.aload_n 0, 1) := by decide +kernel
theorem dX5_parseNumber_10 : decode cX5_parseNumber 10 = .ok (.invokevirtual 70, 3) := by decide +kernel
theorem dX5_parseNumber_13 : decode cX5_parseNumber 13 = .ok (.istore 4, 2) := by decide +kernel
theorem dX5_parseNumber_15 : decode cX5_parseNumber 15 = .ok (.iload 4, 2) := by decide +kernel
theorem dX5_parseNumber_17 : decode cX5_parseNumber 17 = .ok (.ifCond .ge 8, 3) := by decide +kernel
theorem dX5_parseNumber_20 : decode cX5_parseNumber 20 = .ok (.iload_n 3, 1) := by decide +kernel
theorem dX5_parseNumber_21 : decode cX5_parseNumber 21 = .ok (.invokestatic 41, 3) := by decide +kernel
theorem dX5_parseNumber_24 : decode cX5_parseNumber 24 = .ok (.ireturn, 1) := by decide +kernel
theorem dX5_parseNumber_25 : decode cX5_parseNumber 25 = .ok (.aload_n 0, 1) := by decide +kernel
theorem dX5_parseNumber_26 : decode cX5_parseNumber 26 = .ok (.dup, 1) := by decide +kernel
theorem dX5_parseNumber_27 : decode cX5_parseNumber 27 = .ok (.getfield 19, 3) := by decide +kernel
theorem dX5_parseNumber_30 : decode cX5_parseNumber 30 = .ok (.iconst 1, 1) := by decide +kernel
theorem dX5_parseNumber_31 : decode cX5_parseNumber 31 = .ok (.iadd, 1) := by decide +kernel
theorem dX5_parseNumber_32 : decode cX5_parseNumber 32 = .ok (.putfield 19, 3) := by decide +kernel
theorem dX5_parseNumber_35 : decode cX5_parseNumber 35 = .ok (.aload_n 0, 1) := by decide +kernel
theorem dX5_parseNumber_36 : decode cX5_parseNumber 36 = .ok (.invokevirtual 70, 3) := by decide +kernel
theorem dX5_parseNumber_39 : decode cX5_parseNumber 39 = .ok (.istore 5, 2) := by decide +kernel
theorem dX5_parseNumber_41 : decode cX5_parseNumber 41 = .ok (.iload 5, 2) := by decide +kernel
theorem dX5_parseNumber_43 : decode cX5_parseNumber 43 = .ok (.ifCond .lt 23, 3) := by decide +kernel
theorem dX5_parseNumber_46 : decode cX5_parseNumber 46 = .ok (.bipush 10, 2) := by decide +kernel
theorem dX5_parseNumber_48 : decode cX5_parseNumber 48 = .ok (.iload 4, 2) := by decide +kernel
theorem dX5_parseNumber_50 : decode cX5_parseNumber 50 = .ok (.imul, 1) := by decide +kernel
theorem dX5_parseNumber_51 : decode cX5_parseNumber 51 = .ok (.iload 5, 2) := by decide +kernel
theorem dX5_parseNumber_53 : decode cX5_parseNumber 53 = .ok (.iadd, 1) := by decide +kernel
theorem dX5_parseNumber_54 : decode cX5_parseNumber 54 = .ok (.istore 4, 2) := by decide +kernel
theorem dX5_parseNumber_56 : decode cX5_parseNumber 56 = .ok (.aload_n 0, 1) := by decide +kernel
theorem dX5_parseNumber_57 : decode cX5_parseNumber 57 = .ok (.dup, 1) := by decide +kernel
theorem dX5_parseNumber_58 : decode cX5_parseNumber 58 = .ok (.getfield 19, 3) := by decide +kernel
theorem dX5_parseNumber_61 : decode cX5_parseNumber 61 = .ok (.iconst 1, 1) := by decide +kernel
theorem dX5_parseNumber_62 : decode cX5_parseNumber 62 = .ok (.iadd, 1) := by decide +kernel
theorem dX5_parseNumber_63 : decode cX5_parseNumber 63 = .ok (.putfield 19, 3) := by decide +kernel
theorem dX5_parseNumber_66 : decode cX5_parseNumber 66 = .ok (.iload 4, 2) := by decide +kernel
theorem dX5_parseNumber_68 : decode cX5_parseNumber 68 = .ok (.iload_n 1, 1) := by decide +kernel
theorem dX5_parseNumber_69 : decode cX5_parseNumber 69 = .ok (.if_icmp .lt 9, 3) := by decide +kernel
theorem dX5_parseNumber_72 : decode cX5_parseNumber 72 = .ok (.iload 4, 2) := by decide +kernel
theorem dX5_parseNumber_74 : decode cX5_parseNumber 74 = .ok (.iload_n 2, 1) := by decide +kernel
theorem dX5_parseNumber_75 : decode cX5_parseNumber 75 = .ok (.if_icmp .le 10, 3) := by decide +kernel
theorem dX5_parseNumber_78 : decode cX5_parseNumber 78 = .ok (.iload_n 3, 1) := by decide +kernel
theorem dX5_parseNumber_79 : decode cX5_parseNumber 79 = .ok (.invokestatic 41, 3) := by decide +kernel
theorem dX5_parseNumber_82 : decode cX5_parseNumber 82 = .ok (.goto 5, 3) := by decide +kernel
theorem dX5_parseNumber_85 : decode cX5_parseNumber 85 = .ok (.iload 4, 2) := by decide +kernel
theorem dX5_parseNumber_87 : decode cX5_parseNumber 87 = .ok (.ireturn, 1) := by decide +kernel
theorem dX5_take_0 : decode cX5_take 0 = .ok (.aload_n 0, 1) := by decide +kernel
theorem dX5_take_1 : decode cX5_take 1 = .ok (.invokevirtual 38, 3) := by decide +kernel
theorem dX5_take_4 : decode cX5_take 4 = .ok (.aload_n 0, 1) := by decide +kernel
theorem dX5_take_5 : decode cX5_take 5 = .ok (.getfield 19, 3) := by decide +kernel
theorem dX5_take_8 : decode cX5_take 8 = .ok (.aload_n 0, 1) := by decide +kernel
theorem dX5_take_9 : decode cX5_take 9 = .ok (.getfield 15, 3) := by decide +kernel
theorem dX5_take_12 : decode cX5_take 12 = .ok (.if_icmp .ge 16, 3) := by decide +kernel
theorem dX5_take_15 : decode cX5_take 15 = .ok (.aload_n 0, 1) := by decide +kernel
theorem dX5_take_16 : decode cX5_take 16 = .ok (.getfield 11, 3) := by decide +kernel
theorem dX5_take_19 : decode cX5_take 19 = .ok (.aload_n 0, 1) := by decide +kernel
theorem dX5_take_20 : decode cX5_take 20 = .ok (.getfield 19, 3) := by decide +kernel
theorem dX5_take_23 : decode cX5_take 23 = .ok (.caload, 1) := by decide +kernel
theorem dX5_take_24 : decode cX5_take 24 = .ok (.iload_n 1, 1) := by decide +kernel
theorem dX5_take_25 : decode cX5_take 25 = .ok (.if_icmp .eq 5, 3) := by decide +kernel
theorem dX5_take_28 : decode cX5_take 28 = .ok (.iconst 0, 1) := by decide +kernel
theorem dX5_take_29 : decode cX5_take 29 = .ok (.ireturn, 1) := by decide +kernel
theorem dX5_take_30 : decode cX5_take 30 = .ok (.aload_n 0, 1) := by decide +kernel
theorem dX5_take_31 : decode cX5_take 31 = .ok (.dup, 1) := by decide +kernel
theorem dX5_take_32 : decode cX5_take 32 = .ok (.getfield 19, 3) := by decide +kernel
theorem dX5_take_35 : decode cX5_take 35 = .ok (.iconst 1, 1) := by decide +kernel
theorem dX5_take_36 : decode cX5_take 36 = .ok (.iadd, 1) := by decide +kernel
theorem dX5_take_37 : decode cX5_take 37 = .ok (.putfield 19, 3) := by decide +kernel
theorem dX5_take_40 : decode cX5_take 40 = .ok (.iconst 1, 1) := by decide +kernel
theorem dX5_take_41 : decode cX5_take 41 = .ok (.ireturn, 1) := by decide +kernel
theorem dX5_skipBlanks_0 : decode cX5_skipBlanks 0 = .ok (.aload_n 0, 1) := by decide +kernel
theorem dX5_skipBlanks_1 : decode cX5_skipBlanks 1 = .ok (.getfield 19, 3) := by decide +kernel
theorem dX5_skipBlanks_4 : decode cX5_skipBlanks 4 = .ok (.aload_n 0, 1) := by decide +kernel
theorem dX5_skipBlanks_5 : decode cX5_skipBlanks 5 = .ok (.getfield 15, 3) := by decide +kernel
theorem dX5_skipBlanks_8 : decode cX5_skipBlanks 8 = .ok (.if_icmp .ge 30, 3) := by decide +kernel
theorem dX5_skipBlanks_11 : decode cX5_skipBlanks 11 = .ok (.aload_n 0, 1) := by decide +kernel
theorem dX5_skipBlanks_12 : decode cX5_skipBlanks 12 = .ok (.getfield 11, 3) := by decide +kernel
theorem dX5_skipBlanks_15 : decode cX5_skipBlanks 15 = .ok (.aload_n 0, 1) := by decide +kernel
theorem dX5_skipBlanks_16 : decode cX5_skipBlanks 16 = .ok (.getfield 19, 3) := by decide +kernel
theorem dX5_skipBlanks_19 : decode cX5_skipBlanks 19 = .ok (.caload, 1) := by decide +kernel
theorem dX5_skipBlanks_20 : decode cX5_skipBlanks 20 = .ok (.bipush 32, 2) := by decide +kernel
theorem dX5_skipBlanks_22 : decode cX5_skipBlanks 22 = .ok (.if_icmp .ne 16, 3) := by decide +kernel
theorem dX5_skipBlanks_25 : decode cX5_skipBlanks 25 = .ok (.aload_n 0, 1) := by decide +kernel
theorem dX5_skipBlanks_26 : decode cX5_skipBlanks 26 = .ok (.dup, 1) := by decide +kernel
theorem dX5_skipBlanks_27 : decode cX5_skipBlanks 27 = .ok (.getfield 19, 3) := by decide +kernel
theorem dX5_skipBlanks_30 : decode cX5_skipBlanks 30 = .ok (.iconst 1, 1) := by decide +kernel
theorem dX5_skipBlanks_31 : decode cX5_skipBlanks 31 = .ok (.iadd, 1) := by decide +kernel
theorem dX5_skipBlanks_32 : decode cX5_skipBlanks 32 = .ok (.putfield 19, 3) := by decide +kernel
theorem dX5_skipBlanks_35 : decode cX5_skipBlanks 35 = .ok (.goto (-35), 3) := by decide +kernel
theorem dX5_skipBlanks_38 : decode cX5_skipBlanks 38 = .ok (.return_, 1) := by decide +kernel
theorem dX5_digitHere_0 : decode cX5_digitHere 0 = .ok (.aload_n 0, 1) := by decide +kernel
theorem dX5_digitHere_1 : decode cX5_digitHere 1 = .ok (.getfield 19, 3) := by decide +kernel
theorem dX5_digitHere_4 : decode cX5_digitHere 4 = .ok (.aload_n 0, 1) := by decide +kernel
theorem dX5_digitHere_5 : decode cX5_digitHere 5 = .ok (.getfield 15, 3) := by decide +kernel
theorem dX5_digitHere_8 : decode cX5_digitHere 8 = .ok (.if_icmp .ge 31, 3) := by decide +kernel
theorem dX5_digitHere_11 : decode cX5_digitHere 11 = .ok (.aload_n 0, 1) := by decide +kernel
theorem dX5_digitHere_12 : decode cX5_digitHere 12 = .ok (.getfield 11, 3) := by decide +kernel
theorem dX5_digitHere_15 : decode cX5_digitHere 15 = .ok (.aload_n 0, 1) := by decide +kernel
theorem dX5_digitHere_16 : decode cX5_digitHere 16 = .ok (.getfield 19, 3) := by decide +kernel
theorem dX5_digitHere_19 : decode cX5_digitHere 19 = .ok (.caload, 1) := by decide +kernel
theorem dX5_digitHere_20 : decode cX5_digitHere 20 = .ok (.bipush 48, 2) := by decide +kernel
theorem dX5_digitHere_22 : decode cX5_digitHere 22 = .ok (.if_icmp .lt 17, 3) := by decide +kernel
theorem dX5_digitHere_25 : decode cX5_digitHere 25 = .ok (.aload_n 0, 1) := by decide +kernel
theorem dX5_digitHere_26 : decode cX5_digitHere 26 = .ok (.getfield 11, 3) := by decide +kernel
theorem dX5_digitHere_29 : decode cX5_digitHere 29 = .ok (.aload_n 0, 1) := by decide +kernel
theorem dX5_digitHere_30 : decode cX5_digitHere 30 = .ok (.getfield 19, 3) := by decide +kernel
theorem dX5_digitHere_33 : decode cX5_digitHere 33 = .ok (.caload, 1) := by decide +kernel
theorem dX5_digitHere_34 : decode cX5_digitHere 34 = .ok (.bipush 57, 2) := by decide +kernel
theorem dX5_digitHere_36 : decode cX5_digitHere 36 = .ok (.if_icmp .le 5, 3) := by decide +kernel
theorem dX5_digitHere_39 : decode cX5_digitHere 39 = .ok (.iconst (-1), 1) := by decide +kernel
theorem dX5_digitHere_40 : decode cX5_digitHere 40 = .ok (.ireturn, 1) := by decide +kernel
theorem dX5_digitHere_41 : decode cX5_digitHere 41 = .ok (.aload_n 0, 1) := by decide +kernel
theorem dX5_digitHere_42 : decode cX5_digitHere 42 = .ok (.getfield 11, 3) := by decide +kernel
theorem dX5_digitHere_45 : decode cX5_digitHere 45 = .ok (.aload_n 0, 1) := by decide +kernel
theorem dX5_digitHere_46 : decode cX5_digitHere 46 = .ok (.getfield 19, 3) := by decide +kernel
theorem dX5_digitHere_49 : decode cX5_digitHere 49 = .ok (.caload, 1) := by decide +kernel
theorem dX5_digitHere_50 : decode cX5_digitHere 50 = .ok (.bipush 48, 2) := by decide +kernel
theorem dX5_digitHere_52 : decode cX5_digitHere 52 = .ok (.isub, 1) := by decide +kernel
theorem dX5_digitHere_53 : decode cX5_digitHere 53 = .ok (.ireturn, 1) := by decide +kernel
theorem dX5_faultAt_0 : decode cX5_faultAt 0 = .ok (.bipush (-20), 2) := by decide +kernel
theorem dX5_faultAt_2 : decode cX5_faultAt 2 = .ok (.iload_n 0, 1) := by decide +kernel
theorem dX5_faultAt_3 : decode cX5_faultAt 3 = .ok (.isub, 1) := by decide +kernel
theorem dX5_faultAt_4 : decode cX5_faultAt 4 = .ok (.ireturn, 1) := by decide +kernel
theorem dJ0_length_8abf5_0 : decode cJ0_length_8abf5 0 = .ok (.aload_n 0, 1) := by decide +kernel
theorem dJ0_length_8abf5_1 : decode cJ0_length_8abf5 1 = .ok (.getfield 9, 3) := by decide +kernel
theorem dJ0_length_8abf5_4 : decode cJ0_length_8abf5 4 = .ok (.arraylength, 1) := by decide +kernel
theorem dJ0_length_8abf5_5 : decode cJ0_length_8abf5 5 = .ok (.aload_n 0, 1) := by decide +kernel
theorem dJ0_length_8abf5_6 : decode cJ0_length_8abf5 6 = .ok (.invokevirtual 335, 3) := by decide +kernel
theorem dJ0_length_8abf5_9 : decode cJ0_length_8abf5 9 = .ok (.ishr, 1) := by decide +kernel
theorem dJ0_length_8abf5_10 : decode cJ0_length_8abf5 10 = .ok (.ireturn, 1) := by decide +kernel
theorem dJ0_indexOf_0f7a4_0 : decode cJ0_indexOf_0f7a4 0 = .ok (.aload_n 0, 1) := by decide +kernel
theorem dJ0_indexOf_0f7a4_1 : decode cJ0_indexOf_0f7a4 1 = .ok (.iload_n 1, 1) := by decide +kernel
theorem dJ0_indexOf_0f7a4_2 : decode cJ0_indexOf_0f7a4 2 = .ok (.iconst 0, 1) := by decide +kernel
theorem dJ0_indexOf_0f7a4_3 : decode cJ0_indexOf_0f7a4 3 = .ok (.invokevirtual 633, 3) := by decide +kernel
theorem dJ0_indexOf_0f7a4_6 : decode cJ0_indexOf_0f7a4 6 = .ok (.ireturn, 1) := by decide +kernel
theorem dJ0_indexOf_7cf53_0 : decode cJ0_indexOf_7cf53 0 = .ok (.aload_n 0, 1) := by decide +kernel
theorem dJ0_indexOf_7cf53_1 : decode cJ0_indexOf_7cf53 1 = .ok (.invokevirtual 492, 3) := by decide +kernel
theorem dJ0_indexOf_7cf53_4 : decode cJ0_indexOf_7cf53 4 = .ok (.ifCond .eq 19, 3) := by decide +kernel
theorem dJ0_indexOf_7cf53_7 : decode cJ0_indexOf_7cf53 7 = .ok (.aload_n 0, 1) := by decide +kernel
theorem dJ0_indexOf_7cf53_8 : decode cJ0_indexOf_7cf53 8 = .ok (.getfield 9, 3) := by decide +kernel
theorem dJ0_indexOf_7cf53_11 : decode cJ0_indexOf_7cf53 11 = .ok (.iload_n 1, 1) := by decide +kernel
theorem dJ0_indexOf_7cf53_12 : decode cJ0_indexOf_7cf53 12 = .ok (.iload_n 2, 1) := by decide +kernel
theorem dJ0_indexOf_7cf53_13 : decode cJ0_indexOf_7cf53 13 = .ok (.aload_n 0, 1) := by decide +kernel
theorem dJ0_indexOf_7cf53_14 : decode cJ0_indexOf_7cf53 14 = .ok (.invokevirtual 505, 3) := by decide +kernel
theorem dJ0_indexOf_7cf53_17 : decode cJ0_indexOf_7cf53 17 = .ok (.invokestatic 637, 3) := by decide +kernel
theorem dJ0_indexOf_7cf53_20 : decode cJ0_indexOf_7cf53 20 = .ok (.goto 16, 3) := by decide +kernel
theorem dJ0_indexOf_7cf53_23 : decode cJ0_indexOf_7cf53 23 = .ok (.aload_n 0, 1) := by decide +kernel
theorem dJ0_indexOf_7cf53_24 : decode cJ0_indexOf_7cf53 24 = .ok (.getfield 9, 3) := by decide +kernel
theorem dJ0_indexOf_7cf53_27 : decode cJ0_indexOf_7cf53 27 = .ok (.iload_n 1, 1) := by decide +kernel
theorem dJ0_indexOf_7cf53_28 : decode cJ0_indexOf_7cf53 28 = .ok (.iload_n 2, 1) := by decide +kernel
theorem dJ0_indexOf_7cf53_29 : decode cJ0_indexOf_7cf53 29 = .ok (.aload_n 0, 1) := by decide +kernel
theorem dJ0_indexOf_7cf53_30 : decode cJ0_indexOf_7cf53 30 = .ok (.invokevirtual 505, 3) := by decide +kernel
theorem dJ0_indexOf_7cf53_33 : decode cJ0_indexOf_7cf53 33 = .ok (.invokestatic 640, 3) := by decide +kernel
theorem dJ0_indexOf_7cf53_36 : decode cJ0_indexOf_7cf53 36 = .ok (.ireturn, 1) := by decide +kernel
theorem dJ0_coder_7d493_0 : decode cJ0_coder_7d493 0 = .ok (.getstatic 38, 3) := by decide +kernel
theorem dJ0_coder_7d493_3 : decode cJ0_coder_7d493 3 = .ok (.ifCond .eq 10, 3) := by decide +kernel
theorem dJ0_coder_7d493_6 : decode cJ0_coder_7d493 6 = .ok (.aload_n 0, 1) := by decide +kernel
theorem dJ0_coder_7d493_7 : decode cJ0_coder_7d493 7 = .ok (.getfield 15, 3) := by decide +kernel
theorem dJ0_coder_7d493_10 : decode cJ0_coder_7d493 10 = .ok (.goto 4, 3) := by decide +kernel
theorem dJ0_coder_7d493_13 : decode cJ0_coder_7d493 13 = .ok (.iconst 1, 1) := by decide +kernel
theorem dJ0_coder_7d493_14 : decode cJ0_coder_7d493 14 = .ok (.ireturn, 1) := by decide +kernel
theorem dJ0_isLatin1_aae02_0 : decode cJ0_isLatin1_aae02 0 = .ok (.getstatic 38, 3) := by decide +kernel
theorem dJ0_isLatin1_aae02_3 : decode cJ0_isLatin1_aae02 3 = .ok (.ifCond .eq 14, 3) := by decide +kernel
theorem dJ0_isLatin1_aae02_6 : decode cJ0_isLatin1_aae02 6 = .ok (.aload_n 0, 1) := by decide +kernel
theorem dJ0_isLatin1_aae02_7 : decode cJ0_isLatin1_aae02 7 = .ok (.getfield 15, 3) := by decide +kernel
theorem dJ0_isLatin1_aae02_10 : decode cJ0_isLatin1_aae02 10 = .ok (.ifCond .ne 7, 3) := by decide +kernel
theorem dJ0_isLatin1_aae02_13 : decode cJ0_isLatin1_aae02 13 = .ok (.iconst 1, 1) := by decide +kernel
theorem dJ0_isLatin1_aae02_14 : decode cJ0_isLatin1_aae02 14 = .ok (.goto 4, 3) := by decide +kernel
theorem dJ0_isLatin1_aae02_17 : decode cJ0_isLatin1_aae02 17 = .ok (.iconst 0, 1) := by decide +kernel
theorem dJ0_isLatin1_aae02_18 : decode cJ0_isLatin1_aae02 18 = .ok (.ireturn, 1) := by decide +kernel
theorem dJ0_checkBoundsBeginEnd_23922_0 : decode cJ0_checkBoundsBeginEnd_23922 0 = .ok (.iload_n 0, 1) := by decide +kernel
theorem dJ0_checkBoundsBeginEnd_23922_1 : decode cJ0_checkBoundsBeginEnd_23922 1 = .ok (.iload_n 1, 1) := by decide +kernel
theorem dJ0_checkBoundsBeginEnd_23922_2 : decode cJ0_checkBoundsBeginEnd_23922 2 = .ok (.iload_n 2, 1) := by decide +kernel
theorem dJ0_checkBoundsBeginEnd_23922_3 : decode cJ0_checkBoundsBeginEnd_23922 3 = .ok (.getstatic 1053, 3) := by decide +kernel
theorem dJ0_checkBoundsBeginEnd_23922_6 : decode cJ0_checkBoundsBeginEnd_23922 6 = .ok (.invokestatic 1062, 3) := by decide +kernel
theorem dJ0_checkBoundsBeginEnd_23922_9 : decode cJ0_checkBoundsBeginEnd_23922 9 = .ok (.pop, 1) := by decide +kernel
theorem dJ0_checkBoundsBeginEnd_23922_10 : decode cJ0_checkBoundsBeginEnd_23922 10 = .ok (.return_, 1) := by decide +kernel
theorem dJ1_canEncode_9a6ad_0 : decode cJ1_canEncode_9a6ad 0 = .ok (.iload_n 0, 1) := by decide +kernel
theorem dJ1_canEncode_9a6ad_1 : decode cJ1_canEncode_9a6ad 1 = .ok (.ifCond .lt 14, 3) := by decide +kernel
theorem dJ1_canEncode_9a6ad_4 : decode cJ1_canEncode_9a6ad 4 = .ok (.iload_n 0, 1) := by decide +kernel
theorem dJ1_canEncode_9a6ad_5 : decode cJ1_canEncode_9a6ad 5 = .ok (.sipush 255, 3) := by decide +kernel
theorem dJ1_canEncode_9a6ad_8 : decode cJ1_canEncode_9a6ad 8 = .ok (.if_icmp .gt 7, 3) := by decide +kernel
theorem dJ1_canEncode_9a6ad_11 : decode cJ1_canEncode_9a6ad 11 = .ok (.iconst 1, 1) := by decide +kernel
theorem dJ1_canEncode_9a6ad_12 : decode cJ1_canEncode_9a6ad 12 = .ok (.goto 4, 3) := by decide +kernel
theorem dJ1_canEncode_9a6ad_15 : decode cJ1_canEncode_9a6ad 15 = .ok (.iconst 0, 1) := by decide +kernel
theorem dJ1_canEncode_9a6ad_16 : decode cJ1_canEncode_9a6ad 16 = .ok (.ireturn, 1) := by decide +kernel
theorem dJ1_indexOf_4cfef_0 : decode cJ1_indexOf_4cfef 0 = .ok (.iload_n 1, 1) := by decide +kernel
theorem dJ1_indexOf_4cfef_1 : decode cJ1_indexOf_4cfef 1 = .ok (.invokestatic 88, 3) := by decide +kernel
theorem dJ1_indexOf_4cfef_4 : decode cJ1_indexOf_4cfef 4 = .ok (.ifCond .ne 5, 3) := by decide +kernel
theorem dJ1_indexOf_4cfef_7 : decode cJ1_indexOf_4cfef 7 = .ok (.iconst (-1), 1) := by decide +kernel
theorem dJ1_indexOf_4cfef_8 : decode cJ1_indexOf_4cfef 8 = .ok (.ireturn, 1) := by decide +kernel
theorem dJ1_indexOf_4cfef_9 : decode cJ1_indexOf_4cfef 9 = .ok (.iload_n 2, 1) := by decide +kernel
theorem dJ1_indexOf_4cfef_10 : decode cJ1_indexOf_4cfef 10 = .ok (.iconst 0, 1) := by decide +kernel
theorem dJ1_indexOf_4cfef_11 : decode cJ1_indexOf_4cfef 11 = .ok (.invokestatic 92, 3) := by decide +kernel
theorem dJ1_indexOf_4cfef_14 : decode cJ1_indexOf_4cfef 14 = .ok (.istore_n 2, 1) := by decide +kernel
theorem dJ1_indexOf_4cfef_15 : decode cJ1_indexOf_4cfef 15 = .ok (.iload_n 3, 1) := by decide +kernel
theorem dJ1_indexOf_4cfef_16 : decode cJ1_indexOf_4cfef 16 = .ok (.aload_n 0, 1) := by decide +kernel
theorem dJ1_indexOf_4cfef_17 : decode cJ1_indexOf_4cfef 17 = .ok (.arraylength, 1) := by decide +kernel
theorem dJ1_indexOf_4cfef_18 : decode cJ1_indexOf_4cfef 18 = .ok (.invokestatic 38, 3) := by decide +kernel
theorem dJ1_indexOf_4cfef_21 : decode cJ1_indexOf_4cfef 21 = .ok (.istore_n 3, 1) := by decide +kernel
theorem dJ1_indexOf_4cfef_22 : decode cJ1_indexOf_4cfef 22 = .ok (.iload_n 2, 1) := by decide +kernel
theorem dJ1_indexOf_4cfef_23 : decode cJ1_indexOf_4cfef 23 = .ok (.iload_n 3, 1) := by decide +kernel
theorem dJ1_indexOf_4cfef_24 : decode cJ1_indexOf_4cfef 24 = .ok (.if_icmp .lt 5, 3) := by decide +kernel
theorem dJ1_indexOf_4cfef_27 : decode cJ1_indexOf_4cfef 27 = .ok (.iconst (-1), 1) := by decide +kernel
theorem dJ1_indexOf_4cfef_28 : decode cJ1_indexOf_4cfef 28 = .ok (.ireturn, 1) := by decide +kernel
theorem dJ1_indexOf_4cfef_29 : decode cJ1_indexOf_4cfef 29 = .ok (.aload_n 0, 1) := by decide +kernel
theorem dJ1_indexOf_4cfef_30 : decode cJ1_indexOf_4cfef 30 = .ok (.iload_n 1, 1) := by decide +kernel
theorem dJ1_indexOf_4cfef_31 : decode cJ1_indexOf_4cfef 31 = .ok (.iload_n 2, 1) := by decide +kernel
theorem dJ1_indexOf_4cfef_32 : decode cJ1_indexOf_4cfef 32 = .ok (.iload_n 3, 1) := by decide +kernel
theorem dJ1_indexOf_4cfef_33 : decode cJ1_indexOf_4cfef 33 = .ok (.invokestatic 95, 3) := by decide +kernel
theorem dJ1_indexOf_4cfef_36 : decode cJ1_indexOf_4cfef 36 = .ok (.ireturn, 1) := by decide +kernel
theorem dJ1_indexOfChar_4cfef_0 : decode cJ1_indexOfChar_4cfef 0 = .ok (.iload_n 1, 1) := by decide +kernel
theorem dJ1_indexOfChar_4cfef_1 : decode cJ1_indexOfChar_4cfef 1 = .ok (.i2b, 1) := by decide +kernel
theorem dJ1_indexOfChar_4cfef_2 : decode cJ1_indexOfChar_4cfef 2 = .ok (.istore 4, 2) := by decide +kernel
theorem dJ1_indexOfChar_4cfef_4 : decode cJ1_indexOfChar_4cfef 4 = .ok (.iload_n 2, 1) := by decide +kernel
theorem dJ1_indexOfChar_4cfef_5 : decode cJ1_indexOfChar_4cfef 5 = .ok (.istore 5, 2) := by decide +kernel
theorem dJ1_indexOfChar_4cfef_7 : decode cJ1_indexOfChar_4cfef 7 = .ok (.iload 5, 2) := by decide +kernel
theorem dJ1_indexOfChar_4cfef_9 : decode cJ1_indexOfChar_4cfef 9 = .ok (.iload_n 3, 1) := by decide +kernel
theorem dJ1_indexOfChar_4cfef_10 : decode cJ1_indexOfChar_4cfef 10 = .ok (.if_icmp .ge 21, 3) := by decide +kernel
theorem dJ1_indexOfChar_4cfef_13 : decode cJ1_indexOfChar_4cfef 13 = .ok (.aload_n 0, 1) := by decide +kernel
theorem dJ1_indexOfChar_4cfef_14 : decode cJ1_indexOfChar_4cfef 14 = .ok (.iload 5, 2) := by decide +kernel
theorem dJ1_indexOfChar_4cfef_16 : decode cJ1_indexOfChar_4cfef 16 = .ok (.baload, 1) := by decide +kernel
theorem dJ1_indexOfChar_4cfef_17 : decode cJ1_indexOfChar_4cfef 17 = .ok (.iload 4, 2) := by decide +kernel
theorem dJ1_indexOfChar_4cfef_19 : decode cJ1_indexOfChar_4cfef 19 = .ok (.if_icmp .ne 6, 3) := by decide +kernel
theorem dJ1_indexOfChar_4cfef_22 : decode cJ1_indexOfChar_4cfef 22 = .ok (.iload 5, 2) := by decide +kernel
theorem dJ1_indexOfChar_4cfef_24 : decode cJ1_indexOfChar_4cfef 24 = .ok (.ireturn, 1) := by decide +kernel
theorem dJ1_indexOfChar_4cfef_25 : decode cJ1_indexOfChar_4cfef 25 = .ok (.iinc 5 1, 3) := by decide +kernel
theorem dJ1_indexOfChar_4cfef_28 : decode cJ1_indexOfChar_4cfef 28 = .ok (.goto (-21), 3) := by decide +kernel
theorem dJ1_indexOfChar_4cfef_31 : decode cJ1_indexOfChar_4cfef 31 = .ok (.iconst (-1), 1) := by decide +kernel
theorem dJ1_indexOfChar_4cfef_32 : decode cJ1_indexOfChar_4cfef 32 = .ok (.ireturn, 1) := by decide +kernel
theorem dJ6_bitCount_0f7a4_0 : decode cJ6_bitCount_0f7a4 0 = .ok (.iload_n 0, 1) := by decide +kernel
theorem dJ6_bitCount_0f7a4_1 : decode cJ6_bitCount_0f7a4 1 = .ok (.iload_n 0, 1) := by decide +kernel
theorem dJ6_bitCount_0f7a4_2 : decode cJ6_bitCount_0f7a4 2 = .ok (.iconst 1, 1) := by decide +kernel
theorem dJ6_bitCount_0f7a4_3 : decode cJ6_bitCount_0f7a4 3 = .ok (.iushr, 1) := by decide +kernel
theorem dJ6_bitCount_0f7a4_4 : decode cJ6_bitCount_0f7a4 4 = .ok (.ldc_w 265, 3) := by decide +kernel
theorem dJ6_bitCount_0f7a4_7 : decode cJ6_bitCount_0f7a4 7 = .ok (.iand, 1) := by decide +kernel
theorem dJ6_bitCount_0f7a4_8 : decode cJ6_bitCount_0f7a4 8 = .ok (.isub, 1) := by decide +kernel
theorem dJ6_bitCount_0f7a4_9 : decode cJ6_bitCount_0f7a4 9 = .ok (.istore_n 0, 1) := by decide +kernel
theorem dJ6_bitCount_0f7a4_10 : decode cJ6_bitCount_0f7a4 10 = .ok (.iload_n 0, 1) := by decide +kernel
theorem dJ6_bitCount_0f7a4_11 : decode cJ6_bitCount_0f7a4 11 = .ok (.ldc_w 266, 3) := by decide +kernel
theorem dJ6_bitCount_0f7a4_14 : decode cJ6_bitCount_0f7a4 14 = .ok (.iand, 1) := by decide +kernel
theorem dJ6_bitCount_0f7a4_15 : decode cJ6_bitCount_0f7a4 15 = .ok (.iload_n 0, 1) := by decide +kernel
theorem dJ6_bitCount_0f7a4_16 : decode cJ6_bitCount_0f7a4 16 = .ok (.iconst 2, 1) := by decide +kernel
theorem dJ6_bitCount_0f7a4_17 : decode cJ6_bitCount_0f7a4 17 = .ok (.iushr, 1) := by decide +kernel
theorem dJ6_bitCount_0f7a4_18 : decode cJ6_bitCount_0f7a4 18 = .ok (.ldc_w 266, 3) := by decide +kernel
theorem dJ6_bitCount_0f7a4_21 : decode cJ6_bitCount_0f7a4 21 = .ok (.iand, 1) := by decide +kernel
theorem dJ6_bitCount_0f7a4_22 : decode cJ6_bitCount_0f7a4 22 = .ok (.iadd, 1) := by decide +kernel
theorem dJ6_bitCount_0f7a4_23 : decode cJ6_bitCount_0f7a4 23 = .ok (.istore_n 0, 1) := by decide +kernel
theorem dJ6_bitCount_0f7a4_24 : decode cJ6_bitCount_0f7a4 24 = .ok (.iload_n 0, 1) := by decide +kernel
theorem dJ6_bitCount_0f7a4_25 : decode cJ6_bitCount_0f7a4 25 = .ok (.iload_n 0, 1) := by decide +kernel
theorem dJ6_bitCount_0f7a4_26 : decode cJ6_bitCount_0f7a4 26 = .ok (.iconst 4, 1) := by decide +kernel
theorem dJ6_bitCount_0f7a4_27 : decode cJ6_bitCount_0f7a4 27 = .ok (.iushr, 1) := by decide +kernel
theorem dJ6_bitCount_0f7a4_28 : decode cJ6_bitCount_0f7a4 28 = .ok (.iadd, 1) := by decide +kernel
theorem dJ6_bitCount_0f7a4_29 : decode cJ6_bitCount_0f7a4 29 = .ok (.ldc_w 267, 3) := by decide +kernel
theorem dJ6_bitCount_0f7a4_32 : decode cJ6_bitCount_0f7a4 32 = .ok (.iand, 1) := by decide +kernel
theorem dJ6_bitCount_0f7a4_33 : decode cJ6_bitCount_0f7a4 33 = .ok (.istore_n 0, 1) := by decide +kernel
theorem dJ6_bitCount_0f7a4_34 : decode cJ6_bitCount_0f7a4 34 = .ok (.iload_n 0, 1) := by decide +kernel
theorem dJ6_bitCount_0f7a4_35 : decode cJ6_bitCount_0f7a4 35 = .ok (.iload_n 0, 1) := by decide +kernel
theorem dJ6_bitCount_0f7a4_36 : decode cJ6_bitCount_0f7a4 36 = .ok (.bipush 8, 2) := by decide +kernel
theorem dJ6_bitCount_0f7a4_38 : decode cJ6_bitCount_0f7a4 38 = .ok (.iushr, 1) := by decide +kernel
theorem dJ6_bitCount_0f7a4_39 : decode cJ6_bitCount_0f7a4 39 = .ok (.iadd, 1) := by decide +kernel
theorem dJ6_bitCount_0f7a4_40 : decode cJ6_bitCount_0f7a4 40 = .ok (.istore_n 0, 1) := by decide +kernel
theorem dJ6_bitCount_0f7a4_41 : decode cJ6_bitCount_0f7a4 41 = .ok (.iload_n 0, 1) := by decide +kernel
theorem dJ6_bitCount_0f7a4_42 : decode cJ6_bitCount_0f7a4 42 = .ok (.iload_n 0, 1) := by decide +kernel
theorem dJ6_bitCount_0f7a4_43 : decode cJ6_bitCount_0f7a4 43 = .ok (.bipush 16, 2) := by decide +kernel
theorem dJ6_bitCount_0f7a4_45 : decode cJ6_bitCount_0f7a4 45 = .ok (.iushr, 1) := by decide +kernel
theorem dJ6_bitCount_0f7a4_46 : decode cJ6_bitCount_0f7a4 46 = .ok (.iadd, 1) := by decide +kernel
theorem dJ6_bitCount_0f7a4_47 : decode cJ6_bitCount_0f7a4 47 = .ok (.istore_n 0, 1) := by decide +kernel
theorem dJ6_bitCount_0f7a4_48 : decode cJ6_bitCount_0f7a4 48 = .ok (.iload_n 0, 1) := by decide +kernel
theorem dJ6_bitCount_0f7a4_49 : decode cJ6_bitCount_0f7a4 49 = .ok (.bipush 63, 2) := by decide +kernel
theorem dJ6_bitCount_0f7a4_51 : decode cJ6_bitCount_0f7a4 51 = .ok (.iand, 1) := by decide +kernel
theorem dJ6_bitCount_0f7a4_52 : decode cJ6_bitCount_0f7a4 52 = .ok (.ireturn, 1) := by decide +kernel
theorem dJ9_max_7cf53_0 : decode cJ9_max_7cf53 0 = .ok (.iload_n 0, 1) := by decide +kernel
theorem dJ9_max_7cf53_1 : decode cJ9_max_7cf53 1 = .ok (.iload_n 1, 1) := by decide +kernel
theorem dJ9_max_7cf53_2 : decode cJ9_max_7cf53 2 = .ok (.if_icmp .lt 7, 3) := by decide +kernel
theorem dJ9_max_7cf53_5 : decode cJ9_max_7cf53 5 = .ok (.iload_n 0, 1) := by decide +kernel
theorem dJ9_max_7cf53_6 : decode cJ9_max_7cf53 6 = .ok (.goto 4, 3) := by decide +kernel
theorem dJ9_max_7cf53_9 : decode cJ9_max_7cf53 9 = .ok (.iload_n 1, 1) := by decide +kernel
theorem dJ9_max_7cf53_10 : decode cJ9_max_7cf53 10 = .ok (.ireturn, 1) := by decide +kernel
theorem dJ9_min_7cf53_0 : decode cJ9_min_7cf53 0 = .ok (.iload_n 0, 1) := by decide +kernel
theorem dJ9_min_7cf53_1 : decode cJ9_min_7cf53 1 = .ok (.iload_n 1, 1) := by decide +kernel
theorem dJ9_min_7cf53_2 : decode cJ9_min_7cf53 2 = .ok (.if_icmp .gt 7, 3) := by decide +kernel
theorem dJ9_min_7cf53_5 : decode cJ9_min_7cf53 5 = .ok (.iload_n 0, 1) := by decide +kernel
theorem dJ9_min_7cf53_6 : decode cJ9_min_7cf53 6 = .ok (.goto 4, 3) := by decide +kernel
theorem dJ9_min_7cf53_9 : decode cJ9_min_7cf53 9 = .ok (.iload_n 1, 1) := by decide +kernel
theorem dJ9_min_7cf53_10 : decode cJ9_min_7cf53 10 = .ok (.ireturn, 1) := by decide +kernel
