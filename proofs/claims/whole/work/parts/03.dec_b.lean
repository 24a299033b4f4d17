theorem dX6_init_0 : decode cX6_init 0 = .ok (.aload_n 0, 1) := by decide +kernel
theorem dX6_init_1 : decode cX6_init 1 = .ok (.invokespecial 1, 3) := by decide +kernel
theorem dX6_init_4 : decode cX6_init 4 = .ok (.aload_n 0, 1) := by decide +kernel
theorem dX6_init_5 : decode cX6_init 5 = .ok (.new 7, 3) := by decide +kernel
theorem dX6_init_8 : decode cX6_init 8 = .ok (.dup, 1) := by decide +kernel
theorem dX6_init_9 : decode cX6_init 9 = .ok (.invokespecial 9, 3) := by decide +kernel
theorem dX6_init_12 : decode cX6_init 12 = .ok (.putfield 10, 3) := by decide +kernel
theorem dX6_init_15 : decode cX6_init 15 = .ok (.aload_n 0, 1) := by decide +kernel
theorem dX6_init_16 : decode cX6_init 16 = .ok (.new 16, 3) := by decide +kernel
theorem dX6_init_19 : decode cX6_init 19 = .ok (.dup, 1) := by decide +kernel
theorem dX6_init_20 : decode cX6_init 20 = .ok (.invokespecial 18, 3) := by decide +kernel
theorem dX6_init_23 : decode cX6_init 23 = .ok (.putfield 19, 3) := by decide +kernel
theorem dX6_init_26 : decode cX6_init 26 = .ok (.aload_n 0, 1) := by decide +kernel
theorem dX6_init_27 : decode cX6_init 27 = .ok (.new 7, 3) := by decide +kernel
theorem dX6_init_30 : decode cX6_init 30 = .ok (.dup, 1) := by decide +kernel
theorem dX6_init_31 : decode cX6_init 31 = .ok (.invokespecial 9, 3) := by decide +kernel
theorem dX6_init_34 : decode cX6_init 34 = .ok (.putfield 23, 3) := by decide +kernel
theorem dX6_init_37 : decode cX6_init 37 = .ok (.aload_n 0, 1) := by decide +kernel
theorem dX6_init_38 : decode cX6_init 38 = .ok (.new 7, 3) := by decide +kernel
theorem dX6_init_41 : decode cX6_init 41 = .ok (.dup, 1) := by decide +kernel
theorem dX6_init_42 : decode cX6_init 42 = .ok (.invokespecial 9, 3) := by decide +kernel
theorem dX6_init_45 : decode cX6_init 45 = .ok (.putfield 26, 3) := by decide +kernel
theorem dX6_init_48 : decode cX6_init 48 = .ok (.aload_n 0, 1) := by decide +kernel
theorem dX6_init_49 : decode cX6_init 49 = .ok (.new 16, 3) := by decide +kernel
theorem dX6_init_52 : decode cX6_init 52 = .ok (.dup, 1) := by decide +kernel
theorem dX6_init_53 : decode cX6_init 53 = .ok (.invokespecial 18, 3) := by decide +kernel
theorem dX6_init_56 : decode cX6_init 56 = .ok (.putfield 29, 3) := by decide +kernel
theorem dX6_init_59 : decode cX6_init 59 = .ok (.aload_n 0, 1) := by decide +kernel
theorem dX6_init_60 : decode cX6_init 60 = .ok (.iconst 0, 1) := by decide +kernel
theorem dX6_init_61 : decode cX6_init 61 = .ok (.putfield 32, 3) := by decide +kernel
theorem dX6_init_64 : decode cX6_init 64 = .ok (.aload_n 0, 1) := by decide +kernel
theorem dX6_init_65 : decode cX6_init 65 = .ok (.new 36, 3) := by decide +kernel
theorem dX6_init_68 : decode cX6_init 68 = .ok (.dup, 1) := by decide +kernel
theorem dX6_init_69 : decode cX6_init 69 = .ok (.invokespecial 38, 3) := by decide +kernel
theorem dX6_init_72 : decode cX6_init 72 = .ok (.putfield 39, 3) := by decide +kernel
theorem dX6_init_75 : decode cX6_init 75 = .ok (.aload_n 0, 1) := by decide +kernel
theorem dX6_init_76 : decode cX6_init 76 = .ok (.new 43, 3) := by decide +kernel
theorem dX6_init_79 : decode cX6_init 79 = .ok (.dup, 1) := by decide +kernel
theorem dX6_init_80 : decode cX6_init 80 = .ok (.invokespecial 45, 3) := by decide +kernel
theorem dX6_init_83 : decode cX6_init 83 = .ok (.putfield 46, 3) := by decide +kernel
theorem dX6_init_86 : decode cX6_init 86 = .ok (.aload_n 0, 1) := by decide +kernel
theorem dX6_init_87 : decode cX6_init 87 = .ok (.new 50, 3) := by decide +kernel
theorem dX6_init_90 : decode cX6_init 90 = .ok (.dup, 1) := by decide +kernel
theorem dX6_init_91 : decode cX6_init 91 = .ok (.invokespecial 52, 3) := by decide +kernel
theorem dX6_init_94 : decode cX6_init 94 = .ok (.putfield 53, 3) := by decide +kernel
theorem dX6_init_97 : decode cX6_init 97 = .ok (.aload_n 0, 1) := by decide +kernel
theorem dX6_init_98 : decode cX6_init 98 = .ok (.new 57, 3) := by decide +kernel
theorem dX6_init_101 : decode cX6_init 101 = .ok (.dup, 1) := by decide +kernel
theorem dX6_init_102 : decode cX6_init 102 = .ok (.invokespecial 59, 3) := by decide +kernel
theorem dX6_init_105 : decode cX6_init 105 = .ok (.putfield 60, 3) := by decide +kernel
theorem dX6_init_108 : decode cX6_init 108 = .ok (.return_, 1) := by decide +kernel
theorem dX6_puddle_0 : decode cX6_puddle 0 = .ok (.iload_n 1, 1) := by decide +kernel
theorem dX6_puddle_1 : decode cX6_puddle 1 = .ok (.iconst 0, 1) := by decide +kernel
theorem dX6_puddle_2 : decode cX6_puddle 2 = .ok (.iconst 4, 1) := by decide +kernel
theorem dX6_puddle_3 : decode cX6_puddle 3 = .ok (.invokestatic 64, 3) := by decide +kernel
theorem dX6_puddle_6 : decode cX6_puddle 6 = .ok (.ifCond .eq 20, 3) := by decide +kernel
theorem dX6_puddle_9 : decode cX6_puddle 9 = .ok (.iload_n 2, 1) := by decide +kernel
theorem dX6_puddle_10 : decode cX6_puddle 10 = .ok (.invokestatic 68, 3) := by decide +kernel
theorem dX6_puddle_13 : decode cX6_puddle 13 = .ok (.ifCond .eq 13, 3) := by decide +kernel
theorem dX6_puddle_16 : decode cX6_puddle 16 = .ok (.iload_n 3, 1) := by decide +kernel
theorem dX6_puddle_17 : decode cX6_puddle 17 = .ok (.iconst 0, 1) := by decide +kernel
theorem dX6_puddle_18 : decode cX6_puddle 18 = .ok (.bipush 60, 2) := by decide +kernel
theorem dX6_puddle_20 : decode cX6_puddle 20 = .ok (.invokestatic 64, 3) := by decide +kernel
theorem dX6_puddle_23 : decode cX6_puddle 23 = .ok (.ifCond .ne 5, 3) := by decide +kernel
theorem dX6_puddle_26 : decode cX6_puddle 26 = .ok (.iconst (-1), 1) := by decide +kernel
theorem dX6_puddle_27 : decode cX6_puddle 27 = .ok (.ireturn, 1) := by decide +kernel
theorem dX6_puddle_28 : decode cX6_puddle 28 = .ok (.aload_n 0, 1) := by decide +kernel
theorem dX6_puddle_29 : decode cX6_puddle 29 = .ok (.getfield 10, 3) := by decide +kernel
theorem dX6_puddle_32 : decode cX6_puddle 32 = .ok (.iload_n 1, 1) := by decide +kernel
theorem dX6_puddle_33 : decode cX6_puddle 33 = .ok (.iload_n 2, 1) := by decide +kernel
theorem dX6_puddle_34 : decode cX6_puddle 34 = .ok (.iload_n 3, 1) := by decide +kernel
theorem dX6_puddle_35 : decode cX6_puddle 35 = .ok (.invokevirtual 72, 3) := by decide +kernel
theorem dX6_puddle_38 : decode cX6_puddle 38 = .ok (.istore 4, 2) := by decide +kernel
theorem dX6_puddle_40 : decode cX6_puddle 40 = .ok (.iload 4, 2) := by decide +kernel
theorem dX6_puddle_42 : decode cX6_puddle 42 = .ok (.ifCond .lt 10, 3) := by decide +kernel
theorem dX6_puddle_45 : decode cX6_puddle 45 = .ok (.aload_n 0, 1) := by decide +kernel
theorem dX6_puddle_46 : decode cX6_puddle 46 = .ok (.getfield 19, 3) := by decide +kernel
theorem dX6_puddle_49 : decode cX6_puddle 49 = .ok (.invokevirtual 76, 3) := by decide +kernel
theorem dX6_puddle_52 : decode cX6_puddle 52 = .ok (.iload 4, 2) := by decide +kernel
theorem dX6_puddle_54 : decode cX6_puddle 54 = .ok (.ireturn, 1) := by decide +kernel
theorem dX6_person_0 : decode cX6_person 0 = .ok (.iload_n 1, 1) := by decide +kernel
theorem dX6_person_1 : decode cX6_person 1 = .ok (.invokestatic 68, 3) := by decide +kernel
theorem dX6_person_4 : decode cX6_person 4 = .ok (.ifCond .eq 20, 3) := by decide +kernel
theorem dX6_person_7 : decode cX6_person 7 = .ok (.iload_n 2, 1) := by decide +kernel
theorem dX6_person_8 : decode cX6_person 8 = .ok (.invokestatic 79, 3) := by decide +kernel
theorem dX6_person_11 : decode cX6_person 11 = .ok (.ifCond .eq 13, 3) := by decide +kernel
theorem dX6_person_14 : decode cX6_person 14 = .ok (.iload_n 3, 1) := by decide +kernel
theorem dX6_person_15 : decode cX6_person 15 = .ok (.iconst 1, 1) := by decide +kernel
theorem dX6_person_16 : decode cX6_person 16 = .ok (.bipush 30, 2) := by decide +kernel
theorem dX6_person_18 : decode cX6_person 18 = .ok (.invokestatic 64, 3) := by decide +kernel
theorem dX6_person_21 : decode cX6_person 21 = .ok (.ifCond .ne 5, 3) := by decide +kernel
theorem dX6_person_24 : decode cX6_person 24 = .ok (.iconst (-1), 1) := by decide +kernel
theorem dX6_person_25 : decode cX6_person 25 = .ok (.ireturn, 1) := by decide +kernel
theorem dX6_person_26 : decode cX6_person 26 = .ok (.aload_n 0, 1) := by decide +kernel
theorem dX6_person_27 : decode cX6_person 27 = .ok (.getfield 10, 3) := by decide +kernel
theorem dX6_person_30 : decode cX6_person 30 = .ok (.iload_n 1, 1) := by decide +kernel
theorem dX6_person_31 : decode cX6_person 31 = .ok (.iload_n 2, 1) := by decide +kernel
theorem dX6_person_32 : decode cX6_person 32 = .ok (.iload_n 3, 1) := by decide +kernel
theorem dX6_person_33 : decode cX6_person 33 = .ok (.invokevirtual 82, 3) := by decide +kernel
theorem dX6_person_36 : decode cX6_person 36 = .ok (.istore 4, 2) := by decide +kernel
theorem dX6_person_38 : decode cX6_person 38 = .ok (.iload 4, 2) := by decide +kernel
theorem dX6_person_40 : decode cX6_person 40 = .ok (.ifCond .lt 10, 3) := by decide +kernel
theorem dX6_person_43 : decode cX6_person 43 = .ok (.aload_n 0, 1) := by decide +kernel
theorem dX6_person_44 : decode cX6_person 44 = .ok (.getfield 19, 3) := by decide +kernel
theorem dX6_person_47 : decode cX6_person 47 = .ok (.invokevirtual 76, 3) := by decide +kernel
theorem dX6_person_50 : decode cX6_person 50 = .ok (.iload 4, 2) := by decide +kernel
theorem dX6_person_52 : decode cX6_person 52 = .ok (.ireturn, 1) := by decide +kernel
theorem dX6_show_0 : decode cX6_show 0 = .ok (.aload_n 0, 1) := by decide +kernel
theorem dX6_show_1 : decode cX6_show 1 = .ok (.getfield 10, 3) := by decide +kernel
theorem dX6_show_4 : decode cX6_show 4 = .ok (.iload_n 1, 1) := by decide +kernel
theorem dX6_show_5 : decode cX6_show 5 = .ok (.invokevirtual 85, 3) := by decide +kernel
theorem dX6_show_8 : decode cX6_show 8 = .ok (.ifCond .eq 10, 3) := by decide +kernel
theorem dX6_show_11 : decode cX6_show 11 = .ok (.iload_n 2, 1) := by decide +kernel
theorem dX6_show_12 : decode cX6_show 12 = .ok (.invokestatic 68, 3) := by decide +kernel
theorem dX6_show_15 : decode cX6_show 15 = .ok (.ifCond .ne 5, 3) := by decide +kernel
theorem dX6_show_18 : decode cX6_show 18 = .ok (.iconst (-1), 1) := by decide +kernel
theorem dX6_show_19 : decode cX6_show 19 = .ok (.ireturn, 1) := by decide +kernel
theorem dX6_show_20 : decode cX6_show 20 = .ok (.aload_n 0, 1) := by decide +kernel
theorem dX6_show_21 : decode cX6_show 21 = .ok (.getfield 10, 3) := by decide +kernel
theorem dX6_show_24 : decode cX6_show 24 = .ok (.getfield 88, 3) := by decide +kernel
theorem dX6_show_27 : decode cX6_show 27 = .ok (.iload_n 1, 1) := by decide +kernel
theorem dX6_show_28 : decode cX6_show 28 = .ok (.iaload, 1) := by decide +kernel
theorem dX6_show_29 : decode cX6_show 29 = .ok (.istore_n 3, 1) := by decide +kernel
theorem dX6_show_30 : decode cX6_show 30 = .ok (.aload_n 0, 1) := by decide +kernel
theorem dX6_show_31 : decode cX6_show 31 = .ok (.getfield 10, 3) := by decide +kernel
theorem dX6_show_34 : decode cX6_show 34 = .ok (.getfield 88, 3) := by decide +kernel
theorem dX6_show_37 : decode cX6_show 37 = .ok (.iload_n 1, 1) := by decide +kernel
theorem dX6_show_38 : decode cX6_show 38 = .ok (.iload_n 2, 1) := by decide +kernel
theorem dX6_show_39 : decode cX6_show 39 = .ok (.iastore, 1) := by decide +kernel
theorem dX6_show_40 : decode cX6_show 40 = .ok (.iload_n 3, 1) := by decide +kernel
theorem dX6_show_41 : decode cX6_show 41 = .ok (.ireturn, 1) := by decide +kernel
theorem dX6_of_0 : decode cX6_of 0 = .ok (.aload_n 0, 1) := by decide +kernel
theorem dX6_of_1 : decode cX6_of 1 = .ok (.getfield 10, 3) := by decide +kernel
theorem dX6_of_4 : decode cX6_of 4 = .ok (.iload_n 1, 1) := by decide +kernel
theorem dX6_of_5 : decode cX6_of 5 = .ok (.invokevirtual 85, 3) := by decide +kernel
theorem dX6_of_8 : decode cX6_of 8 = .ok (.ifCond .ne 5, 3) := by decide +kernel
theorem dX6_of_11 : decode cX6_of 11 = .ok (.iconst (-1), 1) := by decide +kernel
theorem dX6_of_12 : decode cX6_of 12 = .ok (.ireturn, 1) := by decide +kernel
theorem dX6_of_13 : decode cX6_of 13 = .ok (.iload_n 2, 1) := by decide +kernel
theorem dX6_of_14 : decode cX6_of 14 = .ok (.tableswitch 89 0 4 #[34, 44, 54, 64, 73], 34) := by decide +kernel
theorem dX6_of_48 : decode cX6_of 48 = .ok (.aload_n 0, 1) := by decide +kernel
theorem dX6_of_49 : decode cX6_of 49 = .ok (.getfield 10, 3) := by decide +kernel
theorem dX6_of_52 : decode cX6_of 52 = .ok (.getfield 92, 3) := by decide +kernel
theorem dX6_of_55 : decode cX6_of 55 = .ok (.iload_n 1, 1) := by decide +kernel
theorem dX6_of_56 : decode cX6_of 56 = .ok (.iaload, 1) := by decide +kernel
theorem dX6_of_57 : decode cX6_of 57 = .ok (.ireturn, 1) := by decide +kernel
theorem dX6_of_58 : decode cX6_of 58 = .ok (.aload_n 0, 1) := by decide +kernel
theorem dX6_of_59 : decode cX6_of 59 = .ok (.getfield 10, 3) := by decide +kernel
theorem dX6_of_62 : decode cX6_of 62 = .ok (.getfield 88, 3) := by decide +kernel
theorem dX6_of_65 : decode cX6_of 65 = .ok (.iload_n 1, 1) := by decide +kernel
theorem dX6_of_66 : decode cX6_of 66 = .ok (.iaload, 1) := by decide +kernel
theorem dX6_of_67 : decode cX6_of 67 = .ok (.ireturn, 1) := by decide +kernel
theorem dX6_of_68 : decode cX6_of 68 = .ok (.aload_n 0, 1) := by decide +kernel
theorem dX6_of_69 : decode cX6_of 69 = .ok (.getfield 10, 3) := by decide +kernel
theorem dX6_of_72 : decode cX6_of 72 = .ok (.getfield 95, 3) := by decide +kernel
theorem dX6_of_75 : decode cX6_of 75 = .ok (.iload_n 1, 1) := by decide +kernel
theorem dX6_of_76 : decode cX6_of 76 = .ok (.iaload, 1) := by decide +kernel
theorem dX6_of_77 : decode cX6_of 77 = .ok (.ireturn, 1) := by decide +kernel
theorem dX6_of_78 : decode cX6_of 78 = .ok (.aload_n 0, 1) := by decide +kernel
theorem dX6_of_79 : decode cX6_of 79 = .ok (.getfield 10, 3) := by decide +kernel
theorem dX6_of_82 : decode cX6_of 82 = .ok (.iload_n 1, 1) := by decide +kernel
theorem dX6_of_83 : decode cX6_of 83 = .ok (.invokevirtual 98, 3) := by decide +kernel
theorem dX6_of_86 : decode cX6_of 86 = .ok (.ireturn, 1) := by decide +kernel
theorem dX6_of_87 : decode cX6_of 87 = .ok (.aload_n 0, 1) := by decide +kernel
theorem dX6_of_88 : decode cX6_of 88 = .ok (.getfield 10, 3) := by decide +kernel
theorem dX6_of_91 : decode cX6_of 91 = .ok (.iload_n 1, 1) := by decide +kernel
theorem dX6_of_92 : decode cX6_of 92 = .ok (.aload_n 0, 1) := by decide +kernel
theorem dX6_of_93 : decode cX6_of 93 = .ok (.getfield 10, 3) := by decide +kernel
theorem dX6_of_96 : decode cX6_of 96 = .ok (.invokevirtual 102, 3) := by decide +kernel
theorem dX6_of_99 : decode cX6_of 99 = .ok (.invokevirtual 106, 3) := by decide +kernel
theorem dX6_of_102 : decode cX6_of 102 = .ok (.ireturn, 1) := by decide +kernel
theorem dX6_of_103 : decode cX6_of 103 = .ok (.iconst (-1), 1) := by decide +kernel
theorem dX6_of_104 : decode cX6_of 104 = .ok (.ireturn, 1) := by decide +kernel
theorem dX6_at_0 : decode cX6_at 0 = .ok (.aload_n 0, 1) := by decide +kernel
theorem dX6_at_1 : decode cX6_at 1 = .ok (.getfield 10, 3) := by decide +kernel
theorem dX6_at_4 : decode cX6_at 4 = .ok (.iload_n 1, 1) := by decide +kernel
theorem dX6_at_5 : decode cX6_at 5 = .ok (.invokevirtual 110, 3) := by decide +kernel
theorem dX6_at_8 : decode cX6_at 8 = .ok (.ifCond .ne 5, 3) := by decide +kernel
theorem dX6_at_11 : decode cX6_at 11 = .ok (.iconst (-1), 1) := by decide +kernel
theorem dX6_at_12 : decode cX6_at 12 = .ok (.ireturn, 1) := by decide +kernel
theorem dX6_at_13 : decode cX6_at 13 = .ok (.iload_n 2, 1) := by decide +kernel
theorem dX6_at_14 : decode cX6_at 14 = .ok (.tableswitch 83 0 4 #[34, 44, 54, 64, 74], 34) := by decide +kernel
theorem dX6_at_48 : decode cX6_at 48 = .ok (.aload_n 0, 1) := by decide +kernel
theorem dX6_at_49 : decode cX6_at 49 = .ok (.getfield 10, 3) := by decide +kernel
theorem dX6_at_52 : decode cX6_at 52 = .ok (.getfield 113, 3) := by decide +kernel
theorem dX6_at_55 : decode cX6_at 55 = .ok (.iload_n 1, 1) := by decide +kernel
theorem dX6_at_56 : decode cX6_at 56 = .ok (.iaload, 1) := by decide +kernel
theorem dX6_at_57 : decode cX6_at 57 = .ok (.ireturn, 1) := by decide +kernel
theorem dX6_at_58 : decode cX6_at 58 = .ok (.aload_n 0, 1) := by decide +kernel
theorem dX6_at_59 : decode cX6_at 59 = .ok (.getfield 10, 3) := by decide +kernel
theorem dX6_at_62 : decode cX6_at 62 = .ok (.getfield 116, 3) := by decide +kernel
theorem dX6_at_65 : decode cX6_at 65 = .ok (.iload_n 1, 1) := by decide +kernel
theorem dX6_at_66 : decode cX6_at 66 = .ok (.iaload, 1) := by decide +kernel
theorem dX6_at_67 : decode cX6_at 67 = .ok (.ireturn, 1) := by decide +kernel
theorem dX6_at_68 : decode cX6_at 68 = .ok (.aload_n 0, 1) := by decide +kernel
theorem dX6_at_69 : decode cX6_at 69 = .ok (.getfield 10, 3) := by decide +kernel
theorem dX6_at_72 : decode cX6_at 72 = .ok (.getfield 119, 3) := by decide +kernel
theorem dX6_at_75 : decode cX6_at 75 = .ok (.iload_n 1, 1) := by decide +kernel
theorem dX6_at_76 : decode cX6_at 76 = .ok (.iaload, 1) := by decide +kernel
theorem dX6_at_77 : decode cX6_at 77 = .ok (.ireturn, 1) := by decide +kernel
theorem dX6_at_78 : decode cX6_at 78 = .ok (.aload_n 0, 1) := by decide +kernel
theorem dX6_at_79 : decode cX6_at 79 = .ok (.getfield 10, 3) := by decide +kernel
theorem dX6_at_82 : decode cX6_at 82 = .ok (.getfield 122, 3) := by decide +kernel
theorem dX6_at_85 : decode cX6_at 85 = .ok (.iload_n 1, 1) := by decide +kernel
theorem dX6_at_86 : decode cX6_at 86 = .ok (.iaload, 1) := by decide +kernel
theorem dX6_at_87 : decode cX6_at 87 = .ok (.ireturn, 1) := by decide +kernel
theorem dX6_at_88 : decode cX6_at 88 = .ok (.aload_n 0, 1) := by decide +kernel
theorem dX6_at_89 : decode cX6_at 89 = .ok (.getfield 10, 3) := by decide +kernel
theorem dX6_at_92 : decode cX6_at 92 = .ok (.iload_n 1, 1) := by decide +kernel
theorem dX6_at_93 : decode cX6_at 93 = .ok (.invokevirtual 125, 3) := by decide +kernel
theorem dX6_at_96 : decode cX6_at 96 = .ok (.ireturn, 1) := by decide +kernel
theorem dX6_at_97 : decode cX6_at 97 = .ok (.iconst (-1), 1) := by decide +kernel
theorem dX6_at_98 : decode cX6_at 98 = .ok (.ireturn, 1) := by decide +kernel
theorem dX6_type_0 : decode cX6_type 0 = .ok (.iload_n 1, 1) := by decide +kernel
theorem dX6_type_1 : decode cX6_type 1 = .ok (.bipush 32, 2) := by decide +kernel
theorem dX6_type_3 : decode cX6_type 3 = .ok (.bipush 126, 2) := by decide +kernel
theorem dX6_type_5 : decode cX6_type 5 = .ok (.invokestatic 64, 3) := by decide +kernel
theorem dX6_type_8 : decode cX6_type 8 = .ok (.ifCond .eq 15, 3) := by decide +kernel
theorem dX6_type_11 : decode cX6_type 11 = .ok (.aload_n 0, 1) := by decide +kernel
theorem dX6_type_12 : decode cX6_type 12 = .ok (.getfield 39, 3) := by decide +kernel
theorem dX6_type_15 : decode cX6_type 15 = .ok (.iload_n 1, 1) := by decide +kernel
theorem dX6_type_16 : decode cX6_type 16 = .ok (.i2c, 1) := by decide +kernel
theorem dX6_type_17 : decode cX6_type 17 = .ok (.invokevirtual 128, 3) := by decide +kernel
theorem dX6_type_20 : decode cX6_type 20 = .ok (.goto 4, 3) := by decide +kernel
theorem dX6_type_23 : decode cX6_type 23 = .ok (.iconst (-1), 1) := by decide +kernel
theorem dX6_type_24 : decode cX6_type 24 = .ok (.ireturn, 1) := by decide +kernel
theorem dX6_read_0 : decode cX6_read 0 = .ok (.aload_n 0, 1) := by decide +kernel
theorem dX6_read_1 : decode cX6_read 1 = .ok (.getfield 39, 3) := by decide +kernel
theorem dX6_read_4 : decode cX6_read 4 = .ok (.aload_n 0, 1) := by decide +kernel
theorem dX6_read_5 : decode cX6_read 5 = .ok (.getfield 23, 3) := by decide +kernel
theorem dX6_read_8 : decode cX6_read 8 = .ok (.invokevirtual 132, 3) := by decide +kernel
theorem dX6_read_11 : decode cX6_read 11 = .ok (.istore_n 1, 1) := by decide +kernel
theorem dX6_read_12 : decode cX6_read 12 = .ok (.iload_n 1, 1) := by decide +kernel
theorem dX6_read_13 : decode cX6_read 13 = .ok (.ifCond .eq 5, 3) := by decide +kernel
theorem dX6_read_16 : decode cX6_read 16 = .ok (.iload_n 1, 1) := by decide +kernel
theorem dX6_read_17 : decode cX6_read 17 = .ok (.ireturn, 1) := by decide +kernel
theorem dX6_read_18 : decode cX6_read 18 = .ok (.aload_n 0, 1) := by decide +kernel
theorem dX6_read_19 : decode cX6_read 19 = .ok (.getfield 23, 3) := by decide +kernel
theorem dX6_read_22 : decode cX6_read 22 = .ok (.aload_n 0, 1) := by decide +kernel
theorem dX6_read_23 : decode cX6_read 23 = .ok (.getfield 10, 3) := by decide +kernel
theorem dX6_read_26 : decode cX6_read 26 = .ok (.getfield 136, 3) := by decide +kernel
theorem dX6_read_29 : decode cX6_read 29 = .ok (.putfield 136, 3) := by decide +kernel
theorem dX6_read_32 : decode cX6_read 32 = .ok (.aload_n 0, 1) := by decide +kernel
theorem dX6_read_33 : decode cX6_read 33 = .ok (.getfield 10, 3) := by decide +kernel
theorem dX6_read_36 : decode cX6_read 36 = .ok (.aload_n 0, 1) := by decide +kernel
theorem dX6_read_37 : decode cX6_read 37 = .ok (.getfield 23, 3) := by decide +kernel
theorem dX6_read_40 : decode cX6_read 40 = .ok (.invokevirtual 140, 3) := by decide +kernel
theorem dX6_read_43 : decode cX6_read 43 = .ok (.aload_n 0, 1) := by decide +kernel
theorem dX6_read_44 : decode cX6_read 44 = .ok (.getfield 19, 3) := by decide +kernel
theorem dX6_read_47 : decode cX6_read 47 = .ok (.invokevirtual 76, 3) := by decide +kernel
theorem dX6_read_50 : decode cX6_read 50 = .ok (.aload_n 0, 1) := by decide +kernel
theorem dX6_read_51 : decode cX6_read 51 = .ok (.getfield 10, 3) := by decide +kernel
theorem dX6_read_54 : decode cX6_read 54 = .ok (.getfield 144, 3) := by decide +kernel
theorem dX6_read_57 : decode cX6_read 57 = .ok (.ireturn, 1) := by decide +kernel
theorem dX6_count_0 : decode cX6_count 0 = .ok (.iload_n 1, 1) := by decide +kernel
theorem dX6_count_1 : decode cX6_count 1 = .ok (.tableswitch 111 0 7 #[47, 55, 63, 71, 79, 87, 95, 103], 47) := by decide +kernel
theorem dX6_count_48 : decode cX6_count 48 = .ok (.aload_n 0, 1) := by decide +kernel
theorem dX6_count_49 : decode cX6_count 49 = .ok (.getfield 10, 3) := by decide +kernel
theorem dX6_count_52 : decode cX6_count 52 = .ok (.getfield 144, 3) := by decide +kernel
theorem dX6_count_55 : decode cX6_count 55 = .ok (.ireturn, 1) := by decide +kernel
theorem dX6_count_56 : decode cX6_count 56 = .ok (.aload_n 0, 1) := by decide +kernel
theorem dX6_count_57 : decode cX6_count 57 = .ok (.getfield 10, 3) := by decide +kernel
theorem dX6_count_60 : decode cX6_count 60 = .ok (.getfield 147, 3) := by decide +kernel
theorem dX6_count_63 : decode cX6_count 63 = .ok (.ireturn, 1) := by decide +kernel
theorem dX6_count_64 : decode cX6_count 64 = .ok (.aload_n 0, 1) := by decide +kernel
theorem dX6_count_65 : decode cX6_count 65 = .ok (.getfield 10, 3) := by decide +kernel
theorem dX6_count_68 : decode cX6_count 68 = .ok (.getfield 150, 3) := by decide +kernel
theorem dX6_count_71 : decode cX6_count 71 = .ok (.ireturn, 1) := by decide +kernel
theorem dX6_count_72 : decode cX6_count 72 = .ok (.aload_n 0, 1) := by decide +kernel
theorem dX6_count_73 : decode cX6_count 73 = .ok (.getfield 10, 3) := by decide +kernel
theorem dX6_count_76 : decode cX6_count 76 = .ok (.invokevirtual 153, 3) := by decide +kernel
theorem dX6_count_79 : decode cX6_count 79 = .ok (.ireturn, 1) := by decide +kernel
theorem dX6_count_80 : decode cX6_count 80 = .ok (.aload_n 0, 1) := by decide +kernel
theorem dX6_count_81 : decode cX6_count 81 = .ok (.getfield 10, 3) := by decide +kernel
theorem dX6_count_84 : decode cX6_count 84 = .ok (.invokevirtual 102, 3) := by decide +kernel
theorem dX6_count_87 : decode cX6_count 87 = .ok (.ireturn, 1) := by decide +kernel
theorem dX6_count_88 : decode cX6_count 88 = .ok (.aload_n 0, 1) := by decide +kernel
theorem dX6_count_89 : decode cX6_count 89 = .ok (.getfield 10, 3) := by decide +kernel
theorem dX6_count_92 : decode cX6_count 92 = .ok (.invokevirtual 156, 3) := by decide +kernel
theorem dX6_count_95 : decode cX6_count 95 = .ok (.ireturn, 1) := by decide +kernel
theorem dX6_count_96 : decode cX6_count 96 = .ok (.aload_n 0, 1) := by decide +kernel
theorem dX6_count_97 : decode cX6_count 97 = .ok (.getfield 10, 3) := by decide +kernel
theorem dX6_count_100 : decode cX6_count 100 = .ok (.invokevirtual 159, 3) := by decide +kernel
theorem dX6_count_103 : decode cX6_count 103 = .ok (.ireturn, 1) := by decide +kernel
theorem dX6_count_104 : decode cX6_count 104 = .ok (.aload_n 0, 1) := by decide +kernel
theorem dX6_count_105 : decode cX6_count 105 = .ok (.getfield 19, 3) := by decide +kernel
theorem dX6_count_108 : decode cX6_count 108 = .ok (.getfield 162, 3) := by decide +kernel
theorem dX6_count_111 : decode cX6_count 111 = .ok (.ireturn, 1) := by decide +kernel
theorem dX6_count_112 : decode cX6_count 112 = .ok (.iconst (-1), 1) := by decide +kernel
theorem dX6_count_113 : decode cX6_count 113 = .ok (.ireturn, 1) := by decide +kernel
theorem dX6_hours_0 : decode cX6_hours 0 = .ok (.aload_n 0, 1) := by decide +kernel
theorem dX6_hours_1 : decode cX6_hours 1 = .ok (.iload_n 1, 1) := by decide +kernel
theorem dX6_hours_2 : decode cX6_hours 2 = .ok (.iconst 0, 1) := by decide +kernel
theorem dX6_hours_3 : decode cX6_hours 3 = .ok (.invokevirtual 165, 3) := by decide +kernel
theorem dX6_hours_6 : decode cX6_hours 6 = .ok (.ireturn, 1) := by decide +kernel
theorem dX6_rain_0 : decode cX6_rain 0 = .ok (.iload_n 1, 1) := by decide +kernel
theorem dX6_rain_1 : decode cX6_rain 1 = .ok (.iconst 1, 1) := by decide +kernel
theorem dX6_rain_2 : decode cX6_rain 2 = .ok (.bipush 60, 2) := by decide +kernel
theorem dX6_rain_4 : decode cX6_rain 4 = .ok (.invokestatic 64, 3) := by decide +kernel
theorem dX6_rain_7 : decode cX6_rain 7 = .ok (.ifCond .ne 5, 3) := by decide +kernel
theorem dX6_rain_10 : decode cX6_rain 10 = .ok (.iconst (-1), 1) := by decide +kernel
theorem dX6_rain_11 : decode cX6_rain 11 = .ok (.ireturn, 1) := by decide +kernel
theorem dX6_rain_12 : decode cX6_rain 12 = .ok (.aload_n 0, 1) := by decide +kernel
theorem dX6_rain_13 : decode cX6_rain 13 = .ok (.getfield 19, 3) := by decide +kernel
theorem dX6_rain_16 : decode cX6_rain 16 = .ok (.aload_n 0, 1) := by decide +kernel
theorem dX6_rain_17 : decode cX6_rain 17 = .ok (.getfield 10, 3) := by decide +kernel
theorem dX6_rain_20 : decode cX6_rain 20 = .ok (.invokevirtual 169, 3) := by decide +kernel
theorem dX6_rain_23 : decode cX6_rain 23 = .ok (.aload_n 0, 1) := by decide +kernel
theorem dX6_rain_24 : decode cX6_rain 24 = .ok (.getfield 10, 3) := by decide +kernel
theorem dX6_rain_27 : decode cX6_rain 27 = .ok (.iload_n 1, 1) := by decide +kernel
theorem dX6_rain_28 : decode cX6_rain 28 = .ok (.invokevirtual 172, 3) := by decide +kernel
theorem dX6_rain_31 : decode cX6_rain 31 = .ok (.aload_n 0, 1) := by decide +kernel
theorem dX6_rain_32 : decode cX6_rain 32 = .ok (.getfield 10, 3) := by decide +kernel
theorem dX6_rain_35 : decode cX6_rain 35 = .ok (.invokevirtual 153, 3) := by decide +kernel
theorem dX6_rain_38 : decode cX6_rain 38 = .ok (.ireturn, 1) := by decide +kernel
theorem dX6_drive_0 : decode cX6_drive 0 = .ok (.aload_n 0, 1) := by decide +kernel
theorem dX6_drive_1 : decode cX6_drive 1 = .ok (.getfield 10, 3) := by decide +kernel
theorem dX6_drive_4 : decode cX6_drive 4 = .ok (.iload_n 1, 1) := by decide +kernel
theorem dX6_drive_5 : decode cX6_drive 5 = .ok (.invokevirtual 85, 3) := by decide +kernel
theorem dX6_drive_8 : decode cX6_drive 8 = .ok (.ifCond .ne 5, 3) := by decide +kernel
theorem dX6_drive_11 : decode cX6_drive 11 = .ok (.iconst (-1), 1) := by decide +kernel
theorem dX6_drive_12 : decode cX6_drive 12 = .ok (.ireturn, 1) := by decide +kernel
theorem dX6_drive_13 : decode cX6_drive 13 = .ok (.aload_n 0, 1) := by decide +kernel
theorem dX6_drive_14 : decode cX6_drive 14 = .ok (.getfield 10, 3) := by decide +kernel
theorem dX6_drive_17 : decode cX6_drive 17 = .ok (.iload_n 1, 1) := by decide +kernel
theorem dX6_drive_18 : decode cX6_drive 18 = .ok (.invokevirtual 176, 3) := by decide +kernel
theorem dX6_drive_21 : decode cX6_drive 21 = .ok (.ifCond .eq 6, 3) := by decide +kernel
theorem dX6_drive_24 : decode cX6_drive 24 = .ok (.bipush (-2), 2) := by decide +kernel
theorem dX6_drive_26 : decode cX6_drive 26 = .ok (.ireturn, 1) := by decide +kernel
theorem dX6_drive_27 : decode cX6_drive 27 = .ok (.aload_n 0, 1) := by decide +kernel
theorem dX6_drive_28 : decode cX6_drive 28 = .ok (.getfield 19, 3) := by decide +kernel
theorem dX6_drive_31 : decode cX6_drive 31 = .ok (.aload_n 0, 1) := by decide +kernel
theorem dX6_drive_32 : decode cX6_drive 32 = .ok (.getfield 10, 3) := by decide +kernel
theorem dX6_drive_35 : decode cX6_drive 35 = .ok (.invokevirtual 169, 3) := by decide +kernel
theorem dX6_drive_38 : decode cX6_drive 38 = .ok (.aload_n 0, 1) := by decide +kernel
theorem dX6_drive_39 : decode cX6_drive 39 = .ok (.getfield 10, 3) := by decide +kernel
theorem dX6_drive_42 : decode cX6_drive 42 = .ok (.iload_n 1, 1) := by decide +kernel
theorem dX6_drive_43 : decode cX6_drive 43 = .ok (.invokevirtual 179, 3) := by decide +kernel
theorem dX6_drive_46 : decode cX6_drive 46 = .ok (.aload_n 0, 1) := by decide +kernel
theorem dX6_drive_47 : decode cX6_drive 47 = .ok (.getfield 10, 3) := by decide +kernel
theorem dX6_drive_50 : decode cX6_drive 50 = .ok (.getfield 95, 3) := by decide +kernel
theorem dX6_drive_53 : decode cX6_drive 53 = .ok (.iload_n 1, 1) := by decide +kernel
theorem dX6_drive_54 : decode cX6_drive 54 = .ok (.iaload, 1) := by decide +kernel
theorem dX6_drive_55 : decode cX6_drive 55 = .ok (.ireturn, 1) := by decide +kernel
theorem dX6_send_0 : decode cX6_send 0 = .ok (.aload_n 0, 1) := by decide +kernel
theorem dX6_send_1 : decode cX6_send 1 = .ok (.getfield 10, 3) := by decide +kernel
theorem dX6_send_4 : decode cX6_send 4 = .ok (.iload_n 1, 1) := by decide +kernel
theorem dX6_send_5 : decode cX6_send 5 = .ok (.invokevirtual 110, 3) := by decide +kernel
theorem dX6_send_8 : decode cX6_send 8 = .ok (.ifCond .ne 5, 3) := by decide +kernel
theorem dX6_send_11 : decode cX6_send 11 = .ok (.iconst (-1), 1) := by decide +kernel
theorem dX6_send_12 : decode cX6_send 12 = .ok (.ireturn, 1) := by decide +kernel
theorem dX6_send_13 : decode cX6_send 13 = .ok (.aload_n 0, 1) := by decide +kernel
theorem dX6_send_14 : decode cX6_send 14 = .ok (.getfield 10, 3) := by decide +kernel
theorem dX6_send_17 : decode cX6_send 17 = .ok (.iload_n 1, 1) := by decide +kernel
theorem dX6_send_18 : decode cX6_send 18 = .ok (.invokevirtual 182, 3) := by decide +kernel
theorem dX6_send_21 : decode cX6_send 21 = .ok (.ifCond .ne 6, 3) := by decide +kernel
theorem dX6_send_24 : decode cX6_send 24 = .ok (.bipush (-2), 2) := by decide +kernel
theorem dX6_send_26 : decode cX6_send 26 = .ok (.ireturn, 1) := by decide +kernel
theorem dX6_send_27 : decode cX6_send 27 = .ok (.aload_n 0, 1) := by decide +kernel
theorem dX6_send_28 : decode cX6_send 28 = .ok (.getfield 19, 3) := by decide +kernel
theorem dX6_send_31 : decode cX6_send 31 = .ok (.aload_n 0, 1) := by decide +kernel
theorem dX6_send_32 : decode cX6_send 32 = .ok (.getfield 10, 3) := by decide +kernel
theorem dX6_send_35 : decode cX6_send 35 = .ok (.invokevirtual 169, 3) := by decide +kernel
theorem dX6_send_38 : decode cX6_send 38 = .ok (.aload_n 0, 1) := by decide +kernel
theorem dX6_send_39 : decode cX6_send 39 = .ok (.getfield 10, 3) := by decide +kernel
theorem dX6_send_42 : decode cX6_send 42 = .ok (.getfield 122, 3) := by decide +kernel
theorem dX6_send_45 : decode cX6_send 45 = .ok (.iload_n 1, 1) := by decide +kernel
theorem dX6_send_46 : decode cX6_send 46 = .ok (.iaload, 1) := by decide +kernel
theorem dX6_send_47 : decode cX6_send 47 = .ok (.istore_n 2, 1) := by decide +kernel
theorem dX6_send_48 : decode cX6_send 48 = .ok (.aload_n 0, 1) := by decide +kernel
theorem dX6_send_49 : decode cX6_send 49 = .ok (.getfield 10, 3) := by decide +kernel
theorem dX6_send_52 : decode cX6_send 52 = .ok (.getfield 122, 3) := by decide +kernel
theorem dX6_send_55 : decode cX6_send 55 = .ok (.iload_n 1, 1) := by decide +kernel
theorem dX6_send_56 : decode cX6_send 56 = .ok (.bipush (-4), 2) := by decide +kernel
theorem dX6_send_58 : decode cX6_send 58 = .ok (.iastore, 1) := by decide +kernel
theorem dX6_send_59 : decode cX6_send 59 = .ok (.iload_n 2, 1) := by decide +kernel
theorem dX6_send_60 : decode cX6_send 60 = .ok (.ireturn, 1) := by decide +kernel
theorem dX6_later_0 : decode cX6_later 0 = .ok (.aload_n 0, 1) := by decide +kernel
theorem dX6_later_1 : decode cX6_later 1 = .ok (.getfield 10, 3) := by decide +kernel
theorem dX6_later_4 : decode cX6_later 4 = .ok (.iload_n 1, 1) := by decide +kernel
theorem dX6_later_5 : decode cX6_later 5 = .ok (.invokevirtual 110, 3) := by decide +kernel
theorem dX6_later_8 : decode cX6_later 8 = .ok (.ifCond .eq 10, 3) := by decide +kernel
theorem dX6_later_11 : decode cX6_later 11 = .ok (.iload_n 2, 1) := by decide +kernel
theorem dX6_later_12 : decode cX6_later 12 = .ok (.invokestatic 79, 3) := by decide +kernel
theorem dX6_later_15 : decode cX6_later 15 = .ok (.ifCond .ne 5, 3) := by decide +kernel
theorem dX6_later_18 : decode cX6_later 18 = .ok (.iconst (-1), 1) := by decide +kernel
theorem dX6_later_19 : decode cX6_later 19 = .ok (.ireturn, 1) := by decide +kernel
theorem dX6_later_20 : decode cX6_later 20 = .ok (.aload_n 0, 1) := by decide +kernel
theorem dX6_later_21 : decode cX6_later 21 = .ok (.getfield 10, 3) := by decide +kernel
theorem dX6_later_24 : decode cX6_later 24 = .ok (.getfield 116, 3) := by decide +kernel
theorem dX6_later_27 : decode cX6_later 27 = .ok (.iload_n 1, 1) := by decide +kernel
theorem dX6_later_28 : decode cX6_later 28 = .ok (.iaload, 1) := by decide +kernel
theorem dX6_later_29 : decode cX6_later 29 = .ok (.iload_n 2, 1) := by decide +kernel
theorem dX6_later_30 : decode cX6_later 30 = .ok (.if_icmp .ne 6, 3) := by decide +kernel
theorem dX6_later_33 : decode cX6_later 33 = .ok (.bipush (-2), 2) := by decide +kernel
theorem dX6_later_35 : decode cX6_later 35 = .ok (.ireturn, 1) := by decide +kernel
theorem dX6_later_36 : decode cX6_later 36 = .ok (.aload_n 0, 1) := by decide +kernel
theorem dX6_later_37 : decode cX6_later 37 = .ok (.getfield 19, 3) := by decide +kernel
theorem dX6_later_40 : decode cX6_later 40 = .ok (.aload_n 0, 1) := by decide +kernel
theorem dX6_later_41 : decode cX6_later 41 = .ok (.getfield 10, 3) := by decide +kernel
theorem dX6_later_44 : decode cX6_later 44 = .ok (.invokevirtual 169, 3) := by decide +kernel
theorem dX6_later_47 : decode cX6_later 47 = .ok (.aload_n 0, 1) := by decide +kernel
theorem dX6_later_48 : decode cX6_later 48 = .ok (.getfield 10, 3) := by decide +kernel
theorem dX6_later_51 : decode cX6_later 51 = .ok (.getfield 116, 3) := by decide +kernel
theorem dX6_later_54 : decode cX6_later 54 = .ok (.iload_n 1, 1) := by decide +kernel
theorem dX6_later_55 : decode cX6_later 55 = .ok (.iaload, 1) := by decide +kernel
theorem dX6_later_56 : decode cX6_later 56 = .ok (.istore_n 3, 1) := by decide +kernel
theorem dX6_later_57 : decode cX6_later 57 = .ok (.aload_n 0, 1) := by decide +kernel
theorem dX6_later_58 : decode cX6_later 58 = .ok (.getfield 10, 3) := by decide +kernel
theorem dX6_later_61 : decode cX6_later 61 = .ok (.getfield 116, 3) := by decide +kernel
theorem dX6_later_64 : decode cX6_later 64 = .ok (.iload_n 1, 1) := by decide +kernel
theorem dX6_later_65 : decode cX6_later 65 = .ok (.iload_n 2, 1) := by decide +kernel
theorem dX6_later_66 : decode cX6_later 66 = .ok (.iastore, 1) := by decide +kernel
theorem dX6_later_67 : decode cX6_later 67 = .ok (.iload_n 3, 1) := by decide +kernel
theorem dX6_later_68 : decode cX6_later 68 = .ok (.ireturn, 1) := by decide +kernel
theorem dX6_drift_0 : decode cX6_drift 0 = .ok (.aload_n 0, 1) := by decide +kernel
theorem dX6_drift_1 : decode cX6_drift 1 = .ok (.iload_n 1, 1) := by decide +kernel
theorem dX6_drift_2 : decode cX6_drift 2 = .ok (.iconst 1, 1) := by decide +kernel
theorem dX6_drift_3 : decode cX6_drift 3 = .ok (.invokevirtual 165, 3) := by decide +kernel
theorem dX6_drift_6 : decode cX6_drift 6 = .ok (.ireturn, 1) := by decide +kernel
theorem dX6_undo_0 : decode cX6_undo 0 = .ok (.aload_n 0, 1) := by decide +kernel
theorem dX6_undo_1 : decode cX6_undo 1 = .ok (.getfield 19, 3) := by decide +kernel
theorem dX6_undo_4 : decode cX6_undo 4 = .ok (.aload_n 0, 1) := by decide +kernel
theorem dX6_undo_5 : decode cX6_undo 5 = .ok (.getfield 10, 3) := by decide +kernel
theorem dX6_undo_8 : decode cX6_undo 8 = .ok (.invokevirtual 185, 3) := by decide +kernel
theorem dX6_undo_11 : decode cX6_undo 11 = .ok (.ifCond .eq 13, 3) := by decide +kernel
theorem dX6_undo_14 : decode cX6_undo 14 = .ok (.aload_n 0, 1) := by decide +kernel
theorem dX6_undo_15 : decode cX6_undo 15 = .ok (.getfield 19, 3) := by decide +kernel
theorem dX6_undo_18 : decode cX6_undo 18 = .ok (.getfield 162, 3) := by decide +kernel
theorem dX6_undo_21 : decode cX6_undo 21 = .ok (.goto 5, 3) := by decide +kernel
theorem dX6_undo_24 : decode cX6_undo 24 = .ok (.bipush (-4), 2) := by decide +kernel
theorem dX6_undo_26 : decode cX6_undo 26 = .ok (.ireturn, 1) := by decide +kernel
theorem dX6_seed_0 : decode cX6_seed 0 = .ok (.iload_n 1, 1) := by decide +kernel
theorem dX6_seed_1 : decode cX6_seed 1 = .ok (.ifCond .ge 5, 3) := by decide +kernel
theorem dX6_seed_4 : decode cX6_seed 4 = .ok (.iconst (-1), 1) := by decide +kernel
theorem dX6_seed_5 : decode cX6_seed 5 = .ok (.ireturn, 1) := by decide +kernel
theorem dX6_seed_6 : decode cX6_seed 6 = .ok (.aload_n 0, 1) := by decide +kernel
theorem dX6_seed_7 : decode cX6_seed 7 = .ok (.getfield 10, 3) := by decide +kernel
theorem dX6_seed_10 : decode cX6_seed 10 = .ok (.getfield 136, 3) := by decide +kernel
theorem dX6_seed_13 : decode cX6_seed 13 = .ok (.istore_n 2, 1) := by decide +kernel
theorem dX6_seed_14 : decode cX6_seed 14 = .ok (.aload_n 0, 1) := by decide +kernel
theorem dX6_seed_15 : decode cX6_seed 15 = .ok (.getfield 10, 3) := by decide +kernel
theorem dX6_seed_18 : decode cX6_seed 18 = .ok (.iload_n 1, 1) := by decide +kernel
theorem dX6_seed_19 : decode cX6_seed 19 = .ok (.putfield 136, 3) := by decide +kernel
theorem dX6_seed_22 : decode cX6_seed 22 = .ok (.iload_n 2, 1) := by decide +kernel
theorem dX6_seed_23 : decode cX6_seed 23 = .ok (.ireturn, 1) := by decide +kernel
theorem dX6_ahead_0 : decode cX6_ahead 0 = .ok (.aload_n 0, 1) := by decide +kernel
theorem dX6_ahead_1 : decode cX6_ahead 1 = .ok (.getfield 10, 3) := by decide +kernel
theorem dX6_ahead_4 : decode cX6_ahead 4 = .ok (.iload_n 1, 1) := by decide +kernel
theorem dX6_ahead_5 : decode cX6_ahead 5 = .ok (.invokevirtual 85, 3) := by decide +kernel
theorem dX6_ahead_8 : decode cX6_ahead 8 = .ok (.ifCond .eq 13, 3) := by decide +kernel
theorem dX6_ahead_11 : decode cX6_ahead 11 = .ok (.iload_n 2, 1) := by decide +kernel
theorem dX6_ahead_12 : decode cX6_ahead 12 = .ok (.iconst 0, 1) := by decide +kernel
theorem dX6_ahead_13 : decode cX6_ahead 13 = .ok (.bipush 40, 2) := by decide +kernel
theorem dX6_ahead_15 : decode cX6_ahead 15 = .ok (.invokestatic 64, 3) := by decide +kernel
theorem dX6_ahead_18 : decode cX6_ahead 18 = .ok (.ifCond .ne 5, 3) := by decide +kernel
theorem dX6_ahead_21 : decode cX6_ahead 21 = .ok (.iconst (-1), 1) := by decide +kernel
theorem dX6_ahead_22 : decode cX6_ahead 22 = .ok (.ireturn, 1) := by decide +kernel
theorem dX6_ahead_23 : decode cX6_ahead 23 = .ok (.aload_n 0, 1) := by decide +kernel
theorem dX6_ahead_24 : decode cX6_ahead 24 = .ok (.getfield 23, 3) := by decide +kernel
theorem dX6_ahead_27 : decode cX6_ahead 27 = .ok (.aload_n 0, 1) := by decide +kernel
theorem dX6_ahead_28 : decode cX6_ahead 28 = .ok (.getfield 10, 3) := by decide +kernel
theorem dX6_ahead_31 : decode cX6_ahead 31 = .ok (.invokevirtual 140, 3) := by decide +kernel
theorem dX6_ahead_34 : decode cX6_ahead 34 = .ok (.iconst 0, 1) := by decide +kernel
theorem dX6_ahead_35 : decode cX6_ahead 35 = .ok (.istore_n 3, 1) := by decide +kernel
theorem dX6_ahead_36 : decode cX6_ahead 36 = .ok (.iload_n 3, 1) := by decide +kernel
theorem dX6_ahead_37 : decode cX6_ahead 37 = .ok (.iload_n 2, 1) := by decide +kernel
theorem dX6_ahead_38 : decode cX6_ahead 38 = .ok (.if_icmp .ge 16, 3) := by decide +kernel
theorem dX6_ahead_41 : decode cX6_ahead 41 = .ok (.aload_n 0, 1) := by decide +kernel
theorem dX6_ahead_42 : decode cX6_ahead 42 = .ok (.getfield 23, 3) := by decide +kernel
theorem dX6_ahead_45 : decode cX6_ahead 45 = .ok (.invokevirtual 189, 3) := by decide +kernel
theorem dX6_ahead_48 : decode cX6_ahead 48 = .ok (.iinc 3 1, 3) := by decide +kernel
theorem dX6_ahead_51 : decode cX6_ahead 51 = .ok (.goto (-15), 3) := by decide +kernel
theorem dX6_ahead_54 : decode cX6_ahead 54 = .ok (.aload_n 0, 1) := by decide +kernel
theorem dX6_ahead_55 : decode cX6_ahead 55 = .ok (.getfield 23, 3) := by decide +kernel
theorem dX6_ahead_58 : decode cX6_ahead 58 = .ok (.getfield 95, 3) := by decide +kernel
theorem dX6_ahead_61 : decode cX6_ahead 61 = .ok (.iload_n 1, 1) := by decide +kernel
theorem dX6_ahead_62 : decode cX6_ahead 62 = .ok (.iaload, 1) := by decide +kernel
theorem dX6_ahead_63 : decode cX6_ahead 63 = .ok (.ireturn, 1) := by decide +kernel
theorem dX6_claims_0 : decode cX6_claims 0 = .ok (.aload_n 0, 1) := by decide +kernel
theorem dX6_claims_1 : decode cX6_claims 1 = .ok (.getfield 10, 3) := by decide +kernel
theorem dX6_claims_4 : decode cX6_claims 4 = .ok (.iload_n 1, 1) := by decide +kernel
theorem dX6_claims_5 : decode cX6_claims 5 = .ok (.invokevirtual 110, 3) := by decide +kernel
theorem dX6_claims_8 : decode cX6_claims 8 = .ok (.ifCond .eq 13, 3) := by decide +kernel
theorem dX6_claims_11 : decode cX6_claims 11 = .ok (.iload_n 2, 1) := by decide +kernel
theorem dX6_claims_12 : decode cX6_claims 12 = .ok (.iconst 0, 1) := by decide +kernel
theorem dX6_claims_13 : decode cX6_claims 13 = .ok (.bipush 40, 2) := by decide +kernel
theorem dX6_claims_15 : decode cX6_claims 15 = .ok (.invokestatic 64, 3) := by decide +kernel
theorem dX6_claims_18 : decode cX6_claims 18 = .ok (.ifCond .ne 5, 3) := by decide +kernel
theorem dX6_claims_21 : decode cX6_claims 21 = .ok (.iconst (-1), 1) := by decide +kernel
theorem dX6_claims_22 : decode cX6_claims 22 = .ok (.ireturn, 1) := by decide +kernel
theorem dX6_claims_23 : decode cX6_claims 23 = .ok (.aload_n 0, 1) := by decide +kernel
theorem dX6_claims_24 : decode cX6_claims 24 = .ok (.getfield 23, 3) := by decide +kernel
theorem dX6_claims_27 : decode cX6_claims 27 = .ok (.aload_n 0, 1) := by decide +kernel
theorem dX6_claims_28 : decode cX6_claims 28 = .ok (.getfield 10, 3) := by decide +kernel
theorem dX6_claims_31 : decode cX6_claims 31 = .ok (.invokevirtual 140, 3) := by decide +kernel
theorem dX6_claims_34 : decode cX6_claims 34 = .ok (.aload_n 0, 1) := by decide +kernel
theorem dX6_claims_35 : decode cX6_claims 35 = .ok (.getfield 23, 3) := by decide +kernel
theorem dX6_claims_38 : decode cX6_claims 38 = .ok (.iload_n 2, 1) := by decide +kernel
theorem dX6_claims_39 : decode cX6_claims 39 = .ok (.invokevirtual 192, 3) := by decide +kernel
theorem dX6_claims_42 : decode cX6_claims 42 = .ok (.pop, 1) := by decide +kernel
theorem dX6_claims_43 : decode cX6_claims 43 = .ok (.aload_n 0, 1) := by decide +kernel
theorem dX6_claims_44 : decode cX6_claims 44 = .ok (.getfield 23, 3) := by decide +kernel
theorem dX6_claims_47 : decode cX6_claims 47 = .ok (.getfield 122, 3) := by decide +kernel
theorem dX6_claims_50 : decode cX6_claims 50 = .ok (.iload_n 1, 1) := by decide +kernel
theorem dX6_claims_51 : decode cX6_claims 51 = .ok (.iaload, 1) := by decide +kernel
theorem dX6_claims_52 : decode cX6_claims 52 = .ok (.ireturn, 1) := by decide +kernel
theorem dX6_then_0 : decode cX6_then 0 = .ok (.iload_n 1, 1) := by decide +kernel
theorem dX6_then_1 : decode cX6_then 1 = .ok (.iconst 0, 1) := by decide +kernel
theorem dX6_then_2 : decode cX6_then 2 = .ok (.bipush 40, 2) := by decide +kernel
theorem dX6_then_4 : decode cX6_then 4 = .ok (.invokestatic 64, 3) := by decide +kernel
theorem dX6_then_7 : decode cX6_then 7 = .ok (.ifCond .ne 5, 3) := by decide +kernel
theorem dX6_then_10 : decode cX6_then 10 = .ok (.iconst (-1), 1) := by decide +kernel
theorem dX6_then_11 : decode cX6_then 11 = .ok (.ireturn, 1) := by decide +kernel
theorem dX6_then_12 : decode cX6_then 12 = .ok (.aload_n 0, 1) := by decide +kernel
theorem dX6_then_13 : decode cX6_then 13 = .ok (.getfield 23, 3) := by decide +kernel
theorem dX6_then_16 : decode cX6_then 16 = .ok (.aload_n 0, 1) := by decide +kernel
theorem dX6_then_17 : decode cX6_then 17 = .ok (.getfield 10, 3) := by decide +kernel
theorem dX6_then_20 : decode cX6_then 20 = .ok (.invokevirtual 140, 3) := by decide +kernel
theorem dX6_then_23 : decode cX6_then 23 = .ok (.aload_n 0, 1) := by decide +kernel
theorem dX6_then_24 : decode cX6_then 24 = .ok (.getfield 23, 3) := by decide +kernel
theorem dX6_then_27 : decode cX6_then 27 = .ok (.iload_n 1, 1) := by decide +kernel
theorem dX6_then_28 : decode cX6_then 28 = .ok (.invokevirtual 192, 3) := by decide +kernel
theorem dX6_then_31 : decode cX6_then 31 = .ok (.ireturn, 1) := by decide +kernel
theorem dX6_served_0 : decode cX6_served 0 = .ok (.aload_n 0, 1) := by decide +kernel
theorem dX6_served_1 : decode cX6_served 1 = .ok (.getfield 10, 3) := by decide +kernel
theorem dX6_served_4 : decode cX6_served 4 = .ok (.iload_n 1, 1) := by decide +kernel
theorem dX6_served_5 : decode cX6_served 5 = .ok (.invokevirtual 110, 3) := by decide +kernel
theorem dX6_served_8 : decode cX6_served 8 = .ok (.ifCond .ne 5, 3) := by decide +kernel
theorem dX6_served_11 : decode cX6_served 11 = .ok (.iconst (-1), 1) := by decide +kernel
theorem dX6_served_12 : decode cX6_served 12 = .ok (.ireturn, 1) := by decide +kernel
theorem dX6_served_13 : decode cX6_served 13 = .ok (.aload_n 0, 1) := by decide +kernel
theorem dX6_served_14 : decode cX6_served 14 = .ok (.getfield 23, 3) := by decide +kernel
theorem dX6_served_17 : decode cX6_served 17 = .ok (.aload_n 0, 1) := by decide +kernel
theorem dX6_served_18 : decode cX6_served 18 = .ok (.getfield 10, 3) := by decide +kernel
theorem dX6_served_21 : decode cX6_served 21 = .ok (.invokevirtual 140, 3) := by decide +kernel
theorem dX6_served_24 : decode cX6_served 24 = .ok (.iconst 0, 1) := by decide +kernel
theorem dX6_served_25 : decode cX6_served 25 = .ok (.istore_n 2, 1) := by decide +kernel
theorem dX6_served_26 : decode cX6_served 26 = .ok (.iload_n 2, 1) := by decide +kernel
theorem dX6_served_27 : decode cX6_served 27 = .ok (.bipush 40, 2) := by decide +kernel
theorem dX6_served_29 : decode cX6_served 29 = .ok (.if_icmp .gt 29, 3) := by decide +kernel
theorem dX6_served_32 : decode cX6_served 32 = .ok (.aload_n 0, 1) := by decide +kernel
theorem dX6_served_33 : decode cX6_served 33 = .ok (.getfield 23, 3) := by decide +kernel
theorem dX6_served_36 : decode cX6_served 36 = .ok (.iload_n 1, 1) := by decide +kernel
theorem dX6_served_37 : decode cX6_served 37 = .ok (.invokevirtual 182, 3) := by decide +kernel
theorem dX6_served_40 : decode cX6_served 40 = .ok (.ifCond .eq 5, 3) := by decide +kernel
theorem dX6_served_43 : decode cX6_served 43 = .ok (.iload_n 2, 1) := by decide +kernel
theorem dX6_served_44 : decode cX6_served 44 = .ok (.ireturn, 1) := by decide +kernel
theorem dX6_served_45 : decode cX6_served 45 = .ok (.aload_n 0, 1) := by decide +kernel
theorem dX6_served_46 : decode cX6_served 46 = .ok (.getfield 23, 3) := by decide +kernel
theorem dX6_served_49 : decode cX6_served 49 = .ok (.invokevirtual 189, 3) := by decide +kernel
theorem dX6_served_52 : decode cX6_served 52 = .ok (.iinc 2 1, 3) := by decide +kernel
theorem dX6_served_55 : decode cX6_served 55 = .ok (.goto (-29), 3) := by decide +kernel
theorem dX6_served_58 : decode cX6_served 58 = .ok (.bipush (-4), 2) := by decide +kernel
theorem dX6_served_60 : decode cX6_served 60 = .ok (.ireturn, 1) := by decide +kernel
theorem dX6_dries_0 : decode cX6_dries 0 = .ok (.aload_n 0, 1) := by decide +kernel
theorem dX6_dries_1 : decode cX6_dries 1 = .ok (.getfield 10, 3) := by decide +kernel
theorem dX6_dries_4 : decode cX6_dries 4 = .ok (.iload_n 1, 1) := by decide +kernel
theorem dX6_dries_5 : decode cX6_dries 5 = .ok (.invokevirtual 85, 3) := by decide +kernel
theorem dX6_dries_8 : decode cX6_dries 8 = .ok (.ifCond .ne 5, 3) := by decide +kernel
theorem dX6_dries_11 : decode cX6_dries 11 = .ok (.iconst (-1), 1) := by decide +kernel
theorem dX6_dries_12 : decode cX6_dries 12 = .ok (.ireturn, 1) := by decide +kernel
theorem dX6_dries_13 : decode cX6_dries 13 = .ok (.aload_n 0, 1) := by decide +kernel
theorem dX6_dries_14 : decode cX6_dries 14 = .ok (.getfield 23, 3) := by decide +kernel
theorem dX6_dries_17 : decode cX6_dries 17 = .ok (.aload_n 0, 1) := by decide +kernel
theorem dX6_dries_18 : decode cX6_dries 18 = .ok (.getfield 10, 3) := by decide +kernel
theorem dX6_dries_21 : decode cX6_dries 21 = .ok (.invokevirtual 140, 3) := by decide +kernel
theorem dX6_dries_24 : decode cX6_dries 24 = .ok (.iconst 0, 1) := by decide +kernel
theorem dX6_dries_25 : decode cX6_dries 25 = .ok (.istore_n 2, 1) := by decide +kernel
theorem dX6_dries_26 : decode cX6_dries 26 = .ok (.iload_n 2, 1) := by decide +kernel
theorem dX6_dries_27 : decode cX6_dries 27 = .ok (.bipush 40, 2) := by decide +kernel
theorem dX6_dries_29 : decode cX6_dries 29 = .ok (.if_icmp .gt 29, 3) := by decide +kernel
theorem dX6_dries_32 : decode cX6_dries 32 = .ok (.aload_n 0, 1) := by decide +kernel
theorem dX6_dries_33 : decode cX6_dries 33 = .ok (.getfield 23, 3) := by decide +kernel
theorem dX6_dries_36 : decode cX6_dries 36 = .ok (.iload_n 1, 1) := by decide +kernel
theorem dX6_dries_37 : decode cX6_dries 37 = .ok (.invokevirtual 176, 3) := by decide +kernel
theorem dX6_dries_40 : decode cX6_dries 40 = .ok (.ifCond .eq 5, 3) := by decide +kernel
theorem dX6_dries_43 : decode cX6_dries 43 = .ok (.iload_n 2, 1) := by decide +kernel
theorem dX6_dries_44 : decode cX6_dries 44 = .ok (.ireturn, 1) := by decide +kernel
theorem dX6_dries_45 : decode cX6_dries 45 = .ok (.aload_n 0, 1) := by decide +kernel
theorem dX6_dries_46 : decode cX6_dries 46 = .ok (.getfield 23, 3) := by decide +kernel
theorem dX6_dries_49 : decode cX6_dries 49 = .ok (.invokevirtual 189, 3) := by decide +kernel
theorem dX6_dries_52 : decode cX6_dries 52 = .ok (.iinc 2 1, 3) := by decide +kernel
theorem dX6_dries_55 : decode cX6_dries 55 = .ok (.goto (-29), 3) := by decide +kernel
theorem dX6_dries_58 : decode cX6_dries 58 = .ok (.bipush (-4), 2) := by decide +kernel
theorem dX6_dries_60 : decode cX6_dries 60 = .ok (.ireturn, 1) := by decide +kernel
theorem dX6_match_0 : decode cX6_match 0 = .ok (.aload_n 0, 1) := by decide +kernel
theorem dX6_match_1 : decode cX6_match 1 = .ok (.getfield 53, 3) := by decide +kernel
theorem dX6_match_4 : decode cX6_match 4 = .ok (.aload_n 0, 1) := by decide +kernel
theorem dX6_match_5 : decode cX6_match 5 = .ok (.getfield 10, 3) := by decide +kernel
theorem dX6_match_8 : decode cX6_match 8 = .ok (.invokevirtual 195, 3) := by decide +kernel
theorem dX6_match_11 : decode cX6_match 11 = .ok (.ireturn, 1) := by decide +kernel
theorem dX6_latest_0 : decode cX6_latest 0 = .ok (.aload_n 0, 1) := by decide +kernel
theorem dX6_latest_1 : decode cX6_latest 1 = .ok (.getfield 10, 3) := by decide +kernel
theorem dX6_latest_4 : decode cX6_latest 4 = .ok (.iload_n 1, 1) := by decide +kernel
theorem dX6_latest_5 : decode cX6_latest 5 = .ok (.invokevirtual 110, 3) := by decide +kernel
theorem dX6_latest_8 : decode cX6_latest 8 = .ok (.ifCond .ne 5, 3) := by decide +kernel
theorem dX6_latest_11 : decode cX6_latest 11 = .ok (.iconst (-1), 1) := by decide +kernel
theorem dX6_latest_12 : decode cX6_latest 12 = .ok (.ireturn, 1) := by decide +kernel
theorem dX6_latest_13 : decode cX6_latest 13 = .ok (.bipush 20, 2) := by decide +kernel
theorem dX6_latest_15 : decode cX6_latest 15 = .ok (.istore_n 2, 1) := by decide +kernel
theorem dX6_latest_16 : decode cX6_latest 16 = .ok (.iload_n 2, 1) := by decide +kernel
theorem dX6_latest_17 : decode cX6_latest 17 = .ok (.ifCond .lt 53, 3) := by decide +kernel
theorem dX6_latest_20 : decode cX6_latest 20 = .ok (.aload_n 0, 1) := by decide +kernel
theorem dX6_latest_21 : decode cX6_latest 21 = .ok (.getfield 23, 3) := by decide +kernel
theorem dX6_latest_24 : decode cX6_latest 24 = .ok (.aload_n 0, 1) := by decide +kernel
theorem dX6_latest_25 : decode cX6_latest 25 = .ok (.getfield 10, 3) := by decide +kernel
theorem dX6_latest_28 : decode cX6_latest 28 = .ok (.invokevirtual 140, 3) := by decide +kernel
theorem dX6_latest_31 : decode cX6_latest 31 = .ok (.aload_n 0, 1) := by decide +kernel
theorem dX6_latest_32 : decode cX6_latest 32 = .ok (.getfield 23, 3) := by decide +kernel
theorem dX6_latest_35 : decode cX6_latest 35 = .ok (.getfield 116, 3) := by decide +kernel
theorem dX6_latest_38 : decode cX6_latest 38 = .ok (.iload_n 1, 1) := by decide +kernel
theorem dX6_latest_39 : decode cX6_latest 39 = .ok (.iload_n 2, 1) := by decide +kernel
theorem dX6_latest_40 : decode cX6_latest 40 = .ok (.iastore, 1) := by decide +kernel
theorem dX6_latest_41 : decode cX6_latest 41 = .ok (.aload_n 0, 1) := by decide +kernel
theorem dX6_latest_42 : decode cX6_latest 42 = .ok (.getfield 23, 3) := by decide +kernel
theorem dX6_latest_45 : decode cX6_latest 45 = .ok (.bipush 40, 2) := by decide +kernel
theorem dX6_latest_47 : decode cX6_latest 47 = .ok (.invokevirtual 192, 3) := by decide +kernel
theorem dX6_latest_50 : decode cX6_latest 50 = .ok (.pop, 1) := by decide +kernel
theorem dX6_latest_51 : decode cX6_latest 51 = .ok (.aload_n 0, 1) := by decide +kernel
theorem dX6_latest_52 : decode cX6_latest 52 = .ok (.getfield 23, 3) := by decide +kernel
theorem dX6_latest_55 : decode cX6_latest 55 = .ok (.iload_n 1, 1) := by decide +kernel
theorem dX6_latest_56 : decode cX6_latest 56 = .ok (.invokevirtual 182, 3) := by decide +kernel
theorem dX6_latest_59 : decode cX6_latest 59 = .ok (.ifCond .eq 5, 3) := by decide +kernel
theorem dX6_latest_62 : decode cX6_latest 62 = .ok (.iload_n 2, 1) := by decide +kernel
theorem dX6_latest_63 : decode cX6_latest 63 = .ok (.ireturn, 1) := by decide +kernel
theorem dX6_latest_64 : decode cX6_latest 64 = .ok (.iinc 2 (-1), 3) := by decide +kernel
theorem dX6_latest_67 : decode cX6_latest 67 = .ok (.goto (-51), 3) := by decide +kernel
theorem dX6_latest_70 : decode cX6_latest 70 = .ok (.bipush (-4), 2) := by decide +kernel
theorem dX6_latest_72 : decode cX6_latest 72 = .ok (.ireturn, 1) := by decide +kernel
theorem dX6_order_0 : decode cX6_order 0 = .ok (.iload_n 1, 1) := by decide +kernel
theorem dX6_order_1 : decode cX6_order 1 = .ok (.iconst 1, 1) := by decide +kernel
theorem dX6_order_2 : decode cX6_order 2 = .ok (.bipush 30, 2) := by decide +kernel
theorem dX6_order_4 : decode cX6_order 4 = .ok (.invokestatic 64, 3) := by decide +kernel
theorem dX6_order_7 : decode cX6_order 7 = .ok (.ifCond .eq 8, 3) := by decide +kernel
theorem dX6_order_10 : decode cX6_order 10 = .ok (.iload_n 2, 1) := by decide +kernel
theorem dX6_order_11 : decode cX6_order 11 = .ok (.iconst (-1), 1) := by decide +kernel
theorem dX6_order_12 : decode cX6_order 12 = .ok (.if_icmp .ge 5, 3) := by decide +kernel
theorem dX6_order_15 : decode cX6_order 15 = .ok (.iconst (-1), 1) := by decide +kernel
theorem dX6_order_16 : decode cX6_order 16 = .ok (.ireturn, 1) := by decide +kernel
theorem dX6_order_17 : decode cX6_order 17 = .ok (.aload_n 0, 1) := by decide +kernel
theorem dX6_order_18 : decode cX6_order 18 = .ok (.getfield 23, 3) := by decide +kernel
theorem dX6_order_21 : decode cX6_order 21 = .ok (.aload_n 0, 1) := by decide +kernel
theorem dX6_order_22 : decode cX6_order 22 = .ok (.getfield 10, 3) := by decide +kernel
theorem dX6_order_25 : decode cX6_order 25 = .ok (.invokevirtual 140, 3) := by decide +kernel
theorem dX6_order_28 : decode cX6_order 28 = .ok (.aload_n 0, 1) := by decide +kernel
theorem dX6_order_29 : decode cX6_order 29 = .ok (.getfield 60, 3) := by decide +kernel
theorem dX6_order_32 : decode cX6_order 32 = .ok (.aload_n 0, 1) := by decide +kernel
theorem dX6_order_33 : decode cX6_order 33 = .ok (.getfield 23, 3) := by decide +kernel
theorem dX6_order_36 : decode cX6_order 36 = .ok (.iload_n 1, 1) := by decide +kernel
theorem dX6_order_37 : decode cX6_order 37 = .ok (.invokevirtual 198, 3) := by decide +kernel
theorem dX6_order_40 : decode cX6_order 40 = .ok (.iload_n 2, 1) := by decide +kernel
theorem dX6_order_41 : decode cX6_order 41 = .ok (.iconst (-1), 1) := by decide +kernel
theorem dX6_order_42 : decode cX6_order 42 = .ok (.if_icmp .ne 13, 3) := by decide +kernel
theorem dX6_order_45 : decode cX6_order 45 = .ok (.aload_n 0, 1) := by decide +kernel
theorem dX6_order_46 : decode cX6_order 46 = .ok (.getfield 60, 3) := by decide +kernel
theorem dX6_order_49 : decode cX6_order 49 = .ok (.getfield 202, 3) := by decide +kernel
theorem dX6_order_52 : decode cX6_order 52 = .ok (.goto 11, 3) := by decide +kernel
theorem dX6_order_55 : decode cX6_order 55 = .ok (.aload_n 0, 1) := by decide +kernel
theorem dX6_order_56 : decode cX6_order 56 = .ok (.getfield 60, 3) := by decide +kernel
theorem dX6_order_59 : decode cX6_order 59 = .ok (.iload_n 2, 1) := by decide +kernel
theorem dX6_order_60 : decode cX6_order 60 = .ok (.invokevirtual 205, 3) := by decide +kernel
theorem dX6_order_63 : decode cX6_order 63 = .ok (.ireturn, 1) := by decide +kernel
theorem dX6_wet_0 : decode cX6_wet 0 = .ok (.iload_n 1, 1) := by decide +kernel
theorem dX6_wet_1 : decode cX6_wet 1 = .ok (.iconst 1, 1) := by decide +kernel
theorem dX6_wet_2 : decode cX6_wet 2 = .ok (.bipush 30, 2) := by decide +kernel
theorem dX6_wet_4 : decode cX6_wet 4 = .ok (.invokestatic 64, 3) := by decide +kernel
theorem dX6_wet_7 : decode cX6_wet 7 = .ok (.ifCond .ne 5, 3) := by decide +kernel
theorem dX6_wet_10 : decode cX6_wet 10 = .ok (.iconst (-1), 1) := by decide +kernel
theorem dX6_wet_11 : decode cX6_wet 11 = .ok (.ireturn, 1) := by decide +kernel
theorem dX6_wet_12 : decode cX6_wet 12 = .ok (.iconst 0, 1) := by decide +kernel
theorem dX6_wet_13 : decode cX6_wet 13 = .ok (.istore_n 2, 1) := by decide +kernel
theorem dX6_wet_14 : decode cX6_wet 14 = .ok (.iload_n 2, 1) := by decide +kernel
theorem dX6_wet_15 : decode cX6_wet 15 = .ok (.bipush 60, 2) := by decide +kernel
theorem dX6_wet_17 : decode cX6_wet 17 = .ok (.if_icmp .gt 51, 3) := by decide +kernel
theorem dX6_wet_20 : decode cX6_wet 20 = .ok (.aload_n 0, 1) := by decide +kernel
theorem dX6_wet_21 : decode cX6_wet 21 = .ok (.getfield 23, 3) := by decide +kernel
theorem dX6_wet_24 : decode cX6_wet 24 = .ok (.aload_n 0, 1) := by decide +kernel
theorem dX6_wet_25 : decode cX6_wet 25 = .ok (.getfield 10, 3) := by decide +kernel
theorem dX6_wet_28 : decode cX6_wet 28 = .ok (.invokevirtual 140, 3) := by decide +kernel
theorem dX6_wet_31 : decode cX6_wet 31 = .ok (.aload_n 0, 1) := by decide +kernel
theorem dX6_wet_32 : decode cX6_wet 32 = .ok (.getfield 23, 3) := by decide +kernel
theorem dX6_wet_35 : decode cX6_wet 35 = .ok (.iload_n 2, 1) := by decide +kernel
theorem dX6_wet_36 : decode cX6_wet 36 = .ok (.invokevirtual 172, 3) := by decide +kernel
theorem dX6_wet_39 : decode cX6_wet 39 = .ok (.aload_n 0, 1) := by decide +kernel
theorem dX6_wet_40 : decode cX6_wet 40 = .ok (.getfield 23, 3) := by decide +kernel
theorem dX6_wet_43 : decode cX6_wet 43 = .ok (.iload_n 1, 1) := by decide +kernel
theorem dX6_wet_44 : decode cX6_wet 44 = .ok (.invokevirtual 192, 3) := by decide +kernel
theorem dX6_wet_47 : decode cX6_wet 47 = .ok (.invokestatic 208, 3) := by decide +kernel
theorem dX6_wet_50 : decode cX6_wet 50 = .ok (.aload_n 0, 1) := by decide +kernel
theorem dX6_wet_51 : decode cX6_wet 51 = .ok (.getfield 10, 3) := by decide +kernel
theorem dX6_wet_54 : decode cX6_wet 54 = .ok (.getfield 147, 3) := by decide +kernel
theorem dX6_wet_57 : decode cX6_wet 57 = .ok (.if_icmp .ne 5, 3) := by decide +kernel
theorem dX6_wet_60 : decode cX6_wet 60 = .ok (.iload_n 2, 1) := by decide +kernel
theorem dX6_wet_61 : decode cX6_wet 61 = .ok (.ireturn, 1) := by decide +kernel
theorem dX6_wet_62 : decode cX6_wet 62 = .ok (.iinc 2 1, 3) := by decide +kernel
theorem dX6_wet_65 : decode cX6_wet 65 = .ok (.goto (-51), 3) := by decide +kernel
theorem dX6_wet_68 : decode cX6_wet 68 = .ok (.bipush (-4), 2) := by decide +kernel
theorem dX6_wet_70 : decode cX6_wet 70 = .ok (.ireturn, 1) := by decide +kernel
theorem dX6_matters_0 : decode cX6_matters 0 = .ok (.iload_n 1, 1) := by decide +kernel
theorem dX6_matters_1 : decode cX6_matters 1 = .ok (.iconst 1, 1) := by decide +kernel
theorem dX6_matters_2 : decode cX6_matters 2 = .ok (.bipush 30, 2) := by decide +kernel
theorem dX6_matters_4 : decode cX6_matters 4 = .ok (.invokestatic 64, 3) := by decide +kernel
theorem dX6_matters_7 : decode cX6_matters 7 = .ok (.ifCond .eq 12, 3) := by decide +kernel
theorem dX6_matters_10 : decode cX6_matters 10 = .ok (.iload_n 2, 1) := by decide +kernel
theorem dX6_matters_11 : decode cX6_matters 11 = .ok (.iconst 0, 1) := by decide +kernel
theorem dX6_matters_12 : decode cX6_matters 12 = .ok (.iconst 1, 1) := by decide +kernel
theorem dX6_matters_13 : decode cX6_matters 13 = .ok (.invokestatic 64, 3) := by decide +kernel
theorem dX6_matters_16 : decode cX6_matters 16 = .ok (.ifCond .ne 5, 3) := by decide +kernel
theorem dX6_matters_19 : decode cX6_matters 19 = .ok (.iconst (-1), 1) := by decide +kernel
theorem dX6_matters_20 : decode cX6_matters 20 = .ok (.ireturn, 1) := by decide +kernel
theorem dX6_matters_21 : decode cX6_matters 21 = .ok (.bipush (-4), 2) := by decide +kernel
theorem dX6_matters_23 : decode cX6_matters 23 = .ok (.istore_n 3, 1) := by decide +kernel
theorem dX6_matters_24 : decode cX6_matters 24 = .ok (.bipush (-4), 2) := by decide +kernel
theorem dX6_matters_26 : decode cX6_matters 26 = .ok (.istore 4, 2) := by decide +kernel
theorem dX6_matters_28 : decode cX6_matters 28 = .ok (.iconst 0, 1) := by decide +kernel
theorem dX6_matters_29 : decode cX6_matters 29 = .ok (.istore 5, 2) := by decide +kernel
theorem dX6_matters_31 : decode cX6_matters 31 = .ok (.iload 5, 2) := by decide +kernel
theorem dX6_matters_33 : decode cX6_matters 33 = .ok (.aload_n 0, 1) := by decide +kernel
theorem dX6_matters_34 : decode cX6_matters 34 = .ok (.getfield 10, 3) := by decide +kernel
theorem dX6_matters_37 : decode cX6_matters 37 = .ok (.getfield 144, 3) := by decide +kernel
theorem dX6_matters_40 : decode cX6_matters 40 = .ok (.if_icmp .ge 62, 3) := by decide +kernel
theorem dX6_matters_43 : decode cX6_matters 43 = .ok (.aload_n 0, 1) := by decide +kernel
theorem dX6_matters_44 : decode cX6_matters 44 = .ok (.getfield 23, 3) := by decide +kernel
theorem dX6_matters_47 : decode cX6_matters 47 = .ok (.aload_n 0, 1) := by decide +kernel
theorem dX6_matters_48 : decode cX6_matters 48 = .ok (.getfield 10, 3) := by decide +kernel
theorem dX6_matters_51 : decode cX6_matters 51 = .ok (.invokevirtual 140, 3) := by decide +kernel
theorem dX6_matters_54 : decode cX6_matters 54 = .ok (.aload_n 0, 1) := by decide +kernel
theorem dX6_matters_55 : decode cX6_matters 55 = .ok (.getfield 23, 3) := by decide +kernel
theorem dX6_matters_58 : decode cX6_matters 58 = .ok (.getfield 95, 3) := by decide +kernel
theorem dX6_matters_61 : decode cX6_matters 61 = .ok (.iload 5, 2) := by decide +kernel
theorem dX6_matters_63 : decode cX6_matters 63 = .ok (.iconst 0, 1) := by decide +kernel
theorem dX6_matters_64 : decode cX6_matters 64 = .ok (.iastore, 1) := by decide +kernel
theorem dX6_matters_65 : decode cX6_matters 65 = .ok (.aload_n 0, 1) := by decide +kernel
theorem dX6_matters_66 : decode cX6_matters 66 = .ok (.getfield 23, 3) := by decide +kernel
theorem dX6_matters_69 : decode cX6_matters 69 = .ok (.iload_n 1, 1) := by decide +kernel
theorem dX6_matters_70 : decode cX6_matters 70 = .ok (.invokevirtual 192, 3) := by decide +kernel
theorem dX6_matters_73 : decode cX6_matters 73 = .ok (.invokestatic 208, 3) := by decide +kernel
theorem dX6_matters_76 : decode cX6_matters 76 = .ok (.istore 6, 2) := by decide +kernel
theorem dX6_matters_78 : decode cX6_matters 78 = .ok (.iload_n 3, 1) := by decide +kernel
theorem dX6_matters_79 : decode cX6_matters 79 = .ok (.ifCond .lt 10, 3) := by decide +kernel
theorem dX6_matters_82 : decode cX6_matters 82 = .ok (.iload 6, 2) := by decide +kernel
theorem dX6_matters_84 : decode cX6_matters 84 = .ok (.iload 4, 2) := by decide +kernel
theorem dX6_matters_86 : decode cX6_matters 86 = .ok (.if_icmp .ge 10, 3) := by decide +kernel
theorem dX6_matters_89 : decode cX6_matters 89 = .ok (.iload 5, 2) := by decide +kernel
theorem dX6_matters_91 : decode cX6_matters 91 = .ok (.istore_n 3, 1) := by decide +kernel
theorem dX6_matters_92 : decode cX6_matters 92 = .ok (.iload 6, 2) := by decide +kernel
theorem dX6_matters_94 : decode cX6_matters 94 = .ok (.istore 4, 2) := by decide +kernel
theorem dX6_matters_96 : decode cX6_matters 96 = .ok (.iinc 5 1, 3) := by decide +kernel
theorem dX6_matters_99 : decode cX6_matters 99 = .ok (.goto (-68), 3) := by decide +kernel
theorem dX6_matters_102 : decode cX6_matters 102 = .ok (.iload_n 2, 1) := by decide +kernel
theorem dX6_matters_103 : decode cX6_matters 103 = .ok (.ifCond .ne 7, 3) := by decide +kernel
theorem dX6_matters_106 : decode cX6_matters 106 = .ok (.iload_n 3, 1) := by decide +kernel
theorem dX6_matters_107 : decode cX6_matters 107 = .ok (.goto 5, 3) := by decide +kernel
theorem dX6_matters_110 : decode cX6_matters 110 = .ok (.iload 4, 2) := by decide +kernel
theorem dX6_matters_112 : decode cX6_matters 112 = .ok (.ireturn, 1) := by decide +kernel
theorem dX6_sight_0 : decode cX6_sight 0 = .ok (.aload_n 0, 1) := by decide +kernel
theorem dX6_sight_1 : decode cX6_sight 1 = .ok (.getfield 10, 3) := by decide +kernel
theorem dX6_sight_4 : decode cX6_sight 4 = .ok (.iload_n 1, 1) := by decide +kernel
theorem dX6_sight_5 : decode cX6_sight 5 = .ok (.invokevirtual 85, 3) := by decide +kernel
theorem dX6_sight_8 : decode cX6_sight 8 = .ok (.ifCond .eq 22, 3) := by decide +kernel
theorem dX6_sight_11 : decode cX6_sight 11 = .ok (.iload_n 2, 1) := by decide +kernel
theorem dX6_sight_12 : decode cX6_sight 12 = .ok (.iconst 1, 1) := by decide +kernel
theorem dX6_sight_13 : decode cX6_sight 13 = .ok (.bipush 30, 2) := by decide +kernel
theorem dX6_sight_15 : decode cX6_sight 15 = .ok (.invokestatic 64, 3) := by decide +kernel
theorem dX6_sight_18 : decode cX6_sight 18 = .ok (.ifCond .eq 12, 3) := by decide +kernel
theorem dX6_sight_21 : decode cX6_sight 21 = .ok (.iload_n 3, 1) := by decide +kernel
theorem dX6_sight_22 : decode cX6_sight 22 = .ok (.iconst 0, 1) := by decide +kernel
theorem dX6_sight_23 : decode cX6_sight 23 = .ok (.iconst 1, 1) := by decide +kernel
theorem dX6_sight_24 : decode cX6_sight 24 = .ok (.invokestatic 64, 3) := by decide +kernel
theorem dX6_sight_27 : decode cX6_sight 27 = .ok (.ifCond .ne 5, 3) := by decide +kernel
theorem dX6_sight_30 : decode cX6_sight 30 = .ok (.iconst (-1), 1) := by decide +kernel
theorem dX6_sight_31 : decode cX6_sight 31 = .ok (.ireturn, 1) := by decide +kernel
theorem dX6_sight_32 : decode cX6_sight 32 = .ok (.iconst 0, 1) := by decide +kernel
theorem dX6_sight_33 : decode cX6_sight 33 = .ok (.istore 4, 2) := by decide +kernel
theorem dX6_sight_35 : decode cX6_sight 35 = .ok (.iconst (-1), 1) := by decide +kernel
theorem dX6_sight_36 : decode cX6_sight 36 = .ok (.istore 5, 2) := by decide +kernel
theorem dX6_sight_38 : decode cX6_sight 38 = .ok (.iconst 0, 1) := by decide +kernel
theorem dX6_sight_39 : decode cX6_sight 39 = .ok (.istore 6, 2) := by decide +kernel
theorem dX6_sight_41 : decode cX6_sight 41 = .ok (.iload 6, 2) := by decide +kernel
theorem dX6_sight_43 : decode cX6_sight 43 = .ok (.bipush 8, 2) := by decide +kernel
theorem dX6_sight_45 : decode cX6_sight 45 = .ok (.if_icmp .ge 59, 3) := by decide +kernel
theorem dX6_sight_48 : decode cX6_sight 48 = .ok (.aload_n 0, 1) := by decide +kernel
theorem dX6_sight_49 : decode cX6_sight 49 = .ok (.getfield 23, 3) := by decide +kernel
theorem dX6_sight_52 : decode cX6_sight 52 = .ok (.aload_n 0, 1) := by decide +kernel
theorem dX6_sight_53 : decode cX6_sight 53 = .ok (.getfield 10, 3) := by decide +kernel
theorem dX6_sight_56 : decode cX6_sight 56 = .ok (.invokevirtual 140, 3) := by decide +kernel
theorem dX6_sight_59 : decode cX6_sight 59 = .ok (.aload_n 0, 1) := by decide +kernel
theorem dX6_sight_60 : decode cX6_sight 60 = .ok (.getfield 23, 3) := by decide +kernel
theorem dX6_sight_63 : decode cX6_sight 63 = .ok (.getfield 88, 3) := by decide +kernel
theorem dX6_sight_66 : decode cX6_sight 66 = .ok (.iload_n 1, 1) := by decide +kernel
theorem dX6_sight_67 : decode cX6_sight 67 = .ok (.iload 6, 2) := by decide +kernel
theorem dX6_sight_69 : decode cX6_sight 69 = .ok (.iastore, 1) := by decide +kernel
theorem dX6_sight_70 : decode cX6_sight 70 = .ok (.aload_n 0, 1) := by decide +kernel
theorem dX6_sight_71 : decode cX6_sight 71 = .ok (.getfield 23, 3) := by decide +kernel
theorem dX6_sight_74 : decode cX6_sight 74 = .ok (.iload_n 2, 1) := by decide +kernel
theorem dX6_sight_75 : decode cX6_sight 75 = .ok (.invokevirtual 192, 3) := by decide +kernel
theorem dX6_sight_78 : decode cX6_sight 78 = .ok (.invokestatic 208, 3) := by decide +kernel
theorem dX6_sight_81 : decode cX6_sight 81 = .ok (.istore 7, 2) := by decide +kernel
theorem dX6_sight_83 : decode cX6_sight 83 = .ok (.iload 7, 2) := by decide +kernel
theorem dX6_sight_85 : decode cX6_sight 85 = .ok (.iload 5, 2) := by decide +kernel
theorem dX6_sight_87 : decode cX6_sight 87 = .ok (.if_icmp .le 11, 3) := by decide +kernel
theorem dX6_sight_90 : decode cX6_sight 90 = .ok (.iload 6, 2) := by decide +kernel
theorem dX6_sight_92 : decode cX6_sight 92 = .ok (.istore 4, 2) := by decide +kernel
theorem dX6_sight_94 : decode cX6_sight 94 = .ok (.iload 7, 2) := by decide +kernel
theorem dX6_sight_96 : decode cX6_sight 96 = .ok (.istore 5, 2) := by decide +kernel
theorem dX6_sight_98 : decode cX6_sight 98 = .ok (.iinc 6 1, 3) := by decide +kernel
theorem dX6_sight_101 : decode cX6_sight 101 = .ok (.goto (-60), 3) := by decide +kernel
theorem dX6_sight_104 : decode cX6_sight 104 = .ok (.iload_n 3, 1) := by decide +kernel
theorem dX6_sight_105 : decode cX6_sight 105 = .ok (.ifCond .ne 8, 3) := by decide +kernel
theorem dX6_sight_108 : decode cX6_sight 108 = .ok (.iload 4, 2) := by decide +kernel
theorem dX6_sight_110 : decode cX6_sight 110 = .ok (.goto 5, 3) := by decide +kernel
theorem dX6_sight_113 : decode cX6_sight 113 = .ok (.iload 5, 2) := by decide +kernel
theorem dX6_sight_115 : decode cX6_sight 115 = .ok (.ireturn, 1) := by decide +kernel
theorem dX6_carts_0 : decode cX6_carts 0 = .ok (.aload_n 0, 1) := by decide +kernel
theorem dX6_carts_1 : decode cX6_carts 1 = .ok (.getfield 10, 3) := by decide +kernel
theorem dX6_carts_4 : decode cX6_carts 4 = .ok (.iload_n 1, 1) := by decide +kernel
theorem dX6_carts_5 : decode cX6_carts 5 = .ok (.invokevirtual 110, 3) := by decide +kernel
theorem dX6_carts_8 : decode cX6_carts 8 = .ok (.ifCond .eq 22, 3) := by decide +kernel
theorem dX6_carts_11 : decode cX6_carts 11 = .ok (.iload_n 2, 1) := by decide +kernel
theorem dX6_carts_12 : decode cX6_carts 12 = .ok (.iconst 0, 1) := by decide +kernel
theorem dX6_carts_13 : decode cX6_carts 13 = .ok (.bipush 10, 2) := by decide +kernel
theorem dX6_carts_15 : decode cX6_carts 15 = .ok (.invokestatic 64, 3) := by decide +kernel
theorem dX6_carts_18 : decode cX6_carts 18 = .ok (.ifCond .eq 12, 3) := by decide +kernel
theorem dX6_carts_21 : decode cX6_carts 21 = .ok (.iload_n 3, 1) := by decide +kernel
theorem dX6_carts_22 : decode cX6_carts 22 = .ok (.iconst 0, 1) := by decide +kernel
theorem dX6_carts_23 : decode cX6_carts 23 = .ok (.iconst 1, 1) := by decide +kernel
theorem dX6_carts_24 : decode cX6_carts 24 = .ok (.invokestatic 64, 3) := by decide +kernel
theorem dX6_carts_27 : decode cX6_carts 27 = .ok (.ifCond .ne 5, 3) := by decide +kernel
theorem dX6_carts_30 : decode cX6_carts 30 = .ok (.iconst (-1), 1) := by decide +kernel
theorem dX6_carts_31 : decode cX6_carts 31 = .ok (.ireturn, 1) := by decide +kernel
theorem dX6_carts_32 : decode cX6_carts 32 = .ok (.iconst 0, 1) := by decide +kernel
theorem dX6_carts_33 : decode cX6_carts 33 = .ok (.istore 4, 2) := by decide +kernel
theorem dX6_carts_35 : decode cX6_carts 35 = .ok (.iconst 0, 1) := by decide +kernel
theorem dX6_carts_36 : decode cX6_carts 36 = .ok (.istore 5, 2) := by decide +kernel
theorem dX6_carts_38 : decode cX6_carts 38 = .ok (.iload 5, 2) := by decide +kernel
theorem dX6_carts_40 : decode cX6_carts 40 = .ok (.iconst 1, 1) := by decide +kernel
theorem dX6_carts_41 : decode cX6_carts 41 = .ok (.aload_n 0, 1) := by decide +kernel
theorem dX6_carts_42 : decode cX6_carts 42 = .ok (.getfield 10, 3) := by decide +kernel
theorem dX6_carts_45 : decode cX6_carts 45 = .ok (.getfield 144, 3) := by decide +kernel
theorem dX6_carts_48 : decode cX6_carts 48 = .ok (.ishl, 1) := by decide +kernel
theorem dX6_carts_49 : decode cX6_carts 49 = .ok (.if_icmp .ge 40, 3) := by decide +kernel
theorem dX6_carts_52 : decode cX6_carts 52 = .ok (.aload_n 0, 1) := by decide +kernel
theorem dX6_carts_53 : decode cX6_carts 53 = .ok (.iload 5, 2) := by decide +kernel
theorem dX6_carts_55 : decode cX6_carts 55 = .ok (.iload_n 2, 1) := by decide +kernel
theorem dX6_carts_56 : decode cX6_carts 56 = .ok (.invokevirtual 213, 3) := by decide +kernel
theorem dX6_carts_59 : decode cX6_carts 59 = .ok (.istore 6, 2) := by decide +kernel
theorem dX6_carts_61 : decode cX6_carts 61 = .ok (.iload 6, 2) := by decide +kernel
theorem dX6_carts_63 : decode cX6_carts 63 = .ok (.ifCond .le 20, 3) := by decide +kernel
theorem dX6_carts_66 : decode cX6_carts 66 = .ok (.aload_n 0, 1) := by decide +kernel
theorem dX6_carts_67 : decode cX6_carts 67 = .ok (.iload_n 1, 1) := by decide +kernel
theorem dX6_carts_68 : decode cX6_carts 68 = .ok (.iload 5, 2) := by decide +kernel
theorem dX6_carts_70 : decode cX6_carts 70 = .ok (.invokevirtual 216, 3) := by decide +kernel
theorem dX6_carts_73 : decode cX6_carts 73 = .ok (.ifCond .eq 10, 3) := by decide +kernel
theorem dX6_carts_76 : decode cX6_carts 76 = .ok (.iload 4, 2) := by decide +kernel
theorem dX6_carts_78 : decode cX6_carts 78 = .ok (.iload 6, 2) := by decide +kernel
theorem dX6_carts_80 : decode cX6_carts 80 = .ok (.iadd, 1) := by decide +kernel
theorem dX6_carts_81 : decode cX6_carts 81 = .ok (.istore 4, 2) := by decide +kernel
theorem dX6_carts_83 : decode cX6_carts 83 = .ok (.iinc 5 1, 3) := by decide +kernel
theorem dX6_carts_86 : decode cX6_carts 86 = .ok (.goto (-48), 3) := by decide +kernel
theorem dX6_carts_89 : decode cX6_carts 89 = .ok (.aload_n 0, 1) := by decide +kernel
theorem dX6_carts_90 : decode cX6_carts 90 = .ok (.invokevirtual 220, 3) := by decide +kernel
theorem dX6_carts_93 : decode cX6_carts 93 = .ok (.istore 5, 2) := by decide +kernel
theorem dX6_carts_95 : decode cX6_carts 95 = .ok (.iload 4, 2) := by decide +kernel
theorem dX6_carts_97 : decode cX6_carts 97 = .ok (.iload 5, 2) := by decide +kernel
theorem dX6_carts_99 : decode cX6_carts 99 = .ok (.invokestatic 223, 3) := by decide +kernel
theorem dX6_carts_102 : decode cX6_carts 102 = .ok (.istore 6, 2) := by decide +kernel
theorem dX6_carts_104 : decode cX6_carts 104 = .ok (.iload 6, 2) := by decide +kernel
theorem dX6_carts_106 : decode cX6_carts 106 = .ok (.iconst 1, 1) := by decide +kernel
theorem dX6_carts_107 : decode cX6_carts 107 = .ok (.if_icmp .ge 7, 3) := by decide +kernel
theorem dX6_carts_110 : decode cX6_carts 110 = .ok (.iconst (-1), 1) := by decide +kernel
theorem dX6_carts_111 : decode cX6_carts 111 = .ok (.goto 17, 3) := by decide +kernel
theorem dX6_carts_114 : decode cX6_carts 114 = .ok (.iload_n 3, 1) := by decide +kernel
theorem dX6_carts_115 : decode cX6_carts 115 = .ok (.ifCond .ne 8, 3) := by decide +kernel
theorem dX6_carts_118 : decode cX6_carts 118 = .ok (.iload 4, 2) := by decide +kernel
theorem dX6_carts_120 : decode cX6_carts 120 = .ok (.goto 5, 3) := by decide +kernel
theorem dX6_carts_123 : decode cX6_carts 123 = .ok (.iload 5, 2) := by decide +kernel
theorem dX6_carts_125 : decode cX6_carts 125 = .ok (.iload 6, 2) := by decide +kernel
theorem dX6_carts_127 : decode cX6_carts 127 = .ok (.idiv, 1) := by decide +kernel
theorem dX6_carts_128 : decode cX6_carts 128 = .ok (.ireturn, 1) := by decide +kernel
theorem dX6_image_0 : decode cX6_image 0 = .ok (.aload_n 0, 1) := by decide +kernel
theorem dX6_image_1 : decode cX6_image 1 = .ok (.getfield 26, 3) := by decide +kernel
theorem dX6_image_4 : decode cX6_image 4 = .ok (.aload_n 0, 1) := by decide +kernel
theorem dX6_image_5 : decode cX6_image 5 = .ok (.getfield 10, 3) := by decide +kernel
theorem dX6_image_8 : decode cX6_image 8 = .ok (.invokevirtual 140, 3) := by decide +kernel
theorem dX6_image_11 : decode cX6_image 11 = .ok (.aload_n 0, 1) := by decide +kernel
theorem dX6_image_12 : decode cX6_image 12 = .ok (.getfield 29, 3) := by decide +kernel
theorem dX6_image_15 : decode cX6_image 15 = .ok (.aload_n 0, 1) := by decide +kernel
theorem dX6_image_16 : decode cX6_image 16 = .ok (.getfield 19, 3) := by decide +kernel
theorem dX6_image_19 : decode cX6_image 19 = .ok (.invokevirtual 226, 3) := by decide +kernel
theorem dX6_image_22 : decode cX6_image 22 = .ok (.aload_n 0, 1) := by decide +kernel
theorem dX6_image_23 : decode cX6_image 23 = .ok (.iconst 1, 1) := by decide +kernel
theorem dX6_image_24 : decode cX6_image 24 = .ok (.putfield 32, 3) := by decide +kernel
theorem dX6_image_27 : decode cX6_image 27 = .ok (.iconst 1, 1) := by decide +kernel
theorem dX6_image_28 : decode cX6_image 28 = .ok (.ireturn, 1) := by decide +kernel
theorem dX6_restore_0 : decode cX6_restore 0 = .ok (.aload_n 0, 1) := by decide +kernel
theorem dX6_restore_1 : decode cX6_restore 1 = .ok (.getfield 32, 3) := by decide +kernel
theorem dX6_restore_4 : decode cX6_restore 4 = .ok (.ifCond .ne 6, 3) := by decide +kernel
theorem dX6_restore_7 : decode cX6_restore 7 = .ok (.bipush (-4), 2) := by decide +kernel
theorem dX6_restore_9 : decode cX6_restore 9 = .ok (.ireturn, 1) := by decide +kernel
theorem dX6_restore_10 : decode cX6_restore 10 = .ok (.aload_n 0, 1) := by decide +kernel
theorem dX6_restore_11 : decode cX6_restore 11 = .ok (.getfield 10, 3) := by decide +kernel
theorem dX6_restore_14 : decode cX6_restore 14 = .ok (.aload_n 0, 1) := by decide +kernel
theorem dX6_restore_15 : decode cX6_restore 15 = .ok (.getfield 26, 3) := by decide +kernel
theorem dX6_restore_18 : decode cX6_restore 18 = .ok (.invokevirtual 140, 3) := by decide +kernel
theorem dX6_restore_21 : decode cX6_restore 21 = .ok (.aload_n 0, 1) := by decide +kernel
theorem dX6_restore_22 : decode cX6_restore 22 = .ok (.getfield 19, 3) := by decide +kernel
theorem dX6_restore_25 : decode cX6_restore 25 = .ok (.aload_n 0, 1) := by decide +kernel
theorem dX6_restore_26 : decode cX6_restore 26 = .ok (.getfield 29, 3) := by decide +kernel
theorem dX6_restore_29 : decode cX6_restore 29 = .ok (.invokevirtual 226, 3) := by decide +kernel
theorem dX6_restore_32 : decode cX6_restore 32 = .ok (.iconst 1, 1) := by decide +kernel
theorem dX6_restore_33 : decode cX6_restore 33 = .ok (.ireturn, 1) := by decide +kernel
theorem dX6_dipped_0 : decode cX6_dipped 0 = .ok (.aload_n 0, 1) := by decide +kernel
theorem dX6_dipped_1 : decode cX6_dipped 1 = .ok (.getfield 10, 3) := by decide +kernel
theorem dX6_dipped_4 : decode cX6_dipped 4 = .ok (.iload_n 1, 1) := by decide +kernel
theorem dX6_dipped_5 : decode cX6_dipped 5 = .ok (.invokevirtual 85, 3) := by decide +kernel
theorem dX6_dipped_8 : decode cX6_dipped 8 = .ok (.ifCond .eq 17, 3) := by decide +kernel
theorem dX6_dipped_11 : decode cX6_dipped 11 = .ok (.iload_n 2, 1) := by decide +kernel
theorem dX6_dipped_12 : decode cX6_dipped 12 = .ok (.invokestatic 229, 3) := by decide +kernel
theorem dX6_dipped_15 : decode cX6_dipped 15 = .ok (.ifCond .eq 10, 3) := by decide +kernel
theorem dX6_dipped_18 : decode cX6_dipped 18 = .ok (.iload_n 3, 1) := by decide +kernel
theorem dX6_dipped_19 : decode cX6_dipped 19 = .ok (.invokestatic 232, 3) := by decide +kernel
theorem dX6_dipped_22 : decode cX6_dipped 22 = .ok (.ifCond .ne 5, 3) := by decide +kernel
theorem dX6_dipped_25 : decode cX6_dipped 25 = .ok (.iconst (-1), 1) := by decide +kernel
theorem dX6_dipped_26 : decode cX6_dipped 26 = .ok (.ireturn, 1) := by decide +kernel
theorem dX6_dipped_27 : decode cX6_dipped 27 = .ok (.iload 5, 2) := by decide +kernel
theorem dX6_dipped_29 : decode cX6_dipped 29 = .ok (.iconst 1, 1) := by decide +kernel
theorem dX6_dipped_30 : decode cX6_dipped 30 = .ok (.bipush 8, 2) := by decide +kernel
theorem dX6_dipped_32 : decode cX6_dipped 32 = .ok (.invokestatic 64, 3) := by decide +kernel
theorem dX6_dipped_35 : decode cX6_dipped 35 = .ok (.ifCond .eq 13, 3) := by decide +kernel
theorem dX6_dipped_38 : decode cX6_dipped 38 = .ok (.iload 6, 2) := by decide +kernel
theorem dX6_dipped_40 : decode cX6_dipped 40 = .ok (.iconst 0, 1) := by decide +kernel
theorem dX6_dipped_41 : decode cX6_dipped 41 = .ok (.iconst 2, 1) := by decide +kernel
theorem dX6_dipped_42 : decode cX6_dipped 42 = .ok (.invokestatic 64, 3) := by decide +kernel
theorem dX6_dipped_45 : decode cX6_dipped 45 = .ok (.ifCond .ne 5, 3) := by decide +kernel
theorem dX6_dipped_48 : decode cX6_dipped 48 = .ok (.iconst (-1), 1) := by decide +kernel
theorem dX6_dipped_49 : decode cX6_dipped 49 = .ok (.ireturn, 1) := by decide +kernel
theorem dX6_dipped_50 : decode cX6_dipped 50 = .ok (.aload_n 0, 1) := by decide +kernel
theorem dX6_dipped_51 : decode cX6_dipped 51 = .ok (.getfield 46, 3) := by decide +kernel
theorem dX6_dipped_54 : decode cX6_dipped 54 = .ok (.iload_n 2, 1) := by decide +kernel
theorem dX6_dipped_55 : decode cX6_dipped 55 = .ok (.iload_n 3, 1) := by decide +kernel
theorem dX6_dipped_56 : decode cX6_dipped 56 = .ok (.iload 4, 2) := by decide +kernel
theorem dX6_dipped_58 : decode cX6_dipped 58 = .ok (.iload 5, 2) := by decide +kernel
theorem dX6_dipped_60 : decode cX6_dipped 60 = .ok (.invokevirtual 235, 3) := by decide +kernel
theorem dX6_dipped_63 : decode cX6_dipped 63 = .ok (.istore 7, 2) := by decide +kernel
theorem dX6_dipped_65 : decode cX6_dipped 65 = .ok (.iload 7, 2) := by decide +kernel
theorem dX6_dipped_67 : decode cX6_dipped 67 = .ok (.ifCond .eq 6, 3) := by decide +kernel
theorem dX6_dipped_70 : decode cX6_dipped 70 = .ok (.iload 7, 2) := by decide +kernel
theorem dX6_dipped_72 : decode cX6_dipped 72 = .ok (.ireturn, 1) := by decide +kernel
theorem dX6_dipped_73 : decode cX6_dipped 73 = .ok (.iload 6, 2) := by decide +kernel
theorem dX6_dipped_75 : decode cX6_dipped 75 = .ok (.ifCond .ne 16, 3) := by decide +kernel
theorem dX6_dipped_78 : decode cX6_dipped 78 = .ok (.aload_n 0, 1) := by decide +kernel
theorem dX6_dipped_79 : decode cX6_dipped 79 = .ok (.iload_n 1, 1) := by decide +kernel
theorem dX6_dipped_80 : decode cX6_dipped 80 = .ok (.iload_n 2, 1) := by decide +kernel
theorem dX6_dipped_81 : decode cX6_dipped 81 = .ok (.iload 4, 2) := by decide +kernel
theorem dX6_dipped_83 : decode cX6_dipped 83 = .ok (.iload 5, 2) := by decide +kernel
theorem dX6_dipped_85 : decode cX6_dipped 85 = .ok (.invokevirtual 239, 3) := by decide +kernel
theorem dX6_dipped_88 : decode cX6_dipped 88 = .ok (.goto 24, 3) := by decide +kernel
theorem dX6_dipped_91 : decode cX6_dipped 91 = .ok (.aload_n 0, 1) := by decide +kernel
theorem dX6_dipped_92 : decode cX6_dipped 92 = .ok (.iload_n 1, 1) := by decide +kernel
theorem dX6_dipped_93 : decode cX6_dipped 93 = .ok (.iload_n 2, 1) := by decide +kernel
theorem dX6_dipped_94 : decode cX6_dipped 94 = .ok (.iload 4, 2) := by decide +kernel
theorem dX6_dipped_96 : decode cX6_dipped 96 = .ok (.iload 5, 2) := by decide +kernel
theorem dX6_dipped_98 : decode cX6_dipped 98 = .ok (.iload 6, 2) := by decide +kernel
theorem dX6_dipped_100 : decode cX6_dipped 100 = .ok (.iconst 2, 1) := by decide +kernel
theorem dX6_dipped_101 : decode cX6_dipped 101 = .ok (.if_icmp .ne 7, 3) := by decide +kernel
theorem dX6_dipped_104 : decode cX6_dipped 104 = .ok (.iconst 1, 1) := by decide +kernel
theorem dX6_dipped_105 : decode cX6_dipped 105 = .ok (.goto 4, 3) := by decide +kernel
theorem dX6_dipped_108 : decode cX6_dipped 108 = .ok (.iconst 0, 1) := by decide +kernel
theorem dX6_dipped_109 : decode cX6_dipped 109 = .ok (.invokevirtual 242, 3) := by decide +kernel
theorem dX6_dipped_112 : decode cX6_dipped 112 = .ok (.ireturn, 1) := by decide +kernel
theorem dX6_film_0 : decode cX6_film 0 = .ok (.aload_n 0, 1) := by decide +kernel
theorem dX6_film_1 : decode cX6_film 1 = .ok (.getfield 10, 3) := by decide +kernel
theorem dX6_film_4 : decode cX6_film 4 = .ok (.iload_n 1, 1) := by decide +kernel
theorem dX6_film_5 : decode cX6_film 5 = .ok (.invokevirtual 85, 3) := by decide +kernel
theorem dX6_film_8 : decode cX6_film 8 = .ok (.ifCond .eq 13, 3) := by decide +kernel
theorem dX6_film_11 : decode cX6_film 11 = .ok (.iload_n 2, 1) := by decide +kernel
theorem dX6_film_12 : decode cX6_film 12 = .ok (.iconst 1, 1) := by decide +kernel
theorem dX6_film_13 : decode cX6_film 13 = .ok (.bipush 24, 2) := by decide +kernel
theorem dX6_film_15 : decode cX6_film 15 = .ok (.invokestatic 64, 3) := by decide +kernel
theorem dX6_film_18 : decode cX6_film 18 = .ok (.ifCond .ne 5, 3) := by decide +kernel
theorem dX6_film_21 : decode cX6_film 21 = .ok (.iconst (-1), 1) := by decide +kernel
theorem dX6_film_22 : decode cX6_film 22 = .ok (.ireturn, 1) := by decide +kernel
theorem dX6_film_23 : decode cX6_film 23 = .ok (.iload_n 3, 1) := by decide +kernel
theorem dX6_film_24 : decode cX6_film 24 = .ok (.invokestatic 229, 3) := by decide +kernel
theorem dX6_film_27 : decode cX6_film 27 = .ok (.ifCond .eq 11, 3) := by decide +kernel
theorem dX6_film_30 : decode cX6_film 30 = .ok (.iload 4, 2) := by decide +kernel
theorem dX6_film_32 : decode cX6_film 32 = .ok (.invokestatic 232, 3) := by decide +kernel
theorem dX6_film_35 : decode cX6_film 35 = .ok (.ifCond .ne 5, 3) := by decide +kernel
theorem dX6_film_38 : decode cX6_film 38 = .ok (.iconst (-1), 1) := by decide +kernel
theorem dX6_film_39 : decode cX6_film 39 = .ok (.ireturn, 1) := by decide +kernel
theorem dX6_film_40 : decode cX6_film 40 = .ok (.aload_n 0, 1) := by decide +kernel
theorem dX6_film_41 : decode cX6_film 41 = .ok (.getfield 46, 3) := by decide +kernel
theorem dX6_film_44 : decode cX6_film 44 = .ok (.iload_n 3, 1) := by decide +kernel
theorem dX6_film_45 : decode cX6_film 45 = .ok (.iload 4, 2) := by decide +kernel
theorem dX6_film_47 : decode cX6_film 47 = .ok (.iload 5, 2) := by decide +kernel
theorem dX6_film_49 : decode cX6_film 49 = .ok (.iload_n 2, 1) := by decide +kernel
theorem dX6_film_50 : decode cX6_film 50 = .ok (.invokevirtual 235, 3) := by decide +kernel
theorem dX6_film_53 : decode cX6_film 53 = .ok (.istore 6, 2) := by decide +kernel
theorem dX6_film_55 : decode cX6_film 55 = .ok (.iload 6, 2) := by decide +kernel
theorem dX6_film_57 : decode cX6_film 57 = .ok (.ifCond .eq 6, 3) := by decide +kernel
theorem dX6_film_60 : decode cX6_film 60 = .ok (.iload 6, 2) := by decide +kernel
theorem dX6_film_62 : decode cX6_film 62 = .ok (.ireturn, 1) := by decide +kernel
theorem dX6_film_63 : decode cX6_film 63 = .ok (.aload_n 0, 1) := by decide +kernel
theorem dX6_film_64 : decode cX6_film 64 = .ok (.getfield 23, 3) := by decide +kernel
theorem dX6_film_67 : decode cX6_film 67 = .ok (.aload_n 0, 1) := by decide +kernel
theorem dX6_film_68 : decode cX6_film 68 = .ok (.getfield 10, 3) := by decide +kernel
theorem dX6_film_71 : decode cX6_film 71 = .ok (.invokevirtual 140, 3) := by decide +kernel
theorem dX6_film_74 : decode cX6_film 74 = .ok (.iconst 0, 1) := by decide +kernel
theorem dX6_film_75 : decode cX6_film 75 = .ok (.istore 7, 2) := by decide +kernel
theorem dX6_film_77 : decode cX6_film 77 = .ok (.iload 7, 2) := by decide +kernel
theorem dX6_film_79 : decode cX6_film 79 = .ok (.iload_n 2, 1) := by decide +kernel
theorem dX6_film_80 : decode cX6_film 80 = .ok (.if_icmp .ge 39, 3) := by decide +kernel
theorem dX6_film_83 : decode cX6_film 83 = .ok (.aload_n 0, 1) := by decide +kernel
theorem dX6_film_84 : decode cX6_film 84 = .ok (.getfield 23, 3) := by decide +kernel
theorem dX6_film_87 : decode cX6_film 87 = .ok (.invokevirtual 189, 3) := by decide +kernel
theorem dX6_film_90 : decode cX6_film 90 = .ok (.aload_n 0, 1) := by decide +kernel
theorem dX6_film_91 : decode cX6_film 91 = .ok (.getfield 46, 3) := by decide +kernel
theorem dX6_film_94 : decode cX6_film 94 = .ok (.iload_n 3, 1) := by decide +kernel
theorem dX6_film_95 : decode cX6_film 95 = .ok (.iload 5, 2) := by decide +kernel
theorem dX6_film_97 : decode cX6_film 97 = .ok (.iload 7, 2) := by decide +kernel
theorem dX6_film_99 : decode cX6_film 99 = .ok (.iadd, 1) := by decide +kernel
theorem dX6_film_100 : decode cX6_film 100 = .ok (.aload_n 0, 1) := by decide +kernel
theorem dX6_film_101 : decode cX6_film 101 = .ok (.getfield 23, 3) := by decide +kernel
theorem dX6_film_104 : decode cX6_film 104 = .ok (.getfield 95, 3) := by decide +kernel
theorem dX6_film_107 : decode cX6_film 107 = .ok (.iload_n 1, 1) := by decide +kernel
theorem dX6_film_108 : decode cX6_film 108 = .ok (.iaload, 1) := by decide +kernel
theorem dX6_film_109 : decode cX6_film 109 = .ok (.i2l, 1) := by decide +kernel
theorem dX6_film_110 : decode cX6_film 110 = .ok (.invokevirtual 246, 3) := by decide +kernel
theorem dX6_film_113 : decode cX6_film 113 = .ok (.iinc 7 1, 3) := by decide +kernel
theorem dX6_film_116 : decode cX6_film 116 = .ok (.goto (-39), 3) := by decide +kernel
theorem dX6_film_119 : decode cX6_film 119 = .ok (.iload_n 2, 1) := by decide +kernel
theorem dX6_film_120 : decode cX6_film 120 = .ok (.ireturn, 1) := by decide +kernel
theorem dX6_sheet_0 : decode cX6_sheet 0 = .ok (.iload_n 1, 1) := by decide +kernel
theorem dX6_sheet_1 : decode cX6_sheet 1 = .ok (.invokestatic 229, 3) := by decide +kernel
theorem dX6_sheet_4 : decode cX6_sheet 4 = .ok (.ifCond .eq 16, 3) := by decide +kernel
theorem dX6_sheet_7 : decode cX6_sheet 7 = .ok (.iload_n 2, 1) := by decide +kernel
theorem dX6_sheet_8 : decode cX6_sheet 8 = .ok (.invokestatic 232, 3) := by decide +kernel
theorem dX6_sheet_11 : decode cX6_sheet 11 = .ok (.ifCond .eq 9, 3) := by decide +kernel
theorem dX6_sheet_14 : decode cX6_sheet 14 = .ok (.iload_n 3, 1) := by decide +kernel
theorem dX6_sheet_15 : decode cX6_sheet 15 = .ok (.bipush 24, 2) := by decide +kernel
theorem dX6_sheet_17 : decode cX6_sheet 17 = .ok (.if_icmp .le 5, 3) := by decide +kernel
theorem dX6_sheet_20 : decode cX6_sheet 20 = .ok (.iconst (-1), 1) := by decide +kernel
theorem dX6_sheet_21 : decode cX6_sheet 21 = .ok (.ireturn, 1) := by decide +kernel
theorem dX6_sheet_22 : decode cX6_sheet 22 = .ok (.iload_n 3, 1) := by decide +kernel
theorem dX6_sheet_23 : decode cX6_sheet 23 = .ok (.ifCond .ge 6, 3) := by decide +kernel
theorem dX6_sheet_26 : decode cX6_sheet 26 = .ok (.bipush (-14), 2) := by decide +kernel
theorem dX6_sheet_28 : decode cX6_sheet 28 = .ok (.ireturn, 1) := by decide +kernel
theorem dX6_sheet_29 : decode cX6_sheet 29 = .ok (.aload_n 0, 1) := by decide +kernel
theorem dX6_sheet_30 : decode cX6_sheet 30 = .ok (.getfield 46, 3) := by decide +kernel
theorem dX6_sheet_33 : decode cX6_sheet 33 = .ok (.iload_n 1, 1) := by decide +kernel
theorem dX6_sheet_34 : decode cX6_sheet 34 = .ok (.iload_n 2, 1) := by decide +kernel
theorem dX6_sheet_35 : decode cX6_sheet 35 = .ok (.iload_n 3, 1) := by decide +kernel
theorem dX6_sheet_36 : decode cX6_sheet 36 = .ok (.invokevirtual 250, 3) := by decide +kernel
theorem dX6_sheet_39 : decode cX6_sheet 39 = .ok (.iload_n 3, 1) := by decide +kernel
theorem dX6_sheet_40 : decode cX6_sheet 40 = .ok (.ireturn, 1) := by decide +kernel
theorem dX6_drop_0 : decode cX6_drop 0 = .ok (.iload_n 1, 1) := by decide +kernel
theorem dX6_drop_1 : decode cX6_drop 1 = .ok (.invokestatic 229, 3) := by decide +kernel
theorem dX6_drop_4 : decode cX6_drop 4 = .ok (.ifCond .ne 5, 3) := by decide +kernel
theorem dX6_drop_7 : decode cX6_drop 7 = .ok (.iconst (-1), 1) := by decide +kernel
theorem dX6_drop_8 : decode cX6_drop 8 = .ok (.ireturn, 1) := by decide +kernel
theorem dX6_drop_9 : decode cX6_drop 9 = .ok (.aload_n 0, 1) := by decide +kernel
theorem dX6_drop_10 : decode cX6_drop 10 = .ok (.getfield 46, 3) := by decide +kernel
theorem dX6_drop_13 : decode cX6_drop 13 = .ok (.iload_n 1, 1) := by decide +kernel
theorem dX6_drop_14 : decode cX6_drop 14 = .ok (.invokevirtual 254, 3) := by decide +kernel
theorem dX6_drop_17 : decode cX6_drop 17 = .ok (.ifCond .ne 6, 3) := by decide +kernel
theorem dX6_drop_20 : decode cX6_drop 20 = .ok (.bipush (-11), 2) := by decide +kernel
theorem dX6_drop_22 : decode cX6_drop 22 = .ok (.ireturn, 1) := by decide +kernel
theorem dX6_drop_23 : decode cX6_drop 23 = .ok (.aload_n 0, 1) := by decide +kernel
theorem dX6_drop_24 : decode cX6_drop 24 = .ok (.getfield 46, 3) := by decide +kernel
theorem dX6_drop_27 : decode cX6_drop 27 = .ok (.iload_n 1, 1) := by decide +kernel
theorem dX6_drop_28 : decode cX6_drop 28 = .ok (.invokevirtual 257, 3) := by decide +kernel
theorem dX6_drop_31 : decode cX6_drop 31 = .ok (.ireturn, 1) := by decide +kernel
theorem dX6_item_0 : decode cX6_item 0 = .ok (.iload_n 1, 1) := by decide +kernel
theorem dX6_item_1 : decode cX6_item 1 = .ok (.invokestatic 229, 3) := by decide +kernel
theorem dX6_item_4 : decode cX6_item 4 = .ok (.ifCond .eq 10, 3) := by decide +kernel
theorem dX6_item_7 : decode cX6_item 7 = .ok (.iload_n 2, 1) := by decide +kernel
theorem dX6_item_8 : decode cX6_item 8 = .ok (.invokestatic 232, 3) := by decide +kernel
theorem dX6_item_11 : decode cX6_item 11 = .ok (.ifCond .ne 5, 3) := by decide +kernel
theorem dX6_item_14 : decode cX6_item 14 = .ok (.iconst (-1), 1) := by decide +kernel
theorem dX6_item_15 : decode cX6_item 15 = .ok (.ireturn, 1) := by decide +kernel
theorem dX6_item_16 : decode cX6_item 16 = .ok (.aload_n 0, 1) := by decide +kernel
theorem dX6_item_17 : decode cX6_item 17 = .ok (.getfield 46, 3) := by decide +kernel
theorem dX6_item_20 : decode cX6_item 20 = .ok (.iload_n 1, 1) := by decide +kernel
theorem dX6_item_21 : decode cX6_item 21 = .ok (.iload_n 2, 1) := by decide +kernel
theorem dX6_item_22 : decode cX6_item 22 = .ok (.iload_n 3, 1) := by decide +kernel
theorem dX6_item_23 : decode cX6_item 23 = .ok (.iconst 1, 1) := by decide +kernel
theorem dX6_item_24 : decode cX6_item 24 = .ok (.invokevirtual 235, 3) := by decide +kernel
theorem dX6_item_27 : decode cX6_item 27 = .ok (.istore 6, 2) := by decide +kernel
theorem dX6_item_29 : decode cX6_item 29 = .ok (.iload 6, 2) := by decide +kernel
theorem dX6_item_31 : decode cX6_item 31 = .ok (.ifCond .eq 6, 3) := by decide +kernel
theorem dX6_item_34 : decode cX6_item 34 = .ok (.iload 6, 2) := by decide +kernel
theorem dX6_item_36 : decode cX6_item 36 = .ok (.ireturn, 1) := by decide +kernel
theorem dX6_item_37 : decode cX6_item 37 = .ok (.aload_n 0, 1) := by decide +kernel
theorem dX6_item_38 : decode cX6_item 38 = .ok (.getfield 46, 3) := by decide +kernel
theorem dX6_item_41 : decode cX6_item 41 = .ok (.iload_n 1, 1) := by decide +kernel
theorem dX6_item_42 : decode cX6_item 42 = .ok (.iload_n 3, 1) := by decide +kernel
theorem dX6_item_43 : decode cX6_item 43 = .ok (.lload 4, 2) := by decide +kernel
theorem dX6_item_45 : decode cX6_item 45 = .ok (.invokevirtual 246, 3) := by decide +kernel
theorem dX6_item_48 : decode cX6_item 48 = .ok (.iconst 1, 1) := by decide +kernel
theorem dX6_item_49 : decode cX6_item 49 = .ok (.ireturn, 1) := by decide +kernel
theorem dX6_copy_0 : decode cX6_copy 0 = .ok (.iload_n 1, 1) := by decide +kernel
theorem dX6_copy_1 : decode cX6_copy 1 = .ok (.invokestatic 229, 3) := by decide +kernel
theorem dX6_copy_4 : decode cX6_copy 4 = .ok (.ifCond .eq 10, 3) := by decide +kernel
theorem dX6_copy_7 : decode cX6_copy 7 = .ok (.iload_n 3, 1) := by decide +kernel
theorem dX6_copy_8 : decode cX6_copy 8 = .ok (.invokestatic 229, 3) := by decide +kernel
theorem dX6_copy_11 : decode cX6_copy 11 = .ok (.ifCond .ne 5, 3) := by decide +kernel
theorem dX6_copy_14 : decode cX6_copy 14 = .ok (.iconst (-1), 1) := by decide +kernel
theorem dX6_copy_15 : decode cX6_copy 15 = .ok (.ireturn, 1) := by decide +kernel
theorem dX6_copy_16 : decode cX6_copy 16 = .ok (.aload_n 0, 1) := by decide +kernel
theorem dX6_copy_17 : decode cX6_copy 17 = .ok (.getfield 46, 3) := by decide +kernel
theorem dX6_copy_20 : decode cX6_copy 20 = .ok (.iload_n 1, 1) := by decide +kernel
theorem dX6_copy_21 : decode cX6_copy 21 = .ok (.invokevirtual 254, 3) := by decide +kernel
theorem dX6_copy_24 : decode cX6_copy 24 = .ok (.ifCond .eq 14, 3) := by decide +kernel
theorem dX6_copy_27 : decode cX6_copy 27 = .ok (.aload_n 0, 1) := by decide +kernel
theorem dX6_copy_28 : decode cX6_copy 28 = .ok (.getfield 46, 3) := by decide +kernel
theorem dX6_copy_31 : decode cX6_copy 31 = .ok (.iload_n 3, 1) := by decide +kernel
theorem dX6_copy_32 : decode cX6_copy 32 = .ok (.invokevirtual 254, 3) := by decide +kernel
theorem dX6_copy_35 : decode cX6_copy 35 = .ok (.ifCond .ne 6, 3) := by decide +kernel
theorem dX6_copy_38 : decode cX6_copy 38 = .ok (.bipush (-11), 2) := by decide +kernel
theorem dX6_copy_40 : decode cX6_copy 40 = .ok (.ireturn, 1) := by decide +kernel
theorem dX6_copy_41 : decode cX6_copy 41 = .ok (.aload_n 0, 1) := by decide +kernel
theorem dX6_copy_42 : decode cX6_copy 42 = .ok (.getfield 46, 3) := by decide +kernel
theorem dX6_copy_45 : decode cX6_copy 45 = .ok (.getfield 260, 3) := by decide +kernel
theorem dX6_copy_48 : decode cX6_copy 48 = .ok (.iload_n 1, 1) := by decide +kernel
theorem dX6_copy_49 : decode cX6_copy 49 = .ok (.iaload, 1) := by decide +kernel
theorem dX6_copy_50 : decode cX6_copy 50 = .ok (.aload_n 0, 1) := by decide +kernel
theorem dX6_copy_51 : decode cX6_copy 51 = .ok (.getfield 46, 3) := by decide +kernel
theorem dX6_copy_54 : decode cX6_copy 54 = .ok (.getfield 260, 3) := by decide +kernel
theorem dX6_copy_57 : decode cX6_copy 57 = .ok (.iload_n 3, 1) := by decide +kernel
theorem dX6_copy_58 : decode cX6_copy 58 = .ok (.iaload, 1) := by decide +kernel
theorem dX6_copy_59 : decode cX6_copy 59 = .ok (.if_icmp .eq 6, 3) := by decide +kernel
theorem dX6_copy_62 : decode cX6_copy 62 = .ok (.bipush (-12), 2) := by decide +kernel
theorem dX6_copy_64 : decode cX6_copy 64 = .ok (.ireturn, 1) := by decide +kernel
theorem dX6_copy_65 : decode cX6_copy 65 = .ok (.aload_n 0, 1) := by decide +kernel
theorem dX6_copy_66 : decode cX6_copy 66 = .ok (.getfield 46, 3) := by decide +kernel
theorem dX6_copy_69 : decode cX6_copy 69 = .ok (.iload_n 1, 1) := by decide +kernel
theorem dX6_copy_70 : decode cX6_copy 70 = .ok (.iload_n 2, 1) := by decide +kernel
theorem dX6_copy_71 : decode cX6_copy 71 = .ok (.iload 5, 2) := by decide +kernel
theorem dX6_copy_73 : decode cX6_copy 73 = .ok (.invokevirtual 263, 3) := by decide +kernel
theorem dX6_copy_76 : decode cX6_copy 76 = .ok (.ifCond .eq 18, 3) := by decide +kernel
theorem dX6_copy_79 : decode cX6_copy 79 = .ok (.aload_n 0, 1) := by decide +kernel
theorem dX6_copy_80 : decode cX6_copy 80 = .ok (.getfield 46, 3) := by decide +kernel
theorem dX6_copy_83 : decode cX6_copy 83 = .ok (.iload_n 3, 1) := by decide +kernel
theorem dX6_copy_84 : decode cX6_copy 84 = .ok (.iload 4, 2) := by decide +kernel
theorem dX6_copy_86 : decode cX6_copy 86 = .ok (.iload 5, 2) := by decide +kernel
theorem dX6_copy_88 : decode cX6_copy 88 = .ok (.invokevirtual 263, 3) := by decide +kernel
theorem dX6_copy_91 : decode cX6_copy 91 = .ok (.ifCond .ne 6, 3) := by decide +kernel
theorem dX6_copy_94 : decode cX6_copy 94 = .ok (.bipush (-13), 2) := by decide +kernel
theorem dX6_copy_96 : decode cX6_copy 96 = .ok (.ireturn, 1) := by decide +kernel
theorem dX6_copy_97 : decode cX6_copy 97 = .ok (.aload_n 0, 1) := by decide +kernel
theorem dX6_copy_98 : decode cX6_copy 98 = .ok (.getfield 46, 3) := by decide +kernel
theorem dX6_copy_101 : decode cX6_copy 101 = .ok (.iload_n 1, 1) := by decide +kernel
theorem dX6_copy_102 : decode cX6_copy 102 = .ok (.iload_n 2, 1) := by decide +kernel
theorem dX6_copy_103 : decode cX6_copy 103 = .ok (.iload_n 3, 1) := by decide +kernel
theorem dX6_copy_104 : decode cX6_copy 104 = .ok (.iload 4, 2) := by decide +kernel
theorem dX6_copy_106 : decode cX6_copy 106 = .ok (.iload 5, 2) := by decide +kernel
theorem dX6_copy_108 : decode cX6_copy 108 = .ok (.invokevirtual 266, 3) := by decide +kernel
theorem dX6_copy_111 : decode cX6_copy 111 = .ok (.iload 5, 2) := by decide +kernel
theorem dX6_copy_113 : decode cX6_copy 113 = .ok (.ireturn, 1) := by decide +kernel
theorem dX6_within_0 : decode cX6_within 0 = .ok (.iload_n 0, 1) := by decide +kernel
theorem dX6_within_1 : decode cX6_within 1 = .ok (.iload_n 1, 1) := by decide +kernel
theorem dX6_within_2 : decode cX6_within 2 = .ok (.if_icmp .lt 12, 3) := by decide +kernel
theorem dX6_within_5 : decode cX6_within 5 = .ok (.iload_n 0, 1) := by decide +kernel
theorem dX6_within_6 : decode cX6_within 6 = .ok (.iload_n 2, 1) := by decide +kernel
theorem dX6_within_7 : decode cX6_within 7 = .ok (.if_icmp .gt 7, 3) := by decide +kernel
theorem dX6_within_10 : decode cX6_within 10 = .ok (.iconst 1, 1) := by decide +kernel
theorem dX6_within_11 : decode cX6_within 11 = .ok (.goto 4, 3) := by decide +kernel
theorem dX6_within_14 : decode cX6_within 14 = .ok (.iconst 0, 1) := by decide +kernel
theorem dX6_within_15 : decode cX6_within 15 = .ok (.ireturn, 1) := by decide +kernel
theorem dX6_isSight_0 : decode cX6_isSight 0 = .ok (.iload_n 0, 1) := by decide +kernel
theorem dX6_isSight_1 : decode cX6_isSight 1 = .ok (.iconst 0, 1) := by decide +kernel
theorem dX6_isSight_2 : decode cX6_isSight 2 = .ok (.bipush 7, 2) := by decide +kernel
theorem dX6_isSight_4 : decode cX6_isSight 4 = .ok (.invokestatic 64, 3) := by decide +kernel
theorem dX6_isSight_7 : decode cX6_isSight 7 = .ok (.ireturn, 1) := by decide +kernel
theorem dX6_isComing_0 : decode cX6_isComing 0 = .ok (.iload_n 0, 1) := by decide +kernel
theorem dX6_isComing_1 : decode cX6_isComing 1 = .ok (.iconst 0, 1) := by decide +kernel
theorem dX6_isComing_2 : decode cX6_isComing 2 = .ok (.bipush 20, 2) := by decide +kernel
theorem dX6_isComing_4 : decode cX6_isComing 4 = .ok (.invokestatic 64, 3) := by decide +kernel
theorem dX6_isComing_7 : decode cX6_isComing 7 = .ok (.ireturn, 1) := by decide +kernel
theorem dX6_passHours_0 : decode cX6_passHours 0 = .ok (.iload_n 1, 1) := by decide +kernel
theorem dX6_passHours_1 : decode cX6_passHours 1 = .ok (.iconst 1, 1) := by decide +kernel
theorem dX6_passHours_2 : decode cX6_passHours 2 = .ok (.bipush 40, 2) := by decide +kernel
theorem dX6_passHours_4 : decode cX6_passHours 4 = .ok (.invokestatic 64, 3) := by decide +kernel
theorem dX6_passHours_7 : decode cX6_passHours 7 = .ok (.ifCond .ne 5, 3) := by decide +kernel
theorem dX6_passHours_10 : decode cX6_passHours 10 = .ok (.iconst (-1), 1) := by decide +kernel
theorem dX6_passHours_11 : decode cX6_passHours 11 = .ok (.ireturn, 1) := by decide +kernel
theorem dX6_passHours_12 : decode cX6_passHours 12 = .ok (.aload_n 0, 1) := by decide +kernel
theorem dX6_passHours_13 : decode cX6_passHours 13 = .ok (.getfield 10, 3) := by decide +kernel
theorem dX6_passHours_16 : decode cX6_passHours 16 = .ok (.getfield 150, 3) := by decide +kernel
theorem dX6_passHours_19 : decode cX6_passHours 19 = .ok (.sipush 9999, 3) := by decide +kernel
theorem dX6_passHours_22 : decode cX6_passHours 22 = .ok (.iload_n 1, 1) := by decide +kernel
theorem dX6_passHours_23 : decode cX6_passHours 23 = .ok (.isub, 1) := by decide +kernel
theorem dX6_passHours_24 : decode cX6_passHours 24 = .ok (.if_icmp .le 6, 3) := by decide +kernel
theorem dX6_passHours_27 : decode cX6_passHours 27 = .ok (.bipush (-3), 2) := by decide +kernel
theorem dX6_passHours_29 : decode cX6_passHours 29 = .ok (.ireturn, 1) := by decide +kernel
theorem dX6_passHours_30 : decode cX6_passHours 30 = .ok (.iconst 0, 1) := by decide +kernel
theorem dX6_passHours_31 : decode cX6_passHours 31 = .ok (.istore_n 3, 1) := by decide +kernel
theorem dX6_passHours_32 : decode cX6_passHours 32 = .ok (.iload_n 3, 1) := by decide +kernel
theorem dX6_passHours_33 : decode cX6_passHours 33 = .ok (.iload_n 1, 1) := by decide +kernel
theorem dX6_passHours_34 : decode cX6_passHours 34 = .ok (.if_icmp .ge 38, 3) := by decide +kernel
theorem dX6_passHours_37 : decode cX6_passHours 37 = .ok (.aload_n 0, 1) := by decide +kernel
theorem dX6_passHours_38 : decode cX6_passHours 38 = .ok (.getfield 19, 3) := by decide +kernel
theorem dX6_passHours_41 : decode cX6_passHours 41 = .ok (.aload_n 0, 1) := by decide +kernel
theorem dX6_passHours_42 : decode cX6_passHours 42 = .ok (.getfield 10, 3) := by decide +kernel
theorem dX6_passHours_45 : decode cX6_passHours 45 = .ok (.invokevirtual 169, 3) := by decide +kernel
theorem dX6_passHours_48 : decode cX6_passHours 48 = .ok (.iload_n 2, 1) := by decide +kernel
theorem dX6_passHours_49 : decode cX6_passHours 49 = .ok (.ifCond .eq 10, 3) := by decide +kernel
theorem dX6_passHours_52 : decode cX6_passHours 52 = .ok (.aload_n 0, 1) := by decide +kernel
theorem dX6_passHours_53 : decode cX6_passHours 53 = .ok (.getfield 10, 3) := by decide +kernel
theorem dX6_passHours_56 : decode cX6_passHours 56 = .ok (.invokevirtual 270, 3) := by decide +kernel
theorem dX6_passHours_59 : decode cX6_passHours 59 = .ok (.aload_n 0, 1) := by decide +kernel
theorem dX6_passHours_60 : decode cX6_passHours 60 = .ok (.getfield 10, 3) := by decide +kernel
theorem dX6_passHours_63 : decode cX6_passHours 63 = .ok (.invokevirtual 189, 3) := by decide +kernel
theorem dX6_passHours_66 : decode cX6_passHours 66 = .ok (.iinc 3 1, 3) := by decide +kernel
theorem dX6_passHours_69 : decode cX6_passHours 69 = .ok (.goto (-37), 3) := by decide +kernel
theorem dX6_passHours_72 : decode cX6_passHours 72 = .ok (.aload_n 0, 1) := by decide +kernel
theorem dX6_passHours_73 : decode cX6_passHours 73 = .ok (.getfield 10, 3) := by decide +kernel
theorem dX6_passHours_76 : decode cX6_passHours 76 = .ok (.invokevirtual 156, 3) := by decide +kernel
theorem dX6_passHours_79 : decode cX6_passHours 79 = .ok (.ireturn, 1) := by decide +kernel
theorem dX6_weightOf_0 : decode cX6_weightOf 0 = .ok (.iconst 1, 1) := by decide +kernel
theorem dX6_weightOf_1 : decode cX6_weightOf 1 = .ok (.istore_n 3, 1) := by decide +kernel
theorem dX6_weightOf_2 : decode cX6_weightOf 2 = .ok (.iconst 0, 1) := by decide +kernel
theorem dX6_weightOf_3 : decode cX6_weightOf 3 = .ok (.istore 4, 2) := by decide +kernel
theorem dX6_weightOf_5 : decode cX6_weightOf 5 = .ok (.iload 4, 2) := by decide +kernel
theorem dX6_weightOf_7 : decode cX6_weightOf 7 = .ok (.aload_n 0, 1) := by decide +kernel
theorem dX6_weightOf_8 : decode cX6_weightOf 8 = .ok (.getfield 10, 3) := by decide +kernel
theorem dX6_weightOf_11 : decode cX6_weightOf 11 = .ok (.getfield 144, 3) := by decide +kernel
theorem dX6_weightOf_14 : decode cX6_weightOf 14 = .ok (.if_icmp .ge 67, 3) := by decide +kernel
theorem dX6_weightOf_17 : decode cX6_weightOf 17 = .ok (.iload_n 1, 1) := by decide +kernel
theorem dX6_weightOf_18 : decode cX6_weightOf 18 = .ok (.iload 4, 2) := by decide +kernel
theorem dX6_weightOf_20 : decode cX6_weightOf 20 = .ok (.ishr, 1) := by decide +kernel
theorem dX6_weightOf_21 : decode cX6_weightOf 21 = .ok (.iconst 1, 1) := by decide +kernel
theorem dX6_weightOf_22 : decode cX6_weightOf 22 = .ok (.iand, 1) := by decide +kernel
theorem dX6_weightOf_23 : decode cX6_weightOf 23 = .ok (.ifCond .eq 7, 3) := by decide +kernel
theorem dX6_weightOf_26 : decode cX6_weightOf 26 = .ok (.iconst 1, 1) := by decide +kernel
theorem dX6_weightOf_27 : decode cX6_weightOf 27 = .ok (.goto 4, 3) := by decide +kernel
theorem dX6_weightOf_30 : decode cX6_weightOf 30 = .ok (.iconst 0, 1) := by decide +kernel
theorem dX6_weightOf_31 : decode cX6_weightOf 31 = .ok (.istore 5, 2) := by decide +kernel
theorem dX6_weightOf_33 : decode cX6_weightOf 33 = .ok (.aload_n 0, 1) := by decide +kernel
theorem dX6_weightOf_34 : decode cX6_weightOf 34 = .ok (.getfield 10, 3) := by decide +kernel
theorem dX6_weightOf_37 : decode cX6_weightOf 37 = .ok (.iload 4, 2) := by decide +kernel
theorem dX6_weightOf_39 : decode cX6_weightOf 39 = .ok (.invokevirtual 176, 3) := by decide +kernel
theorem dX6_weightOf_42 : decode cX6_weightOf 42 = .ok (.ifCond .eq 17, 3) := by decide +kernel
theorem dX6_weightOf_45 : decode cX6_weightOf 45 = .ok (.iload 5, 2) := by decide +kernel
theorem dX6_weightOf_47 : decode cX6_weightOf 47 = .ok (.ifCond .eq 7, 3) := by decide +kernel
theorem dX6_weightOf_50 : decode cX6_weightOf 50 = .ok (.iconst 0, 1) := by decide +kernel
theorem dX6_weightOf_51 : decode cX6_weightOf 51 = .ok (.goto 4, 3) := by decide +kernel
theorem dX6_weightOf_54 : decode cX6_weightOf 54 = .ok (.iload_n 3, 1) := by decide +kernel
theorem dX6_weightOf_55 : decode cX6_weightOf 55 = .ok (.istore_n 3, 1) := by decide +kernel
theorem dX6_weightOf_56 : decode cX6_weightOf 56 = .ok (.goto 19, 3) := by decide +kernel
theorem dX6_weightOf_59 : decode cX6_weightOf 59 = .ok (.iload_n 3, 1) := by decide +kernel
theorem dX6_weightOf_60 : decode cX6_weightOf 60 = .ok (.iload 5, 2) := by decide +kernel
theorem dX6_weightOf_62 : decode cX6_weightOf 62 = .ok (.ifCond .eq 7, 3) := by decide +kernel
theorem dX6_weightOf_65 : decode cX6_weightOf 65 = .ok (.iload_n 2, 1) := by decide +kernel
theorem dX6_weightOf_66 : decode cX6_weightOf 66 = .ok (.goto 7, 3) := by decide +kernel
theorem dX6_weightOf_69 : decode cX6_weightOf 69 = .ok (.bipush 10, 2) := by decide +kernel
theorem dX6_weightOf_71 : decode cX6_weightOf 71 = .ok (.iload_n 2, 1) := by decide +kernel
theorem dX6_weightOf_72 : decode cX6_weightOf 72 = .ok (.isub, 1) := by decide +kernel
theorem dX6_weightOf_73 : decode cX6_weightOf 73 = .ok (.imul, 1) := by decide +kernel
theorem dX6_weightOf_74 : decode cX6_weightOf 74 = .ok (.istore_n 3, 1) := by decide +kernel
theorem dX6_weightOf_75 : decode cX6_weightOf 75 = .ok (.iinc 4 1, 3) := by decide +kernel
theorem dX6_weightOf_78 : decode cX6_weightOf 78 = .ok (.goto (-73), 3) := by decide +kernel
theorem dX6_weightOf_81 : decode cX6_weightOf 81 = .ok (.iload_n 3, 1) := by decide +kernel
theorem dX6_weightOf_82 : decode cX6_weightOf 82 = .ok (.ireturn, 1) := by decide +kernel
theorem dX6_weightOfAll_0 : decode cX6_weightOfAll 0 = .ok (.iconst 1, 1) := by decide +kernel
theorem dX6_weightOfAll_1 : decode cX6_weightOfAll 1 = .ok (.istore_n 1, 1) := by decide +kernel
theorem dX6_weightOfAll_2 : decode cX6_weightOfAll 2 = .ok (.iconst 0, 1) := by decide +kernel
theorem dX6_weightOfAll_3 : decode cX6_weightOfAll 3 = .ok (.istore_n 2, 1) := by decide +kernel
theorem dX6_weightOfAll_4 : decode cX6_weightOfAll 4 = .ok (.iload_n 2, 1) := by decide +kernel
theorem dX6_weightOfAll_5 : decode cX6_weightOfAll 5 = .ok (.aload_n 0, 1) := by decide +kernel
theorem dX6_weightOfAll_6 : decode cX6_weightOfAll 6 = .ok (.getfield 10, 3) := by decide +kernel
theorem dX6_weightOfAll_9 : decode cX6_weightOfAll 9 = .ok (.getfield 144, 3) := by decide +kernel
theorem dX6_weightOfAll_12 : decode cX6_weightOfAll 12 = .ok (.if_icmp .ge 29, 3) := by decide +kernel
theorem dX6_weightOfAll_15 : decode cX6_weightOfAll 15 = .ok (.iload_n 1, 1) := by decide +kernel
theorem dX6_weightOfAll_16 : decode cX6_weightOfAll 16 = .ok (.aload_n 0, 1) := by decide +kernel
theorem dX6_weightOfAll_17 : decode cX6_weightOfAll 17 = .ok (.getfield 10, 3) := by decide +kernel
theorem dX6_weightOfAll_20 : decode cX6_weightOfAll 20 = .ok (.iload_n 2, 1) := by decide +kernel
theorem dX6_weightOfAll_21 : decode cX6_weightOfAll 21 = .ok (.invokevirtual 176, 3) := by decide +kernel
theorem dX6_weightOfAll_24 : decode cX6_weightOfAll 24 = .ok (.ifCond .eq 7, 3) := by decide +kernel
theorem dX6_weightOfAll_27 : decode cX6_weightOfAll 27 = .ok (.iconst 1, 1) := by decide +kernel
theorem dX6_weightOfAll_28 : decode cX6_weightOfAll 28 = .ok (.goto 5, 3) := by decide +kernel
theorem dX6_weightOfAll_31 : decode cX6_weightOfAll 31 = .ok (.bipush 10, 2) := by decide +kernel
theorem dX6_weightOfAll_33 : decode cX6_weightOfAll 33 = .ok (.imul, 1) := by decide +kernel
theorem dX6_weightOfAll_34 : decode cX6_weightOfAll 34 = .ok (.istore_n 1, 1) := by decide +kernel
theorem dX6_weightOfAll_35 : decode cX6_weightOfAll 35 = .ok (.iinc 2 1, 3) := by decide +kernel
theorem dX6_weightOfAll_38 : decode cX6_weightOfAll 38 = .ok (.goto (-34), 3) := by decide +kernel
theorem dX6_weightOfAll_41 : decode cX6_weightOfAll 41 = .ok (.iload_n 1, 1) := by decide +kernel
theorem dX6_weightOfAll_42 : decode cX6_weightOfAll 42 = .ok (.ireturn, 1) := by decide +kernel
theorem dX6_hasClaimedBehindCarts_0 : decode cX6_hasClaimedBehindCarts 0 = .ok (.aload_n 0, 1) := by decide +kernel
theorem dX6_hasClaimedBehindCarts_1 : decode cX6_hasClaimedBehindCarts 1 = .ok (.getfield 23, 3) := by decide +kernel
theorem dX6_hasClaimedBehindCarts_4 : decode cX6_hasClaimedBehindCarts 4 = .ok (.aload_n 0, 1) := by decide +kernel
theorem dX6_hasClaimedBehindCarts_5 : decode cX6_hasClaimedBehindCarts 5 = .ok (.getfield 10, 3) := by decide +kernel
theorem dX6_hasClaimedBehindCarts_8 : decode cX6_hasClaimedBehindCarts 8 = .ok (.invokevirtual 140, 3) := by decide +kernel
theorem dX6_hasClaimedBehindCarts_11 : decode cX6_hasClaimedBehindCarts 11 = .ok (.iconst 0, 1) := by decide +kernel
theorem dX6_hasClaimedBehindCarts_12 : decode cX6_hasClaimedBehindCarts 12 = .ok (.istore_n 3, 1) := by decide +kernel
theorem dX6_hasClaimedBehindCarts_13 : decode cX6_hasClaimedBehindCarts 13 = .ok (.iload_n 3, 1) := by decide +kernel
theorem dX6_hasClaimedBehindCarts_14 : decode cX6_hasClaimedBehindCarts 14 = .ok (.aload_n 0, 1) := by decide +kernel
theorem dX6_hasClaimedBehindCarts_15 : decode cX6_hasClaimedBehindCarts 15 = .ok (.getfield 23, 3) := by decide +kernel
theorem dX6_hasClaimedBehindCarts_18 : decode cX6_hasClaimedBehindCarts 18 = .ok (.getfield 144, 3) := by decide +kernel
theorem dX6_hasClaimedBehindCarts_21 : decode cX6_hasClaimedBehindCarts 21 = .ok (.if_icmp .ge 25, 3) := by decide +kernel
theorem dX6_hasClaimedBehindCarts_24 : decode cX6_hasClaimedBehindCarts 24 = .ok (.iload_n 2, 1) := by decide +kernel
theorem dX6_hasClaimedBehindCarts_25 : decode cX6_hasClaimedBehindCarts 25 = .ok (.iload_n 3, 1) := by decide +kernel
theorem dX6_hasClaimedBehindCarts_26 : decode cX6_hasClaimedBehindCarts 26 = .ok (.ishr, 1) := by decide +kernel
theorem dX6_hasClaimedBehindCarts_27 : decode cX6_hasClaimedBehindCarts 27 = .ok (.iconst 1, 1) := by decide +kernel
theorem dX6_hasClaimedBehindCarts_28 : decode cX6_hasClaimedBehindCarts 28 = .ok (.iand, 1) := by decide +kernel
theorem dX6_hasClaimedBehindCarts_29 : decode cX6_hasClaimedBehindCarts 29 = .ok (.ifCond .eq 11, 3) := by decide +kernel
theorem dX6_hasClaimedBehindCarts_32 : decode cX6_hasClaimedBehindCarts 32 = .ok (.aload_n 0, 1) := by decide +kernel
theorem dX6_hasClaimedBehindCarts_33 : decode cX6_hasClaimedBehindCarts 33 = .ok (.getfield 23, 3) := by decide +kernel
theorem dX6_hasClaimedBehindCarts_36 : decode cX6_hasClaimedBehindCarts 36 = .ok (.iload_n 3, 1) := by decide +kernel
theorem dX6_hasClaimedBehindCarts_37 : decode cX6_hasClaimedBehindCarts 37 = .ok (.invokevirtual 179, 3) := by decide +kernel
theorem dX6_hasClaimedBehindCarts_40 : decode cX6_hasClaimedBehindCarts 40 = .ok (.iinc 3 1, 3) := by decide +kernel
theorem dX6_hasClaimedBehindCarts_43 : decode cX6_hasClaimedBehindCarts 43 = .ok (.goto (-30), 3) := by decide +kernel
theorem dX6_hasClaimedBehindCarts_46 : decode cX6_hasClaimedBehindCarts 46 = .ok (.aload_n 0, 1) := by decide +kernel
theorem dX6_hasClaimedBehindCarts_47 : decode cX6_hasClaimedBehindCarts 47 = .ok (.getfield 23, 3) := by decide +kernel
theorem dX6_hasClaimedBehindCarts_50 : decode cX6_hasClaimedBehindCarts 50 = .ok (.invokevirtual 189, 3) := by decide +kernel
theorem dX6_hasClaimedBehindCarts_53 : decode cX6_hasClaimedBehindCarts 53 = .ok (.aload_n 0, 1) := by decide +kernel
theorem dX6_hasClaimedBehindCarts_54 : decode cX6_hasClaimedBehindCarts 54 = .ok (.getfield 23, 3) := by decide +kernel
theorem dX6_hasClaimedBehindCarts_57 : decode cX6_hasClaimedBehindCarts 57 = .ok (.iload_n 1, 1) := by decide +kernel
theorem dX6_hasClaimedBehindCarts_58 : decode cX6_hasClaimedBehindCarts 58 = .ok (.invokevirtual 182, 3) := by decide +kernel
theorem dX6_hasClaimedBehindCarts_61 : decode cX6_hasClaimedBehindCarts 61 = .ok (.ireturn, 1) := by decide +kernel
theorem dX6_commonDivisor_0 : decode cX6_commonDivisor 0 = .ok (.iload_n 0, 1) := by decide +kernel
theorem dX6_commonDivisor_1 : decode cX6_commonDivisor 1 = .ok (.istore_n 2, 1) := by decide +kernel
theorem dX6_commonDivisor_2 : decode cX6_commonDivisor 2 = .ok (.iload_n 1, 1) := by decide +kernel
theorem dX6_commonDivisor_3 : decode cX6_commonDivisor 3 = .ok (.istore_n 3, 1) := by decide +kernel
theorem dX6_commonDivisor_4 : decode cX6_commonDivisor 4 = .ok (.iconst 0, 1) := by decide +kernel
theorem dX6_commonDivisor_5 : decode cX6_commonDivisor 5 = .ok (.istore 4, 2) := by decide +kernel
theorem dX6_commonDivisor_7 : decode cX6_commonDivisor 7 = .ok (.iload 4, 2) := by decide +kernel
theorem dX6_commonDivisor_9 : decode cX6_commonDivisor 9 = .ok (.bipush 64, 2) := by decide +kernel
theorem dX6_commonDivisor_11 : decode cX6_commonDivisor 11 = .ok (.if_icmp .ge 23, 3) := by decide +kernel
theorem dX6_commonDivisor_14 : decode cX6_commonDivisor 14 = .ok (.iload_n 3, 1) := by decide +kernel
theorem dX6_commonDivisor_15 : decode cX6_commonDivisor 15 = .ok (.ifCond .eq 19, 3) := by decide +kernel
theorem dX6_commonDivisor_18 : decode cX6_commonDivisor 18 = .ok (.iload_n 2, 1) := by decide +kernel
theorem dX6_commonDivisor_19 : decode cX6_commonDivisor 19 = .ok (.iload_n 3, 1) := by decide +kernel
theorem dX6_commonDivisor_20 : decode cX6_commonDivisor 20 = .ok (.irem, 1) := by decide +kernel
theorem dX6_commonDivisor_21 : decode cX6_commonDivisor 21 = .ok (.istore 5, 2) := by decide +kernel
theorem dX6_commonDivisor_23 : decode cX6_commonDivisor 23 = .ok (.iload_n 3, 1) := by decide +kernel
theorem dX6_commonDivisor_24 : decode cX6_commonDivisor 24 = .ok (.istore_n 2, 1) := by decide +kernel
theorem dX6_commonDivisor_25 : decode cX6_commonDivisor 25 = .ok (.iload 5, 2) := by decide +kernel
theorem dX6_commonDivisor_27 : decode cX6_commonDivisor 27 = .ok (.istore_n 3, 1) := by decide +kernel
theorem dX6_commonDivisor_28 : decode cX6_commonDivisor 28 = .ok (.iinc 4 1, 3) := by decide +kernel
theorem dX6_commonDivisor_31 : decode cX6_commonDivisor 31 = .ok (.goto (-24), 3) := by decide +kernel
theorem dX6_commonDivisor_34 : decode cX6_commonDivisor 34 = .ok (.iload_n 2, 1) := by decide +kernel
theorem dX6_commonDivisor_35 : decode cX6_commonDivisor 35 = .ok (.ireturn, 1) := by decide +kernel
theorem dX6_kindsDipped_0 : decode cX6_kindsDipped 0 = .ok (.iconst 0, 1) := by decide +kernel
theorem dX6_kindsDipped_1 : decode cX6_kindsDipped 1 = .ok (.istore 5, 2) := by decide +kernel
theorem dX6_kindsDipped_3 : decode cX6_kindsDipped 3 = .ok (.iconst 0, 1) := by decide +kernel
theorem dX6_kindsDipped_4 : decode cX6_kindsDipped 4 = .ok (.istore 6, 2) := by decide +kernel
theorem dX6_kindsDipped_6 : decode cX6_kindsDipped 6 = .ok (.iload 6, 2) := by decide +kernel
theorem dX6_kindsDipped_8 : decode cX6_kindsDipped 8 = .ok (.iconst 5, 1) := by decide +kernel
theorem dX6_kindsDipped_9 : decode cX6_kindsDipped 9 = .ok (.if_icmp .ge 52, 3) := by decide +kernel
theorem dX6_kindsDipped_12 : decode cX6_kindsDipped 12 = .ok (.aload_n 0, 1) := by decide +kernel
theorem dX6_kindsDipped_13 : decode cX6_kindsDipped 13 = .ok (.getfield 23, 3) := by decide +kernel
theorem dX6_kindsDipped_16 : decode cX6_kindsDipped 16 = .ok (.aload_n 0, 1) := by decide +kernel
theorem dX6_kindsDipped_17 : decode cX6_kindsDipped 17 = .ok (.getfield 10, 3) := by decide +kernel
theorem dX6_kindsDipped_20 : decode cX6_kindsDipped 20 = .ok (.invokevirtual 140, 3) := by decide +kernel
theorem dX6_kindsDipped_23 : decode cX6_kindsDipped 23 = .ok (.aload_n 0, 1) := by decide +kernel
theorem dX6_kindsDipped_24 : decode cX6_kindsDipped 24 = .ok (.getfield 23, 3) := by decide +kernel
theorem dX6_kindsDipped_27 : decode cX6_kindsDipped 27 = .ok (.getfield 92, 3) := by decide +kernel
theorem dX6_kindsDipped_30 : decode cX6_kindsDipped 30 = .ok (.iload_n 1, 1) := by decide +kernel
theorem dX6_kindsDipped_31 : decode cX6_kindsDipped 31 = .ok (.iload 6, 2) := by decide +kernel
theorem dX6_kindsDipped_33 : decode cX6_kindsDipped 33 = .ok (.iastore, 1) := by decide +kernel
theorem dX6_kindsDipped_34 : decode cX6_kindsDipped 34 = .ok (.aload_n 0, 1) := by decide +kernel
theorem dX6_kindsDipped_35 : decode cX6_kindsDipped 35 = .ok (.iload_n 1, 1) := by decide +kernel
theorem dX6_kindsDipped_36 : decode cX6_kindsDipped 36 = .ok (.iload_n 2, 1) := by decide +kernel
theorem dX6_kindsDipped_37 : decode cX6_kindsDipped 37 = .ok (.iload_n 3, 1) := by decide +kernel
theorem dX6_kindsDipped_38 : decode cX6_kindsDipped 38 = .ok (.iload 4, 2) := by decide +kernel
theorem dX6_kindsDipped_40 : decode cX6_kindsDipped 40 = .ok (.invokevirtual 273, 3) := by decide +kernel
theorem dX6_kindsDipped_43 : decode cX6_kindsDipped 43 = .ok (.ifCond .eq 12, 3) := by decide +kernel
theorem dX6_kindsDipped_46 : decode cX6_kindsDipped 46 = .ok (.iload 5, 2) := by decide +kernel
theorem dX6_kindsDipped_48 : decode cX6_kindsDipped 48 = .ok (.iconst 1, 1) := by decide +kernel
theorem dX6_kindsDipped_49 : decode cX6_kindsDipped 49 = .ok (.iload 6, 2) := by decide +kernel
theorem dX6_kindsDipped_51 : decode cX6_kindsDipped 51 = .ok (.ishl, 1) := by decide +kernel
theorem dX6_kindsDipped_52 : decode cX6_kindsDipped 52 = .ok (.ior, 1) := by decide +kernel
theorem dX6_kindsDipped_53 : decode cX6_kindsDipped 53 = .ok (.istore 5, 2) := by decide +kernel
theorem dX6_kindsDipped_55 : decode cX6_kindsDipped 55 = .ok (.iinc 6 1, 3) := by decide +kernel
theorem dX6_kindsDipped_58 : decode cX6_kindsDipped 58 = .ok (.goto (-52), 3) := by decide +kernel
theorem dX6_kindsDipped_61 : decode cX6_kindsDipped 61 = .ok (.iload 5, 2) := by decide +kernel
theorem dX6_kindsDipped_63 : decode cX6_kindsDipped 63 = .ok (.ireturn, 1) := by decide +kernel
theorem dX6_depthsDipped_0 : decode cX6_depthsDipped 0 = .ok (.iconst 0, 1) := by decide +kernel
theorem dX6_depthsDipped_1 : decode cX6_depthsDipped 1 = .ok (.istore 6, 2) := by decide +kernel
theorem dX6_depthsDipped_3 : decode cX6_depthsDipped 3 = .ok (.bipush (-4), 2) := by decide +kernel
theorem dX6_depthsDipped_5 : decode cX6_depthsDipped 5 = .ok (.istore 7, 2) := by decide +kernel
theorem dX6_depthsDipped_7 : decode cX6_depthsDipped 7 = .ok (.iconst 0, 1) := by decide +kernel
theorem dX6_depthsDipped_8 : decode cX6_depthsDipped 8 = .ok (.istore 8, 2) := by decide +kernel
theorem dX6_depthsDipped_10 : decode cX6_depthsDipped 10 = .ok (.iload 8, 2) := by decide +kernel
theorem dX6_depthsDipped_12 : decode cX6_depthsDipped 12 = .ok (.bipush 60, 2) := by decide +kernel
theorem dX6_depthsDipped_14 : decode cX6_depthsDipped 14 = .ok (.if_icmp .gt 60, 3) := by decide +kernel
theorem dX6_depthsDipped_17 : decode cX6_depthsDipped 17 = .ok (.aload_n 0, 1) := by decide +kernel
theorem dX6_depthsDipped_18 : decode cX6_depthsDipped 18 = .ok (.getfield 23, 3) := by decide +kernel
theorem dX6_depthsDipped_21 : decode cX6_depthsDipped 21 = .ok (.aload_n 0, 1) := by decide +kernel
theorem dX6_depthsDipped_22 : decode cX6_depthsDipped 22 = .ok (.getfield 10, 3) := by decide +kernel
theorem dX6_depthsDipped_25 : decode cX6_depthsDipped 25 = .ok (.invokevirtual 140, 3) := by decide +kernel
theorem dX6_depthsDipped_28 : decode cX6_depthsDipped 28 = .ok (.aload_n 0, 1) := by decide +kernel
theorem dX6_depthsDipped_29 : decode cX6_depthsDipped 29 = .ok (.getfield 23, 3) := by decide +kernel
theorem dX6_depthsDipped_32 : decode cX6_depthsDipped 32 = .ok (.getfield 95, 3) := by decide +kernel
theorem dX6_depthsDipped_35 : decode cX6_depthsDipped 35 = .ok (.iload_n 1, 1) := by decide +kernel
theorem dX6_depthsDipped_36 : decode cX6_depthsDipped 36 = .ok (.iload 8, 2) := by decide +kernel
theorem dX6_depthsDipped_38 : decode cX6_depthsDipped 38 = .ok (.iastore, 1) := by decide +kernel
theorem dX6_depthsDipped_39 : decode cX6_depthsDipped 39 = .ok (.aload_n 0, 1) := by decide +kernel
theorem dX6_depthsDipped_40 : decode cX6_depthsDipped 40 = .ok (.iload_n 1, 1) := by decide +kernel
theorem dX6_depthsDipped_41 : decode cX6_depthsDipped 41 = .ok (.iload_n 2, 1) := by decide +kernel
theorem dX6_depthsDipped_42 : decode cX6_depthsDipped 42 = .ok (.iload_n 3, 1) := by decide +kernel
theorem dX6_depthsDipped_43 : decode cX6_depthsDipped 43 = .ok (.iload 4, 2) := by decide +kernel
theorem dX6_depthsDipped_45 : decode cX6_depthsDipped 45 = .ok (.invokevirtual 273, 3) := by decide +kernel
theorem dX6_depthsDipped_48 : decode cX6_depthsDipped 48 = .ok (.ifCond .eq 20, 3) := by decide +kernel
theorem dX6_depthsDipped_51 : decode cX6_depthsDipped 51 = .ok (.iload 6, 2) := by decide +kernel
theorem dX6_depthsDipped_53 : decode cX6_depthsDipped 53 = .ok (.ifCond .ne 8, 3) := by decide +kernel
theorem dX6_depthsDipped_56 : decode cX6_depthsDipped 56 = .ok (.iload 8, 2) := by decide +kernel
theorem dX6_depthsDipped_58 : decode cX6_depthsDipped 58 = .ok (.goto 5, 3) := by decide +kernel
theorem dX6_depthsDipped_61 : decode cX6_depthsDipped 61 = .ok (.iload 7, 2) := by decide +kernel
theorem dX6_depthsDipped_63 : decode cX6_depthsDipped 63 = .ok (.istore 7, 2) := by decide +kernel
theorem dX6_depthsDipped_65 : decode cX6_depthsDipped 65 = .ok (.iinc 6 1, 3) := by decide +kernel
theorem dX6_depthsDipped_68 : decode cX6_depthsDipped 68 = .ok (.iinc 8 1, 3) := by decide +kernel
theorem dX6_depthsDipped_71 : decode cX6_depthsDipped 71 = .ok (.goto (-61), 3) := by decide +kernel
theorem dX6_depthsDipped_74 : decode cX6_depthsDipped 74 = .ok (.iload 5, 2) := by decide +kernel
theorem dX6_depthsDipped_76 : decode cX6_depthsDipped 76 = .ok (.ifCond .eq 8, 3) := by decide +kernel
theorem dX6_depthsDipped_79 : decode cX6_depthsDipped 79 = .ok (.iload 7, 2) := by decide +kernel
theorem dX6_depthsDipped_81 : decode cX6_depthsDipped 81 = .ok (.goto 5, 3) := by decide +kernel
theorem dX6_depthsDipped_84 : decode cX6_depthsDipped 84 = .ok (.iload 6, 2) := by decide +kernel
theorem dX6_depthsDipped_86 : decode cX6_depthsDipped 86 = .ok (.ireturn, 1) := by decide +kernel
theorem dX6_draftAgrees_0 : decode cX6_draftAgrees 0 = .ok (.iconst 0, 1) := by decide +kernel
theorem dX6_draftAgrees_1 : decode cX6_draftAgrees 1 = .ok (.istore 5, 2) := by decide +kernel
theorem dX6_draftAgrees_3 : decode cX6_draftAgrees 3 = .ok (.iload 5, 2) := by decide +kernel
theorem dX6_draftAgrees_5 : decode cX6_draftAgrees 5 = .ok (.iload 4, 2) := by decide +kernel
theorem dX6_draftAgrees_7 : decode cX6_draftAgrees 7 = .ok (.if_icmp .ge 44, 3) := by decide +kernel
theorem dX6_draftAgrees_10 : decode cX6_draftAgrees 10 = .ok (.aload_n 0, 1) := by decide +kernel
theorem dX6_draftAgrees_11 : decode cX6_draftAgrees 11 = .ok (.getfield 23, 3) := by decide +kernel
theorem dX6_draftAgrees_14 : decode cX6_draftAgrees 14 = .ok (.invokevirtual 189, 3) := by decide +kernel
theorem dX6_draftAgrees_17 : decode cX6_draftAgrees 17 = .ok (.aload_n 0, 1) := by decide +kernel
theorem dX6_draftAgrees_18 : decode cX6_draftAgrees 18 = .ok (.getfield 46, 3) := by decide +kernel
theorem dX6_draftAgrees_21 : decode cX6_draftAgrees 21 = .ok (.iload_n 2, 1) := by decide +kernel
theorem dX6_draftAgrees_22 : decode cX6_draftAgrees 22 = .ok (.iload_n 3, 1) := by decide +kernel
theorem dX6_draftAgrees_23 : decode cX6_draftAgrees 23 = .ok (.iload 5, 2) := by decide +kernel
theorem dX6_draftAgrees_25 : decode cX6_draftAgrees 25 = .ok (.iadd, 1) := by decide +kernel
theorem dX6_draftAgrees_26 : decode cX6_draftAgrees 26 = .ok (.invokevirtual 277, 3) := by decide +kernel
theorem dX6_draftAgrees_29 : decode cX6_draftAgrees 29 = .ok (.aload_n 0, 1) := by decide +kernel
theorem dX6_draftAgrees_30 : decode cX6_draftAgrees 30 = .ok (.getfield 23, 3) := by decide +kernel
theorem dX6_draftAgrees_33 : decode cX6_draftAgrees 33 = .ok (.getfield 95, 3) := by decide +kernel
theorem dX6_draftAgrees_36 : decode cX6_draftAgrees 36 = .ok (.iload_n 1, 1) := by decide +kernel
theorem dX6_draftAgrees_37 : decode cX6_draftAgrees 37 = .ok (.iaload, 1) := by decide +kernel
theorem dX6_draftAgrees_38 : decode cX6_draftAgrees 38 = .ok (.i2l, 1) := by decide +kernel
theorem dX6_draftAgrees_39 : decode cX6_draftAgrees 39 = .ok (.lcmp, 1) := by decide +kernel
theorem dX6_draftAgrees_40 : decode cX6_draftAgrees 40 = .ok (.ifCond .eq 5, 3) := by decide +kernel
theorem dX6_draftAgrees_43 : decode cX6_draftAgrees 43 = .ok (.iconst 0, 1) := by decide +kernel
theorem dX6_draftAgrees_44 : decode cX6_draftAgrees 44 = .ok (.ireturn, 1) := by decide +kernel
theorem dX6_draftAgrees_45 : decode cX6_draftAgrees 45 = .ok (.iinc 5 1, 3) := by decide +kernel
theorem dX6_draftAgrees_48 : decode cX6_draftAgrees 48 = .ok (.goto (-45), 3) := by decide +kernel
theorem dX6_draftAgrees_51 : decode cX6_draftAgrees 51 = .ok (.iconst 1, 1) := by decide +kernel
theorem dX6_draftAgrees_52 : decode cX6_draftAgrees 52 = .ok (.ireturn, 1) := by decide +kernel
