theorem dX0_init_0 : decode cX0_init 0 = .ok (.aload_n 0, 1) := by decide +kernel
theorem dX0_init_1 : decode cX0_init 1 = .ok (.invokespecial 3, 3) := by decide +kernel
theorem dX0_init_4 : decode cX0_init 4 = .ok (.aload_n 0, 1) := by decide +kernel
theorem dX0_init_5 : decode cX0_init 5 = .ok (.new 9, 3) := by decide +kernel
theorem dX0_init_8 : decode cX0_init 8 = .ok (.dup, 1) := by decide +kernel
theorem dX0_init_9 : decode cX0_init 9 = .ok (.invokespecial 11, 3) := by decide +kernel
theorem dX0_init_12 : decode cX0_init 12 = .ok (.putfield 12, 3) := by decide +kernel
theorem dX0_init_15 : decode cX0_init 15 = .ok (.aload_n 0, 1) := by decide +kernel
theorem dX0_init_16 : decode cX0_init 16 = .ok (.new 18, 3) := by decide +kernel
theorem dX0_init_19 : decode cX0_init 19 = .ok (.dup, 1) := by decide +kernel
theorem dX0_init_20 : decode cX0_init 20 = .ok (.bipush 19, 2) := by decide +kernel
theorem dX0_init_22 : decode cX0_init 22 = .ok (.invokespecial 20, 3) := by decide +kernel
theorem dX0_init_25 : decode cX0_init 25 = .ok (.putfield 23, 3) := by decide +kernel
theorem dX0_init_28 : decode cX0_init 28 = .ok (.aload_n 0, 1) := by decide +kernel
theorem dX0_init_29 : decode cX0_init 29 = .ok (.new 18, 3) := by decide +kernel
theorem dX0_init_32 : decode cX0_init 32 = .ok (.dup, 1) := by decide +kernel
theorem dX0_init_33 : decode cX0_init 33 = .ok (.bipush 19, 2) := by decide +kernel
theorem dX0_init_35 : decode cX0_init 35 = .ok (.invokespecial 20, 3) := by decide +kernel
theorem dX0_init_38 : decode cX0_init 38 = .ok (.putfield 27, 3) := by decide +kernel
theorem dX0_init_41 : decode cX0_init 41 = .ok (.aload_n 0, 1) := by decide +kernel
theorem dX0_init_42 : decode cX0_init 42 = .ok (.new 18, 3) := by decide +kernel
theorem dX0_init_45 : decode cX0_init 45 = .ok (.dup, 1) := by decide +kernel
theorem dX0_init_46 : decode cX0_init 46 = .ok (.bipush 19, 2) := by decide +kernel
theorem dX0_init_48 : decode cX0_init 48 = .ok (.invokespecial 20, 3) := by decide +kernel
theorem dX0_init_51 : decode cX0_init 51 = .ok (.putfield 30, 3) := by decide +kernel
theorem dX0_init_54 : decode cX0_init 54 = .ok (.aload_n 0, 1) := by decide +kernel
theorem dX0_init_55 : decode cX0_init 55 = .ok (.new 18, 3) := by decide +kernel
theorem dX0_init_58 : decode cX0_init 58 = .ok (.dup, 1) := by decide +kernel
theorem dX0_init_59 : decode cX0_init 59 = .ok (.bipush 19, 2) := by decide +kernel
theorem dX0_init_61 : decode cX0_init 61 = .ok (.invokespecial 20, 3) := by decide +kernel
theorem dX0_init_64 : decode cX0_init 64 = .ok (.putfield 33, 3) := by decide +kernel
theorem dX0_init_67 : decode cX0_init 67 = .ok (.aload_n 0, 1) := by decide +kernel
theorem dX0_init_68 : decode cX0_init 68 = .ok (.new 18, 3) := by decide +kernel
theorem dX0_init_71 : decode cX0_init 71 = .ok (.dup, 1) := by decide +kernel
theorem dX0_init_72 : decode cX0_init 72 = .ok (.bipush 19, 2) := by decide +kernel
theorem dX0_init_74 : decode cX0_init 74 = .ok (.invokespecial 20, 3) := by decide +kernel
theorem dX0_init_77 : decode cX0_init 77 = .ok (.putfield 36, 3) := by decide +kernel
theorem dX0_init_80 : decode cX0_init 80 = .ok (.aload_n 0, 1) := by decide +kernel
theorem dX0_init_81 : decode cX0_init 81 = .ok (.new 18, 3) := by decide +kernel
theorem dX0_init_84 : decode cX0_init 84 = .ok (.dup, 1) := by decide +kernel
theorem dX0_init_85 : decode cX0_init 85 = .ok (.bipush 9, 2) := by decide +kernel
theorem dX0_init_87 : decode cX0_init 87 = .ok (.invokespecial 20, 3) := by decide +kernel
theorem dX0_init_90 : decode cX0_init 90 = .ok (.putfield 39, 3) := by decide +kernel
theorem dX0_init_93 : decode cX0_init 93 = .ok (.aload_n 0, 1) := by decide +kernel
theorem dX0_init_94 : decode cX0_init 94 = .ok (.new 18, 3) := by decide +kernel
theorem dX0_init_97 : decode cX0_init 97 = .ok (.dup, 1) := by decide +kernel
theorem dX0_init_98 : decode cX0_init 98 = .ok (.bipush 9, 2) := by decide +kernel
theorem dX0_init_100 : decode cX0_init 100 = .ok (.invokespecial 20, 3) := by decide +kernel
theorem dX0_init_103 : decode cX0_init 103 = .ok (.putfield 42, 3) := by decide +kernel
theorem dX0_init_106 : decode cX0_init 106 = .ok (.aload_n 0, 1) := by decide +kernel
theorem dX0_init_107 : decode cX0_init 107 = .ok (.new 18, 3) := by decide +kernel
theorem dX0_init_110 : decode cX0_init 110 = .ok (.dup, 1) := by decide +kernel
theorem dX0_init_111 : decode cX0_init 111 = .ok (.bipush 9, 2) := by decide +kernel
theorem dX0_init_113 : decode cX0_init 113 = .ok (.invokespecial 20, 3) := by decide +kernel
theorem dX0_init_116 : decode cX0_init 116 = .ok (.putfield 45, 3) := by decide +kernel
theorem dX0_init_119 : decode cX0_init 119 = .ok (.aload_n 0, 1) := by decide +kernel
theorem dX0_init_120 : decode cX0_init 120 = .ok (.new 18, 3) := by decide +kernel
theorem dX0_init_123 : decode cX0_init 123 = .ok (.dup, 1) := by decide +kernel
theorem dX0_init_124 : decode cX0_init 124 = .ok (.bipush 9, 2) := by decide +kernel
theorem dX0_init_126 : decode cX0_init 126 = .ok (.invokespecial 20, 3) := by decide +kernel
theorem dX0_init_129 : decode cX0_init 129 = .ok (.putfield 48, 3) := by decide +kernel
theorem dX0_init_132 : decode cX0_init 132 = .ok (.aload_n 0, 1) := by decide +kernel
theorem dX0_init_133 : decode cX0_init 133 = .ok (.iconst 0, 1) := by decide +kernel
theorem dX0_init_134 : decode cX0_init 134 = .ok (.putfield 51, 3) := by decide +kernel
theorem dX0_init_137 : decode cX0_init 137 = .ok (.aload_n 0, 1) := by decide +kernel
theorem dX0_init_138 : decode cX0_init 138 = .ok (.iconst 0, 1) := by decide +kernel
theorem dX0_init_139 : decode cX0_init 139 = .ok (.putfield 55, 3) := by decide +kernel
theorem dX0_init_142 : decode cX0_init 142 = .ok (.return_, 1) := by decide +kernel
theorem dX0_fit_0 : decode cX0_fit 0 = .ok (.aload_n 0, 1) := by decide +kernel
theorem dX0_fit_1 : decode cX0_fit 1 = .ok (.invokevirtual 58, 3) := by decide +kernel
theorem dX0_fit_4 : decode cX0_fit 4 = .ok (.aload_n 0, 1) := by decide +kernel
theorem dX0_fit_5 : decode cX0_fit 5 = .ok (.getfield 12, 3) := by decide +kernel
theorem dX0_fit_8 : decode cX0_fit 8 = .ok (.invokevirtual 61, 3) := by decide +kernel
theorem dX0_fit_11 : decode cX0_fit 11 = .ok (.iconst 1, 1) := by decide +kernel
theorem dX0_fit_12 : decode cX0_fit 12 = .ok (.isub, 1) := by decide +kernel
theorem dX0_fit_13 : decode cX0_fit 13 = .ok (.istore_n 1, 1) := by decide +kernel
theorem dX0_fit_14 : decode cX0_fit 14 = .ok (.aload_n 0, 1) := by decide +kernel
theorem dX0_fit_15 : decode cX0_fit 15 = .ok (.getfield 12, 3) := by decide +kernel
theorem dX0_fit_18 : decode cX0_fit 18 = .ok (.iconst 0, 1) := by decide +kernel
theorem dX0_fit_19 : decode cX0_fit 19 = .ok (.invokevirtual 65, 3) := by decide +kernel
theorem dX0_fit_22 : decode cX0_fit 22 = .ok (.ldc 69, 2) := by decide +kernel
theorem dX0_fit_24 : decode cX0_fit 24 = .ok (.if_icmp .ne 16, 3) := by decide +kernel
theorem dX0_fit_27 : decode cX0_fit 27 = .ok (.aload_n 0, 1) := by decide +kernel
theorem dX0_fit_28 : decode cX0_fit 28 = .ok (.getfield 12, 3) := by decide +kernel
theorem dX0_fit_31 : decode cX0_fit 31 = .ok (.iload_n 1, 1) := by decide +kernel
theorem dX0_fit_32 : decode cX0_fit 32 = .ok (.invokevirtual 65, 3) := by decide +kernel
theorem dX0_fit_35 : decode cX0_fit 35 = .ok (.ldc 70, 2) := by decide +kernel
theorem dX0_fit_37 : decode cX0_fit 37 = .ok (.if_icmp .eq 5, 3) := by decide +kernel
theorem dX0_fit_40 : decode cX0_fit 40 = .ok (.iconst 0, 1) := by decide +kernel
theorem dX0_fit_41 : decode cX0_fit 41 = .ok (.ireturn, 1) := by decide +kernel
theorem dX0_fit_42 : decode cX0_fit 42 = .ok (.aload_n 0, 1) := by decide +kernel
theorem dX0_fit_43 : decode cX0_fit 43 = .ok (.getfield 12, 3) := by decide +kernel
theorem dX0_fit_46 : decode cX0_fit 46 = .ok (.iconst 1, 1) := by decide +kernel
theorem dX0_fit_47 : decode cX0_fit 47 = .ok (.invokevirtual 65, 3) := by decide +kernel
theorem dX0_fit_50 : decode cX0_fit 50 = .ok (.ldc 71, 2) := by decide +kernel
theorem dX0_fit_52 : decode cX0_fit 52 = .ok (.if_icmp .ne 7, 3) := by decide +kernel
theorem dX0_fit_55 : decode cX0_fit 55 = .ok (.iconst 1, 1) := by decide +kernel
theorem dX0_fit_56 : decode cX0_fit 56 = .ok (.goto 4, 3) := by decide +kernel
theorem dX0_fit_59 : decode cX0_fit 59 = .ok (.iconst 0, 1) := by decide +kernel
theorem dX0_fit_60 : decode cX0_fit 60 = .ok (.istore_n 2, 1) := by decide +kernel
theorem dX0_fit_61 : decode cX0_fit 61 = .ok (.aload_n 0, 1) := by decide +kernel
theorem dX0_fit_62 : decode cX0_fit 62 = .ok (.iconst 1, 1) := by decide +kernel
theorem dX0_fit_63 : decode cX0_fit 63 = .ok (.putfield 55, 3) := by decide +kernel
theorem dX0_fit_66 : decode cX0_fit 66 = .ok (.iconst 0, 1) := by decide +kernel
theorem dX0_fit_67 : decode cX0_fit 67 = .ok (.istore_n 3, 1) := by decide +kernel
theorem dX0_fit_68 : decode cX0_fit 68 = .ok (.iload_n 3, 1) := by decide +kernel
theorem dX0_fit_69 : decode cX0_fit 69 = .ok (.bipush 19, 2) := by decide +kernel
theorem dX0_fit_71 : decode cX0_fit 71 = .ok (.if_icmp .ge 41, 3) := by decide +kernel
theorem dX0_fit_74 : decode cX0_fit 74 = .ok (.aload_n 0, 1) := by decide +kernel
theorem dX0_fit_75 : decode cX0_fit 75 = .ok (.getfield 55, 3) := by decide +kernel
theorem dX0_fit_78 : decode cX0_fit 78 = .ok (.iload_n 1, 1) := by decide +kernel
theorem dX0_fit_79 : decode cX0_fit 79 = .ok (.if_icmp .ge 33, 3) := by decide +kernel
theorem dX0_fit_82 : decode cX0_fit 82 = .ok (.iload_n 2, 1) := by decide +kernel
theorem dX0_fit_83 : decode cX0_fit 83 = .ok (.ifCond .eq 13, 3) := by decide +kernel
theorem dX0_fit_86 : decode cX0_fit 86 = .ok (.aload_n 0, 1) := by decide +kernel
theorem dX0_fit_87 : decode cX0_fit 87 = .ok (.invokevirtual 72, 3) := by decide +kernel
theorem dX0_fit_90 : decode cX0_fit 90 = .ok (.ifCond .eq 14, 3) := by decide +kernel
theorem dX0_fit_93 : decode cX0_fit 93 = .ok (.goto 13, 3) := by decide +kernel
theorem dX0_fit_96 : decode cX0_fit 96 = .ok (.aload_n 0, 1) := by decide +kernel
theorem dX0_fit_97 : decode cX0_fit 97 = .ok (.iconst (-1), 1) := by decide +kernel
theorem dX0_fit_98 : decode cX0_fit 98 = .ok (.invokevirtual 76, 3) := by decide +kernel
theorem dX0_fit_101 : decode cX0_fit 101 = .ok (.ifCond .ne 5, 3) := by decide +kernel
theorem dX0_fit_104 : decode cX0_fit 104 = .ok (.iconst 0, 1) := by decide +kernel
theorem dX0_fit_105 : decode cX0_fit 105 = .ok (.ireturn, 1) := by decide +kernel
theorem dX0_fit_106 : decode cX0_fit 106 = .ok (.iinc 3 1, 3) := by decide +kernel
theorem dX0_fit_109 : decode cX0_fit 109 = .ok (.goto (-41), 3) := by decide +kernel
theorem dX0_fit_112 : decode cX0_fit 112 = .ok (.aload_n 0, 1) := by decide +kernel
theorem dX0_fit_113 : decode cX0_fit 113 = .ok (.getfield 55, 3) := by decide +kernel
theorem dX0_fit_116 : decode cX0_fit 116 = .ok (.iload_n 1, 1) := by decide +kernel
theorem dX0_fit_117 : decode cX0_fit 117 = .ok (.if_icmp .ne 17, 3) := by decide +kernel
theorem dX0_fit_120 : decode cX0_fit 120 = .ok (.aload_n 0, 1) := by decide +kernel
theorem dX0_fit_121 : decode cX0_fit 121 = .ok (.getfield 23, 3) := by decide +kernel
theorem dX0_fit_124 : decode cX0_fit 124 = .ok (.invokevirtual 80, 3) := by decide +kernel
theorem dX0_fit_127 : decode cX0_fit 127 = .ok (.ifCond .le 7, 3) := by decide +kernel
theorem dX0_fit_130 : decode cX0_fit 130 = .ok (.iconst 1, 1) := by decide +kernel
theorem dX0_fit_131 : decode cX0_fit 131 = .ok (.goto 4, 3) := by decide +kernel
theorem dX0_fit_134 : decode cX0_fit 134 = .ok (.iconst 0, 1) := by decide +kernel
theorem dX0_fit_135 : decode cX0_fit 135 = .ok (.ireturn, 1) := by decide +kernel
theorem dX0_empty_0 : decode cX0_empty 0 = .ok (.aload_n 0, 1) := by decide +kernel
theorem dX0_empty_1 : decode cX0_empty 1 = .ok (.getfield 23, 3) := by decide +kernel
theorem dX0_empty_4 : decode cX0_empty 4 = .ok (.invokevirtual 83, 3) := by decide +kernel
theorem dX0_empty_7 : decode cX0_empty 7 = .ok (.aload_n 0, 1) := by decide +kernel
theorem dX0_empty_8 : decode cX0_empty 8 = .ok (.getfield 27, 3) := by decide +kernel
theorem dX0_empty_11 : decode cX0_empty 11 = .ok (.invokevirtual 83, 3) := by decide +kernel
theorem dX0_empty_14 : decode cX0_empty 14 = .ok (.aload_n 0, 1) := by decide +kernel
theorem dX0_empty_15 : decode cX0_empty 15 = .ok (.getfield 30, 3) := by decide +kernel
theorem dX0_empty_18 : decode cX0_empty 18 = .ok (.invokevirtual 83, 3) := by decide +kernel
theorem dX0_empty_21 : decode cX0_empty 21 = .ok (.aload_n 0, 1) := by decide +kernel
theorem dX0_empty_22 : decode cX0_empty 22 = .ok (.getfield 33, 3) := by decide +kernel
theorem dX0_empty_25 : decode cX0_empty 25 = .ok (.invokevirtual 83, 3) := by decide +kernel
theorem dX0_empty_28 : decode cX0_empty 28 = .ok (.aload_n 0, 1) := by decide +kernel
theorem dX0_empty_29 : decode cX0_empty 29 = .ok (.getfield 36, 3) := by decide +kernel
theorem dX0_empty_32 : decode cX0_empty 32 = .ok (.invokevirtual 83, 3) := by decide +kernel
theorem dX0_empty_35 : decode cX0_empty 35 = .ok (.aload_n 0, 1) := by decide +kernel
theorem dX0_empty_36 : decode cX0_empty 36 = .ok (.getfield 39, 3) := by decide +kernel
theorem dX0_empty_39 : decode cX0_empty 39 = .ok (.invokevirtual 83, 3) := by decide +kernel
theorem dX0_empty_42 : decode cX0_empty 42 = .ok (.aload_n 0, 1) := by decide +kernel
theorem dX0_empty_43 : decode cX0_empty 43 = .ok (.getfield 42, 3) := by decide +kernel
theorem dX0_empty_46 : decode cX0_empty 46 = .ok (.invokevirtual 83, 3) := by decide +kernel
theorem dX0_empty_49 : decode cX0_empty 49 = .ok (.aload_n 0, 1) := by decide +kernel
theorem dX0_empty_50 : decode cX0_empty 50 = .ok (.getfield 45, 3) := by decide +kernel
theorem dX0_empty_53 : decode cX0_empty 53 = .ok (.invokevirtual 83, 3) := by decide +kernel
theorem dX0_empty_56 : decode cX0_empty 56 = .ok (.aload_n 0, 1) := by decide +kernel
theorem dX0_empty_57 : decode cX0_empty 57 = .ok (.getfield 48, 3) := by decide +kernel
theorem dX0_empty_60 : decode cX0_empty 60 = .ok (.invokevirtual 83, 3) := by decide +kernel
theorem dX0_empty_63 : decode cX0_empty 63 = .ok (.return_, 1) := by decide +kernel
theorem dX0_takeGroup_0 : decode cX0_takeGroup 0 = .ok (.aload_n 0, 1) := by decide +kernel
theorem dX0_takeGroup_1 : decode cX0_takeGroup 1 = .ok (.getfield 12, 3) := by decide +kernel
theorem dX0_takeGroup_4 : decode cX0_takeGroup 4 = .ok (.aload_n 0, 1) := by decide +kernel
theorem dX0_takeGroup_5 : decode cX0_takeGroup 5 = .ok (.getfield 55, 3) := by decide +kernel
theorem dX0_takeGroup_8 : decode cX0_takeGroup 8 = .ok (.invokevirtual 65, 3) := by decide +kernel
theorem dX0_takeGroup_11 : decode cX0_takeGroup 11 = .ok (.ldc 71, 2) := by decide +kernel
theorem dX0_takeGroup_13 : decode cX0_takeGroup 13 = .ok (.if_icmp .eq 5, 3) := by decide +kernel
theorem dX0_takeGroup_16 : decode cX0_takeGroup 16 = .ok (.iconst 0, 1) := by decide +kernel
theorem dX0_takeGroup_17 : decode cX0_takeGroup 17 = .ok (.ireturn, 1) := by decide +kernel
theorem dX0_takeGroup_18 : decode cX0_takeGroup 18 = .ok (.aload_n 0, 1) := by decide +kernel
theorem dX0_takeGroup_19 : decode cX0_takeGroup 19 = .ok (.getfield 55, 3) := by decide +kernel
theorem dX0_takeGroup_22 : decode cX0_takeGroup 22 = .ok (.istore_n 1, 1) := by decide +kernel
theorem dX0_takeGroup_23 : decode cX0_takeGroup 23 = .ok (.aload_n 0, 1) := by decide +kernel
theorem dX0_takeGroup_24 : decode cX0_takeGroup 24 = .ok (.getfield 23, 3) := by decide +kernel
theorem dX0_takeGroup_27 : decode cX0_takeGroup 27 = .ok (.invokevirtual 80, 3) := by decide +kernel
theorem dX0_takeGroup_30 : decode cX0_takeGroup 30 = .ok (.istore_n 2, 1) := by decide +kernel
theorem dX0_takeGroup_31 : decode cX0_takeGroup 31 = .ok (.aload_n 0, 1) := by decide +kernel
theorem dX0_takeGroup_32 : decode cX0_takeGroup 32 = .ok (.dup, 1) := by decide +kernel
theorem dX0_takeGroup_33 : decode cX0_takeGroup 33 = .ok (.getfield 55, 3) := by decide +kernel
theorem dX0_takeGroup_36 : decode cX0_takeGroup 36 = .ok (.iconst 1, 1) := by decide +kernel
theorem dX0_takeGroup_37 : decode cX0_takeGroup 37 = .ok (.iadd, 1) := by decide +kernel
theorem dX0_takeGroup_38 : decode cX0_takeGroup 38 = .ok (.putfield 55, 3) := by decide +kernel
theorem dX0_takeGroup_41 : decode cX0_takeGroup 41 = .ok (.iconst 0, 1) := by decide +kernel
theorem dX0_takeGroup_42 : decode cX0_takeGroup 42 = .ok (.istore_n 3, 1) := by decide +kernel
theorem dX0_takeGroup_43 : decode cX0_takeGroup 43 = .ok (.iload_n 3, 1) := by decide +kernel
theorem dX0_takeGroup_44 : decode cX0_takeGroup 44 = .ok (.bipush 19, 2) := by decide +kernel
theorem dX0_takeGroup_46 : decode cX0_takeGroup 46 = .ok (.if_icmp .ge 41, 3) := by decide +kernel
theorem dX0_takeGroup_49 : decode cX0_takeGroup 49 = .ok (.aload_n 0, 1) := by decide +kernel
theorem dX0_takeGroup_50 : decode cX0_takeGroup 50 = .ok (.getfield 12, 3) := by decide +kernel
theorem dX0_takeGroup_53 : decode cX0_takeGroup 53 = .ok (.aload_n 0, 1) := by decide +kernel
theorem dX0_takeGroup_54 : decode cX0_takeGroup 54 = .ok (.getfield 55, 3) := by decide +kernel
theorem dX0_takeGroup_57 : decode cX0_takeGroup 57 = .ok (.invokevirtual 65, 3) := by decide +kernel
theorem dX0_takeGroup_60 : decode cX0_takeGroup 60 = .ok (.ldc 84, 2) := by decide +kernel
theorem dX0_takeGroup_62 : decode cX0_takeGroup 62 = .ok (.if_icmp .ne 25, 3) := by decide +kernel
theorem dX0_takeGroup_65 : decode cX0_takeGroup 65 = .ok (.aload_n 0, 1) := by decide +kernel
theorem dX0_takeGroup_66 : decode cX0_takeGroup 66 = .ok (.aload_n 0, 1) := by decide +kernel
theorem dX0_takeGroup_67 : decode cX0_takeGroup 67 = .ok (.getfield 39, 3) := by decide +kernel
theorem dX0_takeGroup_70 : decode cX0_takeGroup 70 = .ok (.invokevirtual 80, 3) := by decide +kernel
theorem dX0_takeGroup_73 : decode cX0_takeGroup 73 = .ok (.invokevirtual 76, 3) := by decide +kernel
theorem dX0_takeGroup_76 : decode cX0_takeGroup 76 = .ok (.ifCond .ne 5, 3) := by decide +kernel
theorem dX0_takeGroup_79 : decode cX0_takeGroup 79 = .ok (.iconst 0, 1) := by decide +kernel
theorem dX0_takeGroup_80 : decode cX0_takeGroup 80 = .ok (.ireturn, 1) := by decide +kernel
theorem dX0_takeGroup_81 : decode cX0_takeGroup 81 = .ok (.iinc 3 1, 3) := by decide +kernel
theorem dX0_takeGroup_84 : decode cX0_takeGroup 84 = .ok (.goto (-41), 3) := by decide +kernel
theorem dX0_takeGroup_87 : decode cX0_takeGroup 87 = .ok (.aload_n 0, 1) := by decide +kernel
theorem dX0_takeGroup_88 : decode cX0_takeGroup 88 = .ok (.getfield 12, 3) := by decide +kernel
theorem dX0_takeGroup_91 : decode cX0_takeGroup 91 = .ok (.aload_n 0, 1) := by decide +kernel
theorem dX0_takeGroup_92 : decode cX0_takeGroup 92 = .ok (.getfield 55, 3) := by decide +kernel
theorem dX0_takeGroup_95 : decode cX0_takeGroup 95 = .ok (.invokevirtual 65, 3) := by decide +kernel
theorem dX0_takeGroup_98 : decode cX0_takeGroup 98 = .ok (.ldc 85, 2) := by decide +kernel
theorem dX0_takeGroup_100 : decode cX0_takeGroup 100 = .ok (.if_icmp .ne 14, 3) := by decide +kernel
theorem dX0_takeGroup_103 : decode cX0_takeGroup 103 = .ok (.aload_n 0, 1) := by decide +kernel
theorem dX0_takeGroup_104 : decode cX0_takeGroup 104 = .ok (.getfield 23, 3) := by decide +kernel
theorem dX0_takeGroup_107 : decode cX0_takeGroup 107 = .ok (.invokevirtual 80, 3) := by decide +kernel
theorem dX0_takeGroup_110 : decode cX0_takeGroup 110 = .ok (.iload_n 2, 1) := by decide +kernel
theorem dX0_takeGroup_111 : decode cX0_takeGroup 111 = .ok (.if_icmp .ne 5, 3) := by decide +kernel
theorem dX0_takeGroup_114 : decode cX0_takeGroup 114 = .ok (.iconst 0, 1) := by decide +kernel
theorem dX0_takeGroup_115 : decode cX0_takeGroup 115 = .ok (.ireturn, 1) := by decide +kernel
theorem dX0_takeGroup_116 : decode cX0_takeGroup 116 = .ok (.aload_n 0, 1) := by decide +kernel
theorem dX0_takeGroup_117 : decode cX0_takeGroup 117 = .ok (.getfield 39, 3) := by decide +kernel
theorem dX0_takeGroup_120 : decode cX0_takeGroup 120 = .ok (.iload_n 1, 1) := by decide +kernel
theorem dX0_takeGroup_121 : decode cX0_takeGroup 121 = .ok (.invokevirtual 86, 3) := by decide +kernel
theorem dX0_takeGroup_124 : decode cX0_takeGroup 124 = .ok (.aload_n 0, 1) := by decide +kernel
theorem dX0_takeGroup_125 : decode cX0_takeGroup 125 = .ok (.getfield 42, 3) := by decide +kernel
theorem dX0_takeGroup_128 : decode cX0_takeGroup 128 = .ok (.aload_n 0, 1) := by decide +kernel
theorem dX0_takeGroup_129 : decode cX0_takeGroup 129 = .ok (.getfield 55, 3) := by decide +kernel
theorem dX0_takeGroup_132 : decode cX0_takeGroup 132 = .ok (.invokevirtual 86, 3) := by decide +kernel
theorem dX0_takeGroup_135 : decode cX0_takeGroup 135 = .ok (.aload_n 0, 1) := by decide +kernel
theorem dX0_takeGroup_136 : decode cX0_takeGroup 136 = .ok (.getfield 45, 3) := by decide +kernel
theorem dX0_takeGroup_139 : decode cX0_takeGroup 139 = .ok (.aload_n 0, 1) := by decide +kernel
theorem dX0_takeGroup_140 : decode cX0_takeGroup 140 = .ok (.getfield 23, 3) := by decide +kernel
theorem dX0_takeGroup_143 : decode cX0_takeGroup 143 = .ok (.invokevirtual 80, 3) := by decide +kernel
theorem dX0_takeGroup_146 : decode cX0_takeGroup 146 = .ok (.iload_n 2, 1) := by decide +kernel
theorem dX0_takeGroup_147 : decode cX0_takeGroup 147 = .ok (.isub, 1) := by decide +kernel
theorem dX0_takeGroup_148 : decode cX0_takeGroup 148 = .ok (.invokevirtual 86, 3) := by decide +kernel
theorem dX0_takeGroup_151 : decode cX0_takeGroup 151 = .ok (.aload_n 0, 1) := by decide +kernel
theorem dX0_takeGroup_152 : decode cX0_takeGroup 152 = .ok (.getfield 48, 3) := by decide +kernel
theorem dX0_takeGroup_155 : decode cX0_takeGroup 155 = .ok (.iconst 0, 1) := by decide +kernel
theorem dX0_takeGroup_156 : decode cX0_takeGroup 156 = .ok (.invokevirtual 86, 3) := by decide +kernel
theorem dX0_takeGroup_159 : decode cX0_takeGroup 159 = .ok (.aload_n 0, 1) := by decide +kernel
theorem dX0_takeGroup_160 : decode cX0_takeGroup 160 = .ok (.dup, 1) := by decide +kernel
theorem dX0_takeGroup_161 : decode cX0_takeGroup 161 = .ok (.getfield 55, 3) := by decide +kernel
theorem dX0_takeGroup_164 : decode cX0_takeGroup 164 = .ok (.iconst 1, 1) := by decide +kernel
theorem dX0_takeGroup_165 : decode cX0_takeGroup 165 = .ok (.iadd, 1) := by decide +kernel
theorem dX0_takeGroup_166 : decode cX0_takeGroup 166 = .ok (.putfield 55, 3) := by decide +kernel
theorem dX0_takeGroup_169 : decode cX0_takeGroup 169 = .ok (.iconst 1, 1) := by decide +kernel
theorem dX0_takeGroup_170 : decode cX0_takeGroup 170 = .ok (.ireturn, 1) := by decide +kernel
theorem dX0_takeMessage_0 : decode cX0_takeMessage 0 = .ok (.aload_n 0, 1) := by decide +kernel
theorem dX0_takeMessage_1 : decode cX0_takeMessage 1 = .ok (.getfield 12, 3) := by decide +kernel
theorem dX0_takeMessage_4 : decode cX0_takeMessage 4 = .ok (.aload_n 0, 1) := by decide +kernel
theorem dX0_takeMessage_5 : decode cX0_takeMessage 5 = .ok (.getfield 55, 3) := by decide +kernel
theorem dX0_takeMessage_8 : decode cX0_takeMessage 8 = .ok (.invokevirtual 65, 3) := by decide +kernel
theorem dX0_takeMessage_11 : decode cX0_takeMessage 11 = .ok (.ldc 84, 2) := by decide +kernel
theorem dX0_takeMessage_13 : decode cX0_takeMessage 13 = .ok (.if_icmp .eq 5, 3) := by decide +kernel
theorem dX0_takeMessage_16 : decode cX0_takeMessage 16 = .ok (.iconst 0, 1) := by decide +kernel
theorem dX0_takeMessage_17 : decode cX0_takeMessage 17 = .ok (.ireturn, 1) := by decide +kernel
theorem dX0_takeMessage_18 : decode cX0_takeMessage 18 = .ok (.aload_n 0, 1) := by decide +kernel
theorem dX0_takeMessage_19 : decode cX0_takeMessage 19 = .ok (.getfield 55, 3) := by decide +kernel
theorem dX0_takeMessage_22 : decode cX0_takeMessage 22 = .ok (.istore_n 2, 1) := by decide +kernel
theorem dX0_takeMessage_23 : decode cX0_takeMessage 23 = .ok (.aload_n 0, 1) := by decide +kernel
theorem dX0_takeMessage_24 : decode cX0_takeMessage 24 = .ok (.dup, 1) := by decide +kernel
theorem dX0_takeMessage_25 : decode cX0_takeMessage 25 = .ok (.getfield 55, 3) := by decide +kernel
theorem dX0_takeMessage_28 : decode cX0_takeMessage 28 = .ok (.iconst 1, 1) := by decide +kernel
theorem dX0_takeMessage_29 : decode cX0_takeMessage 29 = .ok (.iadd, 1) := by decide +kernel
theorem dX0_takeMessage_30 : decode cX0_takeMessage 30 = .ok (.putfield 55, 3) := by decide +kernel
theorem dX0_takeMessage_33 : decode cX0_takeMessage 33 = .ok (.iconst 0, 1) := by decide +kernel
theorem dX0_takeMessage_34 : decode cX0_takeMessage 34 = .ok (.istore_n 3, 1) := by decide +kernel
theorem dX0_takeMessage_35 : decode cX0_takeMessage 35 = .ok (.iload_n 3, 1) := by decide +kernel
theorem dX0_takeMessage_36 : decode cX0_takeMessage 36 = .ok (.bipush 40, 2) := by decide +kernel
theorem dX0_takeMessage_38 : decode cX0_takeMessage 38 = .ok (.if_icmp .ge 36, 3) := by decide +kernel
theorem dX0_takeMessage_41 : decode cX0_takeMessage 41 = .ok (.aload_n 0, 1) := by decide +kernel
theorem dX0_takeMessage_42 : decode cX0_takeMessage 42 = .ok (.getfield 12, 3) := by decide +kernel
theorem dX0_takeMessage_45 : decode cX0_takeMessage 45 = .ok (.aload_n 0, 1) := by decide +kernel
theorem dX0_takeMessage_46 : decode cX0_takeMessage 46 = .ok (.getfield 55, 3) := by decide +kernel
theorem dX0_takeMessage_49 : decode cX0_takeMessage 49 = .ok (.invokevirtual 65, 3) := by decide +kernel
theorem dX0_takeMessage_52 : decode cX0_takeMessage 52 = .ok (.invokestatic 89, 3) := by decide +kernel
theorem dX0_takeMessage_55 : decode cX0_takeMessage 55 = .ok (.ifCond .ne 19, 3) := by decide +kernel
theorem dX0_takeMessage_58 : decode cX0_takeMessage 58 = .ok (.aload_n 0, 1) := by decide +kernel
theorem dX0_takeMessage_59 : decode cX0_takeMessage 59 = .ok (.dup, 1) := by decide +kernel
theorem dX0_takeMessage_60 : decode cX0_takeMessage 60 = .ok (.getfield 55, 3) := by decide +kernel
theorem dX0_takeMessage_63 : decode cX0_takeMessage 63 = .ok (.iconst 1, 1) := by decide +kernel
theorem dX0_takeMessage_64 : decode cX0_takeMessage 64 = .ok (.iadd, 1) := by decide +kernel
theorem dX0_takeMessage_65 : decode cX0_takeMessage 65 = .ok (.putfield 55, 3) := by decide +kernel
theorem dX0_takeMessage_68 : decode cX0_takeMessage 68 = .ok (.iinc 3 1, 3) := by decide +kernel
theorem dX0_takeMessage_71 : decode cX0_takeMessage 71 = .ok (.goto (-36), 3) := by decide +kernel
theorem dX0_takeMessage_74 : decode cX0_takeMessage 74 = .ok (.aload_n 0, 1) := by decide +kernel
theorem dX0_takeMessage_75 : decode cX0_takeMessage 75 = .ok (.getfield 12, 3) := by decide +kernel
theorem dX0_takeMessage_78 : decode cX0_takeMessage 78 = .ok (.aload_n 0, 1) := by decide +kernel
theorem dX0_takeMessage_79 : decode cX0_takeMessage 79 = .ok (.getfield 55, 3) := by decide +kernel
theorem dX0_takeMessage_82 : decode cX0_takeMessage 82 = .ok (.invokevirtual 65, 3) := by decide +kernel
theorem dX0_takeMessage_85 : decode cX0_takeMessage 85 = .ok (.ldc 92, 2) := by decide +kernel
theorem dX0_takeMessage_87 : decode cX0_takeMessage 87 = .ok (.if_icmp .eq 5, 3) := by decide +kernel
theorem dX0_takeMessage_90 : decode cX0_takeMessage 90 = .ok (.iconst 0, 1) := by decide +kernel
theorem dX0_takeMessage_91 : decode cX0_takeMessage 91 = .ok (.ireturn, 1) := by decide +kernel
theorem dX0_takeMessage_92 : decode cX0_takeMessage 92 = .ok (.aload_n 0, 1) := by decide +kernel
theorem dX0_takeMessage_93 : decode cX0_takeMessage 93 = .ok (.getfield 23, 3) := by decide +kernel
theorem dX0_takeMessage_96 : decode cX0_takeMessage 96 = .ok (.iload_n 2, 1) := by decide +kernel
theorem dX0_takeMessage_97 : decode cX0_takeMessage 97 = .ok (.invokevirtual 86, 3) := by decide +kernel
theorem dX0_takeMessage_100 : decode cX0_takeMessage 100 = .ok (.aload_n 0, 1) := by decide +kernel
theorem dX0_takeMessage_101 : decode cX0_takeMessage 101 = .ok (.getfield 27, 3) := by decide +kernel
theorem dX0_takeMessage_104 : decode cX0_takeMessage 104 = .ok (.aload_n 0, 1) := by decide +kernel
theorem dX0_takeMessage_105 : decode cX0_takeMessage 105 = .ok (.getfield 55, 3) := by decide +kernel
theorem dX0_takeMessage_108 : decode cX0_takeMessage 108 = .ok (.invokevirtual 86, 3) := by decide +kernel
theorem dX0_takeMessage_111 : decode cX0_takeMessage 111 = .ok (.aload_n 0, 1) := by decide +kernel
theorem dX0_takeMessage_112 : decode cX0_takeMessage 112 = .ok (.getfield 30, 3) := by decide +kernel
theorem dX0_takeMessage_115 : decode cX0_takeMessage 115 = .ok (.iload_n 1, 1) := by decide +kernel
theorem dX0_takeMessage_116 : decode cX0_takeMessage 116 = .ok (.invokevirtual 86, 3) := by decide +kernel
theorem dX0_takeMessage_119 : decode cX0_takeMessage 119 = .ok (.aload_n 0, 1) := by decide +kernel
theorem dX0_takeMessage_120 : decode cX0_takeMessage 120 = .ok (.getfield 33, 3) := by decide +kernel
theorem dX0_takeMessage_123 : decode cX0_takeMessage 123 = .ok (.iconst 0, 1) := by decide +kernel
theorem dX0_takeMessage_124 : decode cX0_takeMessage 124 = .ok (.invokevirtual 86, 3) := by decide +kernel
theorem dX0_takeMessage_127 : decode cX0_takeMessage 127 = .ok (.aload_n 0, 1) := by decide +kernel
theorem dX0_takeMessage_128 : decode cX0_takeMessage 128 = .ok (.getfield 36, 3) := by decide +kernel
theorem dX0_takeMessage_131 : decode cX0_takeMessage 131 = .ok (.iconst (-1), 1) := by decide +kernel
theorem dX0_takeMessage_132 : decode cX0_takeMessage 132 = .ok (.invokevirtual 86, 3) := by decide +kernel
theorem dX0_takeMessage_135 : decode cX0_takeMessage 135 = .ok (.aload_n 0, 1) := by decide +kernel
theorem dX0_takeMessage_136 : decode cX0_takeMessage 136 = .ok (.dup, 1) := by decide +kernel
theorem dX0_takeMessage_137 : decode cX0_takeMessage 137 = .ok (.getfield 55, 3) := by decide +kernel
theorem dX0_takeMessage_140 : decode cX0_takeMessage 140 = .ok (.iconst 1, 1) := by decide +kernel
theorem dX0_takeMessage_141 : decode cX0_takeMessage 141 = .ok (.iadd, 1) := by decide +kernel
theorem dX0_takeMessage_142 : decode cX0_takeMessage 142 = .ok (.putfield 55, 3) := by decide +kernel
theorem dX0_takeMessage_145 : decode cX0_takeMessage 145 = .ok (.iconst 1, 1) := by decide +kernel
theorem dX0_takeMessage_146 : decode cX0_takeMessage 146 = .ok (.ireturn, 1) := by decide +kernel
theorem dX0_messageCount_0 : decode cX0_messageCount 0 = .ok (.aload_n 0, 1) := by decide +kernel
theorem dX0_messageCount_1 : decode cX0_messageCount 1 = .ok (.getfield 23, 3) := by decide +kernel
theorem dX0_messageCount_4 : decode cX0_messageCount 4 = .ok (.invokevirtual 80, 3) := by decide +kernel
theorem dX0_messageCount_7 : decode cX0_messageCount 7 = .ok (.ireturn, 1) := by decide +kernel
theorem dX0_groupCount_0 : decode cX0_groupCount 0 = .ok (.aload_n 0, 1) := by decide +kernel
theorem dX0_groupCount_1 : decode cX0_groupCount 1 = .ok (.getfield 39, 3) := by decide +kernel
theorem dX0_groupCount_4 : decode cX0_groupCount 4 = .ok (.invokevirtual 80, 3) := by decide +kernel
theorem dX0_groupCount_7 : decode cX0_groupCount 7 = .ok (.ireturn, 1) := by decide +kernel
theorem dX0_code_0 : decode cX0_code 0 = .ok (.aload_n 0, 1) := by decide +kernel
theorem dX0_code_1 : decode cX0_code 1 = .ok (.getfield 51, 3) := by decide +kernel
theorem dX0_code_4 : decode cX0_code 4 = .ok (.ireturn, 1) := by decide +kernel
theorem dX0_codeOfGroup_0 : decode cX0_codeOfGroup 0 = .ok (.aload_n 0, 1) := by decide +kernel
theorem dX0_codeOfGroup_1 : decode cX0_codeOfGroup 1 = .ok (.getfield 48, 3) := by decide +kernel
theorem dX0_codeOfGroup_4 : decode cX0_codeOfGroup 4 = .ok (.iload_n 1, 1) := by decide +kernel
theorem dX0_codeOfGroup_5 : decode cX0_codeOfGroup 5 = .ok (.invokevirtual 93, 3) := by decide +kernel
theorem dX0_codeOfGroup_8 : decode cX0_codeOfGroup 8 = .ok (.ireturn, 1) := by decide +kernel
theorem dX0_ofMessage_0 : decode cX0_ofMessage 0 = .ok (.iload_n 1, 1) := by decide +kernel
theorem dX0_ofMessage_1 : decode cX0_ofMessage 1 = .ok (.ifCond .lt 14, 3) := by decide +kernel
theorem dX0_ofMessage_4 : decode cX0_ofMessage 4 = .ok (.iload_n 1, 1) := by decide +kernel
theorem dX0_ofMessage_5 : decode cX0_ofMessage 5 = .ok (.aload_n 0, 1) := by decide +kernel
theorem dX0_ofMessage_6 : decode cX0_ofMessage 6 = .ok (.getfield 23, 3) := by decide +kernel
theorem dX0_ofMessage_9 : decode cX0_ofMessage 9 = .ok (.invokevirtual 80, 3) := by decide +kernel
theorem dX0_ofMessage_12 : decode cX0_ofMessage 12 = .ok (.if_icmp .lt 5, 3) := by decide +kernel
theorem dX0_ofMessage_15 : decode cX0_ofMessage 15 = .ok (.iconst (-1), 1) := by decide +kernel
theorem dX0_ofMessage_16 : decode cX0_ofMessage 16 = .ok (.ireturn, 1) := by decide +kernel
theorem dX0_ofMessage_17 : decode cX0_ofMessage 17 = .ok (.iload_n 2, 1) := by decide +kernel
theorem dX0_ofMessage_18 : decode cX0_ofMessage 18 = .ok (.tableswitch 77 0 3 #[30, 39, 48, 68], 30) := by decide +kernel
theorem dX0_ofMessage_48 : decode cX0_ofMessage 48 = .ok (.aload_n 0, 1) := by decide +kernel
theorem dX0_ofMessage_49 : decode cX0_ofMessage 49 = .ok (.getfield 33, 3) := by decide +kernel
theorem dX0_ofMessage_52 : decode cX0_ofMessage 52 = .ok (.iload_n 1, 1) := by decide +kernel
theorem dX0_ofMessage_53 : decode cX0_ofMessage 53 = .ok (.invokevirtual 93, 3) := by decide +kernel
theorem dX0_ofMessage_56 : decode cX0_ofMessage 56 = .ok (.ireturn, 1) := by decide +kernel
theorem dX0_ofMessage_57 : decode cX0_ofMessage 57 = .ok (.aload_n 0, 1) := by decide +kernel
theorem dX0_ofMessage_58 : decode cX0_ofMessage 58 = .ok (.getfield 36, 3) := by decide +kernel
theorem dX0_ofMessage_61 : decode cX0_ofMessage 61 = .ok (.iload_n 1, 1) := by decide +kernel
theorem dX0_ofMessage_62 : decode cX0_ofMessage 62 = .ok (.invokevirtual 93, 3) := by decide +kernel
theorem dX0_ofMessage_65 : decode cX0_ofMessage 65 = .ok (.ireturn, 1) := by decide +kernel
theorem dX0_ofMessage_66 : decode cX0_ofMessage 66 = .ok (.aload_n 0, 1) := by decide +kernel
theorem dX0_ofMessage_67 : decode cX0_ofMessage 67 = .ok (.getfield 27, 3) := by decide +kernel
theorem dX0_ofMessage_70 : decode cX0_ofMessage 70 = .ok (.iload_n 1, 1) := by decide +kernel
theorem dX0_ofMessage_71 : decode cX0_ofMessage 71 = .ok (.invokevirtual 93, 3) := by decide +kernel
theorem dX0_ofMessage_74 : decode cX0_ofMessage 74 = .ok (.aload_n 0, 1) := by decide +kernel
theorem dX0_ofMessage_75 : decode cX0_ofMessage 75 = .ok (.getfield 23, 3) := by decide +kernel
theorem dX0_ofMessage_78 : decode cX0_ofMessage 78 = .ok (.iload_n 1, 1) := by decide +kernel
theorem dX0_ofMessage_79 : decode cX0_ofMessage 79 = .ok (.invokevirtual 93, 3) := by decide +kernel
theorem dX0_ofMessage_82 : decode cX0_ofMessage 82 = .ok (.isub, 1) := by decide +kernel
theorem dX0_ofMessage_83 : decode cX0_ofMessage 83 = .ok (.iconst 1, 1) := by decide +kernel
theorem dX0_ofMessage_84 : decode cX0_ofMessage 84 = .ok (.iadd, 1) := by decide +kernel
theorem dX0_ofMessage_85 : decode cX0_ofMessage 85 = .ok (.ireturn, 1) := by decide +kernel
theorem dX0_ofMessage_86 : decode cX0_ofMessage 86 = .ok (.aload_n 0, 1) := by decide +kernel
theorem dX0_ofMessage_87 : decode cX0_ofMessage 87 = .ok (.getfield 30, 3) := by decide +kernel
theorem dX0_ofMessage_90 : decode cX0_ofMessage 90 = .ok (.iload_n 1, 1) := by decide +kernel
theorem dX0_ofMessage_91 : decode cX0_ofMessage 91 = .ok (.invokevirtual 93, 3) := by decide +kernel
theorem dX0_ofMessage_94 : decode cX0_ofMessage 94 = .ok (.ireturn, 1) := by decide +kernel
theorem dX0_ofMessage_95 : decode cX0_ofMessage 95 = .ok (.iconst (-1), 1) := by decide +kernel
theorem dX0_ofMessage_96 : decode cX0_ofMessage 96 = .ok (.ireturn, 1) := by decide +kernel
theorem dX0_reference_0 : decode cX0_reference 0 = .ok (.aload_n 0, 1) := by decide +kernel
theorem dX0_reference_1 : decode cX0_reference 1 = .ok (.getfield 12, 3) := by decide +kernel
theorem dX0_reference_4 : decode cX0_reference 4 = .ok (.iconst 0, 1) := by decide +kernel
theorem dX0_reference_5 : decode cX0_reference 5 = .ok (.iconst 2, 1) := by decide +kernel
theorem dX0_reference_6 : decode cX0_reference 6 = .ok (.iconst 0, 1) := by decide +kernel
theorem dX0_reference_7 : decode cX0_reference 7 = .ok (.invokevirtual 96, 3) := by decide +kernel
theorem dX0_reference_10 : decode cX0_reference 10 = .ok (.ireturn, 1) := by decide +kernel
theorem dX0_referenceOfGroup_0 : decode cX0_referenceOfGroup 0 = .ok (.aload_n 0, 1) := by decide +kernel
theorem dX0_referenceOfGroup_1 : decode cX0_referenceOfGroup 1 = .ok (.getfield 12, 3) := by decide +kernel
theorem dX0_referenceOfGroup_4 : decode cX0_referenceOfGroup 4 = .ok (.aload_n 0, 1) := by decide +kernel
theorem dX0_referenceOfGroup_5 : decode cX0_referenceOfGroup 5 = .ok (.getfield 39, 3) := by decide +kernel
theorem dX0_referenceOfGroup_8 : decode cX0_referenceOfGroup 8 = .ok (.iload_n 1, 1) := by decide +kernel
theorem dX0_referenceOfGroup_9 : decode cX0_referenceOfGroup 9 = .ok (.invokevirtual 93, 3) := by decide +kernel
theorem dX0_referenceOfGroup_12 : decode cX0_referenceOfGroup 12 = .ok (.iconst 0, 1) := by decide +kernel
theorem dX0_referenceOfGroup_13 : decode cX0_referenceOfGroup 13 = .ok (.iconst 0, 1) := by decide +kernel
theorem dX0_referenceOfGroup_14 : decode cX0_referenceOfGroup 14 = .ok (.invokevirtual 96, 3) := by decide +kernel
theorem dX0_referenceOfGroup_17 : decode cX0_referenceOfGroup 17 = .ok (.ireturn, 1) := by decide +kernel
theorem dX0_referenceOfMessage_0 : decode cX0_referenceOfMessage 0 = .ok (.aload_n 0, 1) := by decide +kernel
theorem dX0_referenceOfMessage_1 : decode cX0_referenceOfMessage 1 = .ok (.getfield 12, 3) := by decide +kernel
theorem dX0_referenceOfMessage_4 : decode cX0_referenceOfMessage 4 = .ok (.aload_n 0, 1) := by decide +kernel
theorem dX0_referenceOfMessage_5 : decode cX0_referenceOfMessage 5 = .ok (.getfield 23, 3) := by decide +kernel
theorem dX0_referenceOfMessage_8 : decode cX0_referenceOfMessage 8 = .ok (.iload_n 1, 1) := by decide +kernel
theorem dX0_referenceOfMessage_9 : decode cX0_referenceOfMessage 9 = .ok (.invokevirtual 93, 3) := by decide +kernel
theorem dX0_referenceOfMessage_12 : decode cX0_referenceOfMessage 12 = .ok (.iconst 0, 1) := by decide +kernel
theorem dX0_referenceOfMessage_13 : decode cX0_referenceOfMessage 13 = .ok (.iconst 0, 1) := by decide +kernel
theorem dX0_referenceOfMessage_14 : decode cX0_referenceOfMessage 14 = .ok (.invokevirtual 96, 3) := by decide +kernel
theorem dX0_referenceOfMessage_17 : decode cX0_referenceOfMessage 17 = .ok (.ireturn, 1) := by decide +kernel
theorem dX0_typeOf_0 : decode cX0_typeOf 0 = .ok (.aload_n 0, 1) := by decide +kernel
theorem dX0_typeOf_1 : decode cX0_typeOf 1 = .ok (.getfield 12, 3) := by decide +kernel
theorem dX0_typeOf_4 : decode cX0_typeOf 4 = .ok (.aload_n 0, 1) := by decide +kernel
theorem dX0_typeOf_5 : decode cX0_typeOf 5 = .ok (.getfield 23, 3) := by decide +kernel
theorem dX0_typeOf_8 : decode cX0_typeOf 8 = .ok (.iload_n 1, 1) := by decide +kernel
theorem dX0_typeOf_9 : decode cX0_typeOf 9 = .ok (.invokevirtual 93, 3) := by decide +kernel
theorem dX0_typeOf_12 : decode cX0_typeOf 12 = .ok (.iconst 1, 1) := by decide +kernel
theorem dX0_typeOf_13 : decode cX0_typeOf 13 = .ok (.iconst 0, 1) := by decide +kernel
theorem dX0_typeOf_14 : decode cX0_typeOf 14 = .ok (.invokevirtual 96, 3) := by decide +kernel
theorem dX0_typeOf_17 : decode cX0_typeOf 17 = .ok (.istore_n 2, 1) := by decide +kernel
theorem dX0_typeOf_18 : decode cX0_typeOf 18 = .ok (.aload_n 0, 1) := by decide +kernel
theorem dX0_typeOf_19 : decode cX0_typeOf 19 = .ok (.getfield 12, 3) := by decide +kernel
theorem dX0_typeOf_22 : decode cX0_typeOf 22 = .ok (.iload_n 2, 1) := by decide +kernel
theorem dX0_typeOf_23 : decode cX0_typeOf 23 = .ok (.iconst 0, 1) := by decide +kernel
theorem dX0_typeOf_24 : decode cX0_typeOf 24 = .ok (.invokevirtual 100, 3) := by decide +kernel
theorem dX0_typeOf_27 : decode cX0_typeOf 27 = .ok (.istore_n 3, 1) := by decide +kernel
theorem dX0_typeOf_28 : decode cX0_typeOf 28 = .ok (.aload_n 0, 1) := by decide +kernel
theorem dX0_typeOf_29 : decode cX0_typeOf 29 = .ok (.getfield 12, 3) := by decide +kernel
theorem dX0_typeOf_32 : decode cX0_typeOf 32 = .ok (.iload_n 2, 1) := by decide +kernel
theorem dX0_typeOf_33 : decode cX0_typeOf 33 = .ok (.invokevirtual 104, 3) := by decide +kernel
theorem dX0_typeOf_36 : decode cX0_typeOf 36 = .ok (.iconst 1, 1) := by decide +kernel
theorem dX0_typeOf_37 : decode cX0_typeOf 37 = .ok (.if_icmp .ne 17, 3) := by decide +kernel
theorem dX0_typeOf_40 : decode cX0_typeOf 40 = .ok (.iload_n 3, 1) := by decide +kernel
theorem dX0_typeOf_41 : decode cX0_typeOf 41 = .ok (.invokestatic 107, 3) := by decide +kernel
theorem dX0_typeOf_44 : decode cX0_typeOf 44 = .ok (.ifCond .eq 10, 3) := by decide +kernel
theorem dX0_typeOf_47 : decode cX0_typeOf 47 = .ok (.iload_n 3, 1) := by decide +kernel
theorem dX0_typeOf_48 : decode cX0_typeOf 48 = .ok (.bipush 48, 2) := by decide +kernel
theorem dX0_typeOf_50 : decode cX0_typeOf 50 = .ok (.isub, 1) := by decide +kernel
theorem dX0_typeOf_51 : decode cX0_typeOf 51 = .ok (.goto 4, 3) := by decide +kernel
theorem dX0_typeOf_54 : decode cX0_typeOf 54 = .ok (.iconst (-1), 1) := by decide +kernel
theorem dX0_typeOf_55 : decode cX0_typeOf 55 = .ok (.ireturn, 1) := by decide +kernel
theorem dX0_judgeEnds_0 : decode cX0_judgeEnds 0 = .ok (.aload_n 0, 1) := by decide +kernel
theorem dX0_judgeEnds_1 : decode cX0_judgeEnds 1 = .ok (.getfield 39, 3) := by decide +kernel
theorem dX0_judgeEnds_4 : decode cX0_judgeEnds 4 = .ok (.invokevirtual 80, 3) := by decide +kernel
theorem dX0_judgeEnds_7 : decode cX0_judgeEnds 7 = .ok (.ifCond .le 13, 3) := by decide +kernel
theorem dX0_judgeEnds_10 : decode cX0_judgeEnds 10 = .ok (.aload_n 0, 1) := by decide +kernel
theorem dX0_judgeEnds_11 : decode cX0_judgeEnds 11 = .ok (.getfield 39, 3) := by decide +kernel
theorem dX0_judgeEnds_14 : decode cX0_judgeEnds 14 = .ok (.invokevirtual 80, 3) := by decide +kernel
theorem dX0_judgeEnds_17 : decode cX0_judgeEnds 17 = .ok (.goto 10, 3) := by decide +kernel
theorem dX0_judgeEnds_20 : decode cX0_judgeEnds 20 = .ok (.aload_n 0, 1) := by decide +kernel
theorem dX0_judgeEnds_21 : decode cX0_judgeEnds 21 = .ok (.getfield 23, 3) := by decide +kernel
theorem dX0_judgeEnds_24 : decode cX0_judgeEnds 24 = .ok (.invokevirtual 80, 3) := by decide +kernel
theorem dX0_judgeEnds_27 : decode cX0_judgeEnds 27 = .ok (.istore_n 1, 1) := by decide +kernel
theorem dX0_judgeEnds_28 : decode cX0_judgeEnds 28 = .ok (.aload_n 0, 1) := by decide +kernel
theorem dX0_judgeEnds_29 : decode cX0_judgeEnds 29 = .ok (.aload_n 0, 1) := by decide +kernel
theorem dX0_judgeEnds_30 : decode cX0_judgeEnds 30 = .ok (.aload_n 0, 1) := by decide +kernel
theorem dX0_judgeEnds_31 : decode cX0_judgeEnds 31 = .ok (.invokevirtual 110, 3) := by decide +kernel
theorem dX0_judgeEnds_34 : decode cX0_judgeEnds 34 = .ok (.aload_n 0, 1) := by decide +kernel
theorem dX0_judgeEnds_35 : decode cX0_judgeEnds 35 = .ok (.getfield 12, 3) := by decide +kernel
theorem dX0_judgeEnds_38 : decode cX0_judgeEnds 38 = .ok (.invokevirtual 61, 3) := by decide +kernel
theorem dX0_judgeEnds_41 : decode cX0_judgeEnds 41 = .ok (.iconst 1, 1) := by decide +kernel
theorem dX0_judgeEnds_42 : decode cX0_judgeEnds 42 = .ok (.isub, 1) := by decide +kernel
theorem dX0_judgeEnds_43 : decode cX0_judgeEnds 43 = .ok (.iload_n 1, 1) := by decide +kernel
theorem dX0_judgeEnds_44 : decode cX0_judgeEnds 44 = .ok (.invokevirtual 113, 3) := by decide +kernel
theorem dX0_judgeEnds_47 : decode cX0_judgeEnds 47 = .ok (.putfield 51, 3) := by decide +kernel
theorem dX0_judgeEnds_50 : decode cX0_judgeEnds 50 = .ok (.iconst 0, 1) := by decide +kernel
theorem dX0_judgeEnds_51 : decode cX0_judgeEnds 51 = .ok (.istore_n 2, 1) := by decide +kernel
theorem dX0_judgeEnds_52 : decode cX0_judgeEnds 52 = .ok (.iload_n 2, 1) := by decide +kernel
theorem dX0_judgeEnds_53 : decode cX0_judgeEnds 53 = .ok (.aload_n 0, 1) := by decide +kernel
theorem dX0_judgeEnds_54 : decode cX0_judgeEnds 54 = .ok (.getfield 39, 3) := by decide +kernel
theorem dX0_judgeEnds_57 : decode cX0_judgeEnds 57 = .ok (.invokevirtual 80, 3) := by decide +kernel
theorem dX0_judgeEnds_60 : decode cX0_judgeEnds 60 = .ok (.if_icmp .ge 44, 3) := by decide +kernel
theorem dX0_judgeEnds_63 : decode cX0_judgeEnds 63 = .ok (.aload_n 0, 1) := by decide +kernel
theorem dX0_judgeEnds_64 : decode cX0_judgeEnds 64 = .ok (.aload_n 0, 1) := by decide +kernel
theorem dX0_judgeEnds_65 : decode cX0_judgeEnds 65 = .ok (.iload_n 2, 1) := by decide +kernel
theorem dX0_judgeEnds_66 : decode cX0_judgeEnds 66 = .ok (.invokevirtual 116, 3) := by decide +kernel
theorem dX0_judgeEnds_69 : decode cX0_judgeEnds 69 = .ok (.aload_n 0, 1) := by decide +kernel
theorem dX0_judgeEnds_70 : decode cX0_judgeEnds 70 = .ok (.getfield 42, 3) := by decide +kernel
theorem dX0_judgeEnds_73 : decode cX0_judgeEnds 73 = .ok (.iload_n 2, 1) := by decide +kernel
theorem dX0_judgeEnds_74 : decode cX0_judgeEnds 74 = .ok (.invokevirtual 93, 3) := by decide +kernel
theorem dX0_judgeEnds_77 : decode cX0_judgeEnds 77 = .ok (.aload_n 0, 1) := by decide +kernel
theorem dX0_judgeEnds_78 : decode cX0_judgeEnds 78 = .ok (.getfield 45, 3) := by decide +kernel
theorem dX0_judgeEnds_81 : decode cX0_judgeEnds 81 = .ok (.iload_n 2, 1) := by decide +kernel
theorem dX0_judgeEnds_82 : decode cX0_judgeEnds 82 = .ok (.invokevirtual 93, 3) := by decide +kernel
theorem dX0_judgeEnds_85 : decode cX0_judgeEnds 85 = .ok (.invokevirtual 113, 3) := by decide +kernel
theorem dX0_judgeEnds_88 : decode cX0_judgeEnds 88 = .ok (.istore_n 3, 1) := by decide +kernel
theorem dX0_judgeEnds_89 : decode cX0_judgeEnds 89 = .ok (.aload_n 0, 1) := by decide +kernel
theorem dX0_judgeEnds_90 : decode cX0_judgeEnds 90 = .ok (.getfield 48, 3) := by decide +kernel
theorem dX0_judgeEnds_93 : decode cX0_judgeEnds 93 = .ok (.iload_n 2, 1) := by decide +kernel
theorem dX0_judgeEnds_94 : decode cX0_judgeEnds 94 = .ok (.iload_n 3, 1) := by decide +kernel
theorem dX0_judgeEnds_95 : decode cX0_judgeEnds 95 = .ok (.invokevirtual 119, 3) := by decide +kernel
theorem dX0_judgeEnds_98 : decode cX0_judgeEnds 98 = .ok (.iinc 2 1, 3) := by decide +kernel
theorem dX0_judgeEnds_101 : decode cX0_judgeEnds 101 = .ok (.goto (-49), 3) := by decide +kernel
theorem dX0_judgeEnds_104 : decode cX0_judgeEnds 104 = .ok (.return_, 1) := by decide +kernel
theorem dX0_codeOfEnd_0 : decode cX0_codeOfEnd 0 = .ok (.aload_n 0, 1) := by decide +kernel
theorem dX0_codeOfEnd_1 : decode cX0_codeOfEnd 1 = .ok (.iload_n 1, 1) := by decide +kernel
theorem dX0_codeOfEnd_2 : decode cX0_codeOfEnd 2 = .ok (.iload_n 2, 1) := by decide +kernel
theorem dX0_codeOfEnd_3 : decode cX0_codeOfEnd 3 = .ok (.invokevirtual 123, 3) := by decide +kernel
theorem dX0_codeOfEnd_6 : decode cX0_codeOfEnd 6 = .ok (.ifCond .eq 7, 3) := by decide +kernel
theorem dX0_codeOfEnd_9 : decode cX0_codeOfEnd 9 = .ok (.iconst 0, 1) := by decide +kernel
theorem dX0_codeOfEnd_10 : decode cX0_codeOfEnd 10 = .ok (.goto 4, 3) := by decide +kernel
theorem dX0_codeOfEnd_13 : decode cX0_codeOfEnd 13 = .ok (.iconst 1, 1) := by decide +kernel
theorem dX0_codeOfEnd_14 : decode cX0_codeOfEnd 14 = .ok (.aload_n 0, 1) := by decide +kernel
theorem dX0_codeOfEnd_15 : decode cX0_codeOfEnd 15 = .ok (.iload_n 2, 1) := by decide +kernel
theorem dX0_codeOfEnd_16 : decode cX0_codeOfEnd 16 = .ok (.iload_n 3, 1) := by decide +kernel
theorem dX0_codeOfEnd_17 : decode cX0_codeOfEnd 17 = .ok (.invokevirtual 127, 3) := by decide +kernel
theorem dX0_codeOfEnd_20 : decode cX0_codeOfEnd 20 = .ok (.ifCond .eq 7, 3) := by decide +kernel
theorem dX0_codeOfEnd_23 : decode cX0_codeOfEnd 23 = .ok (.iconst 0, 1) := by decide +kernel
theorem dX0_codeOfEnd_24 : decode cX0_codeOfEnd 24 = .ok (.goto 4, 3) := by decide +kernel
theorem dX0_codeOfEnd_27 : decode cX0_codeOfEnd 27 = .ok (.iconst 2, 1) := by decide +kernel
theorem dX0_codeOfEnd_28 : decode cX0_codeOfEnd 28 = .ok (.iadd, 1) := by decide +kernel
theorem dX0_codeOfEnd_29 : decode cX0_codeOfEnd 29 = .ok (.ireturn, 1) := by decide +kernel
theorem dX0_isRightReference_0 : decode cX0_isRightReference 0 = .ok (.aload_n 0, 1) := by decide +kernel
theorem dX0_isRightReference_1 : decode cX0_isRightReference 1 = .ok (.getfield 12, 3) := by decide +kernel
theorem dX0_isRightReference_4 : decode cX0_isRightReference 4 = .ok (.iload_n 1, 1) := by decide +kernel
theorem dX0_isRightReference_5 : decode cX0_isRightReference 5 = .ok (.invokevirtual 104, 3) := by decide +kernel
theorem dX0_isRightReference_8 : decode cX0_isRightReference 8 = .ok (.ifCond .le 28, 3) := by decide +kernel
theorem dX0_isRightReference_11 : decode cX0_isRightReference 11 = .ok (.aload_n 0, 1) := by decide +kernel
theorem dX0_isRightReference_12 : decode cX0_isRightReference 12 = .ok (.getfield 12, 3) := by decide +kernel
theorem dX0_isRightReference_15 : decode cX0_isRightReference 15 = .ok (.iload_n 1, 1) := by decide +kernel
theorem dX0_isRightReference_16 : decode cX0_isRightReference 16 = .ok (.aload_n 0, 1) := by decide +kernel
theorem dX0_isRightReference_17 : decode cX0_isRightReference 17 = .ok (.getfield 12, 3) := by decide +kernel
theorem dX0_isRightReference_20 : decode cX0_isRightReference 20 = .ok (.iload_n 2, 1) := by decide +kernel
theorem dX0_isRightReference_21 : decode cX0_isRightReference 21 = .ok (.iconst 1, 1) := by decide +kernel
theorem dX0_isRightReference_22 : decode cX0_isRightReference 22 = .ok (.iconst 0, 1) := by decide +kernel
theorem dX0_isRightReference_23 : decode cX0_isRightReference 23 = .ok (.invokevirtual 96, 3) := by decide +kernel
theorem dX0_isRightReference_26 : decode cX0_isRightReference 26 = .ok (.invokevirtual 130, 3) := by decide +kernel
theorem dX0_isRightReference_29 : decode cX0_isRightReference 29 = .ok (.ifCond .eq 7, 3) := by decide +kernel
theorem dX0_isRightReference_32 : decode cX0_isRightReference 32 = .ok (.iconst 1, 1) := by decide +kernel
theorem dX0_isRightReference_33 : decode cX0_isRightReference 33 = .ok (.goto 4, 3) := by decide +kernel
theorem dX0_isRightReference_36 : decode cX0_isRightReference 36 = .ok (.iconst 0, 1) := by decide +kernel
theorem dX0_isRightReference_37 : decode cX0_isRightReference 37 = .ok (.ireturn, 1) := by decide +kernel
theorem dX0_isRightCount_0 : decode cX0_isRightCount 0 = .ok (.aload_n 0, 1) := by decide +kernel
theorem dX0_isRightCount_1 : decode cX0_isRightCount 1 = .ok (.getfield 12, 3) := by decide +kernel
theorem dX0_isRightCount_4 : decode cX0_isRightCount 4 = .ok (.aload_n 0, 1) := by decide +kernel
theorem dX0_isRightCount_5 : decode cX0_isRightCount 5 = .ok (.getfield 12, 3) := by decide +kernel
theorem dX0_isRightCount_8 : decode cX0_isRightCount 8 = .ok (.iload_n 1, 1) := by decide +kernel
theorem dX0_isRightCount_9 : decode cX0_isRightCount 9 = .ok (.iconst 0, 1) := by decide +kernel
theorem dX0_isRightCount_10 : decode cX0_isRightCount 10 = .ok (.iconst 0, 1) := by decide +kernel
theorem dX0_isRightCount_11 : decode cX0_isRightCount 11 = .ok (.invokevirtual 96, 3) := by decide +kernel
theorem dX0_isRightCount_14 : decode cX0_isRightCount 14 = .ok (.iload_n 2, 1) := by decide +kernel
theorem dX0_isRightCount_15 : decode cX0_isRightCount 15 = .ok (.invokevirtual 133, 3) := by decide +kernel
theorem dX0_isRightCount_18 : decode cX0_isRightCount 18 = .ok (.ireturn, 1) := by decide +kernel
theorem dX0_judgeMessage_0 : decode cX0_judgeMessage 0 = .ok (.aload_n 0, 1) := by decide +kernel
theorem dX0_judgeMessage_1 : decode cX0_judgeMessage 1 = .ok (.getfield 23, 3) := by decide +kernel
theorem dX0_judgeMessage_4 : decode cX0_judgeMessage 4 = .ok (.iload_n 1, 1) := by decide +kernel
theorem dX0_judgeMessage_5 : decode cX0_judgeMessage 5 = .ok (.invokevirtual 93, 3) := by decide +kernel
theorem dX0_judgeMessage_8 : decode cX0_judgeMessage 8 = .ok (.istore_n 3, 1) := by decide +kernel
theorem dX0_judgeMessage_9 : decode cX0_judgeMessage 9 = .ok (.aload_n 0, 1) := by decide +kernel
theorem dX0_judgeMessage_10 : decode cX0_judgeMessage 10 = .ok (.getfield 27, 3) := by decide +kernel
theorem dX0_judgeMessage_13 : decode cX0_judgeMessage 13 = .ok (.iload_n 1, 1) := by decide +kernel
theorem dX0_judgeMessage_14 : decode cX0_judgeMessage 14 = .ok (.invokevirtual 93, 3) := by decide +kernel
theorem dX0_judgeMessage_17 : decode cX0_judgeMessage 17 = .ok (.istore 4, 2) := by decide +kernel
theorem dX0_judgeMessage_19 : decode cX0_judgeMessage 19 = .ok (.aload_n 0, 1) := by decide +kernel
theorem dX0_judgeMessage_20 : decode cX0_judgeMessage 20 = .ok (.aload_n 0, 1) := by decide +kernel
theorem dX0_judgeMessage_21 : decode cX0_judgeMessage 21 = .ok (.iload_n 1, 1) := by decide +kernel
theorem dX0_judgeMessage_22 : decode cX0_judgeMessage 22 = .ok (.invokevirtual 136, 3) := by decide +kernel
theorem dX0_judgeMessage_25 : decode cX0_judgeMessage 25 = .ok (.iload 4, 2) := by decide +kernel
theorem dX0_judgeMessage_27 : decode cX0_judgeMessage 27 = .ok (.invokevirtual 123, 3) := by decide +kernel
theorem dX0_judgeMessage_30 : decode cX0_judgeMessage 30 = .ok (.ifCond .ne 14, 3) := by decide +kernel
theorem dX0_judgeMessage_33 : decode cX0_judgeMessage 33 = .ok (.aload_n 0, 1) := by decide +kernel
theorem dX0_judgeMessage_34 : decode cX0_judgeMessage 34 = .ok (.iload_n 1, 1) := by decide +kernel
theorem dX0_judgeMessage_35 : decode cX0_judgeMessage 35 = .ok (.iconst 1, 1) := by decide +kernel
theorem dX0_judgeMessage_36 : decode cX0_judgeMessage 36 = .ok (.iload 4, 2) := by decide +kernel
theorem dX0_judgeMessage_38 : decode cX0_judgeMessage 38 = .ok (.invokevirtual 139, 3) := by decide +kernel
theorem dX0_judgeMessage_41 : decode cX0_judgeMessage 41 = .ok (.goto 75, 3) := by decide +kernel
theorem dX0_judgeMessage_44 : decode cX0_judgeMessage 44 = .ok (.aload_n 0, 1) := by decide +kernel
theorem dX0_judgeMessage_45 : decode cX0_judgeMessage 45 = .ok (.iload 4, 2) := by decide +kernel
theorem dX0_judgeMessage_47 : decode cX0_judgeMessage 47 = .ok (.iload 4, 2) := by decide +kernel
theorem dX0_judgeMessage_49 : decode cX0_judgeMessage 49 = .ok (.iload_n 3, 1) := by decide +kernel
theorem dX0_judgeMessage_50 : decode cX0_judgeMessage 50 = .ok (.isub, 1) := by decide +kernel
theorem dX0_judgeMessage_51 : decode cX0_judgeMessage 51 = .ok (.iconst 1, 1) := by decide +kernel
theorem dX0_judgeMessage_52 : decode cX0_judgeMessage 52 = .ok (.iadd, 1) := by decide +kernel
theorem dX0_judgeMessage_53 : decode cX0_judgeMessage 53 = .ok (.invokevirtual 127, 3) := by decide +kernel
theorem dX0_judgeMessage_56 : decode cX0_judgeMessage 56 = .ok (.ifCond .ne 14, 3) := by decide +kernel
theorem dX0_judgeMessage_59 : decode cX0_judgeMessage 59 = .ok (.aload_n 0, 1) := by decide +kernel
theorem dX0_judgeMessage_60 : decode cX0_judgeMessage 60 = .ok (.iload_n 1, 1) := by decide +kernel
theorem dX0_judgeMessage_61 : decode cX0_judgeMessage 61 = .ok (.iconst 2, 1) := by decide +kernel
theorem dX0_judgeMessage_62 : decode cX0_judgeMessage 62 = .ok (.iload 4, 2) := by decide +kernel
theorem dX0_judgeMessage_64 : decode cX0_judgeMessage 64 = .ok (.invokevirtual 139, 3) := by decide +kernel
theorem dX0_judgeMessage_67 : decode cX0_judgeMessage 67 = .ok (.goto 49, 3) := by decide +kernel
theorem dX0_judgeMessage_70 : decode cX0_judgeMessage 70 = .ok (.aload_n 0, 1) := by decide +kernel
theorem dX0_judgeMessage_71 : decode cX0_judgeMessage 71 = .ok (.iload_n 1, 1) := by decide +kernel
theorem dX0_judgeMessage_72 : decode cX0_judgeMessage 72 = .ok (.invokevirtual 143, 3) := by decide +kernel
theorem dX0_judgeMessage_75 : decode cX0_judgeMessage 75 = .ok (.ifCond .eq 14, 3) := by decide +kernel
theorem dX0_judgeMessage_78 : decode cX0_judgeMessage 78 = .ok (.aload_n 0, 1) := by decide +kernel
theorem dX0_judgeMessage_79 : decode cX0_judgeMessage 79 = .ok (.iload_n 1, 1) := by decide +kernel
theorem dX0_judgeMessage_80 : decode cX0_judgeMessage 80 = .ok (.bipush 7, 2) := by decide +kernel
theorem dX0_judgeMessage_82 : decode cX0_judgeMessage 82 = .ok (.iload_n 3, 1) := by decide +kernel
theorem dX0_judgeMessage_83 : decode cX0_judgeMessage 83 = .ok (.invokevirtual 139, 3) := by decide +kernel
theorem dX0_judgeMessage_86 : decode cX0_judgeMessage 86 = .ok (.goto 30, 3) := by decide +kernel
theorem dX0_judgeMessage_89 : decode cX0_judgeMessage 89 = .ok (.aload_n 2, 1) := by decide +kernel
theorem dX0_judgeMessage_90 : decode cX0_judgeMessage 90 = .ok (.ifnull 10, 3) := by decide +kernel
theorem dX0_judgeMessage_93 : decode cX0_judgeMessage 93 = .ok (.aload_n 2, 1) := by decide +kernel
theorem dX0_judgeMessage_94 : decode cX0_judgeMessage 94 = .ok (.invokevirtual 146, 3) := by decide +kernel
theorem dX0_judgeMessage_97 : decode cX0_judgeMessage 97 = .ok (.ifCond .eq 13, 3) := by decide +kernel
theorem dX0_judgeMessage_100 : decode cX0_judgeMessage 100 = .ok (.aload_n 0, 1) := by decide +kernel
theorem dX0_judgeMessage_101 : decode cX0_judgeMessage 101 = .ok (.iload_n 1, 1) := by decide +kernel
theorem dX0_judgeMessage_102 : decode cX0_judgeMessage 102 = .ok (.iconst 3, 1) := by decide +kernel
theorem dX0_judgeMessage_103 : decode cX0_judgeMessage 103 = .ok (.iload_n 3, 1) := by decide +kernel
theorem dX0_judgeMessage_104 : decode cX0_judgeMessage 104 = .ok (.invokevirtual 139, 3) := by decide +kernel
theorem dX0_judgeMessage_107 : decode cX0_judgeMessage 107 = .ok (.goto 9, 3) := by decide +kernel
theorem dX0_judgeMessage_110 : decode cX0_judgeMessage 110 = .ok (.aload_n 0, 1) := by decide +kernel
theorem dX0_judgeMessage_111 : decode cX0_judgeMessage 111 = .ok (.iload_n 1, 1) := by decide +kernel
theorem dX0_judgeMessage_112 : decode cX0_judgeMessage 112 = .ok (.aload_n 2, 1) := by decide +kernel
theorem dX0_judgeMessage_113 : decode cX0_judgeMessage 113 = .ok (.invokevirtual 151, 3) := by decide +kernel
theorem dX0_judgeMessage_116 : decode cX0_judgeMessage 116 = .ok (.return_, 1) := by decide +kernel
theorem dX0_note_0 : decode cX0_note 0 = .ok (.aload_n 0, 1) := by decide +kernel
theorem dX0_note_1 : decode cX0_note 1 = .ok (.getfield 33, 3) := by decide +kernel
theorem dX0_note_4 : decode cX0_note 4 = .ok (.iload_n 1, 1) := by decide +kernel
theorem dX0_note_5 : decode cX0_note 5 = .ok (.iload_n 2, 1) := by decide +kernel
theorem dX0_note_6 : decode cX0_note 6 = .ok (.invokevirtual 119, 3) := by decide +kernel
theorem dX0_note_9 : decode cX0_note 9 = .ok (.aload_n 0, 1) := by decide +kernel
theorem dX0_note_10 : decode cX0_note 10 = .ok (.getfield 36, 3) := by decide +kernel
theorem dX0_note_13 : decode cX0_note 13 = .ok (.iload_n 1, 1) := by decide +kernel
theorem dX0_note_14 : decode cX0_note 14 = .ok (.iload_n 3, 1) := by decide +kernel
theorem dX0_note_15 : decode cX0_note 15 = .ok (.invokevirtual 119, 3) := by decide +kernel
theorem dX0_note_18 : decode cX0_note 18 = .ok (.return_, 1) := by decide +kernel
theorem dX0_isRepeated_0 : decode cX0_isRepeated 0 = .ok (.iconst 0, 1) := by decide +kernel
theorem dX0_isRepeated_1 : decode cX0_isRepeated 1 = .ok (.istore_n 2, 1) := by decide +kernel
theorem dX0_isRepeated_2 : decode cX0_isRepeated 2 = .ok (.iload_n 2, 1) := by decide +kernel
theorem dX0_isRepeated_3 : decode cX0_isRepeated 3 = .ok (.iload_n 1, 1) := by decide +kernel
theorem dX0_isRepeated_4 : decode cX0_isRepeated 4 = .ok (.if_icmp .ge 31, 3) := by decide +kernel
theorem dX0_isRepeated_7 : decode cX0_isRepeated 7 = .ok (.aload_n 0, 1) := by decide +kernel
theorem dX0_isRepeated_8 : decode cX0_isRepeated 8 = .ok (.getfield 12, 3) := by decide +kernel
theorem dX0_isRepeated_11 : decode cX0_isRepeated 11 = .ok (.aload_n 0, 1) := by decide +kernel
theorem dX0_isRepeated_12 : decode cX0_isRepeated 12 = .ok (.iload_n 2, 1) := by decide +kernel
theorem dX0_isRepeated_13 : decode cX0_isRepeated 13 = .ok (.invokevirtual 136, 3) := by decide +kernel
theorem dX0_isRepeated_16 : decode cX0_isRepeated 16 = .ok (.aload_n 0, 1) := by decide +kernel
theorem dX0_isRepeated_17 : decode cX0_isRepeated 17 = .ok (.iload_n 1, 1) := by decide +kernel
theorem dX0_isRepeated_18 : decode cX0_isRepeated 18 = .ok (.invokevirtual 136, 3) := by decide +kernel
theorem dX0_isRepeated_21 : decode cX0_isRepeated 21 = .ok (.invokevirtual 130, 3) := by decide +kernel
theorem dX0_isRepeated_24 : decode cX0_isRepeated 24 = .ok (.ifCond .eq 5, 3) := by decide +kernel
theorem dX0_isRepeated_27 : decode cX0_isRepeated 27 = .ok (.iconst 1, 1) := by decide +kernel
theorem dX0_isRepeated_28 : decode cX0_isRepeated 28 = .ok (.ireturn, 1) := by decide +kernel
theorem dX0_isRepeated_29 : decode cX0_isRepeated 29 = .ok (.iinc 2 1, 3) := by decide +kernel
theorem dX0_isRepeated_32 : decode cX0_isRepeated 32 = .ok (.goto (-30), 3) := by decide +kernel
theorem dX0_isRepeated_35 : decode cX0_isRepeated 35 = .ok (.iconst 0, 1) := by decide +kernel
theorem dX0_isRepeated_36 : decode cX0_isRepeated 36 = .ok (.ireturn, 1) := by decide +kernel
theorem dX0_matchMessage_0 : decode cX0_matchMessage 0 = .ok (.aload_n 0, 1) := by decide +kernel
theorem dX0_matchMessage_1 : decode cX0_matchMessage 1 = .ok (.getfield 27, 3) := by decide +kernel
theorem dX0_matchMessage_4 : decode cX0_matchMessage 4 = .ok (.iload_n 1, 1) := by decide +kernel
theorem dX0_matchMessage_5 : decode cX0_matchMessage 5 = .ok (.invokevirtual 93, 3) := by decide +kernel
theorem dX0_matchMessage_8 : decode cX0_matchMessage 8 = .ok (.istore_n 3, 1) := by decide +kernel
theorem dX0_matchMessage_9 : decode cX0_matchMessage 9 = .ok (.aload_n 2, 1) := by decide +kernel
theorem dX0_matchMessage_10 : decode cX0_matchMessage 10 = .ok (.invokevirtual 155, 3) := by decide +kernel
theorem dX0_matchMessage_13 : decode cX0_matchMessage 13 = .ok (.aload_n 0, 1) := by decide +kernel
theorem dX0_matchMessage_14 : decode cX0_matchMessage 14 = .ok (.getfield 23, 3) := by decide +kernel
theorem dX0_matchMessage_17 : decode cX0_matchMessage 17 = .ok (.iload_n 1, 1) := by decide +kernel
theorem dX0_matchMessage_18 : decode cX0_matchMessage 18 = .ok (.invokevirtual 93, 3) := by decide +kernel
theorem dX0_matchMessage_21 : decode cX0_matchMessage 21 = .ok (.iconst 1, 1) := by decide +kernel
theorem dX0_matchMessage_22 : decode cX0_matchMessage 22 = .ok (.iadd, 1) := by decide +kernel
theorem dX0_matchMessage_23 : decode cX0_matchMessage 23 = .ok (.istore 4, 2) := by decide +kernel
theorem dX0_matchMessage_25 : decode cX0_matchMessage 25 = .ok (.iload 4, 2) := by decide +kernel
theorem dX0_matchMessage_27 : decode cX0_matchMessage 27 = .ok (.iload_n 3, 1) := by decide +kernel
theorem dX0_matchMessage_28 : decode cX0_matchMessage 28 = .ok (.if_icmp .ge 39, 3) := by decide +kernel
theorem dX0_matchMessage_31 : decode cX0_matchMessage 31 = .ok (.aload_n 2, 1) := by decide +kernel
theorem dX0_matchMessage_32 : decode cX0_matchMessage 32 = .ok (.aload_n 0, 1) := by decide +kernel
theorem dX0_matchMessage_33 : decode cX0_matchMessage 33 = .ok (.getfield 12, 3) := by decide +kernel
theorem dX0_matchMessage_36 : decode cX0_matchMessage 36 = .ok (.iload 4, 2) := by decide +kernel
theorem dX0_matchMessage_38 : decode cX0_matchMessage 38 = .ok (.invokevirtual 65, 3) := by decide +kernel
theorem dX0_matchMessage_41 : decode cX0_matchMessage 41 = .ok (.invokevirtual 158, 3) := by decide +kernel
theorem dX0_matchMessage_44 : decode cX0_matchMessage 44 = .ok (.istore 5, 2) := by decide +kernel
theorem dX0_matchMessage_46 : decode cX0_matchMessage 46 = .ok (.iload 5, 2) := by decide +kernel
theorem dX0_matchMessage_48 : decode cX0_matchMessage 48 = .ok (.ifCond .eq 13, 3) := by decide +kernel
theorem dX0_matchMessage_51 : decode cX0_matchMessage 51 = .ok (.aload_n 0, 1) := by decide +kernel
theorem dX0_matchMessage_52 : decode cX0_matchMessage 52 = .ok (.iload_n 1, 1) := by decide +kernel
theorem dX0_matchMessage_53 : decode cX0_matchMessage 53 = .ok (.iload 5, 2) := by decide +kernel
theorem dX0_matchMessage_55 : decode cX0_matchMessage 55 = .ok (.iload 4, 2) := by decide +kernel
theorem dX0_matchMessage_57 : decode cX0_matchMessage 57 = .ok (.invokevirtual 139, 3) := by decide +kernel
theorem dX0_matchMessage_60 : decode cX0_matchMessage 60 = .ok (.return_, 1) := by decide +kernel
theorem dX0_matchMessage_61 : decode cX0_matchMessage 61 = .ok (.iinc 4 1, 3) := by decide +kernel
theorem dX0_matchMessage_64 : decode cX0_matchMessage 64 = .ok (.goto (-39), 3) := by decide +kernel
theorem dX0_matchMessage_67 : decode cX0_matchMessage 67 = .ok (.aload_n 2, 1) := by decide +kernel
theorem dX0_matchMessage_68 : decode cX0_matchMessage 68 = .ok (.invokevirtual 161, 3) := by decide +kernel
theorem dX0_matchMessage_71 : decode cX0_matchMessage 71 = .ok (.istore 4, 2) := by decide +kernel
theorem dX0_matchMessage_73 : decode cX0_matchMessage 73 = .ok (.aload_n 0, 1) := by decide +kernel
theorem dX0_matchMessage_74 : decode cX0_matchMessage 74 = .ok (.iload_n 1, 1) := by decide +kernel
theorem dX0_matchMessage_75 : decode cX0_matchMessage 75 = .ok (.iload 4, 2) := by decide +kernel
theorem dX0_matchMessage_77 : decode cX0_matchMessage 77 = .ok (.iload 4, 2) := by decide +kernel
theorem dX0_matchMessage_79 : decode cX0_matchMessage 79 = .ok (.ifCond .ne 7, 3) := by decide +kernel
theorem dX0_matchMessage_82 : decode cX0_matchMessage 82 = .ok (.iconst (-1), 1) := by decide +kernel
theorem dX0_matchMessage_83 : decode cX0_matchMessage 83 = .ok (.goto 4, 3) := by decide +kernel
theorem dX0_matchMessage_86 : decode cX0_matchMessage 86 = .ok (.iload_n 3, 1) := by decide +kernel
theorem dX0_matchMessage_87 : decode cX0_matchMessage 87 = .ok (.invokevirtual 139, 3) := by decide +kernel
theorem dX0_matchMessage_90 : decode cX0_matchMessage 90 = .ok (.return_, 1) := by decide +kernel
theorem dX1_init_0 : decode cX1_init 0 = .ok (.aload_n 0, 1) := by decide +kernel
theorem dX1_init_1 : decode cX1_init 1 = .ok (.invokespecial 3, 3) := by decide +kernel
theorem dX1_init_4 : decode cX1_init 4 = .ok (.aload_n 0, 1) := by decide +kernel
theorem dX1_init_5 : decode cX1_init 5 = .ok (.new 9, 3) := by decide +kernel
theorem dX1_init_8 : decode cX1_init 8 = .ok (.dup, 1) := by decide +kernel
theorem dX1_init_9 : decode cX1_init 9 = .ok (.iload_n 1, 1) := by decide +kernel
theorem dX1_init_10 : decode cX1_init 10 = .ok (.invokespecial 11, 3) := by decide +kernel
theorem dX1_init_13 : decode cX1_init 13 = .ok (.putfield 14, 3) := by decide +kernel
theorem dX1_init_16 : decode cX1_init 16 = .ok (.return_, 1) := by decide +kernel
theorem dX1_look_0 : decode cX1_look 0 = .ok (.iload_n 1, 1) := by decide +kernel
theorem dX1_look_1 : decode cX1_look 1 = .ok (.iconst (-1), 1) := by decide +kernel
theorem dX1_look_2 : decode cX1_look 2 = .ok (.if_icmp .ne 13, 3) := by decide +kernel
theorem dX1_look_5 : decode cX1_look 5 = .ok (.aload_n 0, 1) := by decide +kernel
theorem dX1_look_6 : decode cX1_look 6 = .ok (.getfield 14, 3) := by decide +kernel
theorem dX1_look_9 : decode cX1_look 9 = .ok (.invokevirtual 20, 3) := by decide +kernel
theorem dX1_look_12 : decode cX1_look 12 = .ok (.goto 11, 3) := by decide +kernel
theorem dX1_look_15 : decode cX1_look 15 = .ok (.aload_n 0, 1) := by decide +kernel
theorem dX1_look_16 : decode cX1_look 16 = .ok (.getfield 14, 3) := by decide +kernel
theorem dX1_look_19 : decode cX1_look 19 = .ok (.iload_n 1, 1) := by decide +kernel
theorem dX1_look_20 : decode cX1_look 20 = .ok (.invokevirtual 24, 3) := by decide +kernel
theorem dX1_look_23 : decode cX1_look 23 = .ok (.ireturn, 1) := by decide +kernel
theorem dX1_writePrint_0 : decode cX1_writePrint 0 = .ok (.aload_n 0, 1) := by decide +kernel
theorem dX1_writePrint_1 : decode cX1_writePrint 1 = .ok (.getfield 14, 3) := by decide +kernel
theorem dX1_writePrint_4 : decode cX1_writePrint 4 = .ok (.invokevirtual 28, 3) := by decide +kernel
theorem dX1_writePrint_7 : decode cX1_writePrint 7 = .ok (.iconst 0, 1) := by decide +kernel
theorem dX1_writePrint_8 : decode cX1_writePrint 8 = .ok (.istore_n 2, 1) := by decide +kernel
theorem dX1_writePrint_9 : decode cX1_writePrint 9 = .ok (.iload_n 2, 1) := by decide +kernel
theorem dX1_writePrint_10 : decode cX1_writePrint 10 = .ok (.aload_n 1, 1) := by decide +kernel
theorem dX1_writePrint_11 : decode cX1_writePrint 11 = .ok (.invokevirtual 31, 3) := by decide +kernel
theorem dX1_writePrint_14 : decode cX1_writePrint 14 = .ok (.if_icmp .ge 68, 3) := by decide +kernel
theorem dX1_writePrint_17 : decode cX1_writePrint 17 = .ok (.aload_n 0, 1) := by decide +kernel
theorem dX1_writePrint_18 : decode cX1_writePrint 18 = .ok (.aload_n 1, 1) := by decide +kernel
theorem dX1_writePrint_19 : decode cX1_writePrint 19 = .ok (.iload_n 2, 1) := by decide +kernel
theorem dX1_writePrint_20 : decode cX1_writePrint 20 = .ok (.invokevirtual 36, 3) := by decide +kernel
theorem dX1_writePrint_23 : decode cX1_writePrint 23 = .ok (.invokevirtual 39, 3) := by decide +kernel
theorem dX1_writePrint_26 : decode cX1_writePrint 26 = .ok (.aload_n 1, 1) := by decide +kernel
theorem dX1_writePrint_27 : decode cX1_writePrint 27 = .ok (.iload_n 2, 1) := by decide +kernel
theorem dX1_writePrint_28 : decode cX1_writePrint 28 = .ok (.invokevirtual 42, 3) := by decide +kernel
theorem dX1_writePrint_31 : decode cX1_writePrint 31 = .ok (.istore_n 3, 1) := by decide +kernel
theorem dX1_writePrint_32 : decode cX1_writePrint 32 = .ok (.aload_n 1, 1) := by decide +kernel
theorem dX1_writePrint_33 : decode cX1_writePrint 33 = .ok (.iload_n 2, 1) := by decide +kernel
theorem dX1_writePrint_34 : decode cX1_writePrint 34 = .ok (.invokevirtual 45, 3) := by decide +kernel
theorem dX1_writePrint_37 : decode cX1_writePrint 37 = .ok (.istore 4, 2) := by decide +kernel
theorem dX1_writePrint_39 : decode cX1_writePrint 39 = .ok (.iload 4, 2) := by decide +kernel
theorem dX1_writePrint_41 : decode cX1_writePrint 41 = .ok (.iload_n 3, 1) := by decide +kernel
theorem dX1_writePrint_42 : decode cX1_writePrint 42 = .ok (.if_icmp .ge 25, 3) := by decide +kernel
theorem dX1_writePrint_45 : decode cX1_writePrint 45 = .ok (.aload_n 0, 1) := by decide +kernel
theorem dX1_writePrint_46 : decode cX1_writePrint 46 = .ok (.getfield 14, 3) := by decide +kernel
theorem dX1_writePrint_49 : decode cX1_writePrint 49 = .ok (.bipush 43, 2) := by decide +kernel
theorem dX1_writePrint_51 : decode cX1_writePrint 51 = .ok (.invokevirtual 48, 3) := by decide +kernel
theorem dX1_writePrint_54 : decode cX1_writePrint 54 = .ok (.aload_n 0, 1) := by decide +kernel
theorem dX1_writePrint_55 : decode cX1_writePrint 55 = .ok (.aload_n 1, 1) := by decide +kernel
theorem dX1_writePrint_56 : decode cX1_writePrint 56 = .ok (.iload 4, 2) := by decide +kernel
theorem dX1_writePrint_58 : decode cX1_writePrint 58 = .ok (.invokevirtual 51, 3) := by decide +kernel
theorem dX1_writePrint_61 : decode cX1_writePrint 61 = .ok (.iinc 4 1, 3) := by decide +kernel
theorem dX1_writePrint_64 : decode cX1_writePrint 64 = .ok (.goto (-25), 3) := by decide +kernel
theorem dX1_writePrint_67 : decode cX1_writePrint 67 = .ok (.aload_n 0, 1) := by decide +kernel
theorem dX1_writePrint_68 : decode cX1_writePrint 68 = .ok (.getfield 14, 3) := by decide +kernel
theorem dX1_writePrint_71 : decode cX1_writePrint 71 = .ok (.bipush 39, 2) := by decide +kernel
theorem dX1_writePrint_73 : decode cX1_writePrint 73 = .ok (.invokevirtual 48, 3) := by decide +kernel
theorem dX1_writePrint_76 : decode cX1_writePrint 76 = .ok (.iinc 2 1, 3) := by decide +kernel
theorem dX1_writePrint_79 : decode cX1_writePrint 79 = .ok (.goto (-70), 3) := by decide +kernel
theorem dX1_writePrint_82 : decode cX1_writePrint 82 = .ok (.return_, 1) := by decide +kernel
theorem dX1_writeReport_0 : decode cX1_writeReport 0 = .ok (.aload_n 1, 1) := by decide +kernel
theorem dX1_writeReport_1 : decode cX1_writeReport 1 = .ok (.getfield 55, 3) := by decide +kernel
theorem dX1_writeReport_4 : decode cX1_writeReport 4 = .ok (.astore_n 2, 1) := by decide +kernel
theorem dX1_writeReport_5 : decode cX1_writeReport 5 = .ok (.aload_n 0, 1) := by decide +kernel
theorem dX1_writeReport_6 : decode cX1_writeReport 6 = .ok (.getfield 14, 3) := by decide +kernel
theorem dX1_writeReport_9 : decode cX1_writeReport 9 = .ok (.invokevirtual 28, 3) := by decide +kernel
theorem dX1_writeReport_12 : decode cX1_writeReport 12 = .ok (.aload_n 0, 1) := by decide +kernel
theorem dX1_writeReport_13 : decode cX1_writeReport 13 = .ok (.ldc 61, 2) := by decide +kernel
theorem dX1_writeReport_15 : decode cX1_writeReport 15 = .ok (.aload_n 2, 1) := by decide +kernel
theorem dX1_writeReport_16 : decode cX1_writeReport 16 = .ok (.aload_n 1, 1) := by decide +kernel
theorem dX1_writeReport_17 : decode cX1_writeReport 17 = .ok (.invokevirtual 62, 3) := by decide +kernel
theorem dX1_writeReport_20 : decode cX1_writeReport 20 = .ok (.aload_n 1, 1) := by decide +kernel
theorem dX1_writeReport_21 : decode cX1_writeReport 21 = .ok (.invokevirtual 65, 3) := by decide +kernel
theorem dX1_writeReport_24 : decode cX1_writeReport 24 = .ok (.invokevirtual 68, 3) := by decide +kernel
theorem dX1_writeReport_27 : decode cX1_writeReport 27 = .ok (.aload_n 0, 1) := by decide +kernel
theorem dX1_writeReport_28 : decode cX1_writeReport 28 = .ok (.getfield 14, 3) := by decide +kernel
theorem dX1_writeReport_31 : decode cX1_writeReport 31 = .ok (.bipush 39, 2) := by decide +kernel
theorem dX1_writeReport_33 : decode cX1_writeReport 33 = .ok (.invokevirtual 48, 3) := by decide +kernel
theorem dX1_writeReport_36 : decode cX1_writeReport 36 = .ok (.iconst (-1), 1) := by decide +kernel
theorem dX1_writeReport_37 : decode cX1_writeReport 37 = .ok (.istore_n 3, 1) := by decide +kernel
theorem dX1_writeReport_38 : decode cX1_writeReport 38 = .ok (.iconst 0, 1) := by decide +kernel
theorem dX1_writeReport_39 : decode cX1_writeReport 39 = .ok (.istore 4, 2) := by decide +kernel
theorem dX1_writeReport_41 : decode cX1_writeReport 41 = .ok (.iload 4, 2) := by decide +kernel
theorem dX1_writeReport_43 : decode cX1_writeReport 43 = .ok (.aload_n 1, 1) := by decide +kernel
theorem dX1_writeReport_44 : decode cX1_writeReport 44 = .ok (.invokevirtual 72, 3) := by decide +kernel
theorem dX1_writeReport_47 : decode cX1_writeReport 47 = .ok (.if_icmp .ge 116, 3) := by decide +kernel
theorem dX1_writeReport_50 : decode cX1_writeReport 50 = .ok (.aload_n 1, 1) := by decide +kernel
theorem dX1_writeReport_51 : decode cX1_writeReport 51 = .ok (.iload 4, 2) := by decide +kernel
theorem dX1_writeReport_53 : decode cX1_writeReport 53 = .ok (.iconst 3, 1) := by decide +kernel
theorem dX1_writeReport_54 : decode cX1_writeReport 54 = .ok (.invokevirtual 75, 3) := by decide +kernel
theorem dX1_writeReport_57 : decode cX1_writeReport 57 = .ok (.iload_n 3, 1) := by decide +kernel
theorem dX1_writeReport_58 : decode cX1_writeReport 58 = .ok (.if_icmp .eq 41, 3) := by decide +kernel
theorem dX1_writeReport_61 : decode cX1_writeReport 61 = .ok (.aload_n 1, 1) := by decide +kernel
theorem dX1_writeReport_62 : decode cX1_writeReport 62 = .ok (.iload 4, 2) := by decide +kernel
theorem dX1_writeReport_64 : decode cX1_writeReport 64 = .ok (.iconst 3, 1) := by decide +kernel
theorem dX1_writeReport_65 : decode cX1_writeReport 65 = .ok (.invokevirtual 75, 3) := by decide +kernel
theorem dX1_writeReport_68 : decode cX1_writeReport 68 = .ok (.istore_n 3, 1) := by decide +kernel
theorem dX1_writeReport_69 : decode cX1_writeReport 69 = .ok (.aload_n 1, 1) := by decide +kernel
theorem dX1_writeReport_70 : decode cX1_writeReport 70 = .ok (.iload_n 3, 1) := by decide +kernel
theorem dX1_writeReport_71 : decode cX1_writeReport 71 = .ok (.invokevirtual 79, 3) := by decide +kernel
theorem dX1_writeReport_74 : decode cX1_writeReport 74 = .ok (.istore 5, 2) := by decide +kernel
theorem dX1_writeReport_76 : decode cX1_writeReport 76 = .ok (.aload_n 0, 1) := by decide +kernel
theorem dX1_writeReport_77 : decode cX1_writeReport 77 = .ok (.ldc 82, 2) := by decide +kernel
theorem dX1_writeReport_79 : decode cX1_writeReport 79 = .ok (.aload_n 2, 1) := by decide +kernel
theorem dX1_writeReport_80 : decode cX1_writeReport 80 = .ok (.iload 5, 2) := by decide +kernel
theorem dX1_writeReport_82 : decode cX1_writeReport 82 = .ok (.aload_n 1, 1) := by decide +kernel
theorem dX1_writeReport_83 : decode cX1_writeReport 83 = .ok (.iload_n 3, 1) := by decide +kernel
theorem dX1_writeReport_84 : decode cX1_writeReport 84 = .ok (.invokevirtual 83, 3) := by decide +kernel
theorem dX1_writeReport_87 : decode cX1_writeReport 87 = .ok (.invokevirtual 68, 3) := by decide +kernel
theorem dX1_writeReport_90 : decode cX1_writeReport 90 = .ok (.aload_n 0, 1) := by decide +kernel
theorem dX1_writeReport_91 : decode cX1_writeReport 91 = .ok (.getfield 14, 3) := by decide +kernel
theorem dX1_writeReport_94 : decode cX1_writeReport 94 = .ok (.bipush 39, 2) := by decide +kernel
theorem dX1_writeReport_96 : decode cX1_writeReport 96 = .ok (.invokevirtual 48, 3) := by decide +kernel
theorem dX1_writeReport_99 : decode cX1_writeReport 99 = .ok (.aload_n 1, 1) := by decide +kernel
theorem dX1_writeReport_100 : decode cX1_writeReport 100 = .ok (.iload 4, 2) := by decide +kernel
theorem dX1_writeReport_102 : decode cX1_writeReport 102 = .ok (.iconst 0, 1) := by decide +kernel
theorem dX1_writeReport_103 : decode cX1_writeReport 103 = .ok (.invokevirtual 75, 3) := by decide +kernel
theorem dX1_writeReport_106 : decode cX1_writeReport 106 = .ok (.istore 5, 2) := by decide +kernel
theorem dX1_writeReport_108 : decode cX1_writeReport 108 = .ok (.aload_n 0, 1) := by decide +kernel
theorem dX1_writeReport_109 : decode cX1_writeReport 109 = .ok (.ldc 86, 2) := by decide +kernel
theorem dX1_writeReport_111 : decode cX1_writeReport 111 = .ok (.aload_n 2, 1) := by decide +kernel
theorem dX1_writeReport_112 : decode cX1_writeReport 112 = .ok (.aload_n 1, 1) := by decide +kernel
theorem dX1_writeReport_113 : decode cX1_writeReport 113 = .ok (.iload 4, 2) := by decide +kernel
theorem dX1_writeReport_115 : decode cX1_writeReport 115 = .ok (.invokevirtual 87, 3) := by decide +kernel
theorem dX1_writeReport_118 : decode cX1_writeReport 118 = .ok (.iload 5, 2) := by decide +kernel
theorem dX1_writeReport_120 : decode cX1_writeReport 120 = .ok (.invokevirtual 68, 3) := by decide +kernel
theorem dX1_writeReport_123 : decode cX1_writeReport 123 = .ok (.iload 5, 2) := by decide +kernel
theorem dX1_writeReport_125 : decode cX1_writeReport 125 = .ok (.ifCond .eq 23, 3) := by decide +kernel
theorem dX1_writeReport_128 : decode cX1_writeReport 128 = .ok (.aload_n 0, 1) := by decide +kernel
theorem dX1_writeReport_129 : decode cX1_writeReport 129 = .ok (.getfield 14, 3) := by decide +kernel
theorem dX1_writeReport_132 : decode cX1_writeReport 132 = .ok (.bipush 43, 2) := by decide +kernel
theorem dX1_writeReport_134 : decode cX1_writeReport 134 = .ok (.invokevirtual 48, 3) := by decide +kernel
theorem dX1_writeReport_137 : decode cX1_writeReport 137 = .ok (.aload_n 0, 1) := by decide +kernel
theorem dX1_writeReport_138 : decode cX1_writeReport 138 = .ok (.aload_n 1, 1) := by decide +kernel
theorem dX1_writeReport_139 : decode cX1_writeReport 139 = .ok (.iload 4, 2) := by decide +kernel
theorem dX1_writeReport_141 : decode cX1_writeReport 141 = .ok (.iconst 1, 1) := by decide +kernel
theorem dX1_writeReport_142 : decode cX1_writeReport 142 = .ok (.invokevirtual 75, 3) := by decide +kernel
theorem dX1_writeReport_145 : decode cX1_writeReport 145 = .ok (.invokevirtual 90, 3) := by decide +kernel
theorem dX1_writeReport_148 : decode cX1_writeReport 148 = .ok (.aload_n 0, 1) := by decide +kernel
theorem dX1_writeReport_149 : decode cX1_writeReport 149 = .ok (.getfield 14, 3) := by decide +kernel
theorem dX1_writeReport_152 : decode cX1_writeReport 152 = .ok (.bipush 39, 2) := by decide +kernel
theorem dX1_writeReport_154 : decode cX1_writeReport 154 = .ok (.invokevirtual 48, 3) := by decide +kernel
theorem dX1_writeReport_157 : decode cX1_writeReport 157 = .ok (.iinc 4 1, 3) := by decide +kernel
theorem dX1_writeReport_160 : decode cX1_writeReport 160 = .ok (.goto (-119), 3) := by decide +kernel
theorem dX1_writeReport_163 : decode cX1_writeReport 163 = .ok (.return_, 1) := by decide +kernel
theorem dX1_putVerdict_0 : decode cX1_putVerdict 0 = .ok (.aload_n 0, 1) := by decide +kernel
theorem dX1_putVerdict_1 : decode cX1_putVerdict 1 = .ok (.iload_n 1, 1) := by decide +kernel
theorem dX1_putVerdict_2 : decode cX1_putVerdict 2 = .ok (.invokevirtual 39, 3) := by decide +kernel
theorem dX1_putVerdict_5 : decode cX1_putVerdict 5 = .ok (.aload_n 0, 1) := by decide +kernel
theorem dX1_putVerdict_6 : decode cX1_putVerdict 6 = .ok (.getfield 14, 3) := by decide +kernel
theorem dX1_putVerdict_9 : decode cX1_putVerdict 9 = .ok (.bipush 43, 2) := by decide +kernel
theorem dX1_putVerdict_11 : decode cX1_putVerdict 11 = .ok (.invokevirtual 48, 3) := by decide +kernel
theorem dX1_putVerdict_14 : decode cX1_putVerdict 14 = .ok (.aload_n 0, 1) := by decide +kernel
theorem dX1_putVerdict_15 : decode cX1_putVerdict 15 = .ok (.aload_n 2, 1) := by decide +kernel
theorem dX1_putVerdict_16 : decode cX1_putVerdict 16 = .ok (.iload_n 3, 1) := by decide +kernel
theorem dX1_putVerdict_17 : decode cX1_putVerdict 17 = .ok (.invokevirtual 93, 3) := by decide +kernel
theorem dX1_putVerdict_20 : decode cX1_putVerdict 20 = .ok (.aload_n 0, 1) := by decide +kernel
theorem dX1_putVerdict_21 : decode cX1_putVerdict 21 = .ok (.getfield 14, 3) := by decide +kernel
theorem dX1_putVerdict_24 : decode cX1_putVerdict 24 = .ok (.bipush 43, 2) := by decide +kernel
theorem dX1_putVerdict_26 : decode cX1_putVerdict 26 = .ok (.invokevirtual 48, 3) := by decide +kernel
theorem dX1_putVerdict_29 : decode cX1_putVerdict 29 = .ok (.aload_n 0, 1) := by decide +kernel
theorem dX1_putVerdict_30 : decode cX1_putVerdict 30 = .ok (.iload 4, 2) := by decide +kernel
theorem dX1_putVerdict_32 : decode cX1_putVerdict 32 = .ok (.invokevirtual 90, 3) := by decide +kernel
theorem dX1_putVerdict_35 : decode cX1_putVerdict 35 = .ok (.return_, 1) := by decide +kernel
theorem dX1_putTag_0 : decode cX1_putTag 0 = .ok (.aload_n 0, 1) := by decide +kernel
theorem dX1_putTag_1 : decode cX1_putTag 1 = .ok (.getfield 14, 3) := by decide +kernel
theorem dX1_putTag_4 : decode cX1_putTag 4 = .ok (.iload_n 1, 1) := by decide +kernel
theorem dX1_putTag_5 : decode cX1_putTag 5 = .ok (.bipush 16, 2) := by decide +kernel
theorem dX1_putTag_7 : decode cX1_putTag 7 = .ok (.iushr, 1) := by decide +kernel
theorem dX1_putTag_8 : decode cX1_putTag 8 = .ok (.sipush 255, 3) := by decide +kernel
theorem dX1_putTag_11 : decode cX1_putTag 11 = .ok (.iand, 1) := by decide +kernel
theorem dX1_putTag_12 : decode cX1_putTag 12 = .ok (.invokevirtual 48, 3) := by decide +kernel
theorem dX1_putTag_15 : decode cX1_putTag 15 = .ok (.aload_n 0, 1) := by decide +kernel
theorem dX1_putTag_16 : decode cX1_putTag 16 = .ok (.getfield 14, 3) := by decide +kernel
theorem dX1_putTag_19 : decode cX1_putTag 19 = .ok (.iload_n 1, 1) := by decide +kernel
theorem dX1_putTag_20 : decode cX1_putTag 20 = .ok (.bipush 8, 2) := by decide +kernel
theorem dX1_putTag_22 : decode cX1_putTag 22 = .ok (.iushr, 1) := by decide +kernel
theorem dX1_putTag_23 : decode cX1_putTag 23 = .ok (.sipush 255, 3) := by decide +kernel
theorem dX1_putTag_26 : decode cX1_putTag 26 = .ok (.iand, 1) := by decide +kernel
theorem dX1_putTag_27 : decode cX1_putTag 27 = .ok (.invokevirtual 48, 3) := by decide +kernel
theorem dX1_putTag_30 : decode cX1_putTag 30 = .ok (.aload_n 0, 1) := by decide +kernel
theorem dX1_putTag_31 : decode cX1_putTag 31 = .ok (.getfield 14, 3) := by decide +kernel
theorem dX1_putTag_34 : decode cX1_putTag 34 = .ok (.iload_n 1, 1) := by decide +kernel
theorem dX1_putTag_35 : decode cX1_putTag 35 = .ok (.sipush 255, 3) := by decide +kernel
theorem dX1_putTag_38 : decode cX1_putTag 38 = .ok (.iand, 1) := by decide +kernel
theorem dX1_putTag_39 : decode cX1_putTag 39 = .ok (.invokevirtual 48, 3) := by decide +kernel
theorem dX1_putTag_42 : decode cX1_putTag 42 = .ok (.return_, 1) := by decide +kernel
theorem dX1_putElement_0 : decode cX1_putElement 0 = .ok (.aload_n 1, 1) := by decide +kernel
theorem dX1_putElement_1 : decode cX1_putElement 1 = .ok (.iload_n 2, 1) := by decide +kernel
theorem dX1_putElement_2 : decode cX1_putElement 2 = .ok (.invokevirtual 96, 3) := by decide +kernel
theorem dX1_putElement_5 : decode cX1_putElement 5 = .ok (.istore_n 3, 1) := by decide +kernel
theorem dX1_putElement_6 : decode cX1_putElement 6 = .ok (.aload_n 1, 1) := by decide +kernel
theorem dX1_putElement_7 : decode cX1_putElement 7 = .ok (.iload_n 2, 1) := by decide +kernel
theorem dX1_putElement_8 : decode cX1_putElement 8 = .ok (.invokevirtual 99, 3) := by decide +kernel
theorem dX1_putElement_11 : decode cX1_putElement 11 = .ok (.istore 4, 2) := by decide +kernel
theorem dX1_putElement_13 : decode cX1_putElement 13 = .ok (.iload_n 3, 1) := by decide +kernel
theorem dX1_putElement_14 : decode cX1_putElement 14 = .ok (.istore 5, 2) := by decide +kernel
theorem dX1_putElement_16 : decode cX1_putElement 16 = .ok (.iload 5, 2) := by decide +kernel
theorem dX1_putElement_18 : decode cX1_putElement 18 = .ok (.iload 4, 2) := by decide +kernel
theorem dX1_putElement_20 : decode cX1_putElement 20 = .ok (.if_icmp .ge 31, 3) := by decide +kernel
theorem dX1_putElement_23 : decode cX1_putElement 23 = .ok (.iload 5, 2) := by decide +kernel
theorem dX1_putElement_25 : decode cX1_putElement 25 = .ok (.iload_n 3, 1) := by decide +kernel
theorem dX1_putElement_26 : decode cX1_putElement 26 = .ok (.if_icmp .le 12, 3) := by decide +kernel
theorem dX1_putElement_29 : decode cX1_putElement 29 = .ok (.aload_n 0, 1) := by decide +kernel
theorem dX1_putElement_30 : decode cX1_putElement 30 = .ok (.getfield 14, 3) := by decide +kernel
theorem dX1_putElement_33 : decode cX1_putElement 33 = .ok (.bipush 58, 2) := by decide +kernel
theorem dX1_putElement_35 : decode cX1_putElement 35 = .ok (.invokevirtual 48, 3) := by decide +kernel
theorem dX1_putElement_38 : decode cX1_putElement 38 = .ok (.aload_n 0, 1) := by decide +kernel
theorem dX1_putElement_39 : decode cX1_putElement 39 = .ok (.aload_n 1, 1) := by decide +kernel
theorem dX1_putElement_40 : decode cX1_putElement 40 = .ok (.iload 5, 2) := by decide +kernel
theorem dX1_putElement_42 : decode cX1_putElement 42 = .ok (.invokevirtual 93, 3) := by decide +kernel
theorem dX1_putElement_45 : decode cX1_putElement 45 = .ok (.iinc 5 1, 3) := by decide +kernel
theorem dX1_putElement_48 : decode cX1_putElement 48 = .ok (.goto (-32), 3) := by decide +kernel
theorem dX1_putElement_51 : decode cX1_putElement 51 = .ok (.return_, 1) := by decide +kernel
theorem dX1_putComponent_0 : decode cX1_putComponent 0 = .ok (.aload_n 1, 1) := by decide +kernel
theorem dX1_putComponent_1 : decode cX1_putComponent 1 = .ok (.iload_n 2, 1) := by decide +kernel
theorem dX1_putComponent_2 : decode cX1_putComponent 2 = .ok (.invokevirtual 102, 3) := by decide +kernel
theorem dX1_putComponent_5 : decode cX1_putComponent 5 = .ok (.istore_n 3, 1) := by decide +kernel
theorem dX1_putComponent_6 : decode cX1_putComponent 6 = .ok (.iconst 0, 1) := by decide +kernel
theorem dX1_putComponent_7 : decode cX1_putComponent 7 = .ok (.istore 4, 2) := by decide +kernel
theorem dX1_putComponent_9 : decode cX1_putComponent 9 = .ok (.iload 4, 2) := by decide +kernel
theorem dX1_putComponent_11 : decode cX1_putComponent 11 = .ok (.iload_n 3, 1) := by decide +kernel
theorem dX1_putComponent_12 : decode cX1_putComponent 12 = .ok (.if_icmp .ge 44, 3) := by decide +kernel
theorem dX1_putComponent_15 : decode cX1_putComponent 15 = .ok (.aload_n 1, 1) := by decide +kernel
theorem dX1_putComponent_16 : decode cX1_putComponent 16 = .ok (.iload_n 2, 1) := by decide +kernel
theorem dX1_putComponent_17 : decode cX1_putComponent 17 = .ok (.iload 4, 2) := by decide +kernel
theorem dX1_putComponent_19 : decode cX1_putComponent 19 = .ok (.invokevirtual 105, 3) := by decide +kernel
theorem dX1_putComponent_22 : decode cX1_putComponent 22 = .ok (.istore 5, 2) := by decide +kernel
theorem dX1_putComponent_24 : decode cX1_putComponent 24 = .ok (.iload 5, 2) := by decide +kernel
theorem dX1_putComponent_26 : decode cX1_putComponent 26 = .ok (.invokestatic 108, 3) := by decide +kernel
theorem dX1_putComponent_29 : decode cX1_putComponent 29 = .ok (.ifCond .eq 12, 3) := by decide +kernel
theorem dX1_putComponent_32 : decode cX1_putComponent 32 = .ok (.aload_n 0, 1) := by decide +kernel
theorem dX1_putComponent_33 : decode cX1_putComponent 33 = .ok (.getfield 14, 3) := by decide +kernel
theorem dX1_putComponent_36 : decode cX1_putComponent 36 = .ok (.bipush 63, 2) := by decide +kernel
theorem dX1_putComponent_38 : decode cX1_putComponent 38 = .ok (.invokevirtual 48, 3) := by decide +kernel
theorem dX1_putComponent_41 : decode cX1_putComponent 41 = .ok (.aload_n 0, 1) := by decide +kernel
theorem dX1_putComponent_42 : decode cX1_putComponent 42 = .ok (.getfield 14, 3) := by decide +kernel
theorem dX1_putComponent_45 : decode cX1_putComponent 45 = .ok (.iload 5, 2) := by decide +kernel
theorem dX1_putComponent_47 : decode cX1_putComponent 47 = .ok (.invokevirtual 48, 3) := by decide +kernel
theorem dX1_putComponent_50 : decode cX1_putComponent 50 = .ok (.iinc 4 1, 3) := by decide +kernel
theorem dX1_putComponent_53 : decode cX1_putComponent 53 = .ok (.goto (-44), 3) := by decide +kernel
theorem dX1_putComponent_56 : decode cX1_putComponent 56 = .ok (.return_, 1) := by decide +kernel
theorem dX1_isPrintMark_0 : decode cX1_isPrintMark 0 = .ok (.iload_n 0, 1) := by decide +kernel
theorem dX1_isPrintMark_1 : decode cX1_isPrintMark 1 = .ok (.bipush 58, 2) := by decide +kernel
theorem dX1_isPrintMark_3 : decode cX1_isPrintMark 3 = .ok (.if_icmp .eq 21, 3) := by decide +kernel
theorem dX1_isPrintMark_6 : decode cX1_isPrintMark 6 = .ok (.iload_n 0, 1) := by decide +kernel
theorem dX1_isPrintMark_7 : decode cX1_isPrintMark 7 = .ok (.bipush 43, 2) := by decide +kernel
theorem dX1_isPrintMark_9 : decode cX1_isPrintMark 9 = .ok (.if_icmp .eq 15, 3) := by decide +kernel
theorem dX1_isPrintMark_12 : decode cX1_isPrintMark 12 = .ok (.iload_n 0, 1) := by decide +kernel
theorem dX1_isPrintMark_13 : decode cX1_isPrintMark 13 = .ok (.bipush 63, 2) := by decide +kernel
theorem dX1_isPrintMark_15 : decode cX1_isPrintMark 15 = .ok (.if_icmp .eq 9, 3) := by decide +kernel
theorem dX1_isPrintMark_18 : decode cX1_isPrintMark 18 = .ok (.iload_n 0, 1) := by decide +kernel
theorem dX1_isPrintMark_19 : decode cX1_isPrintMark 19 = .ok (.bipush 39, 2) := by decide +kernel
theorem dX1_isPrintMark_21 : decode cX1_isPrintMark 21 = .ok (.if_icmp .ne 7, 3) := by decide +kernel
theorem dX1_isPrintMark_24 : decode cX1_isPrintMark 24 = .ok (.iconst 1, 1) := by decide +kernel
theorem dX1_isPrintMark_25 : decode cX1_isPrintMark 25 = .ok (.goto 4, 3) := by decide +kernel
theorem dX1_isPrintMark_28 : decode cX1_isPrintMark 28 = .ok (.iconst 0, 1) := by decide +kernel
theorem dX1_isPrintMark_29 : decode cX1_isPrintMark 29 = .ok (.ireturn, 1) := by decide +kernel
theorem dX1_putNumber_0 : decode cX1_putNumber 0 = .ok (.iload_n 1, 1) := by decide +kernel
theorem dX1_putNumber_1 : decode cX1_putNumber 1 = .ok (.bipush 10, 2) := by decide +kernel
theorem dX1_putNumber_3 : decode cX1_putNumber 3 = .ok (.if_icmp .lt 17, 3) := by decide +kernel
theorem dX1_putNumber_6 : decode cX1_putNumber 6 = .ok (.aload_n 0, 1) := by decide +kernel
theorem dX1_putNumber_7 : decode cX1_putNumber 7 = .ok (.getfield 14, 3) := by decide +kernel
theorem dX1_putNumber_10 : decode cX1_putNumber 10 = .ok (.bipush 48, 2) := by decide +kernel
theorem dX1_putNumber_12 : decode cX1_putNumber 12 = .ok (.iload_n 1, 1) := by decide +kernel
theorem dX1_putNumber_13 : decode cX1_putNumber 13 = .ok (.bipush 10, 2) := by decide +kernel
theorem dX1_putNumber_15 : decode cX1_putNumber 15 = .ok (.idiv, 1) := by decide +kernel
theorem dX1_putNumber_16 : decode cX1_putNumber 16 = .ok (.iadd, 1) := by decide +kernel
theorem dX1_putNumber_17 : decode cX1_putNumber 17 = .ok (.invokevirtual 48, 3) := by decide +kernel
theorem dX1_putNumber_20 : decode cX1_putNumber 20 = .ok (.aload_n 0, 1) := by decide +kernel
theorem dX1_putNumber_21 : decode cX1_putNumber 21 = .ok (.getfield 14, 3) := by decide +kernel
theorem dX1_putNumber_24 : decode cX1_putNumber 24 = .ok (.bipush 48, 2) := by decide +kernel
theorem dX1_putNumber_26 : decode cX1_putNumber 26 = .ok (.iload_n 1, 1) := by decide +kernel
theorem dX1_putNumber_27 : decode cX1_putNumber 27 = .ok (.bipush 10, 2) := by decide +kernel
theorem dX1_putNumber_29 : decode cX1_putNumber 29 = .ok (.irem, 1) := by decide +kernel
theorem dX1_putNumber_30 : decode cX1_putNumber 30 = .ok (.iadd, 1) := by decide +kernel
theorem dX1_putNumber_31 : decode cX1_putNumber 31 = .ok (.invokevirtual 48, 3) := by decide +kernel
theorem dX1_putNumber_34 : decode cX1_putNumber 34 = .ok (.return_, 1) := by decide +kernel
theorem dX2_init_0 : decode cX2_init 0 = .ok (.aload_n 0, 1) := by decide +kernel
theorem dX2_init_1 : decode cX2_init 1 = .ok (.invokespecial 3, 3) := by decide +kernel
theorem dX2_init_4 : decode cX2_init 4 = .ok (.aload_n 0, 1) := by decide +kernel
theorem dX2_init_5 : decode cX2_init 5 = .ok (.new 9, 3) := by decide +kernel
theorem dX2_init_8 : decode cX2_init 8 = .ok (.dup, 1) := by decide +kernel
theorem dX2_init_9 : decode cX2_init 9 = .ok (.bipush 40, 2) := by decide +kernel
theorem dX2_init_11 : decode cX2_init 11 = .ok (.invokespecial 11, 3) := by decide +kernel
theorem dX2_init_14 : decode cX2_init 14 = .ok (.putfield 14, 3) := by decide +kernel
theorem dX2_init_17 : decode cX2_init 17 = .ok (.aload_n 0, 1) := by decide +kernel
theorem dX2_init_18 : decode cX2_init 18 = .ok (.new 9, 3) := by decide +kernel
theorem dX2_init_21 : decode cX2_init 21 = .ok (.dup, 1) := by decide +kernel
theorem dX2_init_22 : decode cX2_init 22 = .ok (.bipush 41, 2) := by decide +kernel
theorem dX2_init_24 : decode cX2_init 24 = .ok (.invokespecial 11, 3) := by decide +kernel
theorem dX2_init_27 : decode cX2_init 27 = .ok (.putfield 20, 3) := by decide +kernel
theorem dX2_init_30 : decode cX2_init 30 = .ok (.aload_n 0, 1) := by decide +kernel
theorem dX2_init_31 : decode cX2_init 31 = .ok (.new 9, 3) := by decide +kernel
theorem dX2_init_34 : decode cX2_init 34 = .ok (.dup, 1) := by decide +kernel
theorem dX2_init_35 : decode cX2_init 35 = .ok (.bipush 121, 2) := by decide +kernel
theorem dX2_init_37 : decode cX2_init 37 = .ok (.invokespecial 11, 3) := by decide +kernel
theorem dX2_init_40 : decode cX2_init 40 = .ok (.putfield 23, 3) := by decide +kernel
theorem dX2_init_43 : decode cX2_init 43 = .ok (.aload_n 0, 1) := by decide +kernel
theorem dX2_init_44 : decode cX2_init 44 = .ok (.new 9, 3) := by decide +kernel
theorem dX2_init_47 : decode cX2_init 47 = .ok (.dup, 1) := by decide +kernel
theorem dX2_init_48 : decode cX2_init 48 = .ok (.bipush 121, 2) := by decide +kernel
theorem dX2_init_50 : decode cX2_init 50 = .ok (.invokespecial 11, 3) := by decide +kernel
theorem dX2_init_53 : decode cX2_init 53 = .ok (.putfield 26, 3) := by decide +kernel
theorem dX2_init_56 : decode cX2_init 56 = .ok (.aload_n 0, 1) := by decide +kernel
theorem dX2_init_57 : decode cX2_init 57 = .ok (.new 9, 3) := by decide +kernel
theorem dX2_init_60 : decode cX2_init 60 = .ok (.dup, 1) := by decide +kernel
theorem dX2_init_61 : decode cX2_init 61 = .ok (.sipush 400, 3) := by decide +kernel
theorem dX2_init_64 : decode cX2_init 64 = .ok (.invokespecial 11, 3) := by decide +kernel
theorem dX2_init_67 : decode cX2_init 67 = .ok (.putfield 29, 3) := by decide +kernel
theorem dX2_init_70 : decode cX2_init 70 = .ok (.return_, 1) := by decide +kernel
theorem dX2_empty_0 : decode cX2_empty 0 = .ok (.aload_n 0, 1) := by decide +kernel
theorem dX2_empty_1 : decode cX2_empty 1 = .ok (.getfield 14, 3) := by decide +kernel
theorem dX2_empty_4 : decode cX2_empty 4 = .ok (.invokevirtual 32, 3) := by decide +kernel
theorem dX2_empty_7 : decode cX2_empty 7 = .ok (.aload_n 0, 1) := by decide +kernel
theorem dX2_empty_8 : decode cX2_empty 8 = .ok (.getfield 20, 3) := by decide +kernel
theorem dX2_empty_11 : decode cX2_empty 11 = .ok (.invokevirtual 32, 3) := by decide +kernel
theorem dX2_empty_14 : decode cX2_empty 14 = .ok (.aload_n 0, 1) := by decide +kernel
theorem dX2_empty_15 : decode cX2_empty 15 = .ok (.getfield 23, 3) := by decide +kernel
theorem dX2_empty_18 : decode cX2_empty 18 = .ok (.invokevirtual 32, 3) := by decide +kernel
theorem dX2_empty_21 : decode cX2_empty 21 = .ok (.aload_n 0, 1) := by decide +kernel
theorem dX2_empty_22 : decode cX2_empty 22 = .ok (.getfield 26, 3) := by decide +kernel
theorem dX2_empty_25 : decode cX2_empty 25 = .ok (.invokevirtual 32, 3) := by decide +kernel
theorem dX2_empty_28 : decode cX2_empty 28 = .ok (.aload_n 0, 1) := by decide +kernel
theorem dX2_empty_29 : decode cX2_empty 29 = .ok (.getfield 29, 3) := by decide +kernel
theorem dX2_empty_32 : decode cX2_empty 32 = .ok (.invokevirtual 32, 3) := by decide +kernel
theorem dX2_empty_35 : decode cX2_empty 35 = .ok (.return_, 1) := by decide +kernel
theorem dX2_addSegment_0 : decode cX2_addSegment 0 = .ok (.aload_n 0, 1) := by decide +kernel
theorem dX2_addSegment_1 : decode cX2_addSegment 1 = .ok (.getfield 14, 3) := by decide +kernel
theorem dX2_addSegment_4 : decode cX2_addSegment 4 = .ok (.iload_n 1, 1) := by decide +kernel
theorem dX2_addSegment_5 : decode cX2_addSegment 5 = .ok (.invokevirtual 35, 3) := by decide +kernel
theorem dX2_addSegment_8 : decode cX2_addSegment 8 = .ok (.aload_n 0, 1) := by decide +kernel
theorem dX2_addSegment_9 : decode cX2_addSegment 9 = .ok (.getfield 20, 3) := by decide +kernel
theorem dX2_addSegment_12 : decode cX2_addSegment 12 = .ok (.aload_n 0, 1) := by decide +kernel
theorem dX2_addSegment_13 : decode cX2_addSegment 13 = .ok (.getfield 23, 3) := by decide +kernel
theorem dX2_addSegment_16 : decode cX2_addSegment 16 = .ok (.invokevirtual 38, 3) := by decide +kernel
theorem dX2_addSegment_19 : decode cX2_addSegment 19 = .ok (.invokevirtual 35, 3) := by decide +kernel
theorem dX2_addSegment_22 : decode cX2_addSegment 22 = .ok (.return_, 1) := by decide +kernel
theorem dX2_addElement_0 : decode cX2_addElement 0 = .ok (.aload_n 0, 1) := by decide +kernel
theorem dX2_addElement_1 : decode cX2_addElement 1 = .ok (.getfield 23, 3) := by decide +kernel
theorem dX2_addElement_4 : decode cX2_addElement 4 = .ok (.aload_n 0, 1) := by decide +kernel
theorem dX2_addElement_5 : decode cX2_addElement 5 = .ok (.getfield 26, 3) := by decide +kernel
theorem dX2_addElement_8 : decode cX2_addElement 8 = .ok (.invokevirtual 38, 3) := by decide +kernel
theorem dX2_addElement_11 : decode cX2_addElement 11 = .ok (.invokevirtual 35, 3) := by decide +kernel
theorem dX2_addElement_14 : decode cX2_addElement 14 = .ok (.return_, 1) := by decide +kernel
theorem dX2_addComponent_0 : decode cX2_addComponent 0 = .ok (.aload_n 0, 1) := by decide +kernel
theorem dX2_addComponent_1 : decode cX2_addComponent 1 = .ok (.getfield 26, 3) := by decide +kernel
theorem dX2_addComponent_4 : decode cX2_addComponent 4 = .ok (.aload_n 0, 1) := by decide +kernel
theorem dX2_addComponent_5 : decode cX2_addComponent 5 = .ok (.getfield 29, 3) := by decide +kernel
theorem dX2_addComponent_8 : decode cX2_addComponent 8 = .ok (.invokevirtual 38, 3) := by decide +kernel
theorem dX2_addComponent_11 : decode cX2_addComponent 11 = .ok (.invokevirtual 35, 3) := by decide +kernel
theorem dX2_addComponent_14 : decode cX2_addComponent 14 = .ok (.return_, 1) := by decide +kernel
theorem dX2_addCharacter_0 : decode cX2_addCharacter 0 = .ok (.aload_n 0, 1) := by decide +kernel
theorem dX2_addCharacter_1 : decode cX2_addCharacter 1 = .ok (.getfield 29, 3) := by decide +kernel
theorem dX2_addCharacter_4 : decode cX2_addCharacter 4 = .ok (.iload_n 1, 1) := by decide +kernel
theorem dX2_addCharacter_5 : decode cX2_addCharacter 5 = .ok (.invokevirtual 35, 3) := by decide +kernel
theorem dX2_addCharacter_8 : decode cX2_addCharacter 8 = .ok (.return_, 1) := by decide +kernel
theorem dX2_isFull_0 : decode cX2_isFull 0 = .ok (.aload_n 0, 1) := by decide +kernel
theorem dX2_isFull_1 : decode cX2_isFull 1 = .ok (.getfield 26, 3) := by decide +kernel
theorem dX2_isFull_4 : decode cX2_isFull 4 = .ok (.invokevirtual 38, 3) := by decide +kernel
theorem dX2_isFull_7 : decode cX2_isFull 7 = .ok (.bipush 120, 2) := by decide +kernel
theorem dX2_isFull_9 : decode cX2_isFull 9 = .ok (.if_icmp .lt 7, 3) := by decide +kernel
theorem dX2_isFull_12 : decode cX2_isFull 12 = .ok (.iconst 1, 1) := by decide +kernel
theorem dX2_isFull_13 : decode cX2_isFull 13 = .ok (.goto 4, 3) := by decide +kernel
theorem dX2_isFull_16 : decode cX2_isFull 16 = .ok (.iconst 0, 1) := by decide +kernel
theorem dX2_isFull_17 : decode cX2_isFull 17 = .ok (.ireturn, 1) := by decide +kernel
theorem dX2_finish_0 : decode cX2_finish 0 = .ok (.aload_n 0, 1) := by decide +kernel
theorem dX2_finish_1 : decode cX2_finish 1 = .ok (.getfield 20, 3) := by decide +kernel
theorem dX2_finish_4 : decode cX2_finish 4 = .ok (.aload_n 0, 1) := by decide +kernel
theorem dX2_finish_5 : decode cX2_finish 5 = .ok (.getfield 23, 3) := by decide +kernel
theorem dX2_finish_8 : decode cX2_finish 8 = .ok (.invokevirtual 38, 3) := by decide +kernel
theorem dX2_finish_11 : decode cX2_finish 11 = .ok (.invokevirtual 35, 3) := by decide +kernel
theorem dX2_finish_14 : decode cX2_finish 14 = .ok (.aload_n 0, 1) := by decide +kernel
theorem dX2_finish_15 : decode cX2_finish 15 = .ok (.getfield 23, 3) := by decide +kernel
theorem dX2_finish_18 : decode cX2_finish 18 = .ok (.aload_n 0, 1) := by decide +kernel
theorem dX2_finish_19 : decode cX2_finish 19 = .ok (.getfield 26, 3) := by decide +kernel
theorem dX2_finish_22 : decode cX2_finish 22 = .ok (.invokevirtual 38, 3) := by decide +kernel
theorem dX2_finish_25 : decode cX2_finish 25 = .ok (.invokevirtual 35, 3) := by decide +kernel
theorem dX2_finish_28 : decode cX2_finish 28 = .ok (.aload_n 0, 1) := by decide +kernel
theorem dX2_finish_29 : decode cX2_finish 29 = .ok (.getfield 26, 3) := by decide +kernel
theorem dX2_finish_32 : decode cX2_finish 32 = .ok (.aload_n 0, 1) := by decide +kernel
theorem dX2_finish_33 : decode cX2_finish 33 = .ok (.getfield 29, 3) := by decide +kernel
theorem dX2_finish_36 : decode cX2_finish 36 = .ok (.invokevirtual 38, 3) := by decide +kernel
theorem dX2_finish_39 : decode cX2_finish 39 = .ok (.invokevirtual 35, 3) := by decide +kernel
theorem dX2_finish_42 : decode cX2_finish 42 = .ok (.return_, 1) := by decide +kernel
theorem dX2_segmentCount_0 : decode cX2_segmentCount 0 = .ok (.aload_n 0, 1) := by decide +kernel
theorem dX2_segmentCount_1 : decode cX2_segmentCount 1 = .ok (.getfield 14, 3) := by decide +kernel
theorem dX2_segmentCount_4 : decode cX2_segmentCount 4 = .ok (.invokevirtual 38, 3) := by decide +kernel
theorem dX2_segmentCount_7 : decode cX2_segmentCount 7 = .ok (.ireturn, 1) := by decide +kernel
theorem dX2_tagOf_0 : decode cX2_tagOf 0 = .ok (.aload_n 0, 1) := by decide +kernel
theorem dX2_tagOf_1 : decode cX2_tagOf 1 = .ok (.getfield 14, 3) := by decide +kernel
theorem dX2_tagOf_4 : decode cX2_tagOf 4 = .ok (.iload_n 1, 1) := by decide +kernel
theorem dX2_tagOf_5 : decode cX2_tagOf 5 = .ok (.invokevirtual 42, 3) := by decide +kernel
theorem dX2_tagOf_8 : decode cX2_tagOf 8 = .ok (.ireturn, 1) := by decide +kernel
theorem dX2_firstElement_0 : decode cX2_firstElement 0 = .ok (.aload_n 0, 1) := by decide +kernel
theorem dX2_firstElement_1 : decode cX2_firstElement 1 = .ok (.getfield 20, 3) := by decide +kernel
theorem dX2_firstElement_4 : decode cX2_firstElement 4 = .ok (.iload_n 1, 1) := by decide +kernel
theorem dX2_firstElement_5 : decode cX2_firstElement 5 = .ok (.invokevirtual 42, 3) := by decide +kernel
theorem dX2_firstElement_8 : decode cX2_firstElement 8 = .ok (.ireturn, 1) := by decide +kernel
theorem dX2_firstComponent_0 : decode cX2_firstComponent 0 = .ok (.aload_n 0, 1) := by decide +kernel
theorem dX2_firstComponent_1 : decode cX2_firstComponent 1 = .ok (.getfield 23, 3) := by decide +kernel
theorem dX2_firstComponent_4 : decode cX2_firstComponent 4 = .ok (.iload_n 1, 1) := by decide +kernel
theorem dX2_firstComponent_5 : decode cX2_firstComponent 5 = .ok (.invokevirtual 42, 3) := by decide +kernel
theorem dX2_firstComponent_8 : decode cX2_firstComponent 8 = .ok (.ireturn, 1) := by decide +kernel
theorem dX2_elementAt_0 : decode cX2_elementAt 0 = .ok (.iload_n 1, 1) := by decide +kernel
theorem dX2_elementAt_1 : decode cX2_elementAt 1 = .ok (.ifCond .lt 18, 3) := by decide +kernel
theorem dX2_elementAt_4 : decode cX2_elementAt 4 = .ok (.iload_n 1, 1) := by decide +kernel
theorem dX2_elementAt_5 : decode cX2_elementAt 5 = .ok (.aload_n 0, 1) := by decide +kernel
theorem dX2_elementAt_6 : decode cX2_elementAt 6 = .ok (.getfield 14, 3) := by decide +kernel
theorem dX2_elementAt_9 : decode cX2_elementAt 9 = .ok (.invokevirtual 38, 3) := by decide +kernel
theorem dX2_elementAt_12 : decode cX2_elementAt 12 = .ok (.if_icmp .ge 7, 3) := by decide +kernel
theorem dX2_elementAt_15 : decode cX2_elementAt 15 = .ok (.iload_n 2, 1) := by decide +kernel
theorem dX2_elementAt_16 : decode cX2_elementAt 16 = .ok (.ifCond .ge 5, 3) := by decide +kernel
theorem dX2_elementAt_19 : decode cX2_elementAt 19 = .ok (.iconst (-1), 1) := by decide +kernel
theorem dX2_elementAt_20 : decode cX2_elementAt 20 = .ok (.ireturn, 1) := by decide +kernel
theorem dX2_elementAt_21 : decode cX2_elementAt 21 = .ok (.aload_n 0, 1) := by decide +kernel
theorem dX2_elementAt_22 : decode cX2_elementAt 22 = .ok (.getfield 20, 3) := by decide +kernel
theorem dX2_elementAt_25 : decode cX2_elementAt 25 = .ok (.iload_n 1, 1) := by decide +kernel
theorem dX2_elementAt_26 : decode cX2_elementAt 26 = .ok (.invokevirtual 42, 3) := by decide +kernel
theorem dX2_elementAt_29 : decode cX2_elementAt 29 = .ok (.istore_n 3, 1) := by decide +kernel
theorem dX2_elementAt_30 : decode cX2_elementAt 30 = .ok (.iload_n 2, 1) := by decide +kernel
theorem dX2_elementAt_31 : decode cX2_elementAt 31 = .ok (.aload_n 0, 1) := by decide +kernel
theorem dX2_elementAt_32 : decode cX2_elementAt 32 = .ok (.getfield 20, 3) := by decide +kernel
theorem dX2_elementAt_35 : decode cX2_elementAt 35 = .ok (.iload_n 1, 1) := by decide +kernel
theorem dX2_elementAt_36 : decode cX2_elementAt 36 = .ok (.iconst 1, 1) := by decide +kernel
theorem dX2_elementAt_37 : decode cX2_elementAt 37 = .ok (.iadd, 1) := by decide +kernel
theorem dX2_elementAt_38 : decode cX2_elementAt 38 = .ok (.invokevirtual 42, 3) := by decide +kernel
theorem dX2_elementAt_41 : decode cX2_elementAt 41 = .ok (.iload_n 3, 1) := by decide +kernel
theorem dX2_elementAt_42 : decode cX2_elementAt 42 = .ok (.isub, 1) := by decide +kernel
theorem dX2_elementAt_43 : decode cX2_elementAt 43 = .ok (.if_icmp .ge 9, 3) := by decide +kernel
theorem dX2_elementAt_46 : decode cX2_elementAt 46 = .ok (.iload_n 3, 1) := by decide +kernel
theorem dX2_elementAt_47 : decode cX2_elementAt 47 = .ok (.iload_n 2, 1) := by decide +kernel
theorem dX2_elementAt_48 : decode cX2_elementAt 48 = .ok (.iadd, 1) := by decide +kernel
theorem dX2_elementAt_49 : decode cX2_elementAt 49 = .ok (.goto 4, 3) := by decide +kernel
theorem dX2_elementAt_52 : decode cX2_elementAt 52 = .ok (.iconst (-1), 1) := by decide +kernel
theorem dX2_elementAt_53 : decode cX2_elementAt 53 = .ok (.ireturn, 1) := by decide +kernel
theorem dX2_componentAt_0 : decode cX2_componentAt 0 = .ok (.aload_n 0, 1) := by decide +kernel
theorem dX2_componentAt_1 : decode cX2_componentAt 1 = .ok (.iload_n 1, 1) := by decide +kernel
theorem dX2_componentAt_2 : decode cX2_componentAt 2 = .ok (.iload_n 2, 1) := by decide +kernel
theorem dX2_componentAt_3 : decode cX2_componentAt 3 = .ok (.invokevirtual 46, 3) := by decide +kernel
theorem dX2_componentAt_6 : decode cX2_componentAt 6 = .ok (.istore 4, 2) := by decide +kernel
theorem dX2_componentAt_8 : decode cX2_componentAt 8 = .ok (.iload 4, 2) := by decide +kernel
theorem dX2_componentAt_10 : decode cX2_componentAt 10 = .ok (.iconst (-1), 1) := by decide +kernel
theorem dX2_componentAt_11 : decode cX2_componentAt 11 = .ok (.if_icmp .eq 7, 3) := by decide +kernel
theorem dX2_componentAt_14 : decode cX2_componentAt 14 = .ok (.iload_n 3, 1) := by decide +kernel
theorem dX2_componentAt_15 : decode cX2_componentAt 15 = .ok (.ifCond .ge 5, 3) := by decide +kernel
theorem dX2_componentAt_18 : decode cX2_componentAt 18 = .ok (.iconst (-1), 1) := by decide +kernel
theorem dX2_componentAt_19 : decode cX2_componentAt 19 = .ok (.ireturn, 1) := by decide +kernel
theorem dX2_componentAt_20 : decode cX2_componentAt 20 = .ok (.aload_n 0, 1) := by decide +kernel
theorem dX2_componentAt_21 : decode cX2_componentAt 21 = .ok (.getfield 23, 3) := by decide +kernel
theorem dX2_componentAt_24 : decode cX2_componentAt 24 = .ok (.iload 4, 2) := by decide +kernel
theorem dX2_componentAt_26 : decode cX2_componentAt 26 = .ok (.invokevirtual 42, 3) := by decide +kernel
theorem dX2_componentAt_29 : decode cX2_componentAt 29 = .ok (.istore 5, 2) := by decide +kernel
theorem dX2_componentAt_31 : decode cX2_componentAt 31 = .ok (.iload_n 3, 1) := by decide +kernel
theorem dX2_componentAt_32 : decode cX2_componentAt 32 = .ok (.aload_n 0, 1) := by decide +kernel
theorem dX2_componentAt_33 : decode cX2_componentAt 33 = .ok (.getfield 23, 3) := by decide +kernel
theorem dX2_componentAt_36 : decode cX2_componentAt 36 = .ok (.iload 4, 2) := by decide +kernel
theorem dX2_componentAt_38 : decode cX2_componentAt 38 = .ok (.iconst 1, 1) := by decide +kernel
theorem dX2_componentAt_39 : decode cX2_componentAt 39 = .ok (.iadd, 1) := by decide +kernel
theorem dX2_componentAt_40 : decode cX2_componentAt 40 = .ok (.invokevirtual 42, 3) := by decide +kernel
theorem dX2_componentAt_43 : decode cX2_componentAt 43 = .ok (.iload 5, 2) := by decide +kernel
theorem dX2_componentAt_45 : decode cX2_componentAt 45 = .ok (.isub, 1) := by decide +kernel
theorem dX2_componentAt_46 : decode cX2_componentAt 46 = .ok (.if_icmp .ge 10, 3) := by decide +kernel
theorem dX2_componentAt_49 : decode cX2_componentAt 49 = .ok (.iload 5, 2) := by decide +kernel
theorem dX2_componentAt_51 : decode cX2_componentAt 51 = .ok (.iload_n 3, 1) := by decide +kernel
theorem dX2_componentAt_52 : decode cX2_componentAt 52 = .ok (.iadd, 1) := by decide +kernel
theorem dX2_componentAt_53 : decode cX2_componentAt 53 = .ok (.goto 4, 3) := by decide +kernel
theorem dX2_componentAt_56 : decode cX2_componentAt 56 = .ok (.iconst (-1), 1) := by decide +kernel
theorem dX2_componentAt_57 : decode cX2_componentAt 57 = .ok (.ireturn, 1) := by decide +kernel
theorem dX2_widthOf_0 : decode cX2_widthOf 0 = .ok (.iload_n 1, 1) := by decide +kernel
theorem dX2_widthOf_1 : decode cX2_widthOf 1 = .ok (.iconst (-1), 1) := by decide +kernel
theorem dX2_widthOf_2 : decode cX2_widthOf 2 = .ok (.if_icmp .ne 7, 3) := by decide +kernel
theorem dX2_widthOf_5 : decode cX2_widthOf 5 = .ok (.iconst 0, 1) := by decide +kernel
theorem dX2_widthOf_6 : decode cX2_widthOf 6 = .ok (.goto 22, 3) := by decide +kernel
theorem dX2_widthOf_9 : decode cX2_widthOf 9 = .ok (.aload_n 0, 1) := by decide +kernel
theorem dX2_widthOf_10 : decode cX2_widthOf 10 = .ok (.getfield 26, 3) := by decide +kernel
theorem dX2_widthOf_13 : decode cX2_widthOf 13 = .ok (.iload_n 1, 1) := by decide +kernel
theorem dX2_widthOf_14 : decode cX2_widthOf 14 = .ok (.iconst 1, 1) := by decide +kernel
theorem dX2_widthOf_15 : decode cX2_widthOf 15 = .ok (.iadd, 1) := by decide +kernel
theorem dX2_widthOf_16 : decode cX2_widthOf 16 = .ok (.invokevirtual 42, 3) := by decide +kernel
theorem dX2_widthOf_19 : decode cX2_widthOf 19 = .ok (.aload_n 0, 1) := by decide +kernel
theorem dX2_widthOf_20 : decode cX2_widthOf 20 = .ok (.getfield 26, 3) := by decide +kernel
theorem dX2_widthOf_23 : decode cX2_widthOf 23 = .ok (.iload_n 1, 1) := by decide +kernel
theorem dX2_widthOf_24 : decode cX2_widthOf 24 = .ok (.invokevirtual 42, 3) := by decide +kernel
theorem dX2_widthOf_27 : decode cX2_widthOf 27 = .ok (.isub, 1) := by decide +kernel
theorem dX2_widthOf_28 : decode cX2_widthOf 28 = .ok (.ireturn, 1) := by decide +kernel
theorem dX2_characterOf_0 : decode cX2_characterOf 0 = .ok (.iload_n 2, 1) := by decide +kernel
theorem dX2_characterOf_1 : decode cX2_characterOf 1 = .ok (.ifCond .lt 32, 3) := by decide +kernel
theorem dX2_characterOf_4 : decode cX2_characterOf 4 = .ok (.iload_n 2, 1) := by decide +kernel
theorem dX2_characterOf_5 : decode cX2_characterOf 5 = .ok (.aload_n 0, 1) := by decide +kernel
theorem dX2_characterOf_6 : decode cX2_characterOf 6 = .ok (.iload_n 1, 1) := by decide +kernel
theorem dX2_characterOf_7 : decode cX2_characterOf 7 = .ok (.invokevirtual 50, 3) := by decide +kernel
theorem dX2_characterOf_10 : decode cX2_characterOf 10 = .ok (.if_icmp .ge 23, 3) := by decide +kernel
theorem dX2_characterOf_13 : decode cX2_characterOf 13 = .ok (.aload_n 0, 1) := by decide +kernel
theorem dX2_characterOf_14 : decode cX2_characterOf 14 = .ok (.getfield 29, 3) := by decide +kernel
theorem dX2_characterOf_17 : decode cX2_characterOf 17 = .ok (.aload_n 0, 1) := by decide +kernel
theorem dX2_characterOf_18 : decode cX2_characterOf 18 = .ok (.getfield 26, 3) := by decide +kernel
theorem dX2_characterOf_21 : decode cX2_characterOf 21 = .ok (.iload_n 1, 1) := by decide +kernel
theorem dX2_characterOf_22 : decode cX2_characterOf 22 = .ok (.invokevirtual 42, 3) := by decide +kernel
theorem dX2_characterOf_25 : decode cX2_characterOf 25 = .ok (.iload_n 2, 1) := by decide +kernel
theorem dX2_characterOf_26 : decode cX2_characterOf 26 = .ok (.iadd, 1) := by decide +kernel
theorem dX2_characterOf_27 : decode cX2_characterOf 27 = .ok (.invokevirtual 42, 3) := by decide +kernel
theorem dX2_characterOf_30 : decode cX2_characterOf 30 = .ok (.goto 4, 3) := by decide +kernel
theorem dX2_characterOf_33 : decode cX2_characterOf 33 = .ok (.iconst (-1), 1) := by decide +kernel
theorem dX2_characterOf_34 : decode cX2_characterOf 34 = .ok (.ireturn, 1) := by decide +kernel
theorem dX2_look_0 : decode cX2_look 0 = .ok (.iload_n 1, 1) := by decide +kernel
theorem dX2_look_1 : decode cX2_look 1 = .ok (.ifCond .lt 14, 3) := by decide +kernel
theorem dX2_look_4 : decode cX2_look 4 = .ok (.iload_n 1, 1) := by decide +kernel
theorem dX2_look_5 : decode cX2_look 5 = .ok (.aload_n 0, 1) := by decide +kernel
theorem dX2_look_6 : decode cX2_look 6 = .ok (.getfield 14, 3) := by decide +kernel
theorem dX2_look_9 : decode cX2_look 9 = .ok (.invokevirtual 38, 3) := by decide +kernel
theorem dX2_look_12 : decode cX2_look 12 = .ok (.if_icmp .lt 5, 3) := by decide +kernel
theorem dX2_look_15 : decode cX2_look 15 = .ok (.iconst (-1), 1) := by decide +kernel
theorem dX2_look_16 : decode cX2_look 16 = .ok (.ireturn, 1) := by decide +kernel
theorem dX2_look_17 : decode cX2_look 17 = .ok (.iload_n 2, 1) := by decide +kernel
theorem dX2_look_18 : decode cX2_look 18 = .ok (.bipush (-2), 2) := by decide +kernel
theorem dX2_look_20 : decode cX2_look 20 = .ok (.if_icmp .ne 12, 3) := by decide +kernel
theorem dX2_look_23 : decode cX2_look 23 = .ok (.aload_n 0, 1) := by decide +kernel
theorem dX2_look_24 : decode cX2_look 24 = .ok (.getfield 14, 3) := by decide +kernel
theorem dX2_look_27 : decode cX2_look 27 = .ok (.iload_n 1, 1) := by decide +kernel
theorem dX2_look_28 : decode cX2_look 28 = .ok (.invokevirtual 42, 3) := by decide +kernel
theorem dX2_look_31 : decode cX2_look 31 = .ok (.ireturn, 1) := by decide +kernel
theorem dX2_look_32 : decode cX2_look 32 = .ok (.iload_n 2, 1) := by decide +kernel
theorem dX2_look_33 : decode cX2_look 33 = .ok (.iconst (-1), 1) := by decide +kernel
theorem dX2_look_34 : decode cX2_look 34 = .ok (.if_icmp .ne 23, 3) := by decide +kernel
theorem dX2_look_37 : decode cX2_look 37 = .ok (.aload_n 0, 1) := by decide +kernel
theorem dX2_look_38 : decode cX2_look 38 = .ok (.getfield 20, 3) := by decide +kernel
theorem dX2_look_41 : decode cX2_look 41 = .ok (.iload_n 1, 1) := by decide +kernel
theorem dX2_look_42 : decode cX2_look 42 = .ok (.iconst 1, 1) := by decide +kernel
theorem dX2_look_43 : decode cX2_look 43 = .ok (.iadd, 1) := by decide +kernel
theorem dX2_look_44 : decode cX2_look 44 = .ok (.invokevirtual 42, 3) := by decide +kernel
theorem dX2_look_47 : decode cX2_look 47 = .ok (.aload_n 0, 1) := by decide +kernel
theorem dX2_look_48 : decode cX2_look 48 = .ok (.getfield 20, 3) := by decide +kernel
theorem dX2_look_51 : decode cX2_look 51 = .ok (.iload_n 1, 1) := by decide +kernel
theorem dX2_look_52 : decode cX2_look 52 = .ok (.invokevirtual 42, 3) := by decide +kernel
theorem dX2_look_55 : decode cX2_look 55 = .ok (.isub, 1) := by decide +kernel
theorem dX2_look_56 : decode cX2_look 56 = .ok (.ireturn, 1) := by decide +kernel
theorem dX2_look_57 : decode cX2_look 57 = .ok (.aload_n 0, 1) := by decide +kernel
theorem dX2_look_58 : decode cX2_look 58 = .ok (.iload_n 1, 1) := by decide +kernel
theorem dX2_look_59 : decode cX2_look 59 = .ok (.iload_n 2, 1) := by decide +kernel
theorem dX2_look_60 : decode cX2_look 60 = .ok (.invokevirtual 46, 3) := by decide +kernel
theorem dX2_look_63 : decode cX2_look 63 = .ok (.istore 5, 2) := by decide +kernel
theorem dX2_look_65 : decode cX2_look 65 = .ok (.iload 5, 2) := by decide +kernel
theorem dX2_look_67 : decode cX2_look 67 = .ok (.iconst (-1), 1) := by decide +kernel
theorem dX2_look_68 : decode cX2_look 68 = .ok (.if_icmp .ne 5, 3) := by decide +kernel
theorem dX2_look_71 : decode cX2_look 71 = .ok (.iconst (-1), 1) := by decide +kernel
theorem dX2_look_72 : decode cX2_look 72 = .ok (.ireturn, 1) := by decide +kernel
theorem dX2_look_73 : decode cX2_look 73 = .ok (.iload_n 3, 1) := by decide +kernel
theorem dX2_look_74 : decode cX2_look 74 = .ok (.iconst (-1), 1) := by decide +kernel
theorem dX2_look_75 : decode cX2_look 75 = .ok (.if_icmp .ne 25, 3) := by decide +kernel
theorem dX2_look_78 : decode cX2_look 78 = .ok (.aload_n 0, 1) := by decide +kernel
theorem dX2_look_79 : decode cX2_look 79 = .ok (.getfield 23, 3) := by decide +kernel
theorem dX2_look_82 : decode cX2_look 82 = .ok (.iload 5, 2) := by decide +kernel
theorem dX2_look_84 : decode cX2_look 84 = .ok (.iconst 1, 1) := by decide +kernel
theorem dX2_look_85 : decode cX2_look 85 = .ok (.iadd, 1) := by decide +kernel
theorem dX2_look_86 : decode cX2_look 86 = .ok (.invokevirtual 42, 3) := by decide +kernel
theorem dX2_look_89 : decode cX2_look 89 = .ok (.aload_n 0, 1) := by decide +kernel
theorem dX2_look_90 : decode cX2_look 90 = .ok (.getfield 23, 3) := by decide +kernel
theorem dX2_look_93 : decode cX2_look 93 = .ok (.iload 5, 2) := by decide +kernel
theorem dX2_look_95 : decode cX2_look 95 = .ok (.invokevirtual 42, 3) := by decide +kernel
theorem dX2_look_98 : decode cX2_look 98 = .ok (.isub, 1) := by decide +kernel
theorem dX2_look_99 : decode cX2_look 99 = .ok (.ireturn, 1) := by decide +kernel
theorem dX2_look_100 : decode cX2_look 100 = .ok (.aload_n 0, 1) := by decide +kernel
theorem dX2_look_101 : decode cX2_look 101 = .ok (.iload_n 1, 1) := by decide +kernel
theorem dX2_look_102 : decode cX2_look 102 = .ok (.iload_n 2, 1) := by decide +kernel
theorem dX2_look_103 : decode cX2_look 103 = .ok (.iload_n 3, 1) := by decide +kernel
theorem dX2_look_104 : decode cX2_look 104 = .ok (.invokevirtual 53, 3) := by decide +kernel
theorem dX2_look_107 : decode cX2_look 107 = .ok (.istore 6, 2) := by decide +kernel
theorem dX2_look_109 : decode cX2_look 109 = .ok (.iload 6, 2) := by decide +kernel
theorem dX2_look_111 : decode cX2_look 111 = .ok (.iconst (-1), 1) := by decide +kernel
theorem dX2_look_112 : decode cX2_look 112 = .ok (.if_icmp .ne 5, 3) := by decide +kernel
theorem dX2_look_115 : decode cX2_look 115 = .ok (.iconst (-1), 1) := by decide +kernel
theorem dX2_look_116 : decode cX2_look 116 = .ok (.ireturn, 1) := by decide +kernel
theorem dX2_look_117 : decode cX2_look 117 = .ok (.iload 4, 2) := by decide +kernel
theorem dX2_look_119 : decode cX2_look 119 = .ok (.iconst (-1), 1) := by decide +kernel
theorem dX2_look_120 : decode cX2_look 120 = .ok (.if_icmp .ne 12, 3) := by decide +kernel
theorem dX2_look_123 : decode cX2_look 123 = .ok (.aload_n 0, 1) := by decide +kernel
theorem dX2_look_124 : decode cX2_look 124 = .ok (.iload 6, 2) := by decide +kernel
theorem dX2_look_126 : decode cX2_look 126 = .ok (.invokevirtual 50, 3) := by decide +kernel
theorem dX2_look_129 : decode cX2_look 129 = .ok (.goto 11, 3) := by decide +kernel
theorem dX2_look_132 : decode cX2_look 132 = .ok (.aload_n 0, 1) := by decide +kernel
theorem dX2_look_133 : decode cX2_look 133 = .ok (.iload 6, 2) := by decide +kernel
theorem dX2_look_135 : decode cX2_look 135 = .ok (.iload 4, 2) := by decide +kernel
theorem dX2_look_137 : decode cX2_look 137 = .ok (.invokevirtual 57, 3) := by decide +kernel
theorem dX2_look_140 : decode cX2_look 140 = .ok (.ireturn, 1) := by decide +kernel
theorem dX2_filledEnd_0 : decode cX2_filledEnd 0 = .ok (.aload_n 0, 1) := by decide +kernel
theorem dX2_filledEnd_1 : decode cX2_filledEnd 1 = .ok (.getfield 23, 3) := by decide +kernel
theorem dX2_filledEnd_4 : decode cX2_filledEnd 4 = .ok (.iload_n 1, 1) := by decide +kernel
theorem dX2_filledEnd_5 : decode cX2_filledEnd 5 = .ok (.invokevirtual 42, 3) := by decide +kernel
theorem dX2_filledEnd_8 : decode cX2_filledEnd 8 = .ok (.istore_n 2, 1) := by decide +kernel
theorem dX2_filledEnd_9 : decode cX2_filledEnd 9 = .ok (.aload_n 0, 1) := by decide +kernel
theorem dX2_filledEnd_10 : decode cX2_filledEnd 10 = .ok (.getfield 23, 3) := by decide +kernel
theorem dX2_filledEnd_13 : decode cX2_filledEnd 13 = .ok (.iload_n 1, 1) := by decide +kernel
theorem dX2_filledEnd_14 : decode cX2_filledEnd 14 = .ok (.iconst 1, 1) := by decide +kernel
theorem dX2_filledEnd_15 : decode cX2_filledEnd 15 = .ok (.iadd, 1) := by decide +kernel
theorem dX2_filledEnd_16 : decode cX2_filledEnd 16 = .ok (.invokevirtual 42, 3) := by decide +kernel
theorem dX2_filledEnd_19 : decode cX2_filledEnd 19 = .ok (.istore_n 3, 1) := by decide +kernel
theorem dX2_filledEnd_20 : decode cX2_filledEnd 20 = .ok (.iload_n 3, 1) := by decide +kernel
theorem dX2_filledEnd_21 : decode cX2_filledEnd 21 = .ok (.iload_n 2, 1) := by decide +kernel
theorem dX2_filledEnd_22 : decode cX2_filledEnd 22 = .ok (.if_icmp .le 32, 3) := by decide +kernel
theorem dX2_filledEnd_25 : decode cX2_filledEnd 25 = .ok (.aload_n 0, 1) := by decide +kernel
theorem dX2_filledEnd_26 : decode cX2_filledEnd 26 = .ok (.getfield 26, 3) := by decide +kernel
theorem dX2_filledEnd_29 : decode cX2_filledEnd 29 = .ok (.iload_n 3, 1) := by decide +kernel
theorem dX2_filledEnd_30 : decode cX2_filledEnd 30 = .ok (.invokevirtual 42, 3) := by decide +kernel
theorem dX2_filledEnd_33 : decode cX2_filledEnd 33 = .ok (.aload_n 0, 1) := by decide +kernel
theorem dX2_filledEnd_34 : decode cX2_filledEnd 34 = .ok (.getfield 26, 3) := by decide +kernel
theorem dX2_filledEnd_37 : decode cX2_filledEnd 37 = .ok (.iload_n 3, 1) := by decide +kernel
theorem dX2_filledEnd_38 : decode cX2_filledEnd 38 = .ok (.iconst 1, 1) := by decide +kernel
theorem dX2_filledEnd_39 : decode cX2_filledEnd 39 = .ok (.isub, 1) := by decide +kernel
theorem dX2_filledEnd_40 : decode cX2_filledEnd 40 = .ok (.invokevirtual 42, 3) := by decide +kernel
theorem dX2_filledEnd_43 : decode cX2_filledEnd 43 = .ok (.if_icmp .le 5, 3) := by decide +kernel
theorem dX2_filledEnd_46 : decode cX2_filledEnd 46 = .ok (.iload_n 3, 1) := by decide +kernel
theorem dX2_filledEnd_47 : decode cX2_filledEnd 47 = .ok (.ireturn, 1) := by decide +kernel
theorem dX2_filledEnd_48 : decode cX2_filledEnd 48 = .ok (.iinc 3 (-1), 3) := by decide +kernel
theorem dX2_filledEnd_51 : decode cX2_filledEnd 51 = .ok (.goto (-31), 3) := by decide +kernel
theorem dX2_filledEnd_54 : decode cX2_filledEnd 54 = .ok (.iload_n 2, 1) := by decide +kernel
theorem dX2_filledEnd_55 : decode cX2_filledEnd 55 = .ok (.ireturn, 1) := by decide +kernel
theorem dX2_filledElementEnd_0 : decode cX2_filledElementEnd 0 = .ok (.aload_n 0, 1) := by decide +kernel
theorem dX2_filledElementEnd_1 : decode cX2_filledElementEnd 1 = .ok (.getfield 20, 3) := by decide +kernel
theorem dX2_filledElementEnd_4 : decode cX2_filledElementEnd 4 = .ok (.iload_n 1, 1) := by decide +kernel
theorem dX2_filledElementEnd_5 : decode cX2_filledElementEnd 5 = .ok (.invokevirtual 42, 3) := by decide +kernel
theorem dX2_filledElementEnd_8 : decode cX2_filledElementEnd 8 = .ok (.istore_n 2, 1) := by decide +kernel
theorem dX2_filledElementEnd_9 : decode cX2_filledElementEnd 9 = .ok (.aload_n 0, 1) := by decide +kernel
theorem dX2_filledElementEnd_10 : decode cX2_filledElementEnd 10 = .ok (.getfield 20, 3) := by decide +kernel
theorem dX2_filledElementEnd_13 : decode cX2_filledElementEnd 13 = .ok (.iload_n 1, 1) := by decide +kernel
theorem dX2_filledElementEnd_14 : decode cX2_filledElementEnd 14 = .ok (.iconst 1, 1) := by decide +kernel
theorem dX2_filledElementEnd_15 : decode cX2_filledElementEnd 15 = .ok (.iadd, 1) := by decide +kernel
theorem dX2_filledElementEnd_16 : decode cX2_filledElementEnd 16 = .ok (.invokevirtual 42, 3) := by decide +kernel
theorem dX2_filledElementEnd_19 : decode cX2_filledElementEnd 19 = .ok (.istore_n 3, 1) := by decide +kernel
theorem dX2_filledElementEnd_20 : decode cX2_filledElementEnd 20 = .ok (.iload_n 3, 1) := by decide +kernel
theorem dX2_filledElementEnd_21 : decode cX2_filledElementEnd 21 = .ok (.iload_n 2, 1) := by decide +kernel
theorem dX2_filledElementEnd_22 : decode cX2_filledElementEnd 22 = .ok (.if_icmp .le 31, 3) := by decide +kernel
theorem dX2_filledElementEnd_25 : decode cX2_filledElementEnd 25 = .ok (.aload_n 0, 1) := by decide +kernel
theorem dX2_filledElementEnd_26 : decode cX2_filledElementEnd 26 = .ok (.iload_n 3, 1) := by decide +kernel
theorem dX2_filledElementEnd_27 : decode cX2_filledElementEnd 27 = .ok (.iconst 1, 1) := by decide +kernel
theorem dX2_filledElementEnd_28 : decode cX2_filledElementEnd 28 = .ok (.isub, 1) := by decide +kernel
theorem dX2_filledElementEnd_29 : decode cX2_filledElementEnd 29 = .ok (.invokevirtual 60, 3) := by decide +kernel
theorem dX2_filledElementEnd_32 : decode cX2_filledElementEnd 32 = .ok (.aload_n 0, 1) := by decide +kernel
theorem dX2_filledElementEnd_33 : decode cX2_filledElementEnd 33 = .ok (.getfield 23, 3) := by decide +kernel
theorem dX2_filledElementEnd_36 : decode cX2_filledElementEnd 36 = .ok (.iload_n 3, 1) := by decide +kernel
theorem dX2_filledElementEnd_37 : decode cX2_filledElementEnd 37 = .ok (.iconst 1, 1) := by decide +kernel
theorem dX2_filledElementEnd_38 : decode cX2_filledElementEnd 38 = .ok (.isub, 1) := by decide +kernel
theorem dX2_filledElementEnd_39 : decode cX2_filledElementEnd 39 = .ok (.invokevirtual 42, 3) := by decide +kernel
theorem dX2_filledElementEnd_42 : decode cX2_filledElementEnd 42 = .ok (.if_icmp .le 5, 3) := by decide +kernel
theorem dX2_filledElementEnd_45 : decode cX2_filledElementEnd 45 = .ok (.iload_n 3, 1) := by decide +kernel
theorem dX2_filledElementEnd_46 : decode cX2_filledElementEnd 46 = .ok (.ireturn, 1) := by decide +kernel
theorem dX2_filledElementEnd_47 : decode cX2_filledElementEnd 47 = .ok (.iinc 3 (-1), 3) := by decide +kernel
theorem dX2_filledElementEnd_50 : decode cX2_filledElementEnd 50 = .ok (.goto (-30), 3) := by decide +kernel
theorem dX2_filledElementEnd_53 : decode cX2_filledElementEnd 53 = .ok (.iload_n 2, 1) := by decide +kernel
theorem dX2_filledElementEnd_54 : decode cX2_filledElementEnd 54 = .ok (.ireturn, 1) := by decide +kernel
theorem dX2_areSame_0 : decode cX2_areSame 0 = .ok (.aload_n 0, 1) := by decide +kernel
theorem dX2_areSame_1 : decode cX2_areSame 1 = .ok (.iload_n 1, 1) := by decide +kernel
theorem dX2_areSame_2 : decode cX2_areSame 2 = .ok (.invokevirtual 50, 3) := by decide +kernel
theorem dX2_areSame_5 : decode cX2_areSame 5 = .ok (.istore_n 3, 1) := by decide +kernel
theorem dX2_areSame_6 : decode cX2_areSame 6 = .ok (.iload_n 3, 1) := by decide +kernel
theorem dX2_areSame_7 : decode cX2_areSame 7 = .ok (.aload_n 0, 1) := by decide +kernel
theorem dX2_areSame_8 : decode cX2_areSame 8 = .ok (.iload_n 2, 1) := by decide +kernel
theorem dX2_areSame_9 : decode cX2_areSame 9 = .ok (.invokevirtual 50, 3) := by decide +kernel
theorem dX2_areSame_12 : decode cX2_areSame 12 = .ok (.if_icmp .eq 5, 3) := by decide +kernel
theorem dX2_areSame_15 : decode cX2_areSame 15 = .ok (.iconst 0, 1) := by decide +kernel
theorem dX2_areSame_16 : decode cX2_areSame 16 = .ok (.ireturn, 1) := by decide +kernel
theorem dX2_areSame_17 : decode cX2_areSame 17 = .ok (.aload_n 0, 1) := by decide +kernel
theorem dX2_areSame_18 : decode cX2_areSame 18 = .ok (.getfield 26, 3) := by decide +kernel
theorem dX2_areSame_21 : decode cX2_areSame 21 = .ok (.iload_n 1, 1) := by decide +kernel
theorem dX2_areSame_22 : decode cX2_areSame 22 = .ok (.invokevirtual 42, 3) := by decide +kernel
theorem dX2_areSame_25 : decode cX2_areSame 25 = .ok (.istore 4, 2) := by decide +kernel
theorem dX2_areSame_27 : decode cX2_areSame 27 = .ok (.aload_n 0, 1) := by decide +kernel
theorem dX2_areSame_28 : decode cX2_areSame 28 = .ok (.getfield 26, 3) := by decide +kernel
theorem dX2_areSame_31 : decode cX2_areSame 31 = .ok (.iload_n 2, 1) := by decide +kernel
theorem dX2_areSame_32 : decode cX2_areSame 32 = .ok (.invokevirtual 42, 3) := by decide +kernel
theorem dX2_areSame_35 : decode cX2_areSame 35 = .ok (.istore 5, 2) := by decide +kernel
theorem dX2_areSame_37 : decode cX2_areSame 37 = .ok (.iconst 0, 1) := by decide +kernel
theorem dX2_areSame_38 : decode cX2_areSame 38 = .ok (.istore 6, 2) := by decide +kernel
theorem dX2_areSame_40 : decode cX2_areSame 40 = .ok (.iload 6, 2) := by decide +kernel
theorem dX2_areSame_42 : decode cX2_areSame 42 = .ok (.iload_n 3, 1) := by decide +kernel
theorem dX2_areSame_43 : decode cX2_areSame 43 = .ok (.if_icmp .ge 38, 3) := by decide +kernel
theorem dX2_areSame_46 : decode cX2_areSame 46 = .ok (.aload_n 0, 1) := by decide +kernel
theorem dX2_areSame_47 : decode cX2_areSame 47 = .ok (.getfield 29, 3) := by decide +kernel
theorem dX2_areSame_50 : decode cX2_areSame 50 = .ok (.iload 4, 2) := by decide +kernel
theorem dX2_areSame_52 : decode cX2_areSame 52 = .ok (.iload 6, 2) := by decide +kernel
theorem dX2_areSame_54 : decode cX2_areSame 54 = .ok (.iadd, 1) := by decide +kernel
theorem dX2_areSame_55 : decode cX2_areSame 55 = .ok (.invokevirtual 42, 3) := by decide +kernel
theorem dX2_areSame_58 : decode cX2_areSame 58 = .ok (.aload_n 0, 1) := by decide +kernel
theorem dX2_areSame_59 : decode cX2_areSame 59 = .ok (.getfield 29, 3) := by decide +kernel
theorem dX2_areSame_62 : decode cX2_areSame 62 = .ok (.iload 5, 2) := by decide +kernel
theorem dX2_areSame_64 : decode cX2_areSame 64 = .ok (.iload 6, 2) := by decide +kernel
theorem dX2_areSame_66 : decode cX2_areSame 66 = .ok (.iadd, 1) := by decide +kernel
theorem dX2_areSame_67 : decode cX2_areSame 67 = .ok (.invokevirtual 42, 3) := by decide +kernel
theorem dX2_areSame_70 : decode cX2_areSame 70 = .ok (.if_icmp .eq 5, 3) := by decide +kernel
theorem dX2_areSame_73 : decode cX2_areSame 73 = .ok (.iconst 0, 1) := by decide +kernel
theorem dX2_areSame_74 : decode cX2_areSame 74 = .ok (.ireturn, 1) := by decide +kernel
theorem dX2_areSame_75 : decode cX2_areSame 75 = .ok (.iinc 6 1, 3) := by decide +kernel
theorem dX2_areSame_78 : decode cX2_areSame 78 = .ok (.goto (-38), 3) := by decide +kernel
theorem dX2_areSame_81 : decode cX2_areSame 81 = .ok (.iconst 1, 1) := by decide +kernel
theorem dX2_areSame_82 : decode cX2_areSame 82 = .ok (.ireturn, 1) := by decide +kernel
theorem dX2_isNumber_0 : decode cX2_isNumber 0 = .ok (.aload_n 0, 1) := by decide +kernel
theorem dX2_isNumber_1 : decode cX2_isNumber 1 = .ok (.iload_n 1, 1) := by decide +kernel
theorem dX2_isNumber_2 : decode cX2_isNumber 2 = .ok (.invokevirtual 50, 3) := by decide +kernel
theorem dX2_isNumber_5 : decode cX2_isNumber 5 = .ok (.istore_n 3, 1) := by decide +kernel
theorem dX2_isNumber_6 : decode cX2_isNumber 6 = .ok (.aload_n 0, 1) := by decide +kernel
theorem dX2_isNumber_7 : decode cX2_isNumber 7 = .ok (.getfield 26, 3) := by decide +kernel
theorem dX2_isNumber_10 : decode cX2_isNumber 10 = .ok (.iload_n 1, 1) := by decide +kernel
theorem dX2_isNumber_11 : decode cX2_isNumber 11 = .ok (.invokevirtual 42, 3) := by decide +kernel
theorem dX2_isNumber_14 : decode cX2_isNumber 14 = .ok (.istore 4, 2) := by decide +kernel
theorem dX2_isNumber_16 : decode cX2_isNumber 16 = .ok (.iload_n 3, 1) := by decide +kernel
theorem dX2_isNumber_17 : decode cX2_isNumber 17 = .ok (.iconst 1, 1) := by decide +kernel
theorem dX2_isNumber_18 : decode cX2_isNumber 18 = .ok (.if_icmp .lt 27, 3) := by decide +kernel
theorem dX2_isNumber_21 : decode cX2_isNumber 21 = .ok (.iload_n 3, 1) := by decide +kernel
theorem dX2_isNumber_22 : decode cX2_isNumber 22 = .ok (.iconst 3, 1) := by decide +kernel
theorem dX2_isNumber_23 : decode cX2_isNumber 23 = .ok (.if_icmp .gt 22, 3) := by decide +kernel
theorem dX2_isNumber_26 : decode cX2_isNumber 26 = .ok (.iload_n 3, 1) := by decide +kernel
theorem dX2_isNumber_27 : decode cX2_isNumber 27 = .ok (.iconst 1, 1) := by decide +kernel
theorem dX2_isNumber_28 : decode cX2_isNumber 28 = .ok (.if_icmp .le 19, 3) := by decide +kernel
theorem dX2_isNumber_31 : decode cX2_isNumber 31 = .ok (.aload_n 0, 1) := by decide +kernel
theorem dX2_isNumber_32 : decode cX2_isNumber 32 = .ok (.getfield 29, 3) := by decide +kernel
theorem dX2_isNumber_35 : decode cX2_isNumber 35 = .ok (.iload 4, 2) := by decide +kernel
theorem dX2_isNumber_37 : decode cX2_isNumber 37 = .ok (.invokevirtual 42, 3) := by decide +kernel
theorem dX2_isNumber_40 : decode cX2_isNumber 40 = .ok (.bipush 48, 2) := by decide +kernel
theorem dX2_isNumber_42 : decode cX2_isNumber 42 = .ok (.if_icmp .ne 5, 3) := by decide +kernel
theorem dX2_isNumber_45 : decode cX2_isNumber 45 = .ok (.iconst 0, 1) := by decide +kernel
theorem dX2_isNumber_46 : decode cX2_isNumber 46 = .ok (.ireturn, 1) := by decide +kernel
theorem dX2_isNumber_47 : decode cX2_isNumber 47 = .ok (.iconst 0, 1) := by decide +kernel
theorem dX2_isNumber_48 : decode cX2_isNumber 48 = .ok (.istore 5, 2) := by decide +kernel
theorem dX2_isNumber_50 : decode cX2_isNumber 50 = .ok (.iconst 0, 1) := by decide +kernel
theorem dX2_isNumber_51 : decode cX2_isNumber 51 = .ok (.istore 6, 2) := by decide +kernel
theorem dX2_isNumber_53 : decode cX2_isNumber 53 = .ok (.iload 6, 2) := by decide +kernel
theorem dX2_isNumber_55 : decode cX2_isNumber 55 = .ok (.iload_n 3, 1) := by decide +kernel
theorem dX2_isNumber_56 : decode cX2_isNumber 56 = .ok (.if_icmp .ge 46, 3) := by decide +kernel
theorem dX2_isNumber_59 : decode cX2_isNumber 59 = .ok (.aload_n 0, 1) := by decide +kernel
theorem dX2_isNumber_60 : decode cX2_isNumber 60 = .ok (.getfield 29, 3) := by decide +kernel
theorem dX2_isNumber_63 : decode cX2_isNumber 63 = .ok (.iload 4, 2) := by decide +kernel
theorem dX2_isNumber_65 : decode cX2_isNumber 65 = .ok (.iload 6, 2) := by decide +kernel
theorem dX2_isNumber_67 : decode cX2_isNumber 67 = .ok (.iadd, 1) := by decide +kernel
theorem dX2_isNumber_68 : decode cX2_isNumber 68 = .ok (.invokevirtual 42, 3) := by decide +kernel
theorem dX2_isNumber_71 : decode cX2_isNumber 71 = .ok (.istore 7, 2) := by decide +kernel
theorem dX2_isNumber_73 : decode cX2_isNumber 73 = .ok (.iload 7, 2) := by decide +kernel
theorem dX2_isNumber_75 : decode cX2_isNumber 75 = .ok (.invokestatic 63, 3) := by decide +kernel
theorem dX2_isNumber_78 : decode cX2_isNumber 78 = .ok (.ifCond .ne 5, 3) := by decide +kernel
theorem dX2_isNumber_81 : decode cX2_isNumber 81 = .ok (.iconst 0, 1) := by decide +kernel
theorem dX2_isNumber_82 : decode cX2_isNumber 82 = .ok (.ireturn, 1) := by decide +kernel
theorem dX2_isNumber_83 : decode cX2_isNumber 83 = .ok (.bipush 10, 2) := by decide +kernel
theorem dX2_isNumber_85 : decode cX2_isNumber 85 = .ok (.iload 5, 2) := by decide +kernel
theorem dX2_isNumber_87 : decode cX2_isNumber 87 = .ok (.imul, 1) := by decide +kernel
theorem dX2_isNumber_88 : decode cX2_isNumber 88 = .ok (.iload 7, 2) := by decide +kernel
theorem dX2_isNumber_90 : decode cX2_isNumber 90 = .ok (.bipush 48, 2) := by decide +kernel
theorem dX2_isNumber_92 : decode cX2_isNumber 92 = .ok (.isub, 1) := by decide +kernel
theorem dX2_isNumber_93 : decode cX2_isNumber 93 = .ok (.iadd, 1) := by decide +kernel
theorem dX2_isNumber_94 : decode cX2_isNumber 94 = .ok (.istore 5, 2) := by decide +kernel
theorem dX2_isNumber_96 : decode cX2_isNumber 96 = .ok (.iinc 6 1, 3) := by decide +kernel
theorem dX2_isNumber_99 : decode cX2_isNumber 99 = .ok (.goto (-46), 3) := by decide +kernel
theorem dX2_isNumber_102 : decode cX2_isNumber 102 = .ok (.iload 5, 2) := by decide +kernel
theorem dX2_isNumber_104 : decode cX2_isNumber 104 = .ok (.iload_n 2, 1) := by decide +kernel
theorem dX2_isNumber_105 : decode cX2_isNumber 105 = .ok (.if_icmp .ne 7, 3) := by decide +kernel
theorem dX2_isNumber_108 : decode cX2_isNumber 108 = .ok (.iconst 1, 1) := by decide +kernel
theorem dX2_isNumber_109 : decode cX2_isNumber 109 = .ok (.goto 4, 3) := by decide +kernel
theorem dX2_isNumber_112 : decode cX2_isNumber 112 = .ok (.iconst 0, 1) := by decide +kernel
theorem dX2_isNumber_113 : decode cX2_isNumber 113 = .ok (.ireturn, 1) := by decide +kernel
theorem dX3_init_0 : decode cX3_init 0 = .ok (.aload_n 0, 1) := by decide +kernel
theorem dX3_init_1 : decode cX3_init 1 = .ok (.invokespecial 3, 3) := by decide +kernel
theorem dX3_init_4 : decode cX3_init 4 = .ok (.aload_n 0, 1) := by decide +kernel
theorem dX3_init_5 : decode cX3_init 5 = .ok (.iconst 0, 1) := by decide +kernel
theorem dX3_init_6 : decode cX3_init 6 = .ok (.putfield 9, 3) := by decide +kernel
theorem dX3_init_9 : decode cX3_init 9 = .ok (.aload_n 0, 1) := by decide +kernel
theorem dX3_init_10 : decode cX3_init 10 = .ok (.iload_n 1, 1) := by decide +kernel
theorem dX3_init_11 : decode cX3_init 11 = .ok (.iconst 0, 1) := by decide +kernel
theorem dX3_init_12 : decode cX3_init 12 = .ok (.invokestatic 15, 3) := by decide +kernel
theorem dX3_init_15 : decode cX3_init 15 = .ok (.newarray .int, 2) := by decide +kernel
theorem dX3_init_17 : decode cX3_init 17 = .ok (.putfield 21, 3) := by decide +kernel
theorem dX3_init_20 : decode cX3_init 20 = .ok (.return_, 1) := by decide +kernel
theorem dX3_size_0 : decode cX3_size 0 = .ok (.aload_n 0, 1) := by decide +kernel
theorem dX3_size_1 : decode cX3_size 1 = .ok (.getfield 9, 3) := by decide +kernel
theorem dX3_size_4 : decode cX3_size 4 = .ok (.ireturn, 1) := by decide +kernel
theorem dX3_at_0 : decode cX3_at 0 = .ok (.iload_n 1, 1) := by decide +kernel
theorem dX3_at_1 : decode cX3_at 1 = .ok (.ifCond .lt 29, 3) := by decide +kernel
theorem dX3_at_4 : decode cX3_at 4 = .ok (.iload_n 1, 1) := by decide +kernel
theorem dX3_at_5 : decode cX3_at 5 = .ok (.aload_n 0, 1) := by decide +kernel
theorem dX3_at_6 : decode cX3_at 6 = .ok (.getfield 9, 3) := by decide +kernel
theorem dX3_at_9 : decode cX3_at 9 = .ok (.if_icmp .ge 21, 3) := by decide +kernel
theorem dX3_at_12 : decode cX3_at 12 = .ok (.iload_n 1, 1) := by decide +kernel
theorem dX3_at_13 : decode cX3_at 13 = .ok (.aload_n 0, 1) := by decide +kernel
theorem dX3_at_14 : decode cX3_at 14 = .ok (.getfield 21, 3) := by decide +kernel
theorem dX3_at_17 : decode cX3_at 17 = .ok (.arraylength, 1) := by decide +kernel
theorem dX3_at_18 : decode cX3_at 18 = .ok (.if_icmp .ge 12, 3) := by decide +kernel
theorem dX3_at_21 : decode cX3_at 21 = .ok (.aload_n 0, 1) := by decide +kernel
theorem dX3_at_22 : decode cX3_at 22 = .ok (.getfield 21, 3) := by decide +kernel
theorem dX3_at_25 : decode cX3_at 25 = .ok (.iload_n 1, 1) := by decide +kernel
theorem dX3_at_26 : decode cX3_at 26 = .ok (.iaload, 1) := by decide +kernel
theorem dX3_at_27 : decode cX3_at 27 = .ok (.goto 4, 3) := by decide +kernel
theorem dX3_at_30 : decode cX3_at 30 = .ok (.iconst (-1), 1) := by decide +kernel
theorem dX3_at_31 : decode cX3_at 31 = .ok (.ireturn, 1) := by decide +kernel
theorem dX3_add_0 : decode cX3_add 0 = .ok (.aload_n 0, 1) := by decide +kernel
theorem dX3_add_1 : decode cX3_add 1 = .ok (.getfield 9, 3) := by decide +kernel
theorem dX3_add_4 : decode cX3_add 4 = .ok (.ifCond .lt 35, 3) := by decide +kernel
theorem dX3_add_7 : decode cX3_add 7 = .ok (.aload_n 0, 1) := by decide +kernel
theorem dX3_add_8 : decode cX3_add 8 = .ok (.getfield 9, 3) := by decide +kernel
theorem dX3_add_11 : decode cX3_add 11 = .ok (.aload_n 0, 1) := by decide +kernel
theorem dX3_add_12 : decode cX3_add 12 = .ok (.getfield 21, 3) := by decide +kernel
theorem dX3_add_15 : decode cX3_add 15 = .ok (.arraylength, 1) := by decide +kernel
theorem dX3_add_16 : decode cX3_add 16 = .ok (.if_icmp .ge 23, 3) := by decide +kernel
theorem dX3_add_19 : decode cX3_add 19 = .ok (.aload_n 0, 1) := by decide +kernel
theorem dX3_add_20 : decode cX3_add 20 = .ok (.getfield 21, 3) := by decide +kernel
theorem dX3_add_23 : decode cX3_add 23 = .ok (.aload_n 0, 1) := by decide +kernel
theorem dX3_add_24 : decode cX3_add 24 = .ok (.getfield 9, 3) := by decide +kernel
theorem dX3_add_27 : decode cX3_add 27 = .ok (.iload_n 1, 1) := by decide +kernel
theorem dX3_add_28 : decode cX3_add 28 = .ok (.iastore, 1) := by decide +kernel
theorem dX3_add_29 : decode cX3_add 29 = .ok (.aload_n 0, 1) := by decide +kernel
theorem dX3_add_30 : decode cX3_add 30 = .ok (.dup, 1) := by decide +kernel
theorem dX3_add_31 : decode cX3_add 31 = .ok (.getfield 9, 3) := by decide +kernel
theorem dX3_add_34 : decode cX3_add 34 = .ok (.iconst 1, 1) := by decide +kernel
theorem dX3_add_35 : decode cX3_add 35 = .ok (.iadd, 1) := by decide +kernel
theorem dX3_add_36 : decode cX3_add 36 = .ok (.putfield 9, 3) := by decide +kernel
theorem dX3_add_39 : decode cX3_add 39 = .ok (.return_, 1) := by decide +kernel
theorem dX3_put_0 : decode cX3_put 0 = .ok (.iload_n 1, 1) := by decide +kernel
theorem dX3_put_1 : decode cX3_put 1 = .ok (.ifCond .lt 27, 3) := by decide +kernel
theorem dX3_put_4 : decode cX3_put 4 = .ok (.iload_n 1, 1) := by decide +kernel
theorem dX3_put_5 : decode cX3_put 5 = .ok (.aload_n 0, 1) := by decide +kernel
theorem dX3_put_6 : decode cX3_put 6 = .ok (.getfield 9, 3) := by decide +kernel
theorem dX3_put_9 : decode cX3_put 9 = .ok (.if_icmp .ge 19, 3) := by decide +kernel
theorem dX3_put_12 : decode cX3_put 12 = .ok (.iload_n 1, 1) := by decide +kernel
theorem dX3_put_13 : decode cX3_put 13 = .ok (.aload_n 0, 1) := by decide +kernel
theorem dX3_put_14 : decode cX3_put 14 = .ok (.getfield 21, 3) := by decide +kernel
theorem dX3_put_17 : decode cX3_put 17 = .ok (.arraylength, 1) := by decide +kernel
theorem dX3_put_18 : decode cX3_put 18 = .ok (.if_icmp .ge 10, 3) := by decide +kernel
theorem dX3_put_21 : decode cX3_put 21 = .ok (.aload_n 0, 1) := by decide +kernel
theorem dX3_put_22 : decode cX3_put 22 = .ok (.getfield 21, 3) := by decide +kernel
theorem dX3_put_25 : decode cX3_put 25 = .ok (.iload_n 1, 1) := by decide +kernel
theorem dX3_put_26 : decode cX3_put 26 = .ok (.iload_n 2, 1) := by decide +kernel
theorem dX3_put_27 : decode cX3_put 27 = .ok (.iastore, 1) := by decide +kernel
theorem dX3_put_28 : decode cX3_put 28 = .ok (.return_, 1) := by decide +kernel
theorem dX3_empty_0 : decode cX3_empty 0 = .ok (.aload_n 0, 1) := by decide +kernel
theorem dX3_empty_1 : decode cX3_empty 1 = .ok (.iconst 0, 1) := by decide +kernel
theorem dX3_empty_2 : decode cX3_empty 2 = .ok (.putfield 9, 3) := by decide +kernel
theorem dX3_empty_5 : decode cX3_empty 5 = .ok (.return_, 1) := by decide +kernel
theorem dX4_init_0 : decode cX4_init 0 = .ok (.aload_n 0, 1) := by decide +kernel
theorem dX4_init_1 : decode cX4_init 1 = .ok (.invokespecial 3, 3) := by decide +kernel
theorem dX4_init_4 : decode cX4_init 4 = .ok (.aload_n 0, 1) := by decide +kernel
theorem dX4_init_5 : decode cX4_init 5 = .ok (.new 9, 3) := by decide +kernel
theorem dX4_init_8 : decode cX4_init 8 = .ok (.dup, 1) := by decide +kernel
theorem dX4_init_9 : decode cX4_init 9 = .ok (.bipush 24, 2) := by decide +kernel
theorem dX4_init_11 : decode cX4_init 11 = .ok (.invokespecial 11, 3) := by decide +kernel
theorem dX4_init_14 : decode cX4_init 14 = .ok (.putfield 14, 3) := by decide +kernel
theorem dX4_init_17 : decode cX4_init 17 = .ok (.aload_n 0, 1) := by decide +kernel
theorem dX4_init_18 : decode cX4_init 18 = .ok (.new 9, 3) := by decide +kernel
theorem dX4_init_21 : decode cX4_init 21 = .ok (.dup, 1) := by decide +kernel
theorem dX4_init_22 : decode cX4_init 22 = .ok (.bipush 24, 2) := by decide +kernel
theorem dX4_init_24 : decode cX4_init 24 = .ok (.invokespecial 11, 3) := by decide +kernel
theorem dX4_init_27 : decode cX4_init 27 = .ok (.putfield 20, 3) := by decide +kernel
theorem dX4_init_30 : decode cX4_init 30 = .ok (.aload_n 0, 1) := by decide +kernel
theorem dX4_init_31 : decode cX4_init 31 = .ok (.new 9, 3) := by decide +kernel
theorem dX4_init_34 : decode cX4_init 34 = .ok (.dup, 1) := by decide +kernel
theorem dX4_init_35 : decode cX4_init 35 = .ok (.bipush 24, 2) := by decide +kernel
theorem dX4_init_37 : decode cX4_init 37 = .ok (.invokespecial 11, 3) := by decide +kernel
theorem dX4_init_40 : decode cX4_init 40 = .ok (.putfield 23, 3) := by decide +kernel
theorem dX4_init_43 : decode cX4_init 43 = .ok (.aload_n 0, 1) := by decide +kernel
theorem dX4_init_44 : decode cX4_init 44 = .ok (.new 9, 3) := by decide +kernel
theorem dX4_init_47 : decode cX4_init 47 = .ok (.dup, 1) := by decide +kernel
theorem dX4_init_48 : decode cX4_init 48 = .ok (.bipush 24, 2) := by decide +kernel
theorem dX4_init_50 : decode cX4_init 50 = .ok (.invokespecial 11, 3) := by decide +kernel
theorem dX4_init_53 : decode cX4_init 53 = .ok (.putfield 26, 3) := by decide +kernel
theorem dX4_init_56 : decode cX4_init 56 = .ok (.aload_n 0, 1) := by decide +kernel
theorem dX4_init_57 : decode cX4_init 57 = .ok (.iconst (-1), 1) := by decide +kernel
theorem dX4_init_58 : decode cX4_init 58 = .ok (.putfield 29, 3) := by decide +kernel
theorem dX4_init_61 : decode cX4_init 61 = .ok (.aload_n 0, 1) := by decide +kernel
theorem dX4_init_62 : decode cX4_init 62 = .ok (.iconst 0, 1) := by decide +kernel
theorem dX4_init_63 : decode cX4_init 63 = .ok (.putfield 33, 3) := by decide +kernel
theorem dX4_init_66 : decode cX4_init 66 = .ok (.aload_n 0, 1) := by decide +kernel
theorem dX4_init_67 : decode cX4_init 67 = .ok (.new 9, 3) := by decide +kernel
theorem dX4_init_70 : decode cX4_init 70 = .ok (.dup, 1) := by decide +kernel
theorem dX4_init_71 : decode cX4_init 71 = .ok (.bipush 24, 2) := by decide +kernel
theorem dX4_init_73 : decode cX4_init 73 = .ok (.invokespecial 11, 3) := by decide +kernel
theorem dX4_init_76 : decode cX4_init 76 = .ok (.putfield 36, 3) := by decide +kernel
theorem dX4_init_79 : decode cX4_init 79 = .ok (.aload_n 0, 1) := by decide +kernel
theorem dX4_init_80 : decode cX4_init 80 = .ok (.iconst (-1), 1) := by decide +kernel
theorem dX4_init_81 : decode cX4_init 81 = .ok (.putfield 39, 3) := by decide +kernel
theorem dX4_init_84 : decode cX4_init 84 = .ok (.aload_n 0, 1) := by decide +kernel
theorem dX4_init_85 : decode cX4_init 85 = .ok (.iconst (-1), 1) := by decide +kernel
theorem dX4_init_86 : decode cX4_init 86 = .ok (.putfield 42, 3) := by decide +kernel
theorem dX4_init_89 : decode cX4_init 89 = .ok (.return_, 1) := by decide +kernel
theorem dX4_isEmpty_0 : decode cX4_isEmpty 0 = .ok (.aload_n 0, 1) := by decide +kernel
theorem dX4_isEmpty_1 : decode cX4_isEmpty 1 = .ok (.getfield 14, 3) := by decide +kernel
theorem dX4_isEmpty_4 : decode cX4_isEmpty 4 = .ok (.invokevirtual 45, 3) := by decide +kernel
theorem dX4_isEmpty_7 : decode cX4_isEmpty 7 = .ok (.ifCond .ne 7, 3) := by decide +kernel
theorem dX4_isEmpty_10 : decode cX4_isEmpty 10 = .ok (.iconst 1, 1) := by decide +kernel
theorem dX4_isEmpty_11 : decode cX4_isEmpty 11 = .ok (.goto 4, 3) := by decide +kernel
theorem dX4_isEmpty_14 : decode cX4_isEmpty 14 = .ok (.iconst 0, 1) := by decide +kernel
theorem dX4_isEmpty_15 : decode cX4_isEmpty 15 = .ok (.ireturn, 1) := by decide +kernel
theorem dX4_isFull_0 : decode cX4_isFull 0 = .ok (.aload_n 0, 1) := by decide +kernel
theorem dX4_isFull_1 : decode cX4_isFull 1 = .ok (.getfield 14, 3) := by decide +kernel
theorem dX4_isFull_4 : decode cX4_isFull 4 = .ok (.invokevirtual 45, 3) := by decide +kernel
theorem dX4_isFull_7 : decode cX4_isFull 7 = .ok (.bipush 24, 2) := by decide +kernel
theorem dX4_isFull_9 : decode cX4_isFull 9 = .ok (.if_icmp .lt 7, 3) := by decide +kernel
theorem dX4_isFull_12 : decode cX4_isFull 12 = .ok (.iconst 1, 1) := by decide +kernel
theorem dX4_isFull_13 : decode cX4_isFull 13 = .ok (.goto 4, 3) := by decide +kernel
theorem dX4_isFull_16 : decode cX4_isFull 16 = .ok (.iconst 0, 1) := by decide +kernel
theorem dX4_isFull_17 : decode cX4_isFull 17 = .ok (.ireturn, 1) := by decide +kernel
theorem dX4_isDeepest_0 : decode cX4_isDeepest 0 = .ok (.aload_n 0, 1) := by decide +kernel
theorem dX4_isDeepest_1 : decode cX4_isDeepest 1 = .ok (.getfield 33, 3) := by decide +kernel
theorem dX4_isDeepest_4 : decode cX4_isDeepest 4 = .ok (.iconst 3, 1) := by decide +kernel
theorem dX4_isDeepest_5 : decode cX4_isDeepest 5 = .ok (.if_icmp .lt 7, 3) := by decide +kernel
theorem dX4_isDeepest_8 : decode cX4_isDeepest 8 = .ok (.iconst 1, 1) := by decide +kernel
theorem dX4_isDeepest_9 : decode cX4_isDeepest 9 = .ok (.goto 4, 3) := by decide +kernel
theorem dX4_isDeepest_12 : decode cX4_isDeepest 12 = .ok (.iconst 0, 1) := by decide +kernel
theorem dX4_isDeepest_13 : decode cX4_isDeepest 13 = .ok (.ireturn, 1) := by decide +kernel
theorem dX4_wantsTrigger_0 : decode cX4_wantsTrigger 0 = .ok (.aload_n 0, 1) := by decide +kernel
theorem dX4_wantsTrigger_1 : decode cX4_wantsTrigger 1 = .ok (.getfield 29, 3) := by decide +kernel
theorem dX4_wantsTrigger_4 : decode cX4_wantsTrigger 4 = .ok (.iconst (-1), 1) := by decide +kernel
theorem dX4_wantsTrigger_5 : decode cX4_wantsTrigger 5 = .ok (.if_icmp .eq 23, 3) := by decide +kernel
theorem dX4_wantsTrigger_8 : decode cX4_wantsTrigger 8 = .ok (.aload_n 0, 1) := by decide +kernel
theorem dX4_wantsTrigger_9 : decode cX4_wantsTrigger 9 = .ok (.getfield 29, 3) := by decide +kernel
theorem dX4_wantsTrigger_12 : decode cX4_wantsTrigger 12 = .ok (.aload_n 0, 1) := by decide +kernel
theorem dX4_wantsTrigger_13 : decode cX4_wantsTrigger 13 = .ok (.getfield 14, 3) := by decide +kernel
theorem dX4_wantsTrigger_16 : decode cX4_wantsTrigger 16 = .ok (.invokevirtual 45, 3) := by decide +kernel
theorem dX4_wantsTrigger_19 : decode cX4_wantsTrigger 19 = .ok (.iconst 1, 1) := by decide +kernel
theorem dX4_wantsTrigger_20 : decode cX4_wantsTrigger 20 = .ok (.isub, 1) := by decide +kernel
theorem dX4_wantsTrigger_21 : decode cX4_wantsTrigger 21 = .ok (.if_icmp .ne 7, 3) := by decide +kernel
theorem dX4_wantsTrigger_24 : decode cX4_wantsTrigger 24 = .ok (.iconst 1, 1) := by decide +kernel
theorem dX4_wantsTrigger_25 : decode cX4_wantsTrigger 25 = .ok (.goto 4, 3) := by decide +kernel
theorem dX4_wantsTrigger_28 : decode cX4_wantsTrigger 28 = .ok (.iconst 0, 1) := by decide +kernel
theorem dX4_wantsTrigger_29 : decode cX4_wantsTrigger 29 = .ok (.ireturn, 1) := by decide +kernel
theorem dX4_addSegment_0 : decode cX4_addSegment 0 = .ok (.aload_n 0, 1) := by decide +kernel
theorem dX4_addSegment_1 : decode cX4_addSegment 1 = .ok (.getfield 14, 3) := by decide +kernel
theorem dX4_addSegment_4 : decode cX4_addSegment 4 = .ok (.iload_n 1, 1) := by decide +kernel
theorem dX4_addSegment_5 : decode cX4_addSegment 5 = .ok (.invokevirtual 49, 3) := by decide +kernel
theorem dX4_addSegment_8 : decode cX4_addSegment 8 = .ok (.aload_n 0, 1) := by decide +kernel
theorem dX4_addSegment_9 : decode cX4_addSegment 9 = .ok (.getfield 20, 3) := by decide +kernel
theorem dX4_addSegment_12 : decode cX4_addSegment 12 = .ok (.iload_n 2, 1) := by decide +kernel
theorem dX4_addSegment_13 : decode cX4_addSegment 13 = .ok (.ifCond .eq 7, 3) := by decide +kernel
theorem dX4_addSegment_16 : decode cX4_addSegment 16 = .ok (.iconst 1, 1) := by decide +kernel
theorem dX4_addSegment_17 : decode cX4_addSegment 17 = .ok (.goto 4, 3) := by decide +kernel
theorem dX4_addSegment_20 : decode cX4_addSegment 20 = .ok (.iconst 0, 1) := by decide +kernel
theorem dX4_addSegment_21 : decode cX4_addSegment 21 = .ok (.invokevirtual 49, 3) := by decide +kernel
theorem dX4_addSegment_24 : decode cX4_addSegment 24 = .ok (.aload_n 0, 1) := by decide +kernel
theorem dX4_addSegment_25 : decode cX4_addSegment 25 = .ok (.getfield 23, 3) := by decide +kernel
theorem dX4_addSegment_28 : decode cX4_addSegment 28 = .ok (.iload_n 3, 1) := by decide +kernel
theorem dX4_addSegment_29 : decode cX4_addSegment 29 = .ok (.invokevirtual 49, 3) := by decide +kernel
theorem dX4_addSegment_32 : decode cX4_addSegment 32 = .ok (.aload_n 0, 1) := by decide +kernel
theorem dX4_addSegment_33 : decode cX4_addSegment 33 = .ok (.getfield 26, 3) := by decide +kernel
theorem dX4_addSegment_36 : decode cX4_addSegment 36 = .ok (.aload_n 0, 1) := by decide +kernel
theorem dX4_addSegment_37 : decode cX4_addSegment 37 = .ok (.getfield 29, 3) := by decide +kernel
theorem dX4_addSegment_40 : decode cX4_addSegment 40 = .ok (.invokevirtual 49, 3) := by decide +kernel
theorem dX4_addSegment_43 : decode cX4_addSegment 43 = .ok (.aload_n 0, 1) := by decide +kernel
theorem dX4_addSegment_44 : decode cX4_addSegment 44 = .ok (.getfield 14, 3) := by decide +kernel
theorem dX4_addSegment_47 : decode cX4_addSegment 47 = .ok (.invokevirtual 45, 3) := by decide +kernel
theorem dX4_addSegment_50 : decode cX4_addSegment 50 = .ok (.ireturn, 1) := by decide +kernel
theorem dX4_addGroup_0 : decode cX4_addGroup 0 = .ok (.aload_n 0, 1) := by decide +kernel
theorem dX4_addGroup_1 : decode cX4_addGroup 1 = .ok (.iconst 0, 1) := by decide +kernel
theorem dX4_addGroup_2 : decode cX4_addGroup 2 = .ok (.iload_n 1, 1) := by decide +kernel
theorem dX4_addGroup_3 : decode cX4_addGroup 3 = .ok (.iload_n 2, 1) := by decide +kernel
theorem dX4_addGroup_4 : decode cX4_addGroup 4 = .ok (.invokevirtual 52, 3) := by decide +kernel
theorem dX4_addGroup_7 : decode cX4_addGroup 7 = .ok (.istore_n 3, 1) := by decide +kernel
theorem dX4_addGroup_8 : decode cX4_addGroup 8 = .ok (.aload_n 0, 1) := by decide +kernel
theorem dX4_addGroup_9 : decode cX4_addGroup 9 = .ok (.iload_n 3, 1) := by decide +kernel
theorem dX4_addGroup_10 : decode cX4_addGroup 10 = .ok (.iconst 1, 1) := by decide +kernel
theorem dX4_addGroup_11 : decode cX4_addGroup 11 = .ok (.isub, 1) := by decide +kernel
theorem dX4_addGroup_12 : decode cX4_addGroup 12 = .ok (.putfield 29, 3) := by decide +kernel
theorem dX4_addGroup_15 : decode cX4_addGroup 15 = .ok (.aload_n 0, 1) := by decide +kernel
theorem dX4_addGroup_16 : decode cX4_addGroup 16 = .ok (.dup, 1) := by decide +kernel
theorem dX4_addGroup_17 : decode cX4_addGroup 17 = .ok (.getfield 33, 3) := by decide +kernel
theorem dX4_addGroup_20 : decode cX4_addGroup 20 = .ok (.iconst 1, 1) := by decide +kernel
theorem dX4_addGroup_21 : decode cX4_addGroup 21 = .ok (.iadd, 1) := by decide +kernel
theorem dX4_addGroup_22 : decode cX4_addGroup 22 = .ok (.putfield 33, 3) := by decide +kernel
theorem dX4_addGroup_25 : decode cX4_addGroup 25 = .ok (.iload_n 3, 1) := by decide +kernel
theorem dX4_addGroup_26 : decode cX4_addGroup 26 = .ok (.ireturn, 1) := by decide +kernel
theorem dX4_closeList_0 : decode cX4_closeList 0 = .ok (.aload_n 0, 1) := by decide +kernel
theorem dX4_closeList_1 : decode cX4_closeList 1 = .ok (.getfield 29, 3) := by decide +kernel
theorem dX4_closeList_4 : decode cX4_closeList 4 = .ok (.iconst (-1), 1) := by decide +kernel
theorem dX4_closeList_5 : decode cX4_closeList 5 = .ok (.if_icmp .eq 10, 3) := by decide +kernel
theorem dX4_closeList_8 : decode cX4_closeList 8 = .ok (.aload_n 0, 1) := by decide +kernel
theorem dX4_closeList_9 : decode cX4_closeList 9 = .ok (.invokevirtual 56, 3) := by decide +kernel
theorem dX4_closeList_12 : decode cX4_closeList 12 = .ok (.ifCond .eq 5, 3) := by decide +kernel
theorem dX4_closeList_15 : decode cX4_closeList 15 = .ok (.iconst 0, 1) := by decide +kernel
theorem dX4_closeList_16 : decode cX4_closeList 16 = .ok (.ireturn, 1) := by decide +kernel
theorem dX4_closeList_17 : decode cX4_closeList 17 = .ok (.aload_n 0, 1) := by decide +kernel
theorem dX4_closeList_18 : decode cX4_closeList 18 = .ok (.aload_n 0, 1) := by decide +kernel
theorem dX4_closeList_19 : decode cX4_closeList 19 = .ok (.getfield 26, 3) := by decide +kernel
theorem dX4_closeList_22 : decode cX4_closeList 22 = .ok (.aload_n 0, 1) := by decide +kernel
theorem dX4_closeList_23 : decode cX4_closeList 23 = .ok (.getfield 29, 3) := by decide +kernel
theorem dX4_closeList_26 : decode cX4_closeList 26 = .ok (.invokevirtual 60, 3) := by decide +kernel
theorem dX4_closeList_29 : decode cX4_closeList 29 = .ok (.putfield 29, 3) := by decide +kernel
theorem dX4_closeList_32 : decode cX4_closeList 32 = .ok (.aload_n 0, 1) := by decide +kernel
theorem dX4_closeList_33 : decode cX4_closeList 33 = .ok (.dup, 1) := by decide +kernel
theorem dX4_closeList_34 : decode cX4_closeList 34 = .ok (.getfield 33, 3) := by decide +kernel
theorem dX4_closeList_37 : decode cX4_closeList 37 = .ok (.iconst 1, 1) := by decide +kernel
theorem dX4_closeList_38 : decode cX4_closeList 38 = .ok (.isub, 1) := by decide +kernel
theorem dX4_closeList_39 : decode cX4_closeList 39 = .ok (.putfield 33, 3) := by decide +kernel
theorem dX4_closeList_42 : decode cX4_closeList 42 = .ok (.iconst 1, 1) := by decide +kernel
theorem dX4_closeList_43 : decode cX4_closeList 43 = .ok (.ireturn, 1) := by decide +kernel
theorem dX4_empty_0 : decode cX4_empty 0 = .ok (.aload_n 0, 1) := by decide +kernel
theorem dX4_empty_1 : decode cX4_empty 1 = .ok (.getfield 14, 3) := by decide +kernel
theorem dX4_empty_4 : decode cX4_empty 4 = .ok (.invokevirtual 64, 3) := by decide +kernel
theorem dX4_empty_7 : decode cX4_empty 7 = .ok (.aload_n 0, 1) := by decide +kernel
theorem dX4_empty_8 : decode cX4_empty 8 = .ok (.getfield 20, 3) := by decide +kernel
theorem dX4_empty_11 : decode cX4_empty 11 = .ok (.invokevirtual 64, 3) := by decide +kernel
theorem dX4_empty_14 : decode cX4_empty 14 = .ok (.aload_n 0, 1) := by decide +kernel
theorem dX4_empty_15 : decode cX4_empty 15 = .ok (.getfield 23, 3) := by decide +kernel
theorem dX4_empty_18 : decode cX4_empty 18 = .ok (.invokevirtual 64, 3) := by decide +kernel
theorem dX4_empty_21 : decode cX4_empty 21 = .ok (.aload_n 0, 1) := by decide +kernel
theorem dX4_empty_22 : decode cX4_empty 22 = .ok (.getfield 26, 3) := by decide +kernel
theorem dX4_empty_25 : decode cX4_empty 25 = .ok (.invokevirtual 64, 3) := by decide +kernel
theorem dX4_empty_28 : decode cX4_empty 28 = .ok (.aload_n 0, 1) := by decide +kernel
theorem dX4_empty_29 : decode cX4_empty 29 = .ok (.iconst (-1), 1) := by decide +kernel
theorem dX4_empty_30 : decode cX4_empty 30 = .ok (.putfield 29, 3) := by decide +kernel
theorem dX4_empty_33 : decode cX4_empty 33 = .ok (.aload_n 0, 1) := by decide +kernel
theorem dX4_empty_34 : decode cX4_empty 34 = .ok (.iconst 0, 1) := by decide +kernel
theorem dX4_empty_35 : decode cX4_empty 35 = .ok (.putfield 33, 3) := by decide +kernel
theorem dX4_empty_38 : decode cX4_empty 38 = .ok (.return_, 1) := by decide +kernel
theorem dX4_startMatch_0 : decode cX4_startMatch 0 = .ok (.aload_n 0, 1) := by decide +kernel
theorem dX4_startMatch_1 : decode cX4_startMatch 1 = .ok (.getfield 36, 3) := by decide +kernel
theorem dX4_startMatch_4 : decode cX4_startMatch 4 = .ok (.invokevirtual 64, 3) := by decide +kernel
theorem dX4_startMatch_7 : decode cX4_startMatch 7 = .ok (.iconst 0, 1) := by decide +kernel
theorem dX4_startMatch_8 : decode cX4_startMatch 8 = .ok (.istore_n 1, 1) := by decide +kernel
theorem dX4_startMatch_9 : decode cX4_startMatch 9 = .ok (.iload_n 1, 1) := by decide +kernel
theorem dX4_startMatch_10 : decode cX4_startMatch 10 = .ok (.aload_n 0, 1) := by decide +kernel
theorem dX4_startMatch_11 : decode cX4_startMatch 11 = .ok (.getfield 14, 3) := by decide +kernel
theorem dX4_startMatch_14 : decode cX4_startMatch 14 = .ok (.invokevirtual 45, 3) := by decide +kernel
theorem dX4_startMatch_17 : decode cX4_startMatch 17 = .ok (.if_icmp .ge 17, 3) := by decide +kernel
theorem dX4_startMatch_20 : decode cX4_startMatch 20 = .ok (.aload_n 0, 1) := by decide +kernel
theorem dX4_startMatch_21 : decode cX4_startMatch 21 = .ok (.getfield 36, 3) := by decide +kernel
theorem dX4_startMatch_24 : decode cX4_startMatch 24 = .ok (.iconst 0, 1) := by decide +kernel
theorem dX4_startMatch_25 : decode cX4_startMatch 25 = .ok (.invokevirtual 49, 3) := by decide +kernel
theorem dX4_startMatch_28 : decode cX4_startMatch 28 = .ok (.iinc 1 1, 3) := by decide +kernel
theorem dX4_startMatch_31 : decode cX4_startMatch 31 = .ok (.goto (-22), 3) := by decide +kernel
theorem dX4_startMatch_34 : decode cX4_startMatch 34 = .ok (.aload_n 0, 1) := by decide +kernel
theorem dX4_startMatch_35 : decode cX4_startMatch 35 = .ok (.iconst (-1), 1) := by decide +kernel
theorem dX4_startMatch_36 : decode cX4_startMatch 36 = .ok (.putfield 39, 3) := by decide +kernel
theorem dX4_startMatch_39 : decode cX4_startMatch 39 = .ok (.aload_n 0, 1) := by decide +kernel
theorem dX4_startMatch_40 : decode cX4_startMatch 40 = .ok (.aload_n 0, 1) := by decide +kernel
theorem dX4_startMatch_41 : decode cX4_startMatch 41 = .ok (.getfield 14, 3) := by decide +kernel
theorem dX4_startMatch_44 : decode cX4_startMatch 44 = .ok (.invokevirtual 45, 3) := by decide +kernel
theorem dX4_startMatch_47 : decode cX4_startMatch 47 = .ok (.ifCond .le 7, 3) := by decide +kernel
theorem dX4_startMatch_50 : decode cX4_startMatch 50 = .ok (.iconst 0, 1) := by decide +kernel
theorem dX4_startMatch_51 : decode cX4_startMatch 51 = .ok (.goto 4, 3) := by decide +kernel
theorem dX4_startMatch_54 : decode cX4_startMatch 54 = .ok (.iconst (-1), 1) := by decide +kernel
theorem dX4_startMatch_55 : decode cX4_startMatch 55 = .ok (.putfield 42, 3) := by decide +kernel
theorem dX4_startMatch_58 : decode cX4_startMatch 58 = .ok (.return_, 1) := by decide +kernel
theorem dX4_match_0 : decode cX4_match 0 = .ok (.iconst 0, 1) := by decide +kernel
theorem dX4_match_1 : decode cX4_match 1 = .ok (.istore_n 2, 1) := by decide +kernel
theorem dX4_match_2 : decode cX4_match 2 = .ok (.iload_n 2, 1) := by decide +kernel
theorem dX4_match_3 : decode cX4_match 3 = .ok (.bipush 24, 2) := by decide +kernel
theorem dX4_match_5 : decode cX4_match 5 = .ok (.if_icmp .gt 44, 3) := by decide +kernel
theorem dX4_match_8 : decode cX4_match 8 = .ok (.aload_n 0, 1) := by decide +kernel
theorem dX4_match_9 : decode cX4_match 9 = .ok (.invokevirtual 67, 3) := by decide +kernel
theorem dX4_match_12 : decode cX4_match 12 = .ok (.ifCond .ne 5, 3) := by decide +kernel
theorem dX4_match_15 : decode cX4_match 15 = .ok (.iconst 4, 1) := by decide +kernel
theorem dX4_match_16 : decode cX4_match 16 = .ok (.ireturn, 1) := by decide +kernel
theorem dX4_match_17 : decode cX4_match 17 = .ok (.aload_n 0, 1) := by decide +kernel
theorem dX4_match_18 : decode cX4_match 18 = .ok (.invokevirtual 70, 3) := by decide +kernel
theorem dX4_match_21 : decode cX4_match 21 = .ok (.iload_n 1, 1) := by decide +kernel
theorem dX4_match_22 : decode cX4_match 22 = .ok (.if_icmp .ne 8, 3) := by decide +kernel
theorem dX4_match_25 : decode cX4_match 25 = .ok (.aload_n 0, 1) := by decide +kernel
theorem dX4_match_26 : decode cX4_match 26 = .ok (.invokevirtual 73, 3) := by decide +kernel
theorem dX4_match_29 : decode cX4_match 29 = .ok (.ireturn, 1) := by decide +kernel
theorem dX4_match_30 : decode cX4_match 30 = .ok (.aload_n 0, 1) := by decide +kernel
theorem dX4_match_31 : decode cX4_match 31 = .ok (.invokevirtual 76, 3) := by decide +kernel
theorem dX4_match_34 : decode cX4_match 34 = .ok (.ifCond .eq 5, 3) := by decide +kernel
theorem dX4_match_37 : decode cX4_match 37 = .ok (.iconst 5, 1) := by decide +kernel
theorem dX4_match_38 : decode cX4_match 38 = .ok (.ireturn, 1) := by decide +kernel
theorem dX4_match_39 : decode cX4_match 39 = .ok (.aload_n 0, 1) := by decide +kernel
theorem dX4_match_40 : decode cX4_match 40 = .ok (.invokevirtual 79, 3) := by decide +kernel
theorem dX4_match_43 : decode cX4_match 43 = .ok (.iinc 2 1, 3) := by decide +kernel
theorem dX4_match_46 : decode cX4_match 46 = .ok (.goto (-44), 3) := by decide +kernel
theorem dX4_match_49 : decode cX4_match 49 = .ok (.iconst 4, 1) := by decide +kernel
theorem dX4_match_50 : decode cX4_match 50 = .ok (.ireturn, 1) := by decide +kernel
theorem dX4_endMatch_0 : decode cX4_endMatch 0 = .ok (.iconst 0, 1) := by decide +kernel
theorem dX4_endMatch_1 : decode cX4_endMatch 1 = .ok (.istore_n 1, 1) := by decide +kernel
theorem dX4_endMatch_2 : decode cX4_endMatch 2 = .ok (.iload_n 1, 1) := by decide +kernel
theorem dX4_endMatch_3 : decode cX4_endMatch 3 = .ok (.bipush 24, 2) := by decide +kernel
theorem dX4_endMatch_5 : decode cX4_endMatch 5 = .ok (.if_icmp .gt 31, 3) := by decide +kernel
theorem dX4_endMatch_8 : decode cX4_endMatch 8 = .ok (.aload_n 0, 1) := by decide +kernel
theorem dX4_endMatch_9 : decode cX4_endMatch 9 = .ok (.invokevirtual 67, 3) := by decide +kernel
theorem dX4_endMatch_12 : decode cX4_endMatch 12 = .ok (.ifCond .ne 5, 3) := by decide +kernel
theorem dX4_endMatch_15 : decode cX4_endMatch 15 = .ok (.iconst 0, 1) := by decide +kernel
theorem dX4_endMatch_16 : decode cX4_endMatch 16 = .ok (.ireturn, 1) := by decide +kernel
theorem dX4_endMatch_17 : decode cX4_endMatch 17 = .ok (.aload_n 0, 1) := by decide +kernel
theorem dX4_endMatch_18 : decode cX4_endMatch 18 = .ok (.invokevirtual 76, 3) := by decide +kernel
theorem dX4_endMatch_21 : decode cX4_endMatch 21 = .ok (.ifCond .eq 5, 3) := by decide +kernel
theorem dX4_endMatch_24 : decode cX4_endMatch 24 = .ok (.iconst 5, 1) := by decide +kernel
theorem dX4_endMatch_25 : decode cX4_endMatch 25 = .ok (.ireturn, 1) := by decide +kernel
theorem dX4_endMatch_26 : decode cX4_endMatch 26 = .ok (.aload_n 0, 1) := by decide +kernel
theorem dX4_endMatch_27 : decode cX4_endMatch 27 = .ok (.invokevirtual 79, 3) := by decide +kernel
theorem dX4_endMatch_30 : decode cX4_endMatch 30 = .ok (.iinc 1 1, 3) := by decide +kernel
theorem dX4_endMatch_33 : decode cX4_endMatch 33 = .ok (.goto (-31), 3) := by decide +kernel
theorem dX4_endMatch_36 : decode cX4_endMatch 36 = .ok (.iconst 0, 1) := by decide +kernel
theorem dX4_endMatch_37 : decode cX4_endMatch 37 = .ok (.ireturn, 1) := by decide +kernel
theorem dX4_standAtItem_0 : decode cX4_standAtItem 0 = .ok (.aload_n 0, 1) := by decide +kernel
theorem dX4_standAtItem_1 : decode cX4_standAtItem 1 = .ok (.getfield 42, 3) := by decide +kernel
theorem dX4_standAtItem_4 : decode cX4_standAtItem 4 = .ok (.iconst (-1), 1) := by decide +kernel
theorem dX4_standAtItem_5 : decode cX4_standAtItem 5 = .ok (.if_icmp .ne 34, 3) := by decide +kernel
theorem dX4_standAtItem_8 : decode cX4_standAtItem 8 = .ok (.aload_n 0, 1) := by decide +kernel
theorem dX4_standAtItem_9 : decode cX4_standAtItem 9 = .ok (.getfield 39, 3) := by decide +kernel
theorem dX4_standAtItem_12 : decode cX4_standAtItem 12 = .ok (.iconst (-1), 1) := by decide +kernel
theorem dX4_standAtItem_13 : decode cX4_standAtItem 13 = .ok (.if_icmp .eq 26, 3) := by decide +kernel
theorem dX4_standAtItem_16 : decode cX4_standAtItem 16 = .ok (.aload_n 0, 1) := by decide +kernel
theorem dX4_standAtItem_17 : decode cX4_standAtItem 17 = .ok (.aload_n 0, 1) := by decide +kernel
theorem dX4_standAtItem_18 : decode cX4_standAtItem 18 = .ok (.getfield 39, 3) := by decide +kernel
theorem dX4_standAtItem_21 : decode cX4_standAtItem 21 = .ok (.putfield 42, 3) := by decide +kernel
theorem dX4_standAtItem_24 : decode cX4_standAtItem 24 = .ok (.aload_n 0, 1) := by decide +kernel
theorem dX4_standAtItem_25 : decode cX4_standAtItem 25 = .ok (.aload_n 0, 1) := by decide +kernel
theorem dX4_standAtItem_26 : decode cX4_standAtItem 26 = .ok (.getfield 26, 3) := by decide +kernel
theorem dX4_standAtItem_29 : decode cX4_standAtItem 29 = .ok (.aload_n 0, 1) := by decide +kernel
theorem dX4_standAtItem_30 : decode cX4_standAtItem 30 = .ok (.getfield 42, 3) := by decide +kernel
theorem dX4_standAtItem_33 : decode cX4_standAtItem 33 = .ok (.invokevirtual 60, 3) := by decide +kernel
theorem dX4_standAtItem_36 : decode cX4_standAtItem 36 = .ok (.putfield 39, 3) := by decide +kernel
theorem dX4_standAtItem_39 : decode cX4_standAtItem 39 = .ok (.aload_n 0, 1) := by decide +kernel
theorem dX4_standAtItem_40 : decode cX4_standAtItem 40 = .ok (.getfield 42, 3) := by decide +kernel
theorem dX4_standAtItem_43 : decode cX4_standAtItem 43 = .ok (.iconst (-1), 1) := by decide +kernel
theorem dX4_standAtItem_44 : decode cX4_standAtItem 44 = .ok (.if_icmp .eq 7, 3) := by decide +kernel
theorem dX4_standAtItem_47 : decode cX4_standAtItem 47 = .ok (.iconst 1, 1) := by decide +kernel
theorem dX4_standAtItem_48 : decode cX4_standAtItem 48 = .ok (.goto 4, 3) := by decide +kernel
theorem dX4_standAtItem_51 : decode cX4_standAtItem 51 = .ok (.iconst 0, 1) := by decide +kernel
theorem dX4_standAtItem_52 : decode cX4_standAtItem 52 = .ok (.ireturn, 1) := by decide +kernel
theorem dX4_firstTag_0 : decode cX4_firstTag 0 = .ok (.aload_n 0, 1) := by decide +kernel
theorem dX4_firstTag_1 : decode cX4_firstTag 1 = .ok (.getfield 14, 3) := by decide +kernel
theorem dX4_firstTag_4 : decode cX4_firstTag 4 = .ok (.aload_n 0, 1) := by decide +kernel
theorem dX4_firstTag_5 : decode cX4_firstTag 5 = .ok (.getfield 42, 3) := by decide +kernel
theorem dX4_firstTag_8 : decode cX4_firstTag 8 = .ok (.invokevirtual 60, 3) := by decide +kernel
theorem dX4_firstTag_11 : decode cX4_firstTag 11 = .ok (.ifCond .eq 15, 3) := by decide +kernel
theorem dX4_firstTag_14 : decode cX4_firstTag 14 = .ok (.aload_n 0, 1) := by decide +kernel
theorem dX4_firstTag_15 : decode cX4_firstTag 15 = .ok (.getfield 14, 3) := by decide +kernel
theorem dX4_firstTag_18 : decode cX4_firstTag 18 = .ok (.aload_n 0, 1) := by decide +kernel
theorem dX4_firstTag_19 : decode cX4_firstTag 19 = .ok (.getfield 42, 3) := by decide +kernel
theorem dX4_firstTag_22 : decode cX4_firstTag 22 = .ok (.invokevirtual 60, 3) := by decide +kernel
theorem dX4_firstTag_25 : decode cX4_firstTag 25 = .ok (.ireturn, 1) := by decide +kernel
theorem dX4_firstTag_26 : decode cX4_firstTag 26 = .ok (.aload_n 0, 1) := by decide +kernel
theorem dX4_firstTag_27 : decode cX4_firstTag 27 = .ok (.getfield 26, 3) := by decide +kernel
theorem dX4_firstTag_30 : decode cX4_firstTag 30 = .ok (.aload_n 0, 1) := by decide +kernel
theorem dX4_firstTag_31 : decode cX4_firstTag 31 = .ok (.getfield 42, 3) := by decide +kernel
theorem dX4_firstTag_34 : decode cX4_firstTag 34 = .ok (.iconst 1, 1) := by decide +kernel
theorem dX4_firstTag_35 : decode cX4_firstTag 35 = .ok (.iadd, 1) := by decide +kernel
theorem dX4_firstTag_36 : decode cX4_firstTag 36 = .ok (.invokevirtual 60, 3) := by decide +kernel
theorem dX4_firstTag_39 : decode cX4_firstTag 39 = .ok (.aload_n 0, 1) := by decide +kernel
theorem dX4_firstTag_40 : decode cX4_firstTag 40 = .ok (.getfield 42, 3) := by decide +kernel
theorem dX4_firstTag_43 : decode cX4_firstTag 43 = .ok (.if_icmp .ne 19, 3) := by decide +kernel
theorem dX4_firstTag_46 : decode cX4_firstTag 46 = .ok (.aload_n 0, 1) := by decide +kernel
theorem dX4_firstTag_47 : decode cX4_firstTag 47 = .ok (.getfield 14, 3) := by decide +kernel
theorem dX4_firstTag_50 : decode cX4_firstTag 50 = .ok (.aload_n 0, 1) := by decide +kernel
theorem dX4_firstTag_51 : decode cX4_firstTag 51 = .ok (.getfield 42, 3) := by decide +kernel
theorem dX4_firstTag_54 : decode cX4_firstTag 54 = .ok (.iconst 1, 1) := by decide +kernel
theorem dX4_firstTag_55 : decode cX4_firstTag 55 = .ok (.iadd, 1) := by decide +kernel
theorem dX4_firstTag_56 : decode cX4_firstTag 56 = .ok (.invokevirtual 60, 3) := by decide +kernel
theorem dX4_firstTag_59 : decode cX4_firstTag 59 = .ok (.goto 4, 3) := by decide +kernel
theorem dX4_firstTag_62 : decode cX4_firstTag 62 = .ok (.iconst (-1), 1) := by decide +kernel
theorem dX4_firstTag_63 : decode cX4_firstTag 63 = .ok (.ireturn, 1) := by decide +kernel
theorem dX4_isMissing_0 : decode cX4_isMissing 0 = .ok (.aload_n 0, 1) := by decide +kernel
theorem dX4_isMissing_1 : decode cX4_isMissing 1 = .ok (.getfield 20, 3) := by decide +kernel
theorem dX4_isMissing_4 : decode cX4_isMissing 4 = .ok (.aload_n 0, 1) := by decide +kernel
theorem dX4_isMissing_5 : decode cX4_isMissing 5 = .ok (.getfield 42, 3) := by decide +kernel
theorem dX4_isMissing_8 : decode cX4_isMissing 8 = .ok (.invokevirtual 60, 3) := by decide +kernel
theorem dX4_isMissing_11 : decode cX4_isMissing 11 = .ok (.iconst 1, 1) := by decide +kernel
theorem dX4_isMissing_12 : decode cX4_isMissing 12 = .ok (.if_icmp .ne 21, 3) := by decide +kernel
theorem dX4_isMissing_15 : decode cX4_isMissing 15 = .ok (.aload_n 0, 1) := by decide +kernel
theorem dX4_isMissing_16 : decode cX4_isMissing 16 = .ok (.getfield 36, 3) := by decide +kernel
theorem dX4_isMissing_19 : decode cX4_isMissing 19 = .ok (.aload_n 0, 1) := by decide +kernel
theorem dX4_isMissing_20 : decode cX4_isMissing 20 = .ok (.getfield 42, 3) := by decide +kernel
theorem dX4_isMissing_23 : decode cX4_isMissing 23 = .ok (.invokevirtual 60, 3) := by decide +kernel
theorem dX4_isMissing_26 : decode cX4_isMissing 26 = .ok (.ifCond .ne 7, 3) := by decide +kernel
theorem dX4_isMissing_29 : decode cX4_isMissing 29 = .ok (.iconst 1, 1) := by decide +kernel
theorem dX4_isMissing_30 : decode cX4_isMissing 30 = .ok (.goto 4, 3) := by decide +kernel
theorem dX4_isMissing_33 : decode cX4_isMissing 33 = .ok (.iconst 0, 1) := by decide +kernel
theorem dX4_isMissing_34 : decode cX4_isMissing 34 = .ok (.ireturn, 1) := by decide +kernel
theorem dX4_takeItem_0 : decode cX4_takeItem 0 = .ok (.aload_n 0, 1) := by decide +kernel
theorem dX4_takeItem_1 : decode cX4_takeItem 1 = .ok (.getfield 36, 3) := by decide +kernel
theorem dX4_takeItem_4 : decode cX4_takeItem 4 = .ok (.aload_n 0, 1) := by decide +kernel
theorem dX4_takeItem_5 : decode cX4_takeItem 5 = .ok (.getfield 42, 3) := by decide +kernel
theorem dX4_takeItem_8 : decode cX4_takeItem 8 = .ok (.invokevirtual 60, 3) := by decide +kernel
theorem dX4_takeItem_11 : decode cX4_takeItem 11 = .ok (.aload_n 0, 1) := by decide +kernel
theorem dX4_takeItem_12 : decode cX4_takeItem 12 = .ok (.getfield 23, 3) := by decide +kernel
theorem dX4_takeItem_15 : decode cX4_takeItem 15 = .ok (.aload_n 0, 1) := by decide +kernel
theorem dX4_takeItem_16 : decode cX4_takeItem 16 = .ok (.getfield 42, 3) := by decide +kernel
theorem dX4_takeItem_19 : decode cX4_takeItem 19 = .ok (.invokevirtual 60, 3) := by decide +kernel
theorem dX4_takeItem_22 : decode cX4_takeItem 22 = .ok (.if_icmp .lt 6, 3) := by decide +kernel
theorem dX4_takeItem_25 : decode cX4_takeItem 25 = .ok (.bipush 6, 2) := by decide +kernel
theorem dX4_takeItem_27 : decode cX4_takeItem 27 = .ok (.ireturn, 1) := by decide +kernel
theorem dX4_takeItem_28 : decode cX4_takeItem 28 = .ok (.aload_n 0, 1) := by decide +kernel
theorem dX4_takeItem_29 : decode cX4_takeItem 29 = .ok (.getfield 36, 3) := by decide +kernel
theorem dX4_takeItem_32 : decode cX4_takeItem 32 = .ok (.aload_n 0, 1) := by decide +kernel
theorem dX4_takeItem_33 : decode cX4_takeItem 33 = .ok (.getfield 42, 3) := by decide +kernel
theorem dX4_takeItem_36 : decode cX4_takeItem 36 = .ok (.aload_n 0, 1) := by decide +kernel
theorem dX4_takeItem_37 : decode cX4_takeItem 37 = .ok (.getfield 36, 3) := by decide +kernel
theorem dX4_takeItem_40 : decode cX4_takeItem 40 = .ok (.aload_n 0, 1) := by decide +kernel
theorem dX4_takeItem_41 : decode cX4_takeItem 41 = .ok (.getfield 42, 3) := by decide +kernel
theorem dX4_takeItem_44 : decode cX4_takeItem 44 = .ok (.invokevirtual 60, 3) := by decide +kernel
theorem dX4_takeItem_47 : decode cX4_takeItem 47 = .ok (.iconst 1, 1) := by decide +kernel
theorem dX4_takeItem_48 : decode cX4_takeItem 48 = .ok (.iadd, 1) := by decide +kernel
theorem dX4_takeItem_49 : decode cX4_takeItem 49 = .ok (.invokevirtual 82, 3) := by decide +kernel
theorem dX4_takeItem_52 : decode cX4_takeItem 52 = .ok (.aload_n 0, 1) := by decide +kernel
theorem dX4_takeItem_53 : decode cX4_takeItem 53 = .ok (.getfield 14, 3) := by decide +kernel
theorem dX4_takeItem_56 : decode cX4_takeItem 56 = .ok (.aload_n 0, 1) := by decide +kernel
theorem dX4_takeItem_57 : decode cX4_takeItem 57 = .ok (.getfield 42, 3) := by decide +kernel
theorem dX4_takeItem_60 : decode cX4_takeItem 60 = .ok (.invokevirtual 60, 3) := by decide +kernel
theorem dX4_takeItem_63 : decode cX4_takeItem 63 = .ok (.ifCond .ne 25, 3) := by decide +kernel
theorem dX4_takeItem_66 : decode cX4_takeItem 66 = .ok (.aload_n 0, 1) := by decide +kernel
theorem dX4_takeItem_67 : decode cX4_takeItem 67 = .ok (.aload_n 0, 1) := by decide +kernel
theorem dX4_takeItem_68 : decode cX4_takeItem 68 = .ok (.getfield 42, 3) := by decide +kernel
theorem dX4_takeItem_71 : decode cX4_takeItem 71 = .ok (.putfield 39, 3) := by decide +kernel
theorem dX4_takeItem_74 : decode cX4_takeItem 74 = .ok (.aload_n 0, 1) := by decide +kernel
theorem dX4_takeItem_75 : decode cX4_takeItem 75 = .ok (.aload_n 0, 1) := by decide +kernel
theorem dX4_takeItem_76 : decode cX4_takeItem 76 = .ok (.getfield 42, 3) := by decide +kernel
theorem dX4_takeItem_79 : decode cX4_takeItem 79 = .ok (.iconst 1, 1) := by decide +kernel
theorem dX4_takeItem_80 : decode cX4_takeItem 80 = .ok (.iadd, 1) := by decide +kernel
theorem dX4_takeItem_81 : decode cX4_takeItem 81 = .ok (.putfield 42, 3) := by decide +kernel
theorem dX4_takeItem_84 : decode cX4_takeItem 84 = .ok (.aload_n 0, 1) := by decide +kernel
theorem dX4_takeItem_85 : decode cX4_takeItem 85 = .ok (.invokevirtual 79, 3) := by decide +kernel
theorem dX4_takeItem_88 : decode cX4_takeItem 88 = .ok (.iconst 0, 1) := by decide +kernel
theorem dX4_takeItem_89 : decode cX4_takeItem 89 = .ok (.ireturn, 1) := by decide +kernel
theorem dX4_goOn_0 : decode cX4_goOn 0 = .ok (.iconst (-1), 1) := by decide +kernel
theorem dX4_goOn_1 : decode cX4_goOn 1 = .ok (.istore_n 1, 1) := by decide +kernel
theorem dX4_goOn_2 : decode cX4_goOn 2 = .ok (.aload_n 0, 1) := by decide +kernel
theorem dX4_goOn_3 : decode cX4_goOn 3 = .ok (.getfield 42, 3) := by decide +kernel
theorem dX4_goOn_6 : decode cX4_goOn 6 = .ok (.iconst 1, 1) := by decide +kernel
theorem dX4_goOn_7 : decode cX4_goOn 7 = .ok (.iadd, 1) := by decide +kernel
theorem dX4_goOn_8 : decode cX4_goOn 8 = .ok (.istore_n 2, 1) := by decide +kernel
theorem dX4_goOn_9 : decode cX4_goOn 9 = .ok (.iload_n 2, 1) := by decide +kernel
theorem dX4_goOn_10 : decode cX4_goOn 10 = .ok (.aload_n 0, 1) := by decide +kernel
theorem dX4_goOn_11 : decode cX4_goOn 11 = .ok (.getfield 26, 3) := by decide +kernel
theorem dX4_goOn_14 : decode cX4_goOn 14 = .ok (.invokevirtual 45, 3) := by decide +kernel
theorem dX4_goOn_17 : decode cX4_goOn 17 = .ok (.if_icmp .ge 29, 3) := by decide +kernel
theorem dX4_goOn_20 : decode cX4_goOn 20 = .ok (.aload_n 0, 1) := by decide +kernel
theorem dX4_goOn_21 : decode cX4_goOn 21 = .ok (.getfield 26, 3) := by decide +kernel
theorem dX4_goOn_24 : decode cX4_goOn 24 = .ok (.iload_n 2, 1) := by decide +kernel
theorem dX4_goOn_25 : decode cX4_goOn 25 = .ok (.invokevirtual 60, 3) := by decide +kernel
theorem dX4_goOn_28 : decode cX4_goOn 28 = .ok (.aload_n 0, 1) := by decide +kernel
theorem dX4_goOn_29 : decode cX4_goOn 29 = .ok (.getfield 39, 3) := by decide +kernel
theorem dX4_goOn_32 : decode cX4_goOn 32 = .ok (.if_icmp .ne 8, 3) := by decide +kernel
theorem dX4_goOn_35 : decode cX4_goOn 35 = .ok (.iload_n 2, 1) := by decide +kernel
theorem dX4_goOn_36 : decode cX4_goOn 36 = .ok (.istore_n 1, 1) := by decide +kernel
theorem dX4_goOn_37 : decode cX4_goOn 37 = .ok (.goto 9, 3) := by decide +kernel
theorem dX4_goOn_40 : decode cX4_goOn 40 = .ok (.iinc 2 1, 3) := by decide +kernel
theorem dX4_goOn_43 : decode cX4_goOn 43 = .ok (.goto (-34), 3) := by decide +kernel
theorem dX4_goOn_46 : decode cX4_goOn 46 = .ok (.aload_n 0, 1) := by decide +kernel
theorem dX4_goOn_47 : decode cX4_goOn 47 = .ok (.iload_n 1, 1) := by decide +kernel
theorem dX4_goOn_48 : decode cX4_goOn 48 = .ok (.putfield 42, 3) := by decide +kernel
theorem dX4_goOn_51 : decode cX4_goOn 51 = .ok (.aload_n 0, 1) := by decide +kernel
theorem dX4_goOn_52 : decode cX4_goOn 52 = .ok (.getfield 36, 3) := by decide +kernel
theorem dX4_goOn_55 : decode cX4_goOn 55 = .ok (.aload_n 0, 1) := by decide +kernel
theorem dX4_goOn_56 : decode cX4_goOn 56 = .ok (.getfield 42, 3) := by decide +kernel
theorem dX4_goOn_59 : decode cX4_goOn 59 = .ok (.iconst 0, 1) := by decide +kernel
theorem dX4_goOn_60 : decode cX4_goOn 60 = .ok (.invokevirtual 82, 3) := by decide +kernel
theorem dX4_goOn_63 : decode cX4_goOn 63 = .ok (.return_, 1) := by decide +kernel
theorem dX5_init_0 : decode cX5_init 0 = .ok (.aload_n 0, 1) := by decide +kernel
theorem dX5_init_1 : decode cX5_init 1 = .ok (.invokespecial 3, 3) := by decide +kernel
theorem dX5_init_4 : decode cX5_init 4 = .ok (.aload_n 0, 1) := by decide +kernel
theorem dX5_init_5 : decode cX5_init 5 = .ok (.new 9, 3) := by decide +kernel
theorem dX5_init_8 : decode cX5_init 8 = .ok (.dup, 1) := by decide +kernel
theorem dX5_init_9 : decode cX5_init 9 = .ok (.sipush 400, 3) := by decide +kernel
theorem dX5_init_12 : decode cX5_init 12 = .ok (.invokespecial 11, 3) := by decide +kernel
theorem dX5_init_15 : decode cX5_init 15 = .ok (.putfield 14, 3) := by decide +kernel
theorem dX5_init_18 : decode cX5_init 18 = .ok (.aload_n 0, 1) := by decide +kernel
theorem dX5_init_19 : decode cX5_init 19 = .ok (.iconst 0, 1) := by decide +kernel
theorem dX5_init_20 : decode cX5_init 20 = .ok (.putfield 20, 3) := by decide +kernel
theorem dX5_init_23 : decode cX5_init 23 = .ok (.aload_n 0, 1) := by decide +kernel
theorem dX5_init_24 : decode cX5_init 24 = .ok (.iconst 0, 1) := by decide +kernel
theorem dX5_init_25 : decode cX5_init 25 = .ok (.putfield 24, 3) := by decide +kernel
theorem dX5_init_28 : decode cX5_init 28 = .ok (.aload_n 0, 1) := by decide +kernel
theorem dX5_init_29 : decode cX5_init 29 = .ok (.iconst 0, 1) := by decide +kernel
theorem dX5_init_30 : decode cX5_init 30 = .ok (.putfield 27, 3) := by decide +kernel
theorem dX5_init_33 : decode cX5_init 33 = .ok (.aload_n 0, 1) := by decide +kernel
theorem dX5_init_34 : decode cX5_init 34 = .ok (.iconst 0, 1) := by decide +kernel
theorem dX5_init_35 : decode cX5_init 35 = .ok (.putfield 30, 3) := by decide +kernel
theorem dX5_init_38 : decode cX5_init 38 = .ok (.aload_n 0, 1) := by decide +kernel
theorem dX5_init_39 : decode cX5_init 39 = .ok (.iconst 0, 1) := by decide +kernel
theorem dX5_init_40 : decode cX5_init 40 = .ok (.putfield 33, 3) := by decide +kernel
theorem dX5_init_43 : decode cX5_init 43 = .ok (.return_, 1) := by decide +kernel
theorem dX5_size_0 : decode cX5_size 0 = .ok (.aload_n 0, 1) := by decide +kernel
theorem dX5_size_1 : decode cX5_size 1 = .ok (.getfield 14, 3) := by decide +kernel
theorem dX5_size_4 : decode cX5_size 4 = .ok (.invokevirtual 36, 3) := by decide +kernel
theorem dX5_size_7 : decode cX5_size 7 = .ok (.ireturn, 1) := by decide +kernel
theorem dX5_add_0 : decode cX5_add 0 = .ok (.aload_n 0, 1) := by decide +kernel
theorem dX5_add_1 : decode cX5_add 1 = .ok (.getfield 14, 3) := by decide +kernel
theorem dX5_add_4 : decode cX5_add 4 = .ok (.iload_n 1, 1) := by decide +kernel
theorem dX5_add_5 : decode cX5_add 5 = .ok (.invokevirtual 40, 3) := by decide +kernel
theorem dX5_add_8 : decode cX5_add 8 = .ok (.return_, 1) := by decide +kernel
theorem dX5_empty_0 : decode cX5_empty 0 = .ok (.aload_n 0, 1) := by decide +kernel
theorem dX5_empty_1 : decode cX5_empty 1 = .ok (.getfield 14, 3) := by decide +kernel
theorem dX5_empty_4 : decode cX5_empty 4 = .ok (.invokevirtual 43, 3) := by decide +kernel
theorem dX5_empty_7 : decode cX5_empty 7 = .ok (.return_, 1) := by decide +kernel
theorem dX5_takeApart_0 : decode cX5_takeApart 0 = .ok (.aload_n 1, 1) := by decide +kernel
theorem dX5_takeApart_1 : decode cX5_takeApart 1 = .ok (.invokevirtual 46, 3) := by decide +kernel
theorem dX5_takeApart_4 : decode cX5_takeApart 4 = .ok (.aload_n 0, 1) := by decide +kernel
theorem dX5_takeApart_5 : decode cX5_takeApart 5 = .ok (.iconst 0, 1) := by decide +kernel
theorem dX5_takeApart_6 : decode cX5_takeApart 6 = .ok (.putfield 20, 3) := by decide +kernel
theorem dX5_takeApart_9 : decode cX5_takeApart 9 = .ok (.aload_n 0, 1) := by decide +kernel
theorem dX5_takeApart_10 : decode cX5_takeApart 10 = .ok (.invokevirtual 49, 3) := by decide +kernel
theorem dX5_takeApart_13 : decode cX5_takeApart 13 = .ok (.ifCond .ne 8, 3) := by decide +kernel
theorem dX5_takeApart_16 : decode cX5_takeApart 16 = .ok (.aload_n 0, 1) := by decide +kernel
theorem dX5_takeApart_17 : decode cX5_takeApart 17 = .ok (.getfield 20, 3) := by decide +kernel
theorem dX5_takeApart_20 : decode cX5_takeApart 20 = .ok (.ireturn, 1) := by decide +kernel
theorem dX5_takeApart_21 : decode cX5_takeApart 21 = .ok (.iconst 0, 1) := by decide +kernel
theorem dX5_takeApart_22 : decode cX5_takeApart 22 = .ok (.istore_n 2, 1) := by decide +kernel
theorem dX5_takeApart_23 : decode cX5_takeApart 23 = .ok (.iload_n 2, 1) := by decide +kernel
theorem dX5_takeApart_24 : decode cX5_takeApart 24 = .ok (.bipush 40, 2) := by decide +kernel
theorem dX5_takeApart_26 : decode cX5_takeApart 26 = .ok (.if_icmp .ge 40, 3) := by decide +kernel
theorem dX5_takeApart_29 : decode cX5_takeApart 29 = .ok (.iload_n 2, 1) := by decide +kernel
theorem dX5_takeApart_30 : decode cX5_takeApart 30 = .ok (.ifCond .eq 17, 3) := by decide +kernel
theorem dX5_takeApart_33 : decode cX5_takeApart 33 = .ok (.aload_n 0, 1) := by decide +kernel
theorem dX5_takeApart_34 : decode cX5_takeApart 34 = .ok (.getfield 20, 3) := by decide +kernel
theorem dX5_takeApart_37 : decode cX5_takeApart 37 = .ok (.aload_n 0, 1) := by decide +kernel
theorem dX5_takeApart_38 : decode cX5_takeApart 38 = .ok (.getfield 14, 3) := by decide +kernel
theorem dX5_takeApart_41 : decode cX5_takeApart 41 = .ok (.invokevirtual 36, 3) := by decide +kernel
theorem dX5_takeApart_44 : decode cX5_takeApart 44 = .ok (.if_icmp .ge 22, 3) := by decide +kernel
theorem dX5_takeApart_47 : decode cX5_takeApart 47 = .ok (.aload_n 0, 1) := by decide +kernel
theorem dX5_takeApart_48 : decode cX5_takeApart 48 = .ok (.aload_n 1, 1) := by decide +kernel
theorem dX5_takeApart_49 : decode cX5_takeApart 49 = .ok (.invokevirtual 53, 3) := by decide +kernel
theorem dX5_takeApart_52 : decode cX5_takeApart 52 = .ok (.ifCond .ne 8, 3) := by decide +kernel
theorem dX5_takeApart_55 : decode cX5_takeApart 55 = .ok (.aload_n 0, 1) := by decide +kernel
theorem dX5_takeApart_56 : decode cX5_takeApart 56 = .ok (.getfield 20, 3) := by decide +kernel
theorem dX5_takeApart_59 : decode cX5_takeApart 59 = .ok (.ireturn, 1) := by decide +kernel
theorem dX5_takeApart_60 : decode cX5_takeApart 60 = .ok (.iinc 2 1, 3) := by decide +kernel
theorem dX5_takeApart_63 : decode cX5_takeApart 63 = .ok (.goto (-40), 3) := by decide +kernel
theorem dX5_takeApart_66 : decode cX5_takeApart 66 = .ok (.aload_n 0, 1) := by decide +kernel
theorem dX5_takeApart_67 : decode cX5_takeApart 67 = .ok (.getfield 20, 3) := by decide +kernel
theorem dX5_takeApart_70 : decode cX5_takeApart 70 = .ok (.aload_n 0, 1) := by decide +kernel
theorem dX5_takeApart_71 : decode cX5_takeApart 71 = .ok (.getfield 14, 3) := by decide +kernel
theorem dX5_takeApart_74 : decode cX5_takeApart 74 = .ok (.invokevirtual 36, 3) := by decide +kernel
theorem dX5_takeApart_77 : decode cX5_takeApart 77 = .ok (.if_icmp .ge 8, 3) := by decide +kernel
theorem dX5_takeApart_80 : decode cX5_takeApart 80 = .ok (.aload_n 0, 1) := by decide +kernel
theorem dX5_takeApart_81 : decode cX5_takeApart 81 = .ok (.getfield 20, 3) := by decide +kernel
theorem dX5_takeApart_84 : decode cX5_takeApart 84 = .ok (.ireturn, 1) := by decide +kernel
theorem dX5_takeApart_85 : decode cX5_takeApart 85 = .ok (.aload_n 1, 1) := by decide +kernel
theorem dX5_takeApart_86 : decode cX5_takeApart 86 = .ok (.invokevirtual 57, 3) := by decide +kernel
theorem dX5_takeApart_89 : decode cX5_takeApart 89 = .ok (.iconst (-1), 1) := by decide +kernel
theorem dX5_takeApart_90 : decode cX5_takeApart 90 = .ok (.ireturn, 1) := by decide +kernel
theorem dX5_takeMarks_0 : decode cX5_takeMarks 0 = .ok (.aload_n 0, 1) := by decide +kernel
theorem dX5_takeMarks_1 : decode cX5_takeMarks 1 = .ok (.getfield 14, 3) := by decide +kernel
theorem dX5_takeMarks_4 : decode cX5_takeMarks 4 = .ok (.iconst 0, 1) := by decide +kernel
theorem dX5_takeMarks_5 : decode cX5_takeMarks 5 = .ok (.invokevirtual 60, 3) := by decide +kernel
theorem dX5_takeMarks_8 : decode cX5_takeMarks 8 = .ok (.bipush 85, 2) := by decide +kernel
theorem dX5_takeMarks_10 : decode cX5_takeMarks 10 = .ok (.if_icmp .ne 29, 3) := by decide +kernel
theorem dX5_takeMarks_13 : decode cX5_takeMarks 13 = .ok (.aload_n 0, 1) := by decide +kernel
theorem dX5_takeMarks_14 : decode cX5_takeMarks 14 = .ok (.getfield 14, 3) := by decide +kernel
theorem dX5_takeMarks_17 : decode cX5_takeMarks 17 = .ok (.iconst 1, 1) := by decide +kernel
theorem dX5_takeMarks_18 : decode cX5_takeMarks 18 = .ok (.invokevirtual 60, 3) := by decide +kernel
theorem dX5_takeMarks_21 : decode cX5_takeMarks 21 = .ok (.bipush 78, 2) := by decide +kernel
theorem dX5_takeMarks_23 : decode cX5_takeMarks 23 = .ok (.if_icmp .ne 16, 3) := by decide +kernel
theorem dX5_takeMarks_26 : decode cX5_takeMarks 26 = .ok (.aload_n 0, 1) := by decide +kernel
theorem dX5_takeMarks_27 : decode cX5_takeMarks 27 = .ok (.getfield 14, 3) := by decide +kernel
theorem dX5_takeMarks_30 : decode cX5_takeMarks 30 = .ok (.iconst 2, 1) := by decide +kernel
theorem dX5_takeMarks_31 : decode cX5_takeMarks 31 = .ok (.invokevirtual 60, 3) := by decide +kernel
theorem dX5_takeMarks_34 : decode cX5_takeMarks 34 = .ok (.bipush 65, 2) := by decide +kernel
theorem dX5_takeMarks_36 : decode cX5_takeMarks 36 = .ok (.if_icmp .eq 29, 3) := by decide +kernel
theorem dX5_takeMarks_39 : decode cX5_takeMarks 39 = .ok (.aload_n 0, 1) := by decide +kernel
theorem dX5_takeMarks_40 : decode cX5_takeMarks 40 = .ok (.bipush 58, 2) := by decide +kernel
theorem dX5_takeMarks_42 : decode cX5_takeMarks 42 = .ok (.putfield 24, 3) := by decide +kernel
theorem dX5_takeMarks_45 : decode cX5_takeMarks 45 = .ok (.aload_n 0, 1) := by decide +kernel
theorem dX5_takeMarks_46 : decode cX5_takeMarks 46 = .ok (.bipush 43, 2) := by decide +kernel
theorem dX5_takeMarks_48 : decode cX5_takeMarks 48 = .ok (.putfield 27, 3) := by decide +kernel
theorem dX5_takeMarks_51 : decode cX5_takeMarks 51 = .ok (.aload_n 0, 1) := by decide +kernel
theorem dX5_takeMarks_52 : decode cX5_takeMarks 52 = .ok (.bipush 63, 2) := by decide +kernel
theorem dX5_takeMarks_54 : decode cX5_takeMarks 54 = .ok (.putfield 30, 3) := by decide +kernel
theorem dX5_takeMarks_57 : decode cX5_takeMarks 57 = .ok (.aload_n 0, 1) := by decide +kernel
theorem dX5_takeMarks_58 : decode cX5_takeMarks 58 = .ok (.bipush 39, 2) := by decide +kernel
theorem dX5_takeMarks_60 : decode cX5_takeMarks 60 = .ok (.putfield 33, 3) := by decide +kernel
theorem dX5_takeMarks_63 : decode cX5_takeMarks 63 = .ok (.iconst 1, 1) := by decide +kernel
theorem dX5_takeMarks_64 : decode cX5_takeMarks 64 = .ok (.ireturn, 1) := by decide +kernel
theorem dX5_takeMarks_65 : decode cX5_takeMarks 65 = .ok (.aload_n 0, 1) := by decide +kernel
theorem dX5_takeMarks_66 : decode cX5_takeMarks 66 = .ok (.iconst 3, 1) := by decide +kernel
theorem dX5_takeMarks_67 : decode cX5_takeMarks 67 = .ok (.putfield 20, 3) := by decide +kernel
theorem dX5_takeMarks_70 : decode cX5_takeMarks 70 = .ok (.aload_n 0, 1) := by decide +kernel
theorem dX5_takeMarks_71 : decode cX5_takeMarks 71 = .ok (.getfield 20, 3) := by decide +kernel
theorem dX5_takeMarks_74 : decode cX5_takeMarks 74 = .ok (.bipush 9, 2) := by decide +kernel
theorem dX5_takeMarks_76 : decode cX5_takeMarks 76 = .ok (.if_icmp .ge 36, 3) := by decide +kernel
theorem dX5_takeMarks_79 : decode cX5_takeMarks 79 = .ok (.aload_n 0, 1) := by decide +kernel
theorem dX5_takeMarks_80 : decode cX5_takeMarks 80 = .ok (.aload_n 0, 1) := by decide +kernel
theorem dX5_takeMarks_81 : decode cX5_takeMarks 81 = .ok (.getfield 14, 3) := by decide +kernel
theorem dX5_takeMarks_84 : decode cX5_takeMarks 84 = .ok (.aload_n 0, 1) := by decide +kernel
theorem dX5_takeMarks_85 : decode cX5_takeMarks 85 = .ok (.getfield 20, 3) := by decide +kernel
theorem dX5_takeMarks_88 : decode cX5_takeMarks 88 = .ok (.invokevirtual 60, 3) := by decide +kernel
theorem dX5_takeMarks_91 : decode cX5_takeMarks 91 = .ok (.invokevirtual 64, 3) := by decide +kernel
theorem dX5_takeMarks_94 : decode cX5_takeMarks 94 = .ok (.ifCond .ne 5, 3) := by decide +kernel
theorem dX5_takeMarks_97 : decode cX5_takeMarks 97 = .ok (.iconst 0, 1) := by decide +kernel
theorem dX5_takeMarks_98 : decode cX5_takeMarks 98 = .ok (.ireturn, 1) := by decide +kernel
theorem dX5_takeMarks_99 : decode cX5_takeMarks 99 = .ok (.aload_n 0, 1) := by decide +kernel
theorem dX5_takeMarks_100 : decode cX5_takeMarks 100 = .ok (.dup, 1) := by decide +kernel
theorem dX5_takeMarks_101 : decode cX5_takeMarks 101 = .ok (.getfield 20, 3) := by decide +kernel
theorem dX5_takeMarks_104 : decode cX5_takeMarks 104 = .ok (.iconst 1, 1) := by decide +kernel
theorem dX5_takeMarks_105 : decode cX5_takeMarks 105 = .ok (.iadd, 1) := by decide +kernel
theorem dX5_takeMarks_106 : decode cX5_takeMarks 106 = .ok (.putfield 20, 3) := by decide +kernel
theorem dX5_takeMarks_109 : decode cX5_takeMarks 109 = .ok (.goto (-39), 3) := by decide +kernel
theorem dX5_takeMarks_112 : decode cX5_takeMarks 112 = .ok (.iconst 1, 1) := by decide +kernel
theorem dX5_takeMarks_113 : decode cX5_takeMarks 113 = .ok (.ireturn, 1) := by decide +kernel
theorem dX5_takeChoice_0 : decode cX5_takeChoice 0 = .ok (.aload_n 0, 1) := by decide +kernel
theorem dX5_takeChoice_1 : decode cX5_takeChoice 1 = .ok (.getfield 20, 3) := by decide +kernel
theorem dX5_takeChoice_4 : decode cX5_takeChoice 4 = .ok (.tableswitch 145 3 7 #[36, 46, 72, 83, 133], 36) := by decide +kernel
theorem dX5_takeChoice_40 : decode cX5_takeChoice 40 = .ok (.aload_n 0, 1) := by decide +kernel
theorem dX5_takeChoice_41 : decode cX5_takeChoice 41 = .ok (.iload_n 1, 1) := by decide +kernel
theorem dX5_takeChoice_42 : decode cX5_takeChoice 42 = .ok (.putfield 24, 3) := by decide +kernel
theorem dX5_takeChoice_45 : decode cX5_takeChoice 45 = .ok (.iload_n 1, 1) := by decide +kernel
theorem dX5_takeChoice_46 : decode cX5_takeChoice 46 = .ok (.invokestatic 68, 3) := by decide +kernel
theorem dX5_takeChoice_49 : decode cX5_takeChoice 49 = .ok (.ireturn, 1) := by decide +kernel
theorem dX5_takeChoice_50 : decode cX5_takeChoice 50 = .ok (.aload_n 0, 1) := by decide +kernel
theorem dX5_takeChoice_51 : decode cX5_takeChoice 51 = .ok (.iload_n 1, 1) := by decide +kernel
theorem dX5_takeChoice_52 : decode cX5_takeChoice 52 = .ok (.putfield 27, 3) := by decide +kernel
theorem dX5_takeChoice_55 : decode cX5_takeChoice 55 = .ok (.iload_n 1, 1) := by decide +kernel
theorem dX5_takeChoice_56 : decode cX5_takeChoice 56 = .ok (.invokestatic 68, 3) := by decide +kernel
theorem dX5_takeChoice_59 : decode cX5_takeChoice 59 = .ok (.ifCond .eq 15, 3) := by decide +kernel
theorem dX5_takeChoice_62 : decode cX5_takeChoice 62 = .ok (.iload_n 1, 1) := by decide +kernel
theorem dX5_takeChoice_63 : decode cX5_takeChoice 63 = .ok (.aload_n 0, 1) := by decide +kernel
theorem dX5_takeChoice_64 : decode cX5_takeChoice 64 = .ok (.getfield 24, 3) := by decide +kernel
theorem dX5_takeChoice_67 : decode cX5_takeChoice 67 = .ok (.if_icmp .eq 7, 3) := by decide +kernel
theorem dX5_takeChoice_70 : decode cX5_takeChoice 70 = .ok (.iconst 1, 1) := by decide +kernel
theorem dX5_takeChoice_71 : decode cX5_takeChoice 71 = .ok (.goto 4, 3) := by decide +kernel
theorem dX5_takeChoice_74 : decode cX5_takeChoice 74 = .ok (.iconst 0, 1) := by decide +kernel
theorem dX5_takeChoice_75 : decode cX5_takeChoice 75 = .ok (.ireturn, 1) := by decide +kernel
theorem dX5_takeChoice_76 : decode cX5_takeChoice 76 = .ok (.iload_n 1, 1) := by decide +kernel
theorem dX5_takeChoice_77 : decode cX5_takeChoice 77 = .ok (.iconst (-1), 1) := by decide +kernel
theorem dX5_takeChoice_78 : decode cX5_takeChoice 78 = .ok (.if_icmp .eq 7, 3) := by decide +kernel
theorem dX5_takeChoice_81 : decode cX5_takeChoice 81 = .ok (.iconst 1, 1) := by decide +kernel
theorem dX5_takeChoice_82 : decode cX5_takeChoice 82 = .ok (.goto 4, 3) := by decide +kernel
theorem dX5_takeChoice_85 : decode cX5_takeChoice 85 = .ok (.iconst 0, 1) := by decide +kernel
theorem dX5_takeChoice_86 : decode cX5_takeChoice 86 = .ok (.ireturn, 1) := by decide +kernel
theorem dX5_takeChoice_87 : decode cX5_takeChoice 87 = .ok (.aload_n 0, 1) := by decide +kernel
theorem dX5_takeChoice_88 : decode cX5_takeChoice 88 = .ok (.iload_n 1, 1) := by decide +kernel
theorem dX5_takeChoice_89 : decode cX5_takeChoice 89 = .ok (.bipush 32, 2) := by decide +kernel
theorem dX5_takeChoice_91 : decode cX5_takeChoice 91 = .ok (.if_icmp .ne 7, 3) := by decide +kernel
theorem dX5_takeChoice_94 : decode cX5_takeChoice 94 = .ok (.iconst 0, 1) := by decide +kernel
theorem dX5_takeChoice_95 : decode cX5_takeChoice 95 = .ok (.goto 4, 3) := by decide +kernel
theorem dX5_takeChoice_98 : decode cX5_takeChoice 98 = .ok (.iload_n 1, 1) := by decide +kernel
theorem dX5_takeChoice_99 : decode cX5_takeChoice 99 = .ok (.putfield 30, 3) := by decide +kernel
theorem dX5_takeChoice_102 : decode cX5_takeChoice 102 = .ok (.iload_n 1, 1) := by decide +kernel
theorem dX5_takeChoice_103 : decode cX5_takeChoice 103 = .ok (.bipush 32, 2) := by decide +kernel
theorem dX5_takeChoice_105 : decode cX5_takeChoice 105 = .ok (.if_icmp .eq 26, 3) := by decide +kernel
theorem dX5_takeChoice_108 : decode cX5_takeChoice 108 = .ok (.iload_n 1, 1) := by decide +kernel
theorem dX5_takeChoice_109 : decode cX5_takeChoice 109 = .ok (.invokestatic 68, 3) := by decide +kernel
theorem dX5_takeChoice_112 : decode cX5_takeChoice 112 = .ok (.ifCond .eq 23, 3) := by decide +kernel
theorem dX5_takeChoice_115 : decode cX5_takeChoice 115 = .ok (.iload_n 1, 1) := by decide +kernel
theorem dX5_takeChoice_116 : decode cX5_takeChoice 116 = .ok (.aload_n 0, 1) := by decide +kernel
theorem dX5_takeChoice_117 : decode cX5_takeChoice 117 = .ok (.getfield 24, 3) := by decide +kernel
theorem dX5_takeChoice_120 : decode cX5_takeChoice 120 = .ok (.if_icmp .eq 15, 3) := by decide +kernel
theorem dX5_takeChoice_123 : decode cX5_takeChoice 123 = .ok (.iload_n 1, 1) := by decide +kernel
theorem dX5_takeChoice_124 : decode cX5_takeChoice 124 = .ok (.aload_n 0, 1) := by decide +kernel
theorem dX5_takeChoice_125 : decode cX5_takeChoice 125 = .ok (.getfield 27, 3) := by decide +kernel
theorem dX5_takeChoice_128 : decode cX5_takeChoice 128 = .ok (.if_icmp .eq 7, 3) := by decide +kernel
theorem dX5_takeChoice_131 : decode cX5_takeChoice 131 = .ok (.iconst 1, 1) := by decide +kernel
theorem dX5_takeChoice_132 : decode cX5_takeChoice 132 = .ok (.goto 4, 3) := by decide +kernel
theorem dX5_takeChoice_135 : decode cX5_takeChoice 135 = .ok (.iconst 0, 1) := by decide +kernel
theorem dX5_takeChoice_136 : decode cX5_takeChoice 136 = .ok (.ireturn, 1) := by decide +kernel
theorem dX5_takeChoice_137 : decode cX5_takeChoice 137 = .ok (.iload_n 1, 1) := by decide +kernel
theorem dX5_takeChoice_138 : decode cX5_takeChoice 138 = .ok (.bipush 32, 2) := by decide +kernel
theorem dX5_takeChoice_140 : decode cX5_takeChoice 140 = .ok (.if_icmp .ne 7, 3) := by decide +kernel
theorem dX5_takeChoice_143 : decode cX5_takeChoice 143 = .ok (.iconst 1, 1) := by decide +kernel
theorem dX5_takeChoice_144 : decode cX5_takeChoice 144 = .ok (.goto 4, 3) := by decide +kernel
theorem dX5_takeChoice_147 : decode cX5_takeChoice 147 = .ok (.iconst 0, 1) := by decide +kernel
theorem dX5_takeChoice_148 : decode cX5_takeChoice 148 = .ok (.ireturn, 1) := by decide +kernel
theorem dX5_takeChoice_149 : decode cX5_takeChoice 149 = .ok (.aload_n 0, 1) := by decide +kernel
theorem dX5_takeChoice_150 : decode cX5_takeChoice 150 = .ok (.iload_n 1, 1) := by decide +kernel
theorem dX5_takeChoice_151 : decode cX5_takeChoice 151 = .ok (.putfield 33, 3) := by decide +kernel
theorem dX5_takeChoice_154 : decode cX5_takeChoice 154 = .ok (.iload_n 1, 1) := by decide +kernel
theorem dX5_takeChoice_155 : decode cX5_takeChoice 155 = .ok (.invokestatic 68, 3) := by decide +kernel
theorem dX5_takeChoice_158 : decode cX5_takeChoice 158 = .ok (.ifCond .eq 31, 3) := by decide +kernel
theorem dX5_takeChoice_161 : decode cX5_takeChoice 161 = .ok (.iload_n 1, 1) := by decide +kernel
theorem dX5_takeChoice_162 : decode cX5_takeChoice 162 = .ok (.aload_n 0, 1) := by decide +kernel
theorem dX5_takeChoice_163 : decode cX5_takeChoice 163 = .ok (.getfield 24, 3) := by decide +kernel
theorem dX5_takeChoice_166 : decode cX5_takeChoice 166 = .ok (.if_icmp .eq 23, 3) := by decide +kernel
theorem dX5_takeChoice_169 : decode cX5_takeChoice 169 = .ok (.iload_n 1, 1) := by decide +kernel
theorem dX5_takeChoice_170 : decode cX5_takeChoice 170 = .ok (.aload_n 0, 1) := by decide +kernel
theorem dX5_takeChoice_171 : decode cX5_takeChoice 171 = .ok (.getfield 27, 3) := by decide +kernel
theorem dX5_takeChoice_174 : decode cX5_takeChoice 174 = .ok (.if_icmp .eq 15, 3) := by decide +kernel
theorem dX5_takeChoice_177 : decode cX5_takeChoice 177 = .ok (.iload_n 1, 1) := by decide +kernel
theorem dX5_takeChoice_178 : decode cX5_takeChoice 178 = .ok (.aload_n 0, 1) := by decide +kernel
theorem dX5_takeChoice_179 : decode cX5_takeChoice 179 = .ok (.getfield 30, 3) := by decide +kernel
theorem dX5_takeChoice_182 : decode cX5_takeChoice 182 = .ok (.if_icmp .eq 7, 3) := by decide +kernel
theorem dX5_takeChoice_185 : decode cX5_takeChoice 185 = .ok (.iconst 1, 1) := by decide +kernel
theorem dX5_takeChoice_186 : decode cX5_takeChoice 186 = .ok (.goto 4, 3) := by decide +kernel
theorem dX5_takeChoice_189 : decode cX5_takeChoice 189 = .ok (.iconst 0, 1) := by decide +kernel
theorem dX5_takeChoice_190 : decode cX5_takeChoice 190 = .ok (.ireturn, 1) := by decide +kernel
theorem dX5_canBeMark_0 : decode cX5_canBeMark 0 = .ok (.iload_n 0, 1) := by decide +kernel
theorem dX5_canBeMark_1 : decode cX5_canBeMark 1 = .ok (.iconst (-1), 1) := by decide +kernel
theorem dX5_canBeMark_2 : decode cX5_canBeMark 2 = .ok (.if_icmp .eq 39, 3) := by decide +kernel
theorem dX5_canBeMark_5 : decode cX5_canBeMark 5 = .ok (.iload_n 0, 1) := by decide +kernel
theorem dX5_canBeMark_6 : decode cX5_canBeMark 6 = .ok (.bipush 32, 2) := by decide +kernel
theorem dX5_canBeMark_8 : decode cX5_canBeMark 8 = .ok (.if_icmp .eq 33, 3) := by decide +kernel
theorem dX5_canBeMark_11 : decode cX5_canBeMark 11 = .ok (.iload_n 0, 1) := by decide +kernel
theorem dX5_canBeMark_12 : decode cX5_canBeMark 12 = .ok (.invokestatic 71, 3) := by decide +kernel
theorem dX5_canBeMark_15 : decode cX5_canBeMark 15 = .ok (.ifCond .ne 26, 3) := by decide +kernel
theorem dX5_canBeMark_18 : decode cX5_canBeMark 18 = .ok (.iload_n 0, 1) := by decide +kernel
theorem dX5_canBeMark_19 : decode cX5_canBeMark 19 = .ok (.invokestatic 74, 3) := by decide +kernel
theorem dX5_canBeMark_22 : decode cX5_canBeMark 22 = .ok (.ifCond .ne 19, 3) := by decide +kernel
theorem dX5_canBeMark_25 : decode cX5_canBeMark 25 = .ok (.iload_n 0, 1) := by decide +kernel
theorem dX5_canBeMark_26 : decode cX5_canBeMark 26 = .ok (.bipush 97, 2) := by decide +kernel
theorem dX5_canBeMark_28 : decode cX5_canBeMark 28 = .ok (.if_icmp .lt 9, 3) := by decide +kernel
theorem dX5_canBeMark_31 : decode cX5_canBeMark 31 = .ok (.iload_n 0, 1) := by decide +kernel
theorem dX5_canBeMark_32 : decode cX5_canBeMark 32 = .ok (.bipush 122, 2) := by decide +kernel
theorem dX5_canBeMark_34 : decode cX5_canBeMark 34 = .ok (.if_icmp .le 7, 3) := by decide +kernel
theorem dX5_canBeMark_37 : decode cX5_canBeMark 37 = .ok (.iconst 1, 1) := by decide +kernel
theorem dX5_canBeMark_38 : decode cX5_canBeMark 38 = .ok (.goto 4, 3) := by decide +kernel
theorem dX5_canBeMark_41 : decode cX5_canBeMark 41 = .ok (.iconst 0, 1) := by decide +kernel
theorem dX5_canBeMark_42 : decode cX5_canBeMark 42 = .ok (.ireturn, 1) := by decide +kernel
theorem dX5_takeSegment_0 : decode cX5_takeSegment 0 = .ok (.iconst 0, 1) := by decide +kernel
theorem dX5_takeSegment_1 : decode cX5_takeSegment 1 = .ok (.istore_n 2, 1) := by decide +kernel
theorem dX5_takeSegment_2 : decode cX5_takeSegment 2 = .ok (.iconst 0, 1) := by decide +kernel
theorem dX5_takeSegment_3 : decode cX5_takeSegment 3 = .ok (.istore_n 3, 1) := by decide +kernel
theorem dX5_takeSegment_4 : decode cX5_takeSegment 4 = .ok (.iload_n 3, 1) := by decide +kernel
theorem dX5_takeSegment_5 : decode cX5_takeSegment 5 = .ok (.iconst 3, 1) := by decide +kernel
theorem dX5_takeSegment_6 : decode cX5_takeSegment 6 = .ok (.if_icmp .ge 50, 3) := by decide +kernel
theorem dX5_takeSegment_9 : decode cX5_takeSegment 9 = .ok (.aload_n 0, 1) := by decide +kernel
theorem dX5_takeSegment_10 : decode cX5_takeSegment 10 = .ok (.getfield 14, 3) := by decide +kernel
theorem dX5_takeSegment_13 : decode cX5_takeSegment 13 = .ok (.aload_n 0, 1) := by decide +kernel
theorem dX5_takeSegment_14 : decode cX5_takeSegment 14 = .ok (.getfield 20, 3) := by decide +kernel
theorem dX5_takeSegment_17 : decode cX5_takeSegment 17 = .ok (.invokevirtual 60, 3) := by decide +kernel
theorem dX5_takeSegment_20 : decode cX5_takeSegment 20 = .ok (.istore 4, 2) := by decide +kernel
theorem dX5_takeSegment_22 : decode cX5_takeSegment 22 = .ok (.iload 4, 2) := by decide +kernel
theorem dX5_takeSegment_24 : decode cX5_takeSegment 24 = .ok (.invokestatic 74, 3) := by decide +kernel
theorem dX5_takeSegment_27 : decode cX5_takeSegment 27 = .ok (.ifCond .ne 5, 3) := by decide +kernel
theorem dX5_takeSegment_30 : decode cX5_takeSegment 30 = .ok (.iconst 0, 1) := by decide +kernel
theorem dX5_takeSegment_31 : decode cX5_takeSegment 31 = .ok (.ireturn, 1) := by decide +kernel
theorem dX5_takeSegment_32 : decode cX5_takeSegment 32 = .ok (.iload_n 2, 1) := by decide +kernel
theorem dX5_takeSegment_33 : decode cX5_takeSegment 33 = .ok (.bipush 8, 2) := by decide +kernel
theorem dX5_takeSegment_35 : decode cX5_takeSegment 35 = .ok (.ishl, 1) := by decide +kernel
theorem dX5_takeSegment_36 : decode cX5_takeSegment 36 = .ok (.iload 4, 2) := by decide +kernel
theorem dX5_takeSegment_38 : decode cX5_takeSegment 38 = .ok (.ior, 1) := by decide +kernel
theorem dX5_takeSegment_39 : decode cX5_takeSegment 39 = .ok (.istore_n 2, 1) := by decide +kernel
theorem dX5_takeSegment_40 : decode cX5_takeSegment 40 = .ok (.aload_n 0, 1) := by decide +kernel
theorem dX5_takeSegment_41 : decode cX5_takeSegment 41 = .ok (.dup, 1) := by decide +kernel
theorem dX5_takeSegment_42 : decode cX5_takeSegment 42 = .ok (.getfield 20, 3) := by decide +kernel
theorem dX5_takeSegment_45 : decode cX5_takeSegment 45 = .ok (.iconst 1, 1) := by decide +kernel
theorem dX5_takeSegment_46 : decode cX5_takeSegment 46 = .ok (.iadd, 1) := by decide +kernel
theorem dX5_takeSegment_47 : decode cX5_takeSegment 47 = .ok (.putfield 20, 3) := by decide +kernel
theorem dX5_takeSegment_50 : decode cX5_takeSegment 50 = .ok (.iinc 3 1, 3) := by decide +kernel
theorem dX5_takeSegment_53 : decode cX5_takeSegment 53 = .ok (.goto (-49), 3) := by decide +kernel
theorem dX5_takeSegment_56 : decode cX5_takeSegment 56 = .ok (.aload_n 1, 1) := by decide +kernel
theorem dX5_takeSegment_57 : decode cX5_takeSegment 57 = .ok (.iload_n 2, 1) := by decide +kernel
theorem dX5_takeSegment_58 : decode cX5_takeSegment 58 = .ok (.invokevirtual 77, 3) := by decide +kernel
theorem dX5_takeSegment_61 : decode cX5_takeSegment 61 = .ok (.iconst 0, 1) := by decide +kernel
theorem dX5_takeSegment_62 : decode cX5_takeSegment 62 = .ok (.istore_n 3, 1) := by decide +kernel
theorem dX5_takeSegment_63 : decode cX5_takeSegment 63 = .ok (.iload_n 3, 1) := by decide +kernel
theorem dX5_takeSegment_64 : decode cX5_takeSegment 64 = .ok (.bipush 120, 2) := by decide +kernel
theorem dX5_takeSegment_66 : decode cX5_takeSegment 66 = .ok (.if_icmp .ge 56, 3) := by decide +kernel
theorem dX5_takeSegment_69 : decode cX5_takeSegment 69 = .ok (.aload_n 0, 1) := by decide +kernel
theorem dX5_takeSegment_70 : decode cX5_takeSegment 70 = .ok (.getfield 14, 3) := by decide +kernel
theorem dX5_takeSegment_73 : decode cX5_takeSegment 73 = .ok (.aload_n 0, 1) := by decide +kernel
theorem dX5_takeSegment_74 : decode cX5_takeSegment 74 = .ok (.getfield 20, 3) := by decide +kernel
theorem dX5_takeSegment_77 : decode cX5_takeSegment 77 = .ok (.invokevirtual 60, 3) := by decide +kernel
theorem dX5_takeSegment_80 : decode cX5_takeSegment 80 = .ok (.aload_n 0, 1) := by decide +kernel
theorem dX5_takeSegment_81 : decode cX5_takeSegment 81 = .ok (.getfield 27, 3) := by decide +kernel
theorem dX5_takeSegment_84 : decode cX5_takeSegment 84 = .ok (.if_icmp .ne 38, 3) := by decide +kernel
theorem dX5_takeSegment_87 : decode cX5_takeSegment 87 = .ok (.aload_n 1, 1) := by decide +kernel
theorem dX5_takeSegment_88 : decode cX5_takeSegment 88 = .ok (.invokevirtual 80, 3) := by decide +kernel
theorem dX5_takeSegment_91 : decode cX5_takeSegment 91 = .ok (.ifCond .eq 6, 3) := by decide +kernel
theorem dX5_takeSegment_94 : decode cX5_takeSegment 94 = .ok (.goto 28, 3) := by decide +kernel
theorem dX5_takeSegment_97 : decode cX5_takeSegment 97 = .ok (.aload_n 0, 1) := by decide +kernel
theorem dX5_takeSegment_98 : decode cX5_takeSegment 98 = .ok (.dup, 1) := by decide +kernel
theorem dX5_takeSegment_99 : decode cX5_takeSegment 99 = .ok (.getfield 20, 3) := by decide +kernel
theorem dX5_takeSegment_102 : decode cX5_takeSegment 102 = .ok (.iconst 1, 1) := by decide +kernel
theorem dX5_takeSegment_103 : decode cX5_takeSegment 103 = .ok (.iadd, 1) := by decide +kernel
theorem dX5_takeSegment_104 : decode cX5_takeSegment 104 = .ok (.putfield 20, 3) := by decide +kernel
theorem dX5_takeSegment_107 : decode cX5_takeSegment 107 = .ok (.aload_n 1, 1) := by decide +kernel
theorem dX5_takeSegment_108 : decode cX5_takeSegment 108 = .ok (.invokevirtual 83, 3) := by decide +kernel
theorem dX5_takeSegment_111 : decode cX5_takeSegment 111 = .ok (.aload_n 0, 1) := by decide +kernel
theorem dX5_takeSegment_112 : decode cX5_takeSegment 112 = .ok (.aload_n 1, 1) := by decide +kernel
theorem dX5_takeSegment_113 : decode cX5_takeSegment 113 = .ok (.invokevirtual 86, 3) := by decide +kernel
theorem dX5_takeSegment_116 : decode cX5_takeSegment 116 = .ok (.iinc 3 1, 3) := by decide +kernel
theorem dX5_takeSegment_119 : decode cX5_takeSegment 119 = .ok (.goto (-56), 3) := by decide +kernel
theorem dX5_takeSegment_122 : decode cX5_takeSegment 122 = .ok (.aload_n 0, 1) := by decide +kernel
theorem dX5_takeSegment_123 : decode cX5_takeSegment 123 = .ok (.getfield 14, 3) := by decide +kernel
theorem dX5_takeSegment_126 : decode cX5_takeSegment 126 = .ok (.aload_n 0, 1) := by decide +kernel
theorem dX5_takeSegment_127 : decode cX5_takeSegment 127 = .ok (.getfield 20, 3) := by decide +kernel
theorem dX5_takeSegment_130 : decode cX5_takeSegment 130 = .ok (.invokevirtual 60, 3) := by decide +kernel
theorem dX5_takeSegment_133 : decode cX5_takeSegment 133 = .ok (.aload_n 0, 1) := by decide +kernel
theorem dX5_takeSegment_134 : decode cX5_takeSegment 134 = .ok (.getfield 33, 3) := by decide +kernel
theorem dX5_takeSegment_137 : decode cX5_takeSegment 137 = .ok (.if_icmp .eq 5, 3) := by decide +kernel
theorem dX5_takeSegment_140 : decode cX5_takeSegment 140 = .ok (.iconst 0, 1) := by decide +kernel
theorem dX5_takeSegment_141 : decode cX5_takeSegment 141 = .ok (.ireturn, 1) := by decide +kernel
theorem dX5_takeSegment_142 : decode cX5_takeSegment 142 = .ok (.aload_n 0, 1) := by decide +kernel
theorem dX5_takeSegment_143 : decode cX5_takeSegment 143 = .ok (.dup, 1) := by decide +kernel
theorem dX5_takeSegment_144 : decode cX5_takeSegment 144 = .ok (.getfield 20, 3) := by decide +kernel
theorem dX5_takeSegment_147 : decode cX5_takeSegment 147 = .ok (.iconst 1, 1) := by decide +kernel
theorem dX5_takeSegment_148 : decode cX5_takeSegment 148 = .ok (.iadd, 1) := by decide +kernel
theorem dX5_takeSegment_149 : decode cX5_takeSegment 149 = .ok (.putfield 20, 3) := by decide +kernel
theorem dX5_takeSegment_152 : decode cX5_takeSegment 152 = .ok (.iconst 1, 1) := by decide +kernel
theorem dX5_takeSegment_153 : decode cX5_takeSegment 153 = .ok (.ireturn, 1) := by decide +kernel
theorem dX5_takeElement_0 : decode cX5_takeElement 0 = .ok (.iconst 0, 1) := by decide +kernel
theorem dX5_takeElement_1 : decode cX5_takeElement 1 = .ok (.istore_n 2, 1) := by decide +kernel
theorem dX5_takeElement_2 : decode cX5_takeElement 2 = .ok (.iload_n 2, 1) := by decide +kernel
theorem dX5_takeElement_3 : decode cX5_takeElement 3 = .ok (.bipush 120, 2) := by decide +kernel
theorem dX5_takeElement_5 : decode cX5_takeElement 5 = .ok (.if_icmp .ge 54, 3) := by decide +kernel
theorem dX5_takeElement_8 : decode cX5_takeElement 8 = .ok (.aload_n 1, 1) := by decide +kernel
theorem dX5_takeElement_9 : decode cX5_takeElement 9 = .ok (.invokevirtual 90, 3) := by decide +kernel
theorem dX5_takeElement_12 : decode cX5_takeElement 12 = .ok (.aload_n 0, 1) := by decide +kernel
theorem dX5_takeElement_13 : decode cX5_takeElement 13 = .ok (.aload_n 1, 1) := by decide +kernel
theorem dX5_takeElement_14 : decode cX5_takeElement 14 = .ok (.invokevirtual 93, 3) := by decide +kernel
theorem dX5_takeElement_17 : decode cX5_takeElement 17 = .ok (.aload_n 0, 1) := by decide +kernel
theorem dX5_takeElement_18 : decode cX5_takeElement 18 = .ok (.getfield 14, 3) := by decide +kernel
theorem dX5_takeElement_21 : decode cX5_takeElement 21 = .ok (.aload_n 0, 1) := by decide +kernel
theorem dX5_takeElement_22 : decode cX5_takeElement 22 = .ok (.getfield 20, 3) := by decide +kernel
theorem dX5_takeElement_25 : decode cX5_takeElement 25 = .ok (.invokevirtual 60, 3) := by decide +kernel
theorem dX5_takeElement_28 : decode cX5_takeElement 28 = .ok (.aload_n 0, 1) := by decide +kernel
theorem dX5_takeElement_29 : decode cX5_takeElement 29 = .ok (.getfield 24, 3) := by decide +kernel
theorem dX5_takeElement_32 : decode cX5_takeElement 32 = .ok (.if_icmp .ne 10, 3) := by decide +kernel
theorem dX5_takeElement_35 : decode cX5_takeElement 35 = .ok (.aload_n 1, 1) := by decide +kernel
theorem dX5_takeElement_36 : decode cX5_takeElement 36 = .ok (.invokevirtual 80, 3) := by decide +kernel
theorem dX5_takeElement_39 : decode cX5_takeElement 39 = .ok (.ifCond .eq 4, 3) := by decide +kernel
theorem dX5_takeElement_42 : decode cX5_takeElement 42 = .ok (.return_, 1) := by decide +kernel
theorem dX5_takeElement_43 : decode cX5_takeElement 43 = .ok (.aload_n 0, 1) := by decide +kernel
theorem dX5_takeElement_44 : decode cX5_takeElement 44 = .ok (.dup, 1) := by decide +kernel
theorem dX5_takeElement_45 : decode cX5_takeElement 45 = .ok (.getfield 20, 3) := by decide +kernel
theorem dX5_takeElement_48 : decode cX5_takeElement 48 = .ok (.iconst 1, 1) := by decide +kernel
theorem dX5_takeElement_49 : decode cX5_takeElement 49 = .ok (.iadd, 1) := by decide +kernel
theorem dX5_takeElement_50 : decode cX5_takeElement 50 = .ok (.putfield 20, 3) := by decide +kernel
theorem dX5_takeElement_53 : decode cX5_takeElement 53 = .ok (.iinc 2 1, 3) := by decide +kernel
theorem dX5_takeElement_56 : decode cX5_takeElement 56 = .ok (.goto (-54), 3) := by decide +kernel
theorem dX5_takeElement_59 : decode cX5_takeElement 59 = .ok (.return_, 1) := by decide +kernel
theorem dX5_takeComponent_0 : decode cX5_takeComponent 0 = .ok (.aload_n 0, 1) := by decide +kernel
theorem dX5_takeComponent_1 : decode cX5_takeComponent 1 = .ok (.getfield 20, 3) := by decide +kernel
theorem dX5_takeComponent_4 : decode cX5_takeComponent 4 = .ok (.aload_n 0, 1) := by decide +kernel
theorem dX5_takeComponent_5 : decode cX5_takeComponent 5 = .ok (.getfield 14, 3) := by decide +kernel
theorem dX5_takeComponent_8 : decode cX5_takeComponent 8 = .ok (.invokevirtual 36, 3) := by decide +kernel
theorem dX5_takeComponent_11 : decode cX5_takeComponent 11 = .ok (.if_icmp .ge 94, 3) := by decide +kernel
theorem dX5_takeComponent_14 : decode cX5_takeComponent 14 = .ok (.aload_n 0, 1) := by decide +kernel
theorem dX5_takeComponent_15 : decode cX5_takeComponent 15 = .ok (.getfield 14, 3) := by decide +kernel
theorem dX5_takeComponent_18 : decode cX5_takeComponent 18 = .ok (.aload_n 0, 1) := by decide +kernel
theorem dX5_takeComponent_19 : decode cX5_takeComponent 19 = .ok (.getfield 20, 3) := by decide +kernel
theorem dX5_takeComponent_22 : decode cX5_takeComponent 22 = .ok (.invokevirtual 60, 3) := by decide +kernel
theorem dX5_takeComponent_25 : decode cX5_takeComponent 25 = .ok (.istore_n 2, 1) := by decide +kernel
theorem dX5_takeComponent_26 : decode cX5_takeComponent 26 = .ok (.iload_n 2, 1) := by decide +kernel
theorem dX5_takeComponent_27 : decode cX5_takeComponent 27 = .ok (.aload_n 0, 1) := by decide +kernel
theorem dX5_takeComponent_28 : decode cX5_takeComponent 28 = .ok (.getfield 24, 3) := by decide +kernel
theorem dX5_takeComponent_31 : decode cX5_takeComponent 31 = .ok (.if_icmp .eq 19, 3) := by decide +kernel
theorem dX5_takeComponent_34 : decode cX5_takeComponent 34 = .ok (.iload_n 2, 1) := by decide +kernel
theorem dX5_takeComponent_35 : decode cX5_takeComponent 35 = .ok (.aload_n 0, 1) := by decide +kernel
theorem dX5_takeComponent_36 : decode cX5_takeComponent 36 = .ok (.getfield 27, 3) := by decide +kernel
theorem dX5_takeComponent_39 : decode cX5_takeComponent 39 = .ok (.if_icmp .eq 11, 3) := by decide +kernel
theorem dX5_takeComponent_42 : decode cX5_takeComponent 42 = .ok (.iload_n 2, 1) := by decide +kernel
theorem dX5_takeComponent_43 : decode cX5_takeComponent 43 = .ok (.aload_n 0, 1) := by decide +kernel
theorem dX5_takeComponent_44 : decode cX5_takeComponent 44 = .ok (.getfield 33, 3) := by decide +kernel
theorem dX5_takeComponent_47 : decode cX5_takeComponent 47 = .ok (.if_icmp .ne 4, 3) := by decide +kernel
theorem dX5_takeComponent_50 : decode cX5_takeComponent 50 = .ok (.return_, 1) := by decide +kernel
theorem dX5_takeComponent_51 : decode cX5_takeComponent 51 = .ok (.iload_n 2, 1) := by decide +kernel
theorem dX5_takeComponent_52 : decode cX5_takeComponent 52 = .ok (.aload_n 0, 1) := by decide +kernel
theorem dX5_takeComponent_53 : decode cX5_takeComponent 53 = .ok (.getfield 30, 3) := by decide +kernel
theorem dX5_takeComponent_56 : decode cX5_takeComponent 56 = .ok (.if_icmp .ne 25, 3) := by decide +kernel
theorem dX5_takeComponent_59 : decode cX5_takeComponent 59 = .ok (.aload_n 0, 1) := by decide +kernel
theorem dX5_takeComponent_60 : decode cX5_takeComponent 60 = .ok (.dup, 1) := by decide +kernel
theorem dX5_takeComponent_61 : decode cX5_takeComponent 61 = .ok (.getfield 20, 3) := by decide +kernel
theorem dX5_takeComponent_64 : decode cX5_takeComponent 64 = .ok (.iconst 1, 1) := by decide +kernel
theorem dX5_takeComponent_65 : decode cX5_takeComponent 65 = .ok (.iadd, 1) := by decide +kernel
theorem dX5_takeComponent_66 : decode cX5_takeComponent 66 = .ok (.putfield 20, 3) := by decide +kernel
theorem dX5_takeComponent_69 : decode cX5_takeComponent 69 = .ok (.aload_n 0, 1) := by decide +kernel
theorem dX5_takeComponent_70 : decode cX5_takeComponent 70 = .ok (.getfield 14, 3) := by decide +kernel
theorem dX5_takeComponent_73 : decode cX5_takeComponent 73 = .ok (.aload_n 0, 1) := by decide +kernel
theorem dX5_takeComponent_74 : decode cX5_takeComponent 74 = .ok (.getfield 20, 3) := by decide +kernel
theorem dX5_takeComponent_77 : decode cX5_takeComponent 77 = .ok (.invokevirtual 60, 3) := by decide +kernel
theorem dX5_takeComponent_80 : decode cX5_takeComponent 80 = .ok (.istore_n 2, 1) := by decide +kernel
theorem dX5_takeComponent_81 : decode cX5_takeComponent 81 = .ok (.iload_n 2, 1) := by decide +kernel
theorem dX5_takeComponent_82 : decode cX5_takeComponent 82 = .ok (.iconst (-1), 1) := by decide +kernel
theorem dX5_takeComponent_83 : decode cX5_takeComponent 83 = .ok (.if_icmp .ne 4, 3) := by decide +kernel
theorem dX5_takeComponent_86 : decode cX5_takeComponent 86 = .ok (.return_, 1) := by decide +kernel
theorem dX5_takeComponent_87 : decode cX5_takeComponent 87 = .ok (.aload_n 1, 1) := by decide +kernel
theorem dX5_takeComponent_88 : decode cX5_takeComponent 88 = .ok (.iload_n 2, 1) := by decide +kernel
theorem dX5_takeComponent_89 : decode cX5_takeComponent 89 = .ok (.invokevirtual 96, 3) := by decide +kernel
theorem dX5_takeComponent_92 : decode cX5_takeComponent 92 = .ok (.aload_n 0, 1) := by decide +kernel
theorem dX5_takeComponent_93 : decode cX5_takeComponent 93 = .ok (.dup, 1) := by decide +kernel
theorem dX5_takeComponent_94 : decode cX5_takeComponent 94 = .ok (.getfield 20, 3) := by decide +kernel
theorem dX5_takeComponent_97 : decode cX5_takeComponent 97 = .ok (.iconst 1, 1) := by decide +kernel
theorem dX5_takeComponent_98 : decode cX5_takeComponent 98 = .ok (.iadd, 1) := by decide +kernel
theorem dX5_takeComponent_99 : decode cX5_takeComponent 99 = .ok (.putfield 20, 3) := by decide +kernel
theorem dX5_takeComponent_102 : decode cX5_takeComponent 102 = .ok (.goto (-102), 3) := by decide +kernel
theorem dX5_takeComponent_105 : decode cX5_takeComponent 105 = .ok (.return_, 1) := by decide +kernel
theorem dX6_init_0 : decode cX6_init 0 = .ok (.aload_n 0, 1) := by decide +kernel
theorem dX6_init_1 : decode cX6_init 1 = .ok (.invokespecial 3, 3) := by decide +kernel
theorem dX6_init_4 : decode cX6_init 4 = .ok (.aload_n 0, 1) := by decide +kernel
theorem dX6_init_5 : decode cX6_init 5 = .ok (.new 9, 3) := by decide +kernel
theorem dX6_init_8 : decode cX6_init 8 = .ok (.dup, 1) := by decide +kernel
theorem dX6_init_9 : decode cX6_init 9 = .ok (.invokespecial 11, 3) := by decide +kernel
theorem dX6_init_12 : decode cX6_init 12 = .ok (.putfield 12, 3) := by decide +kernel
theorem dX6_init_15 : decode cX6_init 15 = .ok (.aload_n 0, 1) := by decide +kernel
theorem dX6_init_16 : decode cX6_init 16 = .ok (.iconst 4, 1) := by decide +kernel
theorem dX6_init_17 : decode cX6_init 17 = .ok (.anewarray 16, 3) := by decide +kernel
theorem dX6_init_20 : decode cX6_init 20 = .ok (.putfield 18, 3) := by decide +kernel
theorem dX6_init_23 : decode cX6_init 23 = .ok (.aload_n 0, 1) := by decide +kernel
theorem dX6_init_24 : decode cX6_init 24 = .ok (.new 22, 3) := by decide +kernel
theorem dX6_init_27 : decode cX6_init 27 = .ok (.dup, 1) := by decide +kernel
theorem dX6_init_28 : decode cX6_init 28 = .ok (.sipush 800, 3) := by decide +kernel
theorem dX6_init_31 : decode cX6_init 31 = .ok (.invokespecial 24, 3) := by decide +kernel
theorem dX6_init_34 : decode cX6_init 34 = .ok (.putfield 27, 3) := by decide +kernel
theorem dX6_init_37 : decode cX6_init 37 = .ok (.aload_n 0, 1) := by decide +kernel
theorem dX6_init_38 : decode cX6_init 38 = .ok (.new 22, 3) := by decide +kernel
theorem dX6_init_41 : decode cX6_init 41 = .ok (.dup, 1) := by decide +kernel
theorem dX6_init_42 : decode cX6_init 42 = .ok (.sipush 1060, 3) := by decide +kernel
theorem dX6_init_45 : decode cX6_init 45 = .ok (.invokespecial 24, 3) := by decide +kernel
theorem dX6_init_48 : decode cX6_init 48 = .ok (.putfield 31, 3) := by decide +kernel
theorem dX6_init_51 : decode cX6_init 51 = .ok (.aload_n 0, 1) := by decide +kernel
theorem dX6_init_52 : decode cX6_init 52 = .ok (.new 34, 3) := by decide +kernel
theorem dX6_init_55 : decode cX6_init 55 = .ok (.dup, 1) := by decide +kernel
theorem dX6_init_56 : decode cX6_init 56 = .ok (.invokespecial 36, 3) := by decide +kernel
theorem dX6_init_59 : decode cX6_init 59 = .ok (.putfield 37, 3) := by decide +kernel
theorem dX6_init_62 : decode cX6_init 62 = .ok (.aload_n 0, 1) := by decide +kernel
theorem dX6_init_63 : decode cX6_init 63 = .ok (.new 34, 3) := by decide +kernel
theorem dX6_init_66 : decode cX6_init 66 = .ok (.dup, 1) := by decide +kernel
theorem dX6_init_67 : decode cX6_init 67 = .ok (.invokespecial 36, 3) := by decide +kernel
theorem dX6_init_70 : decode cX6_init 70 = .ok (.putfield 41, 3) := by decide +kernel
theorem dX6_init_73 : decode cX6_init 73 = .ok (.aload_n 0, 1) := by decide +kernel
theorem dX6_init_74 : decode cX6_init 74 = .ok (.iconst 0, 1) := by decide +kernel
theorem dX6_init_75 : decode cX6_init 75 = .ok (.putfield 44, 3) := by decide +kernel
theorem dX6_init_78 : decode cX6_init 78 = .ok (.aload_n 0, 1) := by decide +kernel
theorem dX6_init_79 : decode cX6_init 79 = .ok (.iconst (-1), 1) := by decide +kernel
theorem dX6_init_80 : decode cX6_init 80 = .ok (.putfield 48, 3) := by decide +kernel
theorem dX6_init_83 : decode cX6_init 83 = .ok (.iconst 0, 1) := by decide +kernel
theorem dX6_init_84 : decode cX6_init 84 = .ok (.istore_n 1, 1) := by decide +kernel
theorem dX6_init_85 : decode cX6_init 85 = .ok (.iload_n 1, 1) := by decide +kernel
theorem dX6_init_86 : decode cX6_init 86 = .ok (.aload_n 0, 1) := by decide +kernel
theorem dX6_init_87 : decode cX6_init 87 = .ok (.getfield 18, 3) := by decide +kernel
theorem dX6_init_90 : decode cX6_init 90 = .ok (.arraylength, 1) := by decide +kernel
theorem dX6_init_91 : decode cX6_init 91 = .ok (.if_icmp .ge 22, 3) := by decide +kernel
theorem dX6_init_94 : decode cX6_init 94 = .ok (.aload_n 0, 1) := by decide +kernel
theorem dX6_init_95 : decode cX6_init 95 = .ok (.getfield 18, 3) := by decide +kernel
theorem dX6_init_98 : decode cX6_init 98 = .ok (.iload_n 1, 1) := by decide +kernel
theorem dX6_init_99 : decode cX6_init 99 = .ok (.new 16, 3) := by decide +kernel
theorem dX6_init_102 : decode cX6_init 102 = .ok (.dup, 1) := by decide +kernel
theorem dX6_init_103 : decode cX6_init 103 = .ok (.invokespecial 52, 3) := by decide +kernel
theorem dX6_init_106 : decode cX6_init 106 = .ok (.aastore, 1) := by decide +kernel
theorem dX6_init_107 : decode cX6_init 107 = .ok (.iinc 1 1, 3) := by decide +kernel
theorem dX6_init_110 : decode cX6_init 110 = .ok (.goto (-25), 3) := by decide +kernel
theorem dX6_init_113 : decode cX6_init 113 = .ok (.return_, 1) := by decide +kernel
theorem dX6_type_0 : decode cX6_type 0 = .ok (.iconst 0, 1) := by decide +kernel
theorem dX6_type_1 : decode cX6_type 1 = .ok (.istore_n 3, 1) := by decide +kernel
theorem dX6_type_2 : decode cX6_type 2 = .ok (.bipush 56, 2) := by decide +kernel
theorem dX6_type_4 : decode cX6_type 4 = .ok (.istore 4, 2) := by decide +kernel
theorem dX6_type_6 : decode cX6_type 6 = .ok (.iload 4, 2) := by decide +kernel
theorem dX6_type_8 : decode cX6_type 8 = .ok (.ifCond .lt 41, 3) := by decide +kernel
theorem dX6_type_11 : decode cX6_type 11 = .ok (.lload_n 1, 1) := by decide +kernel
theorem dX6_type_12 : decode cX6_type 12 = .ok (.iload 4, 2) := by decide +kernel
theorem dX6_type_14 : decode cX6_type 14 = .ok (.invokestatic 53, 3) := by decide +kernel
theorem dX6_type_17 : decode cX6_type 17 = .ok (.istore 5, 2) := by decide +kernel
theorem dX6_type_19 : decode cX6_type 19 = .ok (.iload 5, 2) := by decide +kernel
theorem dX6_type_21 : decode cX6_type 21 = .ok (.ifCond .eq 22, 3) := by decide +kernel
theorem dX6_type_24 : decode cX6_type 24 = .ok (.iload 5, 2) := by decide +kernel
theorem dX6_type_26 : decode cX6_type 26 = .ok (.bipush 32, 2) := by decide +kernel
theorem dX6_type_28 : decode cX6_type 28 = .ok (.if_icmp .lt 10, 3) := by decide +kernel
theorem dX6_type_31 : decode cX6_type 31 = .ok (.iload 5, 2) := by decide +kernel
theorem dX6_type_33 : decode cX6_type 33 = .ok (.bipush 126, 2) := by decide +kernel
theorem dX6_type_35 : decode cX6_type 35 = .ok (.if_icmp .le 5, 3) := by decide +kernel
theorem dX6_type_38 : decode cX6_type 38 = .ok (.iconst 0, 1) := by decide +kernel
theorem dX6_type_39 : decode cX6_type 39 = .ok (.ireturn, 1) := by decide +kernel
theorem dX6_type_40 : decode cX6_type 40 = .ok (.iinc 3 1, 3) := by decide +kernel
theorem dX6_type_43 : decode cX6_type 43 = .ok (.iinc 4 (-8), 3) := by decide +kernel
theorem dX6_type_46 : decode cX6_type 46 = .ok (.goto (-40), 3) := by decide +kernel
theorem dX6_type_49 : decode cX6_type 49 = .ok (.aload_n 0, 1) := by decide +kernel
theorem dX6_type_50 : decode cX6_type 50 = .ok (.getfield 12, 3) := by decide +kernel
theorem dX6_type_53 : decode cX6_type 53 = .ok (.invokevirtual 57, 3) := by decide +kernel
theorem dX6_type_56 : decode cX6_type 56 = .ok (.iload_n 3, 1) := by decide +kernel
theorem dX6_type_57 : decode cX6_type 57 = .ok (.iadd, 1) := by decide +kernel
theorem dX6_type_58 : decode cX6_type 58 = .ok (.sipush 400, 3) := by decide +kernel
theorem dX6_type_61 : decode cX6_type 61 = .ok (.if_icmp .le 5, 3) := by decide +kernel
theorem dX6_type_64 : decode cX6_type 64 = .ok (.iconst 0, 1) := by decide +kernel
theorem dX6_type_65 : decode cX6_type 65 = .ok (.ireturn, 1) := by decide +kernel
theorem dX6_type_66 : decode cX6_type 66 = .ok (.bipush 56, 2) := by decide +kernel
theorem dX6_type_68 : decode cX6_type 68 = .ok (.istore 4, 2) := by decide +kernel
theorem dX6_type_70 : decode cX6_type 70 = .ok (.iload 4, 2) := by decide +kernel
theorem dX6_type_72 : decode cX6_type 72 = .ok (.ifCond .lt 31, 3) := by decide +kernel
theorem dX6_type_75 : decode cX6_type 75 = .ok (.lload_n 1, 1) := by decide +kernel
theorem dX6_type_76 : decode cX6_type 76 = .ok (.iload 4, 2) := by decide +kernel
theorem dX6_type_78 : decode cX6_type 78 = .ok (.invokestatic 53, 3) := by decide +kernel
theorem dX6_type_81 : decode cX6_type 81 = .ok (.istore 5, 2) := by decide +kernel
theorem dX6_type_83 : decode cX6_type 83 = .ok (.iload 5, 2) := by decide +kernel
theorem dX6_type_85 : decode cX6_type 85 = .ok (.ifCond .eq 12, 3) := by decide +kernel
theorem dX6_type_88 : decode cX6_type 88 = .ok (.aload_n 0, 1) := by decide +kernel
theorem dX6_type_89 : decode cX6_type 89 = .ok (.getfield 12, 3) := by decide +kernel
theorem dX6_type_92 : decode cX6_type 92 = .ok (.iload 5, 2) := by decide +kernel
theorem dX6_type_94 : decode cX6_type 94 = .ok (.invokevirtual 61, 3) := by decide +kernel
theorem dX6_type_97 : decode cX6_type 97 = .ok (.iinc 4 (-8), 3) := by decide +kernel
theorem dX6_type_100 : decode cX6_type 100 = .ok (.goto (-30), 3) := by decide +kernel
theorem dX6_type_103 : decode cX6_type 103 = .ok (.iconst 1, 1) := by decide +kernel
theorem dX6_type_104 : decode cX6_type 104 = .ok (.ireturn, 1) := by decide +kernel
theorem dX6_wipe_0 : decode cX6_wipe 0 = .ok (.aload_n 0, 1) := by decide +kernel
theorem dX6_wipe_1 : decode cX6_wipe 1 = .ok (.getfield 12, 3) := by decide +kernel
theorem dX6_wipe_4 : decode cX6_wipe 4 = .ok (.invokevirtual 64, 3) := by decide +kernel
theorem dX6_wipe_7 : decode cX6_wipe 7 = .ok (.return_, 1) := by decide +kernel
theorem dX6_length_0 : decode cX6_length 0 = .ok (.aload_n 0, 1) := by decide +kernel
theorem dX6_length_1 : decode cX6_length 1 = .ok (.getfield 12, 3) := by decide +kernel
theorem dX6_length_4 : decode cX6_length 4 = .ok (.invokevirtual 57, 3) := by decide +kernel
theorem dX6_length_7 : decode cX6_length 7 = .ok (.ireturn, 1) := by decide +kernel
theorem dX6_slot_0 : decode cX6_slot 0 = .ok (.aload_n 0, 1) := by decide +kernel
theorem dX6_slot_1 : decode cX6_slot 1 = .ok (.iload_n 1, 1) := by decide +kernel
theorem dX6_slot_2 : decode cX6_slot 2 = .ok (.invokevirtual 67, 3) := by decide +kernel
theorem dX6_slot_5 : decode cX6_slot 5 = .ok (.astore 5, 2) := by decide +kernel
theorem dX6_slot_7 : decode cX6_slot 7 = .ok (.aload 5, 2) := by decide +kernel
theorem dX6_slot_9 : decode cX6_slot 9 = .ok (.ifnull 25, 3) := by decide +kernel
theorem dX6_slot_12 : decode cX6_slot 12 = .ok (.iload_n 2, 1) := by decide +kernel
theorem dX6_slot_13 : decode cX6_slot 13 = .ok (.invokestatic 71, 3) := by decide +kernel
theorem dX6_slot_16 : decode cX6_slot 16 = .ok (.ifCond .eq 18, 3) := by decide +kernel
theorem dX6_slot_19 : decode cX6_slot 19 = .ok (.iload_n 2, 1) := by decide +kernel
theorem dX6_slot_20 : decode cX6_slot 20 = .ok (.invokestatic 75, 3) := by decide +kernel
theorem dX6_slot_23 : decode cX6_slot 23 = .ok (.ifCond .ne 11, 3) := by decide +kernel
theorem dX6_slot_26 : decode cX6_slot 26 = .ok (.iload 4, 2) := by decide +kernel
theorem dX6_slot_28 : decode cX6_slot 28 = .ok (.invokestatic 78, 3) := by decide +kernel
theorem dX6_slot_31 : decode cX6_slot 31 = .ok (.ifCond .ne 13, 3) := by decide +kernel
theorem dX6_slot_34 : decode cX6_slot 34 = .ok (.new 81, 3) := by decide +kernel
theorem dX6_slot_37 : decode cX6_slot 37 = .ok (.dup, 1) := by decide +kernel
theorem dX6_slot_38 : decode cX6_slot 38 = .ok (.ldc 83, 2) := by decide +kernel
theorem dX6_slot_40 : decode cX6_slot 40 = .ok (.invokespecial 85, 3) := by decide +kernel
theorem dX6_slot_43 : decode cX6_slot 43 = .ok (.athrow, 1) := by decide +kernel
theorem dX6_slot_44 : decode cX6_slot 44 = .ok (.aload 5, 2) := by decide +kernel
theorem dX6_slot_46 : decode cX6_slot 46 = .ok (.invokevirtual 88, 3) := by decide +kernel
theorem dX6_slot_49 : decode cX6_slot 49 = .ok (.ifCond .ne 21, 3) := by decide +kernel
theorem dX6_slot_52 : decode cX6_slot 52 = .ok (.aload 5, 2) := by decide +kernel
theorem dX6_slot_54 : decode cX6_slot 54 = .ok (.invokevirtual 92, 3) := by decide +kernel
theorem dX6_slot_57 : decode cX6_slot 57 = .ok (.ifCond .eq 23, 3) := by decide +kernel
theorem dX6_slot_60 : decode cX6_slot 60 = .ok (.iload_n 3, 1) := by decide +kernel
theorem dX6_slot_61 : decode cX6_slot 61 = .ok (.ifCond .eq 9, 3) := by decide +kernel
theorem dX6_slot_64 : decode cX6_slot 64 = .ok (.iload 4, 2) := by decide +kernel
theorem dX6_slot_66 : decode cX6_slot 66 = .ok (.iconst 1, 1) := by decide +kernel
theorem dX6_slot_67 : decode cX6_slot 67 = .ok (.if_icmp .eq 13, 3) := by decide +kernel
theorem dX6_slot_70 : decode cX6_slot 70 = .ok (.new 95, 3) := by decide +kernel
theorem dX6_slot_73 : decode cX6_slot 73 = .ok (.dup, 1) := by decide +kernel
theorem dX6_slot_74 : decode cX6_slot 74 = .ok (.ldc 97, 2) := by decide +kernel
theorem dX6_slot_76 : decode cX6_slot 76 = .ok (.invokespecial 99, 3) := by decide +kernel
theorem dX6_slot_79 : decode cX6_slot 79 = .ok (.athrow, 1) := by decide +kernel
theorem dX6_slot_80 : decode cX6_slot 80 = .ok (.aload 5, 2) := by decide +kernel
theorem dX6_slot_82 : decode cX6_slot 82 = .ok (.iload_n 2, 1) := by decide +kernel
theorem dX6_slot_83 : decode cX6_slot 83 = .ok (.iload_n 3, 1) := by decide +kernel
theorem dX6_slot_84 : decode cX6_slot 84 = .ok (.iload 4, 2) := by decide +kernel
theorem dX6_slot_86 : decode cX6_slot 86 = .ok (.invokevirtual 100, 3) := by decide +kernel
theorem dX6_slot_89 : decode cX6_slot 89 = .ok (.ireturn, 1) := by decide +kernel
theorem dX6_open_0 : decode cX6_open 0 = .ok (.aload_n 0, 1) := by decide +kernel
theorem dX6_open_1 : decode cX6_open 1 = .ok (.iload_n 1, 1) := by decide +kernel
theorem dX6_open_2 : decode cX6_open 2 = .ok (.invokevirtual 67, 3) := by decide +kernel
theorem dX6_open_5 : decode cX6_open 5 = .ok (.astore 4, 2) := by decide +kernel
theorem dX6_open_7 : decode cX6_open 7 = .ok (.aload 4, 2) := by decide +kernel
theorem dX6_open_9 : decode cX6_open 9 = .ok (.ifnull 10, 3) := by decide +kernel
theorem dX6_open_12 : decode cX6_open 12 = .ok (.iload_n 3, 1) := by decide +kernel
theorem dX6_open_13 : decode cX6_open 13 = .ok (.invokestatic 78, 3) := by decide +kernel
theorem dX6_open_16 : decode cX6_open 16 = .ok (.ifCond .ne 13, 3) := by decide +kernel
theorem dX6_open_19 : decode cX6_open 19 = .ok (.new 81, 3) := by decide +kernel
theorem dX6_open_22 : decode cX6_open 22 = .ok (.dup, 1) := by decide +kernel
theorem dX6_open_23 : decode cX6_open 23 = .ok (.ldc 104, 2) := by decide +kernel
theorem dX6_open_25 : decode cX6_open 25 = .ok (.invokespecial 85, 3) := by decide +kernel
theorem dX6_open_28 : decode cX6_open 28 = .ok (.athrow, 1) := by decide +kernel
theorem dX6_open_29 : decode cX6_open 29 = .ok (.aload 4, 2) := by decide +kernel
theorem dX6_open_31 : decode cX6_open 31 = .ok (.invokevirtual 88, 3) := by decide +kernel
theorem dX6_open_34 : decode cX6_open 34 = .ok (.ifCond .ne 19, 3) := by decide +kernel
theorem dX6_open_37 : decode cX6_open 37 = .ok (.aload 4, 2) := by decide +kernel
theorem dX6_open_39 : decode cX6_open 39 = .ok (.invokevirtual 106, 3) := by decide +kernel
theorem dX6_open_42 : decode cX6_open 42 = .ok (.ifCond .ne 11, 3) := by decide +kernel
theorem dX6_open_45 : decode cX6_open 45 = .ok (.aload 4, 2) := by decide +kernel
theorem dX6_open_47 : decode cX6_open 47 = .ok (.invokevirtual 92, 3) := by decide +kernel
theorem dX6_open_50 : decode cX6_open 50 = .ok (.ifCond .eq 13, 3) := by decide +kernel
theorem dX6_open_53 : decode cX6_open 53 = .ok (.new 95, 3) := by decide +kernel
theorem dX6_open_56 : decode cX6_open 56 = .ok (.dup, 1) := by decide +kernel
theorem dX6_open_57 : decode cX6_open 57 = .ok (.ldc 109, 2) := by decide +kernel
theorem dX6_open_59 : decode cX6_open 59 = .ok (.invokespecial 99, 3) := by decide +kernel
theorem dX6_open_62 : decode cX6_open 62 = .ok (.athrow, 1) := by decide +kernel
theorem dX6_open_63 : decode cX6_open 63 = .ok (.aload 4, 2) := by decide +kernel
theorem dX6_open_65 : decode cX6_open 65 = .ok (.iload_n 2, 1) := by decide +kernel
theorem dX6_open_66 : decode cX6_open 66 = .ok (.iload_n 3, 1) := by decide +kernel
theorem dX6_open_67 : decode cX6_open 67 = .ok (.invokevirtual 111, 3) := by decide +kernel
theorem dX6_open_70 : decode cX6_open 70 = .ok (.ireturn, 1) := by decide +kernel
theorem dX6_close_0 : decode cX6_close 0 = .ok (.aload_n 0, 1) := by decide +kernel
theorem dX6_close_1 : decode cX6_close 1 = .ok (.iload_n 1, 1) := by decide +kernel
theorem dX6_close_2 : decode cX6_close 2 = .ok (.invokevirtual 67, 3) := by decide +kernel
theorem dX6_close_5 : decode cX6_close 5 = .ok (.astore_n 2, 1) := by decide +kernel
theorem dX6_close_6 : decode cX6_close 6 = .ok (.aload_n 2, 1) := by decide +kernel
theorem dX6_close_7 : decode cX6_close 7 = .ok (.ifnonnull 13, 3) := by decide +kernel
theorem dX6_close_10 : decode cX6_close 10 = .ok (.new 81, 3) := by decide +kernel
theorem dX6_close_13 : decode cX6_close 13 = .ok (.dup, 1) := by decide +kernel
theorem dX6_close_14 : decode cX6_close 14 = .ok (.ldc 115, 2) := by decide +kernel
theorem dX6_close_16 : decode cX6_close 16 = .ok (.invokespecial 85, 3) := by decide +kernel
theorem dX6_close_19 : decode cX6_close 19 = .ok (.athrow, 1) := by decide +kernel
theorem dX6_close_20 : decode cX6_close 20 = .ok (.aload_n 2, 1) := by decide +kernel
theorem dX6_close_21 : decode cX6_close 21 = .ok (.invokevirtual 117, 3) := by decide +kernel
theorem dX6_close_24 : decode cX6_close 24 = .ok (.ireturn, 1) := by decide +kernel
theorem dX6_clear_0 : decode cX6_clear 0 = .ok (.aload_n 0, 1) := by decide +kernel
theorem dX6_clear_1 : decode cX6_clear 1 = .ok (.iload_n 1, 1) := by decide +kernel
theorem dX6_clear_2 : decode cX6_clear 2 = .ok (.invokevirtual 67, 3) := by decide +kernel
theorem dX6_clear_5 : decode cX6_clear 5 = .ok (.astore_n 2, 1) := by decide +kernel
theorem dX6_clear_6 : decode cX6_clear 6 = .ok (.aload_n 2, 1) := by decide +kernel
theorem dX6_clear_7 : decode cX6_clear 7 = .ok (.ifnonnull 13, 3) := by decide +kernel
theorem dX6_clear_10 : decode cX6_clear 10 = .ok (.new 81, 3) := by decide +kernel
theorem dX6_clear_13 : decode cX6_clear 13 = .ok (.dup, 1) := by decide +kernel
theorem dX6_clear_14 : decode cX6_clear 14 = .ok (.ldc 115, 2) := by decide +kernel
theorem dX6_clear_16 : decode cX6_clear 16 = .ok (.invokespecial 85, 3) := by decide +kernel
theorem dX6_clear_19 : decode cX6_clear 19 = .ok (.athrow, 1) := by decide +kernel
theorem dX6_clear_20 : decode cX6_clear 20 = .ok (.aload_n 2, 1) := by decide +kernel
theorem dX6_clear_21 : decode cX6_clear 21 = .ok (.invokevirtual 120, 3) := by decide +kernel
theorem dX6_clear_24 : decode cX6_clear 24 = .ok (.ifCond .eq 5, 3) := by decide +kernel
theorem dX6_clear_27 : decode cX6_clear 27 = .ok (.iconst 0, 1) := by decide +kernel
theorem dX6_clear_28 : decode cX6_clear 28 = .ok (.ireturn, 1) := by decide +kernel
theorem dX6_clear_29 : decode cX6_clear 29 = .ok (.aload_n 2, 1) := by decide +kernel
theorem dX6_clear_30 : decode cX6_clear 30 = .ok (.invokevirtual 123, 3) := by decide +kernel
theorem dX6_clear_33 : decode cX6_clear 33 = .ok (.iconst 1, 1) := by decide +kernel
theorem dX6_clear_34 : decode cX6_clear 34 = .ok (.ireturn, 1) := by decide +kernel
theorem dX6_read_0 : decode cX6_read 0 = .ok (.aload_n 0, 1) := by decide +kernel
theorem dX6_read_1 : decode cX6_read 1 = .ok (.aload_n 0, 1) := by decide +kernel
theorem dX6_read_2 : decode cX6_read 2 = .ok (.getfield 12, 3) := by decide +kernel
theorem dX6_read_5 : decode cX6_read 5 = .ok (.aload_n 0, 1) := by decide +kernel
theorem dX6_read_6 : decode cX6_read 6 = .ok (.getfield 41, 3) := by decide +kernel
theorem dX6_read_9 : decode cX6_read 9 = .ok (.getfield 124, 3) := by decide +kernel
theorem dX6_read_12 : decode cX6_read 12 = .ok (.invokevirtual 128, 3) := by decide +kernel
theorem dX6_read_15 : decode cX6_read 15 = .ok (.putfield 48, 3) := by decide +kernel
theorem dX6_read_18 : decode cX6_read 18 = .ok (.aload_n 0, 1) := by decide +kernel
theorem dX6_read_19 : decode cX6_read 19 = .ok (.getfield 48, 3) := by decide +kernel
theorem dX6_read_22 : decode cX6_read 22 = .ok (.iconst (-1), 1) := by decide +kernel
theorem dX6_read_23 : decode cX6_read 23 = .ok (.if_icmp .eq 13, 3) := by decide +kernel
theorem dX6_read_26 : decode cX6_read 26 = .ok (.new 81, 3) := by decide +kernel
theorem dX6_read_29 : decode cX6_read 29 = .ok (.dup, 1) := by decide +kernel
theorem dX6_read_30 : decode cX6_read 30 = .ok (.ldc 132, 2) := by decide +kernel
theorem dX6_read_32 : decode cX6_read 32 = .ok (.invokespecial 85, 3) := by decide +kernel
theorem dX6_read_35 : decode cX6_read 35 = .ok (.athrow, 1) := by decide +kernel
theorem dX6_read_36 : decode cX6_read 36 = .ok (.aload_n 0, 1) := by decide +kernel
theorem dX6_read_37 : decode cX6_read 37 = .ok (.getfield 41, 3) := by decide +kernel
theorem dX6_read_40 : decode cX6_read 40 = .ok (.invokevirtual 134, 3) := by decide +kernel
theorem dX6_read_43 : decode cX6_read 43 = .ok (.ifCond .ne 13, 3) := by decide +kernel
theorem dX6_read_46 : decode cX6_read 46 = .ok (.new 137, 3) := by decide +kernel
theorem dX6_read_49 : decode cX6_read 49 = .ok (.dup, 1) := by decide +kernel
theorem dX6_read_50 : decode cX6_read 50 = .ok (.ldc 139, 2) := by decide +kernel
theorem dX6_read_52 : decode cX6_read 52 = .ok (.invokespecial 141, 3) := by decide +kernel
theorem dX6_read_55 : decode cX6_read 55 = .ok (.athrow, 1) := by decide +kernel
theorem dX6_read_56 : decode cX6_read 56 = .ok (.aload_n 0, 1) := by decide +kernel
theorem dX6_read_57 : decode cX6_read 57 = .ok (.getfield 41, 3) := by decide +kernel
theorem dX6_read_60 : decode cX6_read 60 = .ok (.invokevirtual 142, 3) := by decide +kernel
theorem dX6_read_63 : decode cX6_read 63 = .ok (.iconst 0, 1) := by decide +kernel
theorem dX6_read_64 : decode cX6_read 64 = .ok (.istore_n 1, 1) := by decide +kernel
theorem dX6_read_65 : decode cX6_read 65 = .ok (.iload_n 1, 1) := by decide +kernel
theorem dX6_read_66 : decode cX6_read 66 = .ok (.aload_n 0, 1) := by decide +kernel
theorem dX6_read_67 : decode cX6_read 67 = .ok (.getfield 41, 3) := by decide +kernel
theorem dX6_read_70 : decode cX6_read 70 = .ok (.invokevirtual 145, 3) := by decide +kernel
theorem dX6_read_73 : decode cX6_read 73 = .ok (.if_icmp .ge 29, 3) := by decide +kernel
theorem dX6_read_76 : decode cX6_read 76 = .ok (.aload_n 0, 1) := by decide +kernel
theorem dX6_read_77 : decode cX6_read 77 = .ok (.getfield 41, 3) := by decide +kernel
theorem dX6_read_80 : decode cX6_read 80 = .ok (.iload_n 1, 1) := by decide +kernel
theorem dX6_read_81 : decode cX6_read 81 = .ok (.aload_n 0, 1) := by decide +kernel
theorem dX6_read_82 : decode cX6_read 82 = .ok (.aload_n 0, 1) := by decide +kernel
theorem dX6_read_83 : decode cX6_read 83 = .ok (.getfield 41, 3) := by decide +kernel
theorem dX6_read_86 : decode cX6_read 86 = .ok (.iload_n 1, 1) := by decide +kernel
theorem dX6_read_87 : decode cX6_read 87 = .ok (.invokevirtual 148, 3) := by decide +kernel
theorem dX6_read_90 : decode cX6_read 90 = .ok (.invokevirtual 67, 3) := by decide +kernel
theorem dX6_read_93 : decode cX6_read 93 = .ok (.invokevirtual 152, 3) := by decide +kernel
theorem dX6_read_96 : decode cX6_read 96 = .ok (.iinc 1 1, 3) := by decide +kernel
theorem dX6_read_99 : decode cX6_read 99 = .ok (.goto (-34), 3) := by decide +kernel
theorem dX6_read_102 : decode cX6_read 102 = .ok (.aload_n 0, 1) := by decide +kernel
theorem dX6_read_103 : decode cX6_read 103 = .ok (.getfield 37, 3) := by decide +kernel
theorem dX6_read_106 : decode cX6_read 106 = .ok (.astore_n 1, 1) := by decide +kernel
theorem dX6_read_107 : decode cX6_read 107 = .ok (.aload_n 0, 1) := by decide +kernel
theorem dX6_read_108 : decode cX6_read 108 = .ok (.aload_n 0, 1) := by decide +kernel
theorem dX6_read_109 : decode cX6_read 109 = .ok (.getfield 41, 3) := by decide +kernel
theorem dX6_read_112 : decode cX6_read 112 = .ok (.putfield 37, 3) := by decide +kernel
theorem dX6_read_115 : decode cX6_read 115 = .ok (.aload_n 0, 1) := by decide +kernel
theorem dX6_read_116 : decode cX6_read 116 = .ok (.aload_n 1, 1) := by decide +kernel
theorem dX6_read_117 : decode cX6_read 117 = .ok (.putfield 41, 3) := by decide +kernel
theorem dX6_read_120 : decode cX6_read 120 = .ok (.aload_n 0, 1) := by decide +kernel
theorem dX6_read_121 : decode cX6_read 121 = .ok (.iconst 1, 1) := by decide +kernel
theorem dX6_read_122 : decode cX6_read 122 = .ok (.putfield 44, 3) := by decide +kernel
theorem dX6_read_125 : decode cX6_read 125 = .ok (.aload_n 0, 1) := by decide +kernel
theorem dX6_read_126 : decode cX6_read 126 = .ok (.getfield 12, 3) := by decide +kernel
theorem dX6_read_129 : decode cX6_read 129 = .ok (.invokevirtual 64, 3) := by decide +kernel
theorem dX6_read_132 : decode cX6_read 132 = .ok (.aload_n 0, 1) := by decide +kernel
theorem dX6_read_133 : decode cX6_read 133 = .ok (.getfield 27, 3) := by decide +kernel
theorem dX6_read_136 : decode cX6_read 136 = .ok (.aload_n 0, 1) := by decide +kernel
theorem dX6_read_137 : decode cX6_read 137 = .ok (.getfield 37, 3) := by decide +kernel
theorem dX6_read_140 : decode cX6_read 140 = .ok (.getfield 124, 3) := by decide +kernel
theorem dX6_read_143 : decode cX6_read 143 = .ok (.invokevirtual 156, 3) := by decide +kernel
theorem dX6_read_146 : decode cX6_read 146 = .ok (.aload_n 0, 1) := by decide +kernel
theorem dX6_read_147 : decode cX6_read 147 = .ok (.getfield 31, 3) := by decide +kernel
theorem dX6_read_150 : decode cX6_read 150 = .ok (.aload_n 0, 1) := by decide +kernel
theorem dX6_read_151 : decode cX6_read 151 = .ok (.getfield 37, 3) := by decide +kernel
theorem dX6_read_154 : decode cX6_read 154 = .ok (.invokevirtual 160, 3) := by decide +kernel
theorem dX6_read_157 : decode cX6_read 157 = .ok (.aload_n 0, 1) := by decide +kernel
theorem dX6_read_158 : decode cX6_read 158 = .ok (.getfield 37, 3) := by decide +kernel
theorem dX6_read_161 : decode cX6_read 161 = .ok (.invokevirtual 145, 3) := by decide +kernel
theorem dX6_read_164 : decode cX6_read 164 = .ok (.ireturn, 1) := by decide +kernel
theorem dX6_fault_0 : decode cX6_fault 0 = .ok (.aload_n 0, 1) := by decide +kernel
theorem dX6_fault_1 : decode cX6_fault 1 = .ok (.getfield 48, 3) := by decide +kernel
theorem dX6_fault_4 : decode cX6_fault 4 = .ok (.ireturn, 1) := by decide +kernel
theorem dX6_interchange_0 : decode cX6_interchange 0 = .ok (.aload_n 0, 1) := by decide +kernel
theorem dX6_interchange_1 : decode cX6_interchange 1 = .ok (.invokevirtual 164, 3) := by decide +kernel
theorem dX6_interchange_4 : decode cX6_interchange 4 = .ok (.iload_n 1, 1) := by decide +kernel
theorem dX6_interchange_5 : decode cX6_interchange 5 = .ok (.tableswitch 66 0 3 #[31, 42, 50, 58], 31) := by decide +kernel
theorem dX6_interchange_36 : decode cX6_interchange 36 = .ok (.aload_n 0, 1) := by decide +kernel
theorem dX6_interchange_37 : decode cX6_interchange 37 = .ok (.getfield 37, 3) := by decide +kernel
theorem dX6_interchange_40 : decode cX6_interchange 40 = .ok (.getfield 124, 3) := by decide +kernel
theorem dX6_interchange_43 : decode cX6_interchange 43 = .ok (.invokevirtual 167, 3) := by decide +kernel
theorem dX6_interchange_46 : decode cX6_interchange 46 = .ok (.ireturn, 1) := by decide +kernel
theorem dX6_interchange_47 : decode cX6_interchange 47 = .ok (.aload_n 0, 1) := by decide +kernel
theorem dX6_interchange_48 : decode cX6_interchange 48 = .ok (.getfield 37, 3) := by decide +kernel
theorem dX6_interchange_51 : decode cX6_interchange 51 = .ok (.invokevirtual 145, 3) := by decide +kernel
theorem dX6_interchange_54 : decode cX6_interchange 54 = .ok (.ireturn, 1) := by decide +kernel
theorem dX6_interchange_55 : decode cX6_interchange 55 = .ok (.aload_n 0, 1) := by decide +kernel
theorem dX6_interchange_56 : decode cX6_interchange 56 = .ok (.getfield 37, 3) := by decide +kernel
theorem dX6_interchange_59 : decode cX6_interchange 59 = .ok (.invokevirtual 172, 3) := by decide +kernel
theorem dX6_interchange_62 : decode cX6_interchange 62 = .ok (.ireturn, 1) := by decide +kernel
theorem dX6_interchange_63 : decode cX6_interchange 63 = .ok (.aload_n 0, 1) := by decide +kernel
theorem dX6_interchange_64 : decode cX6_interchange 64 = .ok (.getfield 37, 3) := by decide +kernel
theorem dX6_interchange_67 : decode cX6_interchange 67 = .ok (.invokevirtual 175, 3) := by decide +kernel
theorem dX6_interchange_70 : decode cX6_interchange 70 = .ok (.ireturn, 1) := by decide +kernel
theorem dX6_interchange_71 : decode cX6_interchange 71 = .ok (.iconst (-1), 1) := by decide +kernel
theorem dX6_interchange_72 : decode cX6_interchange 72 = .ok (.ireturn, 1) := by decide +kernel
theorem dX6_message_0 : decode cX6_message 0 = .ok (.aload_n 0, 1) := by decide +kernel
theorem dX6_message_1 : decode cX6_message 1 = .ok (.invokevirtual 164, 3) := by decide +kernel
theorem dX6_message_4 : decode cX6_message 4 = .ok (.aload_n 0, 1) := by decide +kernel
theorem dX6_message_5 : decode cX6_message 5 = .ok (.getfield 37, 3) := by decide +kernel
theorem dX6_message_8 : decode cX6_message 8 = .ok (.iload_n 1, 1) := by decide +kernel
theorem dX6_message_9 : decode cX6_message 9 = .ok (.iload_n 2, 1) := by decide +kernel
theorem dX6_message_10 : decode cX6_message 10 = .ok (.invokevirtual 178, 3) := by decide +kernel
theorem dX6_message_13 : decode cX6_message 13 = .ok (.ireturn, 1) := by decide +kernel
theorem dX6_group_0 : decode cX6_group 0 = .ok (.aload_n 0, 1) := by decide +kernel
theorem dX6_group_1 : decode cX6_group 1 = .ok (.invokevirtual 164, 3) := by decide +kernel
theorem dX6_group_4 : decode cX6_group 4 = .ok (.aload_n 0, 1) := by decide +kernel
theorem dX6_group_5 : decode cX6_group 5 = .ok (.getfield 37, 3) := by decide +kernel
theorem dX6_group_8 : decode cX6_group 8 = .ok (.iload_n 1, 1) := by decide +kernel
theorem dX6_group_9 : decode cX6_group 9 = .ok (.invokevirtual 182, 3) := by decide +kernel
theorem dX6_group_12 : decode cX6_group 12 = .ok (.ireturn, 1) := by decide +kernel
theorem dX6_segment_0 : decode cX6_segment 0 = .ok (.aload_n 0, 1) := by decide +kernel
theorem dX6_segment_1 : decode cX6_segment 1 = .ok (.invokevirtual 164, 3) := by decide +kernel
theorem dX6_segment_4 : decode cX6_segment 4 = .ok (.aload_n 0, 1) := by decide +kernel
theorem dX6_segment_5 : decode cX6_segment 5 = .ok (.getfield 37, 3) := by decide +kernel
theorem dX6_segment_8 : decode cX6_segment 8 = .ok (.getfield 124, 3) := by decide +kernel
theorem dX6_segment_11 : decode cX6_segment 11 = .ok (.iload_n 1, 1) := by decide +kernel
theorem dX6_segment_12 : decode cX6_segment 12 = .ok (.iload_n 2, 1) := by decide +kernel
theorem dX6_segment_13 : decode cX6_segment 13 = .ok (.iload_n 3, 1) := by decide +kernel
theorem dX6_segment_14 : decode cX6_segment 14 = .ok (.iload 4, 2) := by decide +kernel
theorem dX6_segment_16 : decode cX6_segment 16 = .ok (.invokevirtual 185, 3) := by decide +kernel
theorem dX6_segment_19 : decode cX6_segment 19 = .ok (.ireturn, 1) := by decide +kernel
theorem dX6_print_0 : decode cX6_print 0 = .ok (.aload_n 0, 1) := by decide +kernel
theorem dX6_print_1 : decode cX6_print 1 = .ok (.invokevirtual 164, 3) := by decide +kernel
theorem dX6_print_4 : decode cX6_print 4 = .ok (.aload_n 0, 1) := by decide +kernel
theorem dX6_print_5 : decode cX6_print 5 = .ok (.getfield 27, 3) := by decide +kernel
theorem dX6_print_8 : decode cX6_print 8 = .ok (.iload_n 1, 1) := by decide +kernel
theorem dX6_print_9 : decode cX6_print 9 = .ok (.invokevirtual 189, 3) := by decide +kernel
theorem dX6_print_12 : decode cX6_print 12 = .ok (.ireturn, 1) := by decide +kernel
theorem dX6_report_0 : decode cX6_report 0 = .ok (.aload_n 0, 1) := by decide +kernel
theorem dX6_report_1 : decode cX6_report 1 = .ok (.invokevirtual 164, 3) := by decide +kernel
theorem dX6_report_4 : decode cX6_report 4 = .ok (.aload_n 0, 1) := by decide +kernel
theorem dX6_report_5 : decode cX6_report 5 = .ok (.getfield 31, 3) := by decide +kernel
theorem dX6_report_8 : decode cX6_report 8 = .ok (.iload_n 1, 1) := by decide +kernel
theorem dX6_report_9 : decode cX6_report 9 = .ok (.invokevirtual 189, 3) := by decide +kernel
theorem dX6_report_12 : decode cX6_report 12 = .ok (.ireturn, 1) := by decide +kernel
theorem dX6_needInterchange_0 : decode cX6_needInterchange 0 = .ok (.aload_n 0, 1) := by decide +kernel
theorem dX6_needInterchange_1 : decode cX6_needInterchange 1 = .ok (.getfield 44, 3) := by decide +kernel
theorem dX6_needInterchange_4 : decode cX6_needInterchange 4 = .ok (.ifCond .ne 13, 3) := by decide +kernel
theorem dX6_needInterchange_7 : decode cX6_needInterchange 7 = .ok (.new 95, 3) := by decide +kernel
theorem dX6_needInterchange_10 : decode cX6_needInterchange 10 = .ok (.dup, 1) := by decide +kernel
theorem dX6_needInterchange_11 : decode cX6_needInterchange 11 = .ok (.ldc 191, 2) := by decide +kernel
theorem dX6_needInterchange_13 : decode cX6_needInterchange 13 = .ok (.invokespecial 99, 3) := by decide +kernel
theorem dX6_needInterchange_16 : decode cX6_needInterchange 16 = .ok (.athrow, 1) := by decide +kernel
theorem dX6_needInterchange_17 : decode cX6_needInterchange 17 = .ok (.return_, 1) := by decide +kernel
theorem dX6_tableOf_0 : decode cX6_tableOf 0 = .ok (.iload_n 1, 1) := by decide +kernel
theorem dX6_tableOf_1 : decode cX6_tableOf 1 = .ok (.ifCond .lt 21, 3) := by decide +kernel
theorem dX6_tableOf_4 : decode cX6_tableOf 4 = .ok (.iload_n 1, 1) := by decide +kernel
theorem dX6_tableOf_5 : decode cX6_tableOf 5 = .ok (.aload_n 0, 1) := by decide +kernel
theorem dX6_tableOf_6 : decode cX6_tableOf 6 = .ok (.getfield 18, 3) := by decide +kernel
theorem dX6_tableOf_9 : decode cX6_tableOf 9 = .ok (.arraylength, 1) := by decide +kernel
theorem dX6_tableOf_10 : decode cX6_tableOf 10 = .ok (.if_icmp .ge 12, 3) := by decide +kernel
theorem dX6_tableOf_13 : decode cX6_tableOf 13 = .ok (.aload_n 0, 1) := by decide +kernel
theorem dX6_tableOf_14 : decode cX6_tableOf 14 = .ok (.getfield 18, 3) := by decide +kernel
theorem dX6_tableOf_17 : decode cX6_tableOf 17 = .ok (.iload_n 1, 1) := by decide +kernel
theorem dX6_tableOf_18 : decode cX6_tableOf 18 = .ok (.aaload, 1) := by decide +kernel
theorem dX6_tableOf_19 : decode cX6_tableOf 19 = .ok (.goto 4, 3) := by decide +kernel
theorem dX6_tableOf_22 : decode cX6_tableOf 22 = .ok (.aconst_null, 1) := by decide +kernel
theorem dX6_tableOf_23 : decode cX6_tableOf 23 = .ok (.areturn, 1) := by decide +kernel
theorem dX6_byteOf_0 : decode cX6_byteOf 0 = .ok (.lload_n 0, 1) := by decide +kernel
theorem dX6_byteOf_1 : decode cX6_byteOf 1 = .ok (.iload_n 2, 1) := by decide +kernel
theorem dX6_byteOf_2 : decode cX6_byteOf 2 = .ok (.lushr, 1) := by decide +kernel
theorem dX6_byteOf_3 : decode cX6_byteOf 3 = .ok (.l2i, 1) := by decide +kernel
theorem dX6_byteOf_4 : decode cX6_byteOf 4 = .ok (.sipush 255, 3) := by decide +kernel
theorem dX6_byteOf_7 : decode cX6_byteOf 7 = .ok (.iand, 1) := by decide +kernel
theorem dX6_byteOf_8 : decode cX6_byteOf 8 = .ok (.ireturn, 1) := by decide +kernel
theorem dX6_isMost_0 : decode cX6_isMost 0 = .ok (.iload_n 0, 1) := by decide +kernel
theorem dX6_isMost_1 : decode cX6_isMost 1 = .ok (.iconst 1, 1) := by decide +kernel
theorem dX6_isMost_2 : decode cX6_isMost 2 = .ok (.if_icmp .lt 13, 3) := by decide +kernel
theorem dX6_isMost_5 : decode cX6_isMost 5 = .ok (.iload_n 0, 1) := by decide +kernel
theorem dX6_isMost_6 : decode cX6_isMost 6 = .ok (.bipush 99, 2) := by decide +kernel
theorem dX6_isMost_8 : decode cX6_isMost 8 = .ok (.if_icmp .gt 7, 3) := by decide +kernel
theorem dX6_isMost_11 : decode cX6_isMost 11 = .ok (.iconst 1, 1) := by decide +kernel
theorem dX6_isMost_12 : decode cX6_isMost 12 = .ok (.goto 4, 3) := by decide +kernel
theorem dX6_isMost_15 : decode cX6_isMost 15 = .ok (.iconst 0, 1) := by decide +kernel
theorem dX6_isMost_16 : decode cX6_isMost 16 = .ok (.ireturn, 1) := by decide +kernel
theorem dX6_isTag_0 : decode cX6_isTag 0 = .ok (.iload_n 0, 1) := by decide +kernel
theorem dX6_isTag_1 : decode cX6_isTag 1 = .ok (.bipush 16, 2) := by decide +kernel
theorem dX6_isTag_3 : decode cX6_isTag 3 = .ok (.iushr, 1) := by decide +kernel
theorem dX6_isTag_4 : decode cX6_isTag 4 = .ok (.invokestatic 193, 3) := by decide +kernel
theorem dX6_isTag_7 : decode cX6_isTag 7 = .ok (.ifCond .eq 32, 3) := by decide +kernel
theorem dX6_isTag_10 : decode cX6_isTag 10 = .ok (.iload_n 0, 1) := by decide +kernel
theorem dX6_isTag_11 : decode cX6_isTag 11 = .ok (.bipush 8, 2) := by decide +kernel
theorem dX6_isTag_13 : decode cX6_isTag 13 = .ok (.iushr, 1) := by decide +kernel
theorem dX6_isTag_14 : decode cX6_isTag 14 = .ok (.sipush 255, 3) := by decide +kernel
theorem dX6_isTag_17 : decode cX6_isTag 17 = .ok (.iand, 1) := by decide +kernel
theorem dX6_isTag_18 : decode cX6_isTag 18 = .ok (.invokestatic 193, 3) := by decide +kernel
theorem dX6_isTag_21 : decode cX6_isTag 21 = .ok (.ifCond .eq 18, 3) := by decide +kernel
theorem dX6_isTag_24 : decode cX6_isTag 24 = .ok (.iload_n 0, 1) := by decide +kernel
theorem dX6_isTag_25 : decode cX6_isTag 25 = .ok (.sipush 255, 3) := by decide +kernel
theorem dX6_isTag_28 : decode cX6_isTag 28 = .ok (.iand, 1) := by decide +kernel
theorem dX6_isTag_29 : decode cX6_isTag 29 = .ok (.invokestatic 193, 3) := by decide +kernel
theorem dX6_isTag_32 : decode cX6_isTag 32 = .ok (.ifCond .eq 7, 3) := by decide +kernel
theorem dX6_isTag_35 : decode cX6_isTag 35 = .ok (.iconst 1, 1) := by decide +kernel
theorem dX6_isTag_36 : decode cX6_isTag 36 = .ok (.goto 4, 3) := by decide +kernel
theorem dX6_isTag_39 : decode cX6_isTag 39 = .ok (.iconst 0, 1) := by decide +kernel
theorem dX6_isTag_40 : decode cX6_isTag 40 = .ok (.ireturn, 1) := by decide +kernel
theorem dX6_isEnvelopeTag_0 : decode cX6_isEnvelopeTag 0 = .ok (.iload_n 0, 1) := by decide +kernel
theorem dX6_isEnvelopeTag_1 : decode cX6_isEnvelopeTag 1 = .ok (.ldc 196, 2) := by decide +kernel
theorem dX6_isEnvelopeTag_3 : decode cX6_isEnvelopeTag 3 = .ok (.if_icmp .eq 33, 3) := by decide +kernel
theorem dX6_isEnvelopeTag_6 : decode cX6_isEnvelopeTag 6 = .ok (.iload_n 0, 1) := by decide +kernel
theorem dX6_isEnvelopeTag_7 : decode cX6_isEnvelopeTag 7 = .ok (.ldc 197, 2) := by decide +kernel
theorem dX6_isEnvelopeTag_9 : decode cX6_isEnvelopeTag 9 = .ok (.if_icmp .eq 27, 3) := by decide +kernel
theorem dX6_isEnvelopeTag_12 : decode cX6_isEnvelopeTag 12 = .ok (.iload_n 0, 1) := by decide +kernel
theorem dX6_isEnvelopeTag_13 : decode cX6_isEnvelopeTag 13 = .ok (.ldc 198, 2) := by decide +kernel
theorem dX6_isEnvelopeTag_15 : decode cX6_isEnvelopeTag 15 = .ok (.if_icmp .eq 21, 3) := by decide +kernel
theorem dX6_isEnvelopeTag_18 : decode cX6_isEnvelopeTag 18 = .ok (.iload_n 0, 1) := by decide +kernel
theorem dX6_isEnvelopeTag_19 : decode cX6_isEnvelopeTag 19 = .ok (.ldc 199, 2) := by decide +kernel
theorem dX6_isEnvelopeTag_21 : decode cX6_isEnvelopeTag 21 = .ok (.if_icmp .eq 15, 3) := by decide +kernel
theorem dX6_isEnvelopeTag_24 : decode cX6_isEnvelopeTag 24 = .ok (.iload_n 0, 1) := by decide +kernel
theorem dX6_isEnvelopeTag_25 : decode cX6_isEnvelopeTag 25 = .ok (.ldc 200, 2) := by decide +kernel
theorem dX6_isEnvelopeTag_27 : decode cX6_isEnvelopeTag 27 = .ok (.if_icmp .eq 9, 3) := by decide +kernel
theorem dX6_isEnvelopeTag_30 : decode cX6_isEnvelopeTag 30 = .ok (.iload_n 0, 1) := by decide +kernel
theorem dX6_isEnvelopeTag_31 : decode cX6_isEnvelopeTag 31 = .ok (.ldc 201, 2) := by decide +kernel
theorem dX6_isEnvelopeTag_33 : decode cX6_isEnvelopeTag 33 = .ok (.if_icmp .ne 7, 3) := by decide +kernel
theorem dX6_isEnvelopeTag_36 : decode cX6_isEnvelopeTag 36 = .ok (.iconst 1, 1) := by decide +kernel
theorem dX6_isEnvelopeTag_37 : decode cX6_isEnvelopeTag 37 = .ok (.goto 4, 3) := by decide +kernel
theorem dX6_isEnvelopeTag_40 : decode cX6_isEnvelopeTag 40 = .ok (.iconst 0, 1) := by decide +kernel
theorem dX6_isEnvelopeTag_41 : decode cX6_isEnvelopeTag 41 = .ok (.ireturn, 1) := by decide +kernel
theorem dX6_isCapital_0 : decode cX6_isCapital 0 = .ok (.iload_n 0, 1) := by decide +kernel
theorem dX6_isCapital_1 : decode cX6_isCapital 1 = .ok (.bipush 65, 2) := by decide +kernel
theorem dX6_isCapital_3 : decode cX6_isCapital 3 = .ok (.if_icmp .lt 13, 3) := by decide +kernel
theorem dX6_isCapital_6 : decode cX6_isCapital 6 = .ok (.iload_n 0, 1) := by decide +kernel
theorem dX6_isCapital_7 : decode cX6_isCapital 7 = .ok (.bipush 90, 2) := by decide +kernel
theorem dX6_isCapital_9 : decode cX6_isCapital 9 = .ok (.if_icmp .gt 7, 3) := by decide +kernel
theorem dX6_isCapital_12 : decode cX6_isCapital 12 = .ok (.iconst 1, 1) := by decide +kernel
theorem dX6_isCapital_13 : decode cX6_isCapital 13 = .ok (.goto 4, 3) := by decide +kernel
theorem dX6_isCapital_16 : decode cX6_isCapital 16 = .ok (.iconst 0, 1) := by decide +kernel
theorem dX6_isCapital_17 : decode cX6_isCapital 17 = .ok (.ireturn, 1) := by decide +kernel
theorem dX6_isDigit_0 : decode cX6_isDigit 0 = .ok (.iload_n 0, 1) := by decide +kernel
theorem dX6_isDigit_1 : decode cX6_isDigit 1 = .ok (.bipush 48, 2) := by decide +kernel
theorem dX6_isDigit_3 : decode cX6_isDigit 3 = .ok (.if_icmp .lt 13, 3) := by decide +kernel
theorem dX6_isDigit_6 : decode cX6_isDigit 6 = .ok (.iload_n 0, 1) := by decide +kernel
theorem dX6_isDigit_7 : decode cX6_isDigit 7 = .ok (.bipush 57, 2) := by decide +kernel
theorem dX6_isDigit_9 : decode cX6_isDigit 9 = .ok (.if_icmp .gt 7, 3) := by decide +kernel
theorem dX6_isDigit_12 : decode cX6_isDigit 12 = .ok (.iconst 1, 1) := by decide +kernel
theorem dX6_isDigit_13 : decode cX6_isDigit 13 = .ok (.goto 4, 3) := by decide +kernel
theorem dX6_isDigit_16 : decode cX6_isDigit 16 = .ok (.iconst 0, 1) := by decide +kernel
theorem dX6_isDigit_17 : decode cX6_isDigit 17 = .ok (.ireturn, 1) := by decide +kernel
theorem dJ9_max_7cf53_0 : decode cJ9_max_7cf53 0 = .ok (.iload_n 0, 1) := by decide +kernel
theorem dJ9_max_7cf53_1 : decode cJ9_max_7cf53 1 = .ok (.iload_n 1, 1) := by decide +kernel
theorem dJ9_max_7cf53_2 : decode cJ9_max_7cf53 2 = .ok (.if_icmp .lt 7, 3) := by decide +kernel
theorem dJ9_max_7cf53_5 : decode cJ9_max_7cf53 5 = .ok (.iload_n 0, 1) := by decide +kernel
theorem dJ9_max_7cf53_6 : decode cJ9_max_7cf53 6 = .ok (.goto 4, 3) := by decide +kernel
theorem dJ9_max_7cf53_9 : decode cJ9_max_7cf53 9 = .ok (.iload_n 1, 1) := by decide +kernel
theorem dJ9_max_7cf53_10 : decode cJ9_max_7cf53 10 = .ok (.ireturn, 1) := by decide +kernel
theorem dL_slot_0 : decode cL_slot 0 = .ok (.aload 5, 2) := by decide +kernel
theorem dL_slot_2 : decode cL_slot 2 = .ok (.iconst 0, 1) := by decide +kernel
theorem dL_slot_3 : decode cL_slot 3 = .ok (.aload_n 0, 1) := by decide +kernel
theorem dL_slot_4 : decode cL_slot 4 = .ok (.iload_n 1, 1) := by decide +kernel
theorem dL_slot_5 : decode cL_slot 5 = .ok (.iload_n 2, 1) := by decide +kernel
theorem dL_slot_6 : decode cL_slot 6 = .ok (.iload_n 3, 1) := by decide +kernel
theorem dL_slot_7 : decode cL_slot 7 = .ok (.iload 4, 2) := by decide +kernel
theorem dL_slot_9 : decode cL_slot 9 = .ok (.invokevirtual 7, 3) := by decide +kernel
theorem dL_slot_12 : decode cL_slot 12 = .ok (.i2l, 1) := by decide +kernel
theorem dL_slot_13 : decode cL_slot 13 = .ok (.lastore, 1) := by decide +kernel
theorem dL_slot_14 : decode cL_slot 14 = .ok (.goto 11, 3) := by decide +kernel
theorem dL_slot_17 : decode cL_slot 17 = .ok (.astore 6, 2) := by decide +kernel
theorem dL_slot_19 : decode cL_slot 19 = .ok (.iconst 1, 1) := by decide +kernel
theorem dL_slot_20 : decode cL_slot 20 = .ok (.ireturn, 1) := by decide +kernel
theorem dL_slot_21 : decode cL_slot 21 = .ok (.astore 6, 2) := by decide +kernel
theorem dL_slot_23 : decode cL_slot 23 = .ok (.iconst 2, 1) := by decide +kernel
theorem dL_slot_24 : decode cL_slot 24 = .ok (.ireturn, 1) := by decide +kernel
theorem dL_slot_25 : decode cL_slot 25 = .ok (.iconst 0, 1) := by decide +kernel
theorem dL_slot_26 : decode cL_slot 26 = .ok (.ireturn, 1) := by decide +kernel
theorem dL_open_0 : decode cL_open 0 = .ok (.aload 4, 2) := by decide +kernel
theorem dL_open_2 : decode cL_open 2 = .ok (.iconst 0, 1) := by decide +kernel
theorem dL_open_3 : decode cL_open 3 = .ok (.aload_n 0, 1) := by decide +kernel
theorem dL_open_4 : decode cL_open 4 = .ok (.iload_n 1, 1) := by decide +kernel
theorem dL_open_5 : decode cL_open 5 = .ok (.iload_n 2, 1) := by decide +kernel
theorem dL_open_6 : decode cL_open 6 = .ok (.iload_n 3, 1) := by decide +kernel
theorem dL_open_7 : decode cL_open 7 = .ok (.invokevirtual 17, 3) := by decide +kernel
theorem dL_open_10 : decode cL_open 10 = .ok (.i2l, 1) := by decide +kernel
theorem dL_open_11 : decode cL_open 11 = .ok (.lastore, 1) := by decide +kernel
theorem dL_open_12 : decode cL_open 12 = .ok (.goto 11, 3) := by decide +kernel
theorem dL_open_15 : decode cL_open 15 = .ok (.astore 5, 2) := by decide +kernel
theorem dL_open_17 : decode cL_open 17 = .ok (.iconst 1, 1) := by decide +kernel
theorem dL_open_18 : decode cL_open 18 = .ok (.ireturn, 1) := by decide +kernel
theorem dL_open_19 : decode cL_open 19 = .ok (.astore 5, 2) := by decide +kernel
theorem dL_open_21 : decode cL_open 21 = .ok (.iconst 2, 1) := by decide +kernel
theorem dL_open_22 : decode cL_open 22 = .ok (.ireturn, 1) := by decide +kernel
theorem dL_open_23 : decode cL_open 23 = .ok (.iconst 0, 1) := by decide +kernel
theorem dL_open_24 : decode cL_open 24 = .ok (.ireturn, 1) := by decide +kernel
theorem dL_close_0 : decode cL_close 0 = .ok (.aload_n 2, 1) := by decide +kernel
theorem dL_close_1 : decode cL_close 1 = .ok (.iconst 0, 1) := by decide +kernel
theorem dL_close_2 : decode cL_close 2 = .ok (.aload_n 0, 1) := by decide +kernel
theorem dL_close_3 : decode cL_close 3 = .ok (.iload_n 1, 1) := by decide +kernel
theorem dL_close_4 : decode cL_close 4 = .ok (.invokevirtual 21, 3) := by decide +kernel
theorem dL_close_7 : decode cL_close 7 = .ok (.ifCond .eq 7, 3) := by decide +kernel
theorem dL_close_10 : decode cL_close 10 = .ok (.lconst 1, 1) := by decide +kernel
theorem dL_close_11 : decode cL_close 11 = .ok (.goto 4, 3) := by decide +kernel
theorem dL_close_14 : decode cL_close 14 = .ok (.lconst 0, 1) := by decide +kernel
theorem dL_close_15 : decode cL_close 15 = .ok (.lastore, 1) := by decide +kernel
theorem dL_close_16 : decode cL_close 16 = .ok (.goto 6, 3) := by decide +kernel
theorem dL_close_19 : decode cL_close 19 = .ok (.astore_n 3, 1) := by decide +kernel
theorem dL_close_20 : decode cL_close 20 = .ok (.iconst 1, 1) := by decide +kernel
theorem dL_close_21 : decode cL_close 21 = .ok (.ireturn, 1) := by decide +kernel
theorem dL_close_22 : decode cL_close 22 = .ok (.iconst 0, 1) := by decide +kernel
theorem dL_close_23 : decode cL_close 23 = .ok (.ireturn, 1) := by decide +kernel
theorem dL_clear_0 : decode cL_clear 0 = .ok (.aload_n 2, 1) := by decide +kernel
theorem dL_clear_1 : decode cL_clear 1 = .ok (.iconst 0, 1) := by decide +kernel
theorem dL_clear_2 : decode cL_clear 2 = .ok (.aload_n 0, 1) := by decide +kernel
theorem dL_clear_3 : decode cL_clear 3 = .ok (.iload_n 1, 1) := by decide +kernel
theorem dL_clear_4 : decode cL_clear 4 = .ok (.invokevirtual 25, 3) := by decide +kernel
theorem dL_clear_7 : decode cL_clear 7 = .ok (.ifCond .eq 7, 3) := by decide +kernel
theorem dL_clear_10 : decode cL_clear 10 = .ok (.lconst 1, 1) := by decide +kernel
theorem dL_clear_11 : decode cL_clear 11 = .ok (.goto 4, 3) := by decide +kernel
theorem dL_clear_14 : decode cL_clear 14 = .ok (.lconst 0, 1) := by decide +kernel
theorem dL_clear_15 : decode cL_clear 15 = .ok (.lastore, 1) := by decide +kernel
theorem dL_clear_16 : decode cL_clear 16 = .ok (.goto 6, 3) := by decide +kernel
theorem dL_clear_19 : decode cL_clear 19 = .ok (.astore_n 3, 1) := by decide +kernel
theorem dL_clear_20 : decode cL_clear 20 = .ok (.iconst 1, 1) := by decide +kernel
theorem dL_clear_21 : decode cL_clear 21 = .ok (.ireturn, 1) := by decide +kernel
theorem dL_clear_22 : decode cL_clear 22 = .ok (.iconst 0, 1) := by decide +kernel
theorem dL_clear_23 : decode cL_clear 23 = .ok (.ireturn, 1) := by decide +kernel
theorem dL_read_0 : decode cL_read 0 = .ok (.aload_n 1, 1) := by decide +kernel
theorem dL_read_1 : decode cL_read 1 = .ok (.iconst 0, 1) := by decide +kernel
theorem dL_read_2 : decode cL_read 2 = .ok (.aload_n 0, 1) := by decide +kernel
theorem dL_read_3 : decode cL_read 3 = .ok (.invokevirtual 28, 3) := by decide +kernel
theorem dL_read_6 : decode cL_read 6 = .ok (.i2l, 1) := by decide +kernel
theorem dL_read_7 : decode cL_read 7 = .ok (.lastore, 1) := by decide +kernel
theorem dL_read_8 : decode cL_read 8 = .ok (.goto 9, 3) := by decide +kernel
theorem dL_read_11 : decode cL_read 11 = .ok (.astore_n 2, 1) := by decide +kernel
theorem dL_read_12 : decode cL_read 12 = .ok (.iconst 1, 1) := by decide +kernel
theorem dL_read_13 : decode cL_read 13 = .ok (.ireturn, 1) := by decide +kernel
theorem dL_read_14 : decode cL_read 14 = .ok (.astore_n 2, 1) := by decide +kernel
theorem dL_read_15 : decode cL_read 15 = .ok (.iconst 2, 1) := by decide +kernel
theorem dL_read_16 : decode cL_read 16 = .ok (.ireturn, 1) := by decide +kernel
theorem dL_read_17 : decode cL_read 17 = .ok (.iconst 0, 1) := by decide +kernel
theorem dL_read_18 : decode cL_read 18 = .ok (.ireturn, 1) := by decide +kernel
theorem dL_interchange_0 : decode cL_interchange 0 = .ok (.aload_n 2, 1) := by decide +kernel
theorem dL_interchange_1 : decode cL_interchange 1 = .ok (.iconst 0, 1) := by decide +kernel
theorem dL_interchange_2 : decode cL_interchange 2 = .ok (.aload_n 0, 1) := by decide +kernel
theorem dL_interchange_3 : decode cL_interchange 3 = .ok (.iload_n 1, 1) := by decide +kernel
theorem dL_interchange_4 : decode cL_interchange 4 = .ok (.invokevirtual 34, 3) := by decide +kernel
theorem dL_interchange_7 : decode cL_interchange 7 = .ok (.i2l, 1) := by decide +kernel
theorem dL_interchange_8 : decode cL_interchange 8 = .ok (.lastore, 1) := by decide +kernel
theorem dL_interchange_9 : decode cL_interchange 9 = .ok (.goto 6, 3) := by decide +kernel
theorem dL_interchange_12 : decode cL_interchange 12 = .ok (.astore_n 3, 1) := by decide +kernel
theorem dL_interchange_13 : decode cL_interchange 13 = .ok (.iconst 1, 1) := by decide +kernel
theorem dL_interchange_14 : decode cL_interchange 14 = .ok (.ireturn, 1) := by decide +kernel
theorem dL_interchange_15 : decode cL_interchange 15 = .ok (.iconst 0, 1) := by decide +kernel
theorem dL_interchange_16 : decode cL_interchange 16 = .ok (.ireturn, 1) := by decide +kernel
theorem dL_message_0 : decode cL_message 0 = .ok (.aload_n 3, 1) := by decide +kernel
theorem dL_message_1 : decode cL_message 1 = .ok (.iconst 0, 1) := by decide +kernel
theorem dL_message_2 : decode cL_message 2 = .ok (.aload_n 0, 1) := by decide +kernel
theorem dL_message_3 : decode cL_message 3 = .ok (.iload_n 1, 1) := by decide +kernel
theorem dL_message_4 : decode cL_message 4 = .ok (.iload_n 2, 1) := by decide +kernel
theorem dL_message_5 : decode cL_message 5 = .ok (.invokevirtual 38, 3) := by decide +kernel
theorem dL_message_8 : decode cL_message 8 = .ok (.i2l, 1) := by decide +kernel
theorem dL_message_9 : decode cL_message 9 = .ok (.lastore, 1) := by decide +kernel
theorem dL_message_10 : decode cL_message 10 = .ok (.goto 7, 3) := by decide +kernel
theorem dL_message_13 : decode cL_message 13 = .ok (.astore 4, 2) := by decide +kernel
theorem dL_message_15 : decode cL_message 15 = .ok (.iconst 1, 1) := by decide +kernel
theorem dL_message_16 : decode cL_message 16 = .ok (.ireturn, 1) := by decide +kernel
theorem dL_message_17 : decode cL_message 17 = .ok (.iconst 0, 1) := by decide +kernel
theorem dL_message_18 : decode cL_message 18 = .ok (.ireturn, 1) := by decide +kernel
theorem dL_group_0 : decode cL_group 0 = .ok (.aload_n 2, 1) := by decide +kernel
theorem dL_group_1 : decode cL_group 1 = .ok (.iconst 0, 1) := by decide +kernel
theorem dL_group_2 : decode cL_group 2 = .ok (.aload_n 0, 1) := by decide +kernel
theorem dL_group_3 : decode cL_group 3 = .ok (.iload_n 1, 1) := by decide +kernel
theorem dL_group_4 : decode cL_group 4 = .ok (.invokevirtual 42, 3) := by decide +kernel
theorem dL_group_7 : decode cL_group 7 = .ok (.i2l, 1) := by decide +kernel
theorem dL_group_8 : decode cL_group 8 = .ok (.lastore, 1) := by decide +kernel
theorem dL_group_9 : decode cL_group 9 = .ok (.goto 6, 3) := by decide +kernel
theorem dL_group_12 : decode cL_group 12 = .ok (.astore_n 3, 1) := by decide +kernel
theorem dL_group_13 : decode cL_group 13 = .ok (.iconst 1, 1) := by decide +kernel
theorem dL_group_14 : decode cL_group 14 = .ok (.ireturn, 1) := by decide +kernel
theorem dL_group_15 : decode cL_group 15 = .ok (.iconst 0, 1) := by decide +kernel
theorem dL_group_16 : decode cL_group 16 = .ok (.ireturn, 1) := by decide +kernel
theorem dL_segment_0 : decode cL_segment 0 = .ok (.aload 5, 2) := by decide +kernel
theorem dL_segment_2 : decode cL_segment 2 = .ok (.iconst 0, 1) := by decide +kernel
theorem dL_segment_3 : decode cL_segment 3 = .ok (.aload_n 0, 1) := by decide +kernel
theorem dL_segment_4 : decode cL_segment 4 = .ok (.iload_n 1, 1) := by decide +kernel
theorem dL_segment_5 : decode cL_segment 5 = .ok (.iload_n 2, 1) := by decide +kernel
theorem dL_segment_6 : decode cL_segment 6 = .ok (.iload_n 3, 1) := by decide +kernel
theorem dL_segment_7 : decode cL_segment 7 = .ok (.iload 4, 2) := by decide +kernel
theorem dL_segment_9 : decode cL_segment 9 = .ok (.invokevirtual 45, 3) := by decide +kernel
theorem dL_segment_12 : decode cL_segment 12 = .ok (.i2l, 1) := by decide +kernel
theorem dL_segment_13 : decode cL_segment 13 = .ok (.lastore, 1) := by decide +kernel
theorem dL_segment_14 : decode cL_segment 14 = .ok (.goto 7, 3) := by decide +kernel
theorem dL_segment_17 : decode cL_segment 17 = .ok (.astore 6, 2) := by decide +kernel
theorem dL_segment_19 : decode cL_segment 19 = .ok (.iconst 1, 1) := by decide +kernel
theorem dL_segment_20 : decode cL_segment 20 = .ok (.ireturn, 1) := by decide +kernel
theorem dL_segment_21 : decode cL_segment 21 = .ok (.iconst 0, 1) := by decide +kernel
theorem dL_segment_22 : decode cL_segment 22 = .ok (.ireturn, 1) := by decide +kernel
theorem dL_print_0 : decode cL_print 0 = .ok (.aload_n 2, 1) := by decide +kernel
theorem dL_print_1 : decode cL_print 1 = .ok (.iconst 0, 1) := by decide +kernel
theorem dL_print_2 : decode cL_print 2 = .ok (.aload_n 0, 1) := by decide +kernel
theorem dL_print_3 : decode cL_print 3 = .ok (.iload_n 1, 1) := by decide +kernel
theorem dL_print_4 : decode cL_print 4 = .ok (.invokevirtual 49, 3) := by decide +kernel
theorem dL_print_7 : decode cL_print 7 = .ok (.i2l, 1) := by decide +kernel
theorem dL_print_8 : decode cL_print 8 = .ok (.lastore, 1) := by decide +kernel
theorem dL_print_9 : decode cL_print 9 = .ok (.goto 6, 3) := by decide +kernel
theorem dL_print_12 : decode cL_print 12 = .ok (.astore_n 3, 1) := by decide +kernel
theorem dL_print_13 : decode cL_print 13 = .ok (.iconst 1, 1) := by decide +kernel
theorem dL_print_14 : decode cL_print 14 = .ok (.ireturn, 1) := by decide +kernel
theorem dL_print_15 : decode cL_print 15 = .ok (.iconst 0, 1) := by decide +kernel
theorem dL_print_16 : decode cL_print 16 = .ok (.ireturn, 1) := by decide +kernel
theorem dL_report_0 : decode cL_report 0 = .ok (.aload_n 2, 1) := by decide +kernel
theorem dL_report_1 : decode cL_report 1 = .ok (.iconst 0, 1) := by decide +kernel
theorem dL_report_2 : decode cL_report 2 = .ok (.aload_n 0, 1) := by decide +kernel
theorem dL_report_3 : decode cL_report 3 = .ok (.iload_n 1, 1) := by decide +kernel
theorem dL_report_4 : decode cL_report 4 = .ok (.invokevirtual 52, 3) := by decide +kernel
theorem dL_report_7 : decode cL_report 7 = .ok (.i2l, 1) := by decide +kernel
theorem dL_report_8 : decode cL_report 8 = .ok (.lastore, 1) := by decide +kernel
theorem dL_report_9 : decode cL_report 9 = .ok (.goto 6, 3) := by decide +kernel
theorem dL_report_12 : decode cL_report 12 = .ok (.astore_n 3, 1) := by decide +kernel
theorem dL_report_13 : decode cL_report 13 = .ok (.iconst 1, 1) := by decide +kernel
theorem dL_report_14 : decode cL_report 14 = .ok (.ireturn, 1) := by decide +kernel
theorem dL_report_15 : decode cL_report 15 = .ok (.iconst 0, 1) := by decide +kernel
theorem dL_report_16 : decode cL_report 16 = .ok (.ireturn, 1) := by decide +kernel
theorem dL_law_0 : decode cL_law 0 = .ok (.new 8, 3) := by decide +kernel
theorem dL_law_3 : decode cL_law 3 = .ok (.dup, 1) := by decide +kernel
theorem dL_law_4 : decode cL_law 4 = .ok (.invokespecial 55, 3) := by decide +kernel
theorem dL_law_7 : decode cL_law 7 = .ok (.astore_n 1, 1) := by decide +kernel
theorem dL_law_8 : decode cL_law 8 = .ok (.new 56, 3) := by decide +kernel
theorem dL_law_11 : decode cL_law 11 = .ok (.dup, 1) := by decide +kernel
theorem dL_law_12 : decode cL_law 12 = .ok (.invokespecial 58, 3) := by decide +kernel
theorem dL_law_15 : decode cL_law 15 = .ok (.astore_n 2, 1) := by decide +kernel
theorem dL_law_16 : decode cL_law 16 = .ok (.iconst 1, 1) := by decide +kernel
theorem dL_law_17 : decode cL_law 17 = .ok (.newarray .long, 2) := by decide +kernel
theorem dL_law_19 : decode cL_law 19 = .ok (.astore_n 3, 1) := by decide +kernel
theorem dL_law_20 : decode cL_law 20 = .ok (.iconst 0, 1) := by decide +kernel
theorem dL_law_21 : decode cL_law 21 = .ok (.istore 4, 2) := by decide +kernel
theorem dL_law_23 : decode cL_law 23 = .ok (.iload 4, 2) := by decide +kernel
theorem dL_law_25 : decode cL_law 25 = .ok (.aload_n 0, 1) := by decide +kernel
theorem dL_law_26 : decode cL_law 26 = .ok (.arraylength, 1) := by decide +kernel
theorem dL_law_27 : decode cL_law 27 = .ok (.iconst 5, 1) := by decide +kernel
theorem dL_law_28 : decode cL_law 28 = .ok (.isub, 1) := by decide +kernel
theorem dL_law_29 : decode cL_law 29 = .ok (.if_icmp .gt 941, 3) := by decide +kernel
theorem dL_law_32 : decode cL_law 32 = .ok (.aload_n 0, 1) := by decide +kernel
theorem dL_law_33 : decode cL_law 33 = .ok (.iload 4, 2) := by decide +kernel
theorem dL_law_35 : decode cL_law 35 = .ok (.iaload, 1) := by decide +kernel
theorem dL_law_36 : decode cL_law 36 = .ok (.bipush 15, 2) := by decide +kernel
theorem dL_law_38 : decode cL_law 38 = .ok (.iand, 1) := by decide +kernel
theorem dL_law_39 : decode cL_law 39 = .ok (.tableswitch 925 0 14 #[73, 130, 141, 154, 262, 358, 421, 484, 528, 541, 597, 665, 721, 813, 869], 73) := by decide +kernel
theorem dL_law_112 : decode cL_law 112 = .ok (.aload_n 1, 1) := by decide +kernel
theorem dL_law_113 : decode cL_law 113 = .ok (.aload_n 0, 1) := by decide +kernel
theorem dL_law_114 : decode cL_law 114 = .ok (.iload 4, 2) := by decide +kernel
theorem dL_law_116 : decode cL_law 116 = .ok (.iconst 1, 1) := by decide +kernel
theorem dL_law_117 : decode cL_law 117 = .ok (.iadd, 1) := by decide +kernel
theorem dL_law_118 : decode cL_law 118 = .ok (.iaload, 1) := by decide +kernel
theorem dL_law_119 : decode cL_law 119 = .ok (.i2l, 1) := by decide +kernel
theorem dL_law_120 : decode cL_law 120 = .ok (.bipush 32, 2) := by decide +kernel
theorem dL_law_122 : decode cL_law 122 = .ok (.lshl, 1) := by decide +kernel
theorem dL_law_123 : decode cL_law 123 = .ok (.aload_n 0, 1) := by decide +kernel
theorem dL_law_124 : decode cL_law 124 = .ok (.iload 4, 2) := by decide +kernel
theorem dL_law_126 : decode cL_law 126 = .ok (.iconst 2, 1) := by decide +kernel
theorem dL_law_127 : decode cL_law 127 = .ok (.iadd, 1) := by decide +kernel
theorem dL_law_128 : decode cL_law 128 = .ok (.iaload, 1) := by decide +kernel
theorem dL_law_129 : decode cL_law 129 = .ok (.i2l, 1) := by decide +kernel
theorem dL_law_130 : decode cL_law 130 = .ok (.ldc2_w 59, 3) := by decide +kernel
theorem dL_law_133 : decode cL_law 133 = .ok (.land, 1) := by decide +kernel
theorem dL_law_134 : decode cL_law 134 = .ok (.lor, 1) := by decide +kernel
theorem dL_law_135 : decode cL_law 135 = .ok (.invokevirtual 61, 3) := by decide +kernel
theorem dL_law_138 : decode cL_law 138 = .ok (.aload_n 2, 1) := by decide +kernel
theorem dL_law_139 : decode cL_law 139 = .ok (.aload_n 0, 1) := by decide +kernel
theorem dL_law_140 : decode cL_law 140 = .ok (.iload 4, 2) := by decide +kernel
theorem dL_law_142 : decode cL_law 142 = .ok (.iconst 1, 1) := by decide +kernel
theorem dL_law_143 : decode cL_law 143 = .ok (.iadd, 1) := by decide +kernel
theorem dL_law_144 : decode cL_law 144 = .ok (.iaload, 1) := by decide +kernel
theorem dL_law_145 : decode cL_law 145 = .ok (.i2l, 1) := by decide +kernel
theorem dL_law_146 : decode cL_law 146 = .ok (.bipush 32, 2) := by decide +kernel
theorem dL_law_148 : decode cL_law 148 = .ok (.lshl, 1) := by decide +kernel
theorem dL_law_149 : decode cL_law 149 = .ok (.aload_n 0, 1) := by decide +kernel
theorem dL_law_150 : decode cL_law 150 = .ok (.iload 4, 2) := by decide +kernel
theorem dL_law_152 : decode cL_law 152 = .ok (.iconst 2, 1) := by decide +kernel
theorem dL_law_153 : decode cL_law 153 = .ok (.iadd, 1) := by decide +kernel
theorem dL_law_154 : decode cL_law 154 = .ok (.iaload, 1) := by decide +kernel
theorem dL_law_155 : decode cL_law 155 = .ok (.i2l, 1) := by decide +kernel
theorem dL_law_156 : decode cL_law 156 = .ok (.ldc2_w 59, 3) := by decide +kernel
theorem dL_law_159 : decode cL_law 159 = .ok (.land, 1) := by decide +kernel
theorem dL_law_160 : decode cL_law 160 = .ok (.lor, 1) := by decide +kernel
theorem dL_law_161 : decode cL_law 161 = .ok (.invokevirtual 65, 3) := by decide +kernel
theorem dL_law_164 : decode cL_law 164 = .ok (.if_icmp .eq 800, 3) := by decide +kernel
theorem dL_law_167 : decode cL_law 167 = .ok (.iconst 0, 1) := by decide +kernel
theorem dL_law_168 : decode cL_law 168 = .ok (.ireturn, 1) := by decide +kernel
theorem dL_law_169 : decode cL_law 169 = .ok (.aload_n 1, 1) := by decide +kernel
theorem dL_law_170 : decode cL_law 170 = .ok (.invokevirtual 66, 3) := by decide +kernel
theorem dL_law_173 : decode cL_law 173 = .ok (.aload_n 2, 1) := by decide +kernel
theorem dL_law_174 : decode cL_law 174 = .ok (.invokevirtual 69, 3) := by decide +kernel
theorem dL_law_177 : decode cL_law 177 = .ok (.goto 787, 3) := by decide +kernel
theorem dL_law_180 : decode cL_law 180 = .ok (.aload_n 1, 1) := by decide +kernel
theorem dL_law_181 : decode cL_law 181 = .ok (.invokevirtual 70, 3) := by decide +kernel
theorem dL_law_184 : decode cL_law 184 = .ok (.aload_n 2, 1) := by decide +kernel
theorem dL_law_185 : decode cL_law 185 = .ok (.invokevirtual 73, 3) := by decide +kernel
theorem dL_law_188 : decode cL_law 188 = .ok (.if_icmp .eq 776, 3) := by decide +kernel
theorem dL_law_191 : decode cL_law 191 = .ok (.iconst 0, 1) := by decide +kernel
theorem dL_law_192 : decode cL_law 192 = .ok (.ireturn, 1) := by decide +kernel
theorem dL_law_193 : decode cL_law 193 = .ok (.aload_n 1, 1) := by decide +kernel
theorem dL_law_194 : decode cL_law 194 = .ok (.aload_n 0, 1) := by decide +kernel
theorem dL_law_195 : decode cL_law 195 = .ok (.iload 4, 2) := by decide +kernel
theorem dL_law_197 : decode cL_law 197 = .ok (.iconst 1, 1) := by decide +kernel
theorem dL_law_198 : decode cL_law 198 = .ok (.iadd, 1) := by decide +kernel
theorem dL_law_199 : decode cL_law 199 = .ok (.iaload, 1) := by decide +kernel
theorem dL_law_200 : decode cL_law 200 = .ok (.aload_n 0, 1) := by decide +kernel
theorem dL_law_201 : decode cL_law 201 = .ok (.iload 4, 2) := by decide +kernel
theorem dL_law_203 : decode cL_law 203 = .ok (.iconst 2, 1) := by decide +kernel
theorem dL_law_204 : decode cL_law 204 = .ok (.iadd, 1) := by decide +kernel
theorem dL_law_205 : decode cL_law 205 = .ok (.iaload, 1) := by decide +kernel
theorem dL_law_206 : decode cL_law 206 = .ok (.aload_n 0, 1) := by decide +kernel
theorem dL_law_207 : decode cL_law 207 = .ok (.iload 4, 2) := by decide +kernel
theorem dL_law_209 : decode cL_law 209 = .ok (.iconst 3, 1) := by decide +kernel
theorem dL_law_210 : decode cL_law 210 = .ok (.iadd, 1) := by decide +kernel
theorem dL_law_211 : decode cL_law 211 = .ok (.iaload, 1) := by decide +kernel
theorem dL_law_212 : decode cL_law 212 = .ok (.ifCond .eq 7, 3) := by decide +kernel
theorem dL_law_215 : decode cL_law 215 = .ok (.iconst 1, 1) := by decide +kernel
theorem dL_law_216 : decode cL_law 216 = .ok (.goto 4, 3) := by decide +kernel
theorem dL_law_219 : decode cL_law 219 = .ok (.iconst 0, 1) := by decide +kernel
theorem dL_law_220 : decode cL_law 220 = .ok (.aload_n 0, 1) := by decide +kernel
theorem dL_law_221 : decode cL_law 221 = .ok (.iload 4, 2) := by decide +kernel
theorem dL_law_223 : decode cL_law 223 = .ok (.iconst 4, 1) := by decide +kernel
theorem dL_law_224 : decode cL_law 224 = .ok (.iadd, 1) := by decide +kernel
theorem dL_law_225 : decode cL_law 225 = .ok (.iaload, 1) := by decide +kernel
theorem dL_law_226 : decode cL_law 226 = .ok (.aload_n 3, 1) := by decide +kernel
theorem dL_law_227 : decode cL_law 227 = .ok (.invokestatic 74, 3) := by decide +kernel
theorem dL_law_230 : decode cL_law 230 = .ok (.istore 5, 2) := by decide +kernel
theorem dL_law_232 : decode cL_law 232 = .ok (.aload_n 2, 1) := by decide +kernel
theorem dL_law_233 : decode cL_law 233 = .ok (.aload_n 0, 1) := by decide +kernel
theorem dL_law_234 : decode cL_law 234 = .ok (.iload 4, 2) := by decide +kernel
theorem dL_law_236 : decode cL_law 236 = .ok (.iconst 1, 1) := by decide +kernel
theorem dL_law_237 : decode cL_law 237 = .ok (.iadd, 1) := by decide +kernel
theorem dL_law_238 : decode cL_law 238 = .ok (.iaload, 1) := by decide +kernel
theorem dL_law_239 : decode cL_law 239 = .ok (.aload_n 0, 1) := by decide +kernel
theorem dL_law_240 : decode cL_law 240 = .ok (.iload 4, 2) := by decide +kernel
theorem dL_law_242 : decode cL_law 242 = .ok (.iconst 2, 1) := by decide +kernel
theorem dL_law_243 : decode cL_law 243 = .ok (.iadd, 1) := by decide +kernel
theorem dL_law_244 : decode cL_law 244 = .ok (.iaload, 1) := by decide +kernel
theorem dL_law_245 : decode cL_law 245 = .ok (.aload_n 0, 1) := by decide +kernel
theorem dL_law_246 : decode cL_law 246 = .ok (.iload 4, 2) := by decide +kernel
theorem dL_law_248 : decode cL_law 248 = .ok (.iconst 3, 1) := by decide +kernel
theorem dL_law_249 : decode cL_law 249 = .ok (.iadd, 1) := by decide +kernel
theorem dL_law_250 : decode cL_law 250 = .ok (.iaload, 1) := by decide +kernel
theorem dL_law_251 : decode cL_law 251 = .ok (.ifCond .eq 7, 3) := by decide +kernel
theorem dL_law_254 : decode cL_law 254 = .ok (.iconst 1, 1) := by decide +kernel
theorem dL_law_255 : decode cL_law 255 = .ok (.goto 4, 3) := by decide +kernel
theorem dL_law_258 : decode cL_law 258 = .ok (.iconst 0, 1) := by decide +kernel
theorem dL_law_259 : decode cL_law 259 = .ok (.aload_n 0, 1) := by decide +kernel
theorem dL_law_260 : decode cL_law 260 = .ok (.iload 4, 2) := by decide +kernel
theorem dL_law_262 : decode cL_law 262 = .ok (.iconst 4, 1) := by decide +kernel
theorem dL_law_263 : decode cL_law 263 = .ok (.iadd, 1) := by decide +kernel
theorem dL_law_264 : decode cL_law 264 = .ok (.iaload, 1) := by decide +kernel
theorem dL_law_265 : decode cL_law 265 = .ok (.invokevirtual 79, 3) := by decide +kernel
theorem dL_law_268 : decode cL_law 268 = .ok (.istore 6, 2) := by decide +kernel
theorem dL_law_270 : decode cL_law 270 = .ok (.aload_n 2, 1) := by decide +kernel
theorem dL_law_271 : decode cL_law 271 = .ok (.invokevirtual 80, 3) := by decide +kernel
theorem dL_law_274 : decode cL_law 274 = .ok (.iload 5, 2) := by decide +kernel
theorem dL_law_276 : decode cL_law 276 = .ok (.if_icmp .eq 5, 3) := by decide +kernel
theorem dL_law_279 : decode cL_law 279 = .ok (.iconst 0, 1) := by decide +kernel
theorem dL_law_280 : decode cL_law 280 = .ok (.ireturn, 1) := by decide +kernel
theorem dL_law_281 : decode cL_law 281 = .ok (.iload 5, 2) := by decide +kernel
theorem dL_law_283 : decode cL_law 283 = .ok (.ifCond .ne 15, 3) := by decide +kernel
theorem dL_law_286 : decode cL_law 286 = .ok (.aload_n 3, 1) := by decide +kernel
theorem dL_law_287 : decode cL_law 287 = .ok (.iconst 0, 1) := by decide +kernel
theorem dL_law_288 : decode cL_law 288 = .ok (.laload, 1) := by decide +kernel
theorem dL_law_289 : decode cL_law 289 = .ok (.iload 6, 2) := by decide +kernel
theorem dL_law_291 : decode cL_law 291 = .ok (.i2l, 1) := by decide +kernel
theorem dL_law_292 : decode cL_law 292 = .ok (.lcmp, 1) := by decide +kernel
theorem dL_law_293 : decode cL_law 293 = .ok (.ifCond .eq 5, 3) := by decide +kernel
theorem dL_law_296 : decode cL_law 296 = .ok (.iconst 0, 1) := by decide +kernel
theorem dL_law_297 : decode cL_law 297 = .ok (.ireturn, 1) := by decide +kernel
theorem dL_law_298 : decode cL_law 298 = .ok (.goto 666, 3) := by decide +kernel
theorem dL_law_301 : decode cL_law 301 = .ok (.aload_n 1, 1) := by decide +kernel
theorem dL_law_302 : decode cL_law 302 = .ok (.aload_n 0, 1) := by decide +kernel
theorem dL_law_303 : decode cL_law 303 = .ok (.iload 4, 2) := by decide +kernel
theorem dL_law_305 : decode cL_law 305 = .ok (.iconst 1, 1) := by decide +kernel
theorem dL_law_306 : decode cL_law 306 = .ok (.iadd, 1) := by decide +kernel
theorem dL_law_307 : decode cL_law 307 = .ok (.iaload, 1) := by decide +kernel
theorem dL_law_308 : decode cL_law 308 = .ok (.aload_n 0, 1) := by decide +kernel
theorem dL_law_309 : decode cL_law 309 = .ok (.iload 4, 2) := by decide +kernel
theorem dL_law_311 : decode cL_law 311 = .ok (.iconst 2, 1) := by decide +kernel
theorem dL_law_312 : decode cL_law 312 = .ok (.iadd, 1) := by decide +kernel
theorem dL_law_313 : decode cL_law 313 = .ok (.iaload, 1) := by decide +kernel
theorem dL_law_314 : decode cL_law 314 = .ok (.ifCond .eq 7, 3) := by decide +kernel
theorem dL_law_317 : decode cL_law 317 = .ok (.iconst 1, 1) := by decide +kernel
theorem dL_law_318 : decode cL_law 318 = .ok (.goto 4, 3) := by decide +kernel
theorem dL_law_321 : decode cL_law 321 = .ok (.iconst 0, 1) := by decide +kernel
theorem dL_law_322 : decode cL_law 322 = .ok (.aload_n 0, 1) := by decide +kernel
theorem dL_law_323 : decode cL_law 323 = .ok (.iload 4, 2) := by decide +kernel
theorem dL_law_325 : decode cL_law 325 = .ok (.iconst 3, 1) := by decide +kernel
theorem dL_law_326 : decode cL_law 326 = .ok (.iadd, 1) := by decide +kernel
theorem dL_law_327 : decode cL_law 327 = .ok (.iaload, 1) := by decide +kernel
theorem dL_law_328 : decode cL_law 328 = .ok (.aload_n 3, 1) := by decide +kernel
theorem dL_law_329 : decode cL_law 329 = .ok (.invokestatic 83, 3) := by decide +kernel
theorem dL_law_332 : decode cL_law 332 = .ok (.istore 5, 2) := by decide +kernel
theorem dL_law_334 : decode cL_law 334 = .ok (.aload_n 2, 1) := by decide +kernel
theorem dL_law_335 : decode cL_law 335 = .ok (.aload_n 0, 1) := by decide +kernel
theorem dL_law_336 : decode cL_law 336 = .ok (.iload 4, 2) := by decide +kernel
theorem dL_law_338 : decode cL_law 338 = .ok (.iconst 1, 1) := by decide +kernel
theorem dL_law_339 : decode cL_law 339 = .ok (.iadd, 1) := by decide +kernel
theorem dL_law_340 : decode cL_law 340 = .ok (.iaload, 1) := by decide +kernel
theorem dL_law_341 : decode cL_law 341 = .ok (.aload_n 0, 1) := by decide +kernel
theorem dL_law_342 : decode cL_law 342 = .ok (.iload 4, 2) := by decide +kernel
theorem dL_law_344 : decode cL_law 344 = .ok (.iconst 2, 1) := by decide +kernel
theorem dL_law_345 : decode cL_law 345 = .ok (.iadd, 1) := by decide +kernel
theorem dL_law_346 : decode cL_law 346 = .ok (.iaload, 1) := by decide +kernel
theorem dL_law_347 : decode cL_law 347 = .ok (.ifCond .eq 7, 3) := by decide +kernel
theorem dL_law_350 : decode cL_law 350 = .ok (.iconst 1, 1) := by decide +kernel
theorem dL_law_351 : decode cL_law 351 = .ok (.goto 4, 3) := by decide +kernel
theorem dL_law_354 : decode cL_law 354 = .ok (.iconst 0, 1) := by decide +kernel
theorem dL_law_355 : decode cL_law 355 = .ok (.aload_n 0, 1) := by decide +kernel
theorem dL_law_356 : decode cL_law 356 = .ok (.iload 4, 2) := by decide +kernel
theorem dL_law_358 : decode cL_law 358 = .ok (.iconst 3, 1) := by decide +kernel
theorem dL_law_359 : decode cL_law 359 = .ok (.iadd, 1) := by decide +kernel
theorem dL_law_360 : decode cL_law 360 = .ok (.iaload, 1) := by decide +kernel
theorem dL_law_361 : decode cL_law 361 = .ok (.invokevirtual 86, 3) := by decide +kernel
theorem dL_law_364 : decode cL_law 364 = .ok (.istore 6, 2) := by decide +kernel
theorem dL_law_366 : decode cL_law 366 = .ok (.aload_n 2, 1) := by decide +kernel
theorem dL_law_367 : decode cL_law 367 = .ok (.invokevirtual 80, 3) := by decide +kernel
theorem dL_law_370 : decode cL_law 370 = .ok (.iload 5, 2) := by decide +kernel
theorem dL_law_372 : decode cL_law 372 = .ok (.if_icmp .eq 5, 3) := by decide +kernel
theorem dL_law_375 : decode cL_law 375 = .ok (.iconst 0, 1) := by decide +kernel
theorem dL_law_376 : decode cL_law 376 = .ok (.ireturn, 1) := by decide +kernel
theorem dL_law_377 : decode cL_law 377 = .ok (.iload 5, 2) := by decide +kernel
theorem dL_law_379 : decode cL_law 379 = .ok (.ifCond .ne 15, 3) := by decide +kernel
theorem dL_law_382 : decode cL_law 382 = .ok (.aload_n 3, 1) := by decide +kernel
theorem dL_law_383 : decode cL_law 383 = .ok (.iconst 0, 1) := by decide +kernel
theorem dL_law_384 : decode cL_law 384 = .ok (.laload, 1) := by decide +kernel
theorem dL_law_385 : decode cL_law 385 = .ok (.iload 6, 2) := by decide +kernel
theorem dL_law_387 : decode cL_law 387 = .ok (.i2l, 1) := by decide +kernel
theorem dL_law_388 : decode cL_law 388 = .ok (.lcmp, 1) := by decide +kernel
theorem dL_law_389 : decode cL_law 389 = .ok (.ifCond .eq 5, 3) := by decide +kernel
theorem dL_law_392 : decode cL_law 392 = .ok (.iconst 0, 1) := by decide +kernel
theorem dL_law_393 : decode cL_law 393 = .ok (.ireturn, 1) := by decide +kernel
theorem dL_law_394 : decode cL_law 394 = .ok (.goto 570, 3) := by decide +kernel
theorem dL_law_397 : decode cL_law 397 = .ok (.aload_n 1, 1) := by decide +kernel
theorem dL_law_398 : decode cL_law 398 = .ok (.aload_n 0, 1) := by decide +kernel
theorem dL_law_399 : decode cL_law 399 = .ok (.iload 4, 2) := by decide +kernel
theorem dL_law_401 : decode cL_law 401 = .ok (.iconst 1, 1) := by decide +kernel
theorem dL_law_402 : decode cL_law 402 = .ok (.iadd, 1) := by decide +kernel
theorem dL_law_403 : decode cL_law 403 = .ok (.iaload, 1) := by decide +kernel
theorem dL_law_404 : decode cL_law 404 = .ok (.aload_n 3, 1) := by decide +kernel
theorem dL_law_405 : decode cL_law 405 = .ok (.invokestatic 87, 3) := by decide +kernel
theorem dL_law_408 : decode cL_law 408 = .ok (.istore 5, 2) := by decide +kernel
theorem dL_law_410 : decode cL_law 410 = .ok (.aload_n 2, 1) := by decide +kernel
theorem dL_law_411 : decode cL_law 411 = .ok (.aload_n 0, 1) := by decide +kernel
theorem dL_law_412 : decode cL_law 412 = .ok (.iload 4, 2) := by decide +kernel
theorem dL_law_414 : decode cL_law 414 = .ok (.iconst 1, 1) := by decide +kernel
theorem dL_law_415 : decode cL_law 415 = .ok (.iadd, 1) := by decide +kernel
theorem dL_law_416 : decode cL_law 416 = .ok (.iaload, 1) := by decide +kernel
theorem dL_law_417 : decode cL_law 417 = .ok (.invokevirtual 90, 3) := by decide +kernel
theorem dL_law_420 : decode cL_law 420 = .ok (.istore 6, 2) := by decide +kernel
theorem dL_law_422 : decode cL_law 422 = .ok (.aload_n 2, 1) := by decide +kernel
theorem dL_law_423 : decode cL_law 423 = .ok (.invokevirtual 80, 3) := by decide +kernel
theorem dL_law_426 : decode cL_law 426 = .ok (.iload 5, 2) := by decide +kernel
theorem dL_law_428 : decode cL_law 428 = .ok (.if_icmp .eq 5, 3) := by decide +kernel
theorem dL_law_431 : decode cL_law 431 = .ok (.iconst 0, 1) := by decide +kernel
theorem dL_law_432 : decode cL_law 432 = .ok (.ireturn, 1) := by decide +kernel
theorem dL_law_433 : decode cL_law 433 = .ok (.iload 5, 2) := by decide +kernel
theorem dL_law_435 : decode cL_law 435 = .ok (.ifCond .ne 22, 3) := by decide +kernel
theorem dL_law_438 : decode cL_law 438 = .ok (.aload_n 3, 1) := by decide +kernel
theorem dL_law_439 : decode cL_law 439 = .ok (.iconst 0, 1) := by decide +kernel
theorem dL_law_440 : decode cL_law 440 = .ok (.laload, 1) := by decide +kernel
theorem dL_law_441 : decode cL_law 441 = .ok (.iload 6, 2) := by decide +kernel
theorem dL_law_443 : decode cL_law 443 = .ok (.ifCond .eq 7, 3) := by decide +kernel
theorem dL_law_446 : decode cL_law 446 = .ok (.lconst 1, 1) := by decide +kernel
theorem dL_law_447 : decode cL_law 447 = .ok (.goto 4, 3) := by decide +kernel
theorem dL_law_450 : decode cL_law 450 = .ok (.lconst 0, 1) := by decide +kernel
theorem dL_law_451 : decode cL_law 451 = .ok (.lcmp, 1) := by decide +kernel
theorem dL_law_452 : decode cL_law 452 = .ok (.ifCond .eq 5, 3) := by decide +kernel
theorem dL_law_455 : decode cL_law 455 = .ok (.iconst 0, 1) := by decide +kernel
theorem dL_law_456 : decode cL_law 456 = .ok (.ireturn, 1) := by decide +kernel
theorem dL_law_457 : decode cL_law 457 = .ok (.goto 507, 3) := by decide +kernel
theorem dL_law_460 : decode cL_law 460 = .ok (.aload_n 1, 1) := by decide +kernel
theorem dL_law_461 : decode cL_law 461 = .ok (.aload_n 0, 1) := by decide +kernel
theorem dL_law_462 : decode cL_law 462 = .ok (.iload 4, 2) := by decide +kernel
theorem dL_law_464 : decode cL_law 464 = .ok (.iconst 1, 1) := by decide +kernel
theorem dL_law_465 : decode cL_law 465 = .ok (.iadd, 1) := by decide +kernel
theorem dL_law_466 : decode cL_law 466 = .ok (.iaload, 1) := by decide +kernel
theorem dL_law_467 : decode cL_law 467 = .ok (.aload_n 3, 1) := by decide +kernel
theorem dL_law_468 : decode cL_law 468 = .ok (.invokestatic 91, 3) := by decide +kernel
theorem dL_law_471 : decode cL_law 471 = .ok (.istore 5, 2) := by decide +kernel
theorem dL_law_473 : decode cL_law 473 = .ok (.aload_n 2, 1) := by decide +kernel
theorem dL_law_474 : decode cL_law 474 = .ok (.aload_n 0, 1) := by decide +kernel
theorem dL_law_475 : decode cL_law 475 = .ok (.iload 4, 2) := by decide +kernel
theorem dL_law_477 : decode cL_law 477 = .ok (.iconst 1, 1) := by decide +kernel
theorem dL_law_478 : decode cL_law 478 = .ok (.iadd, 1) := by decide +kernel
theorem dL_law_479 : decode cL_law 479 = .ok (.iaload, 1) := by decide +kernel
theorem dL_law_480 : decode cL_law 480 = .ok (.invokevirtual 93, 3) := by decide +kernel
theorem dL_law_483 : decode cL_law 483 = .ok (.istore 6, 2) := by decide +kernel
theorem dL_law_485 : decode cL_law 485 = .ok (.aload_n 2, 1) := by decide +kernel
theorem dL_law_486 : decode cL_law 486 = .ok (.invokevirtual 80, 3) := by decide +kernel
theorem dL_law_489 : decode cL_law 489 = .ok (.iload 5, 2) := by decide +kernel
theorem dL_law_491 : decode cL_law 491 = .ok (.if_icmp .eq 5, 3) := by decide +kernel
theorem dL_law_494 : decode cL_law 494 = .ok (.iconst 0, 1) := by decide +kernel
theorem dL_law_495 : decode cL_law 495 = .ok (.ireturn, 1) := by decide +kernel
theorem dL_law_496 : decode cL_law 496 = .ok (.iload 5, 2) := by decide +kernel
theorem dL_law_498 : decode cL_law 498 = .ok (.ifCond .ne 22, 3) := by decide +kernel
theorem dL_law_501 : decode cL_law 501 = .ok (.aload_n 3, 1) := by decide +kernel
theorem dL_law_502 : decode cL_law 502 = .ok (.iconst 0, 1) := by decide +kernel
theorem dL_law_503 : decode cL_law 503 = .ok (.laload, 1) := by decide +kernel
theorem dL_law_504 : decode cL_law 504 = .ok (.iload 6, 2) := by decide +kernel
theorem dL_law_506 : decode cL_law 506 = .ok (.ifCond .eq 7, 3) := by decide +kernel
theorem dL_law_509 : decode cL_law 509 = .ok (.lconst 1, 1) := by decide +kernel
theorem dL_law_510 : decode cL_law 510 = .ok (.goto 4, 3) := by decide +kernel
theorem dL_law_513 : decode cL_law 513 = .ok (.lconst 0, 1) := by decide +kernel
theorem dL_law_514 : decode cL_law 514 = .ok (.lcmp, 1) := by decide +kernel
theorem dL_law_515 : decode cL_law 515 = .ok (.ifCond .eq 5, 3) := by decide +kernel
theorem dL_law_518 : decode cL_law 518 = .ok (.iconst 0, 1) := by decide +kernel
theorem dL_law_519 : decode cL_law 519 = .ok (.ireturn, 1) := by decide +kernel
theorem dL_law_520 : decode cL_law 520 = .ok (.goto 444, 3) := by decide +kernel
theorem dL_law_523 : decode cL_law 523 = .ok (.aload_n 1, 1) := by decide +kernel
theorem dL_law_524 : decode cL_law 524 = .ok (.aload_n 3, 1) := by decide +kernel
theorem dL_law_525 : decode cL_law 525 = .ok (.invokestatic 94, 3) := by decide +kernel
theorem dL_law_528 : decode cL_law 528 = .ok (.istore 5, 2) := by decide +kernel
theorem dL_law_530 : decode cL_law 530 = .ok (.aload_n 2, 1) := by decide +kernel
theorem dL_law_531 : decode cL_law 531 = .ok (.invokevirtual 97, 3) := by decide +kernel
theorem dL_law_534 : decode cL_law 534 = .ok (.istore 6, 2) := by decide +kernel
theorem dL_law_536 : decode cL_law 536 = .ok (.aload_n 2, 1) := by decide +kernel
theorem dL_law_537 : decode cL_law 537 = .ok (.invokevirtual 80, 3) := by decide +kernel
theorem dL_law_540 : decode cL_law 540 = .ok (.iload 5, 2) := by decide +kernel
theorem dL_law_542 : decode cL_law 542 = .ok (.if_icmp .eq 5, 3) := by decide +kernel
theorem dL_law_545 : decode cL_law 545 = .ok (.iconst 0, 1) := by decide +kernel
theorem dL_law_546 : decode cL_law 546 = .ok (.ireturn, 1) := by decide +kernel
theorem dL_law_547 : decode cL_law 547 = .ok (.iload 5, 2) := by decide +kernel
theorem dL_law_549 : decode cL_law 549 = .ok (.ifCond .ne 15, 3) := by decide +kernel
theorem dL_law_552 : decode cL_law 552 = .ok (.aload_n 3, 1) := by decide +kernel
theorem dL_law_553 : decode cL_law 553 = .ok (.iconst 0, 1) := by decide +kernel
theorem dL_law_554 : decode cL_law 554 = .ok (.laload, 1) := by decide +kernel
theorem dL_law_555 : decode cL_law 555 = .ok (.iload 6, 2) := by decide +kernel
theorem dL_law_557 : decode cL_law 557 = .ok (.i2l, 1) := by decide +kernel
theorem dL_law_558 : decode cL_law 558 = .ok (.lcmp, 1) := by decide +kernel
theorem dL_law_559 : decode cL_law 559 = .ok (.ifCond .eq 5, 3) := by decide +kernel
theorem dL_law_562 : decode cL_law 562 = .ok (.iconst 0, 1) := by decide +kernel
theorem dL_law_563 : decode cL_law 563 = .ok (.ireturn, 1) := by decide +kernel
theorem dL_law_564 : decode cL_law 564 = .ok (.goto 400, 3) := by decide +kernel
theorem dL_law_567 : decode cL_law 567 = .ok (.aload_n 1, 1) := by decide +kernel
theorem dL_law_568 : decode cL_law 568 = .ok (.invokevirtual 98, 3) := by decide +kernel
theorem dL_law_571 : decode cL_law 571 = .ok (.aload_n 2, 1) := by decide +kernel
theorem dL_law_572 : decode cL_law 572 = .ok (.invokevirtual 101, 3) := by decide +kernel
theorem dL_law_575 : decode cL_law 575 = .ok (.if_icmp .eq 389, 3) := by decide +kernel
theorem dL_law_578 : decode cL_law 578 = .ok (.iconst 0, 1) := by decide +kernel
theorem dL_law_579 : decode cL_law 579 = .ok (.ireturn, 1) := by decide +kernel
theorem dL_law_580 : decode cL_law 580 = .ok (.aload_n 1, 1) := by decide +kernel
theorem dL_law_581 : decode cL_law 581 = .ok (.aload_n 0, 1) := by decide +kernel
theorem dL_law_582 : decode cL_law 582 = .ok (.iload 4, 2) := by decide +kernel
theorem dL_law_584 : decode cL_law 584 = .ok (.iconst 1, 1) := by decide +kernel
theorem dL_law_585 : decode cL_law 585 = .ok (.iadd, 1) := by decide +kernel
theorem dL_law_586 : decode cL_law 586 = .ok (.iaload, 1) := by decide +kernel
theorem dL_law_587 : decode cL_law 587 = .ok (.aload_n 3, 1) := by decide +kernel
theorem dL_law_588 : decode cL_law 588 = .ok (.invokestatic 102, 3) := by decide +kernel
theorem dL_law_591 : decode cL_law 591 = .ok (.istore 5, 2) := by decide +kernel
theorem dL_law_593 : decode cL_law 593 = .ok (.aload_n 2, 1) := by decide +kernel
theorem dL_law_594 : decode cL_law 594 = .ok (.aload_n 0, 1) := by decide +kernel
theorem dL_law_595 : decode cL_law 595 = .ok (.iload 4, 2) := by decide +kernel
theorem dL_law_597 : decode cL_law 597 = .ok (.iconst 1, 1) := by decide +kernel
theorem dL_law_598 : decode cL_law 598 = .ok (.iadd, 1) := by decide +kernel
theorem dL_law_599 : decode cL_law 599 = .ok (.iaload, 1) := by decide +kernel
theorem dL_law_600 : decode cL_law 600 = .ok (.invokevirtual 104, 3) := by decide +kernel
theorem dL_law_603 : decode cL_law 603 = .ok (.istore 6, 2) := by decide +kernel
theorem dL_law_605 : decode cL_law 605 = .ok (.aload_n 2, 1) := by decide +kernel
theorem dL_law_606 : decode cL_law 606 = .ok (.invokevirtual 80, 3) := by decide +kernel
theorem dL_law_609 : decode cL_law 609 = .ok (.iload 5, 2) := by decide +kernel
theorem dL_law_611 : decode cL_law 611 = .ok (.if_icmp .eq 5, 3) := by decide +kernel
theorem dL_law_614 : decode cL_law 614 = .ok (.iconst 0, 1) := by decide +kernel
theorem dL_law_615 : decode cL_law 615 = .ok (.ireturn, 1) := by decide +kernel
theorem dL_law_616 : decode cL_law 616 = .ok (.iload 5, 2) := by decide +kernel
theorem dL_law_618 : decode cL_law 618 = .ok (.ifCond .ne 15, 3) := by decide +kernel
theorem dL_law_621 : decode cL_law 621 = .ok (.aload_n 3, 1) := by decide +kernel
theorem dL_law_622 : decode cL_law 622 = .ok (.iconst 0, 1) := by decide +kernel
theorem dL_law_623 : decode cL_law 623 = .ok (.laload, 1) := by decide +kernel
theorem dL_law_624 : decode cL_law 624 = .ok (.iload 6, 2) := by decide +kernel
theorem dL_law_626 : decode cL_law 626 = .ok (.i2l, 1) := by decide +kernel
theorem dL_law_627 : decode cL_law 627 = .ok (.lcmp, 1) := by decide +kernel
theorem dL_law_628 : decode cL_law 628 = .ok (.ifCond .eq 5, 3) := by decide +kernel
theorem dL_law_631 : decode cL_law 631 = .ok (.iconst 0, 1) := by decide +kernel
theorem dL_law_632 : decode cL_law 632 = .ok (.ireturn, 1) := by decide +kernel
theorem dL_law_633 : decode cL_law 633 = .ok (.goto 331, 3) := by decide +kernel
theorem dL_law_636 : decode cL_law 636 = .ok (.aload_n 1, 1) := by decide +kernel
theorem dL_law_637 : decode cL_law 637 = .ok (.aload_n 0, 1) := by decide +kernel
theorem dL_law_638 : decode cL_law 638 = .ok (.iload 4, 2) := by decide +kernel
theorem dL_law_640 : decode cL_law 640 = .ok (.iconst 1, 1) := by decide +kernel
theorem dL_law_641 : decode cL_law 641 = .ok (.iadd, 1) := by decide +kernel
theorem dL_law_642 : decode cL_law 642 = .ok (.iaload, 1) := by decide +kernel
theorem dL_law_643 : decode cL_law 643 = .ok (.aload_n 0, 1) := by decide +kernel
theorem dL_law_644 : decode cL_law 644 = .ok (.iload 4, 2) := by decide +kernel
theorem dL_law_646 : decode cL_law 646 = .ok (.iconst 2, 1) := by decide +kernel
theorem dL_law_647 : decode cL_law 647 = .ok (.iadd, 1) := by decide +kernel
theorem dL_law_648 : decode cL_law 648 = .ok (.iaload, 1) := by decide +kernel
theorem dL_law_649 : decode cL_law 649 = .ok (.aload_n 3, 1) := by decide +kernel
theorem dL_law_650 : decode cL_law 650 = .ok (.invokestatic 105, 3) := by decide +kernel
theorem dL_law_653 : decode cL_law 653 = .ok (.istore 5, 2) := by decide +kernel
theorem dL_law_655 : decode cL_law 655 = .ok (.aload_n 2, 1) := by decide +kernel
theorem dL_law_656 : decode cL_law 656 = .ok (.aload_n 0, 1) := by decide +kernel
theorem dL_law_657 : decode cL_law 657 = .ok (.iload 4, 2) := by decide +kernel
theorem dL_law_659 : decode cL_law 659 = .ok (.iconst 1, 1) := by decide +kernel
theorem dL_law_660 : decode cL_law 660 = .ok (.iadd, 1) := by decide +kernel
theorem dL_law_661 : decode cL_law 661 = .ok (.iaload, 1) := by decide +kernel
theorem dL_law_662 : decode cL_law 662 = .ok (.aload_n 0, 1) := by decide +kernel
theorem dL_law_663 : decode cL_law 663 = .ok (.iload 4, 2) := by decide +kernel
theorem dL_law_665 : decode cL_law 665 = .ok (.iconst 2, 1) := by decide +kernel
theorem dL_law_666 : decode cL_law 666 = .ok (.iadd, 1) := by decide +kernel
theorem dL_law_667 : decode cL_law 667 = .ok (.iaload, 1) := by decide +kernel
theorem dL_law_668 : decode cL_law 668 = .ok (.invokevirtual 108, 3) := by decide +kernel
theorem dL_law_671 : decode cL_law 671 = .ok (.istore 6, 2) := by decide +kernel
theorem dL_law_673 : decode cL_law 673 = .ok (.aload_n 2, 1) := by decide +kernel
theorem dL_law_674 : decode cL_law 674 = .ok (.invokevirtual 80, 3) := by decide +kernel
theorem dL_law_677 : decode cL_law 677 = .ok (.iload 5, 2) := by decide +kernel
theorem dL_law_679 : decode cL_law 679 = .ok (.if_icmp .eq 5, 3) := by decide +kernel
theorem dL_law_682 : decode cL_law 682 = .ok (.iconst 0, 1) := by decide +kernel
theorem dL_law_683 : decode cL_law 683 = .ok (.ireturn, 1) := by decide +kernel
theorem dL_law_684 : decode cL_law 684 = .ok (.iload 5, 2) := by decide +kernel
theorem dL_law_686 : decode cL_law 686 = .ok (.ifCond .ne 15, 3) := by decide +kernel
theorem dL_law_689 : decode cL_law 689 = .ok (.aload_n 3, 1) := by decide +kernel
theorem dL_law_690 : decode cL_law 690 = .ok (.iconst 0, 1) := by decide +kernel
theorem dL_law_691 : decode cL_law 691 = .ok (.laload, 1) := by decide +kernel
theorem dL_law_692 : decode cL_law 692 = .ok (.iload 6, 2) := by decide +kernel
theorem dL_law_694 : decode cL_law 694 = .ok (.i2l, 1) := by decide +kernel
theorem dL_law_695 : decode cL_law 695 = .ok (.lcmp, 1) := by decide +kernel
theorem dL_law_696 : decode cL_law 696 = .ok (.ifCond .eq 5, 3) := by decide +kernel
theorem dL_law_699 : decode cL_law 699 = .ok (.iconst 0, 1) := by decide +kernel
theorem dL_law_700 : decode cL_law 700 = .ok (.ireturn, 1) := by decide +kernel
theorem dL_law_701 : decode cL_law 701 = .ok (.goto 263, 3) := by decide +kernel
theorem dL_law_704 : decode cL_law 704 = .ok (.aload_n 1, 1) := by decide +kernel
theorem dL_law_705 : decode cL_law 705 = .ok (.aload_n 0, 1) := by decide +kernel
theorem dL_law_706 : decode cL_law 706 = .ok (.iload 4, 2) := by decide +kernel
theorem dL_law_708 : decode cL_law 708 = .ok (.iconst 1, 1) := by decide +kernel
theorem dL_law_709 : decode cL_law 709 = .ok (.iadd, 1) := by decide +kernel
theorem dL_law_710 : decode cL_law 710 = .ok (.iaload, 1) := by decide +kernel
theorem dL_law_711 : decode cL_law 711 = .ok (.aload_n 3, 1) := by decide +kernel
theorem dL_law_712 : decode cL_law 712 = .ok (.invokestatic 109, 3) := by decide +kernel
theorem dL_law_715 : decode cL_law 715 = .ok (.istore 5, 2) := by decide +kernel
theorem dL_law_717 : decode cL_law 717 = .ok (.aload_n 2, 1) := by decide +kernel
theorem dL_law_718 : decode cL_law 718 = .ok (.aload_n 0, 1) := by decide +kernel
theorem dL_law_719 : decode cL_law 719 = .ok (.iload 4, 2) := by decide +kernel
theorem dL_law_721 : decode cL_law 721 = .ok (.iconst 1, 1) := by decide +kernel
theorem dL_law_722 : decode cL_law 722 = .ok (.iadd, 1) := by decide +kernel
theorem dL_law_723 : decode cL_law 723 = .ok (.iaload, 1) := by decide +kernel
theorem dL_law_724 : decode cL_law 724 = .ok (.invokevirtual 111, 3) := by decide +kernel
theorem dL_law_727 : decode cL_law 727 = .ok (.istore 6, 2) := by decide +kernel
theorem dL_law_729 : decode cL_law 729 = .ok (.aload_n 2, 1) := by decide +kernel
theorem dL_law_730 : decode cL_law 730 = .ok (.invokevirtual 80, 3) := by decide +kernel
theorem dL_law_733 : decode cL_law 733 = .ok (.iload 5, 2) := by decide +kernel
theorem dL_law_735 : decode cL_law 735 = .ok (.if_icmp .eq 5, 3) := by decide +kernel
theorem dL_law_738 : decode cL_law 738 = .ok (.iconst 0, 1) := by decide +kernel
theorem dL_law_739 : decode cL_law 739 = .ok (.ireturn, 1) := by decide +kernel
theorem dL_law_740 : decode cL_law 740 = .ok (.iload 5, 2) := by decide +kernel
theorem dL_law_742 : decode cL_law 742 = .ok (.ifCond .ne 15, 3) := by decide +kernel
theorem dL_law_745 : decode cL_law 745 = .ok (.aload_n 3, 1) := by decide +kernel
theorem dL_law_746 : decode cL_law 746 = .ok (.iconst 0, 1) := by decide +kernel
theorem dL_law_747 : decode cL_law 747 = .ok (.laload, 1) := by decide +kernel
theorem dL_law_748 : decode cL_law 748 = .ok (.iload 6, 2) := by decide +kernel
theorem dL_law_750 : decode cL_law 750 = .ok (.i2l, 1) := by decide +kernel
theorem dL_law_751 : decode cL_law 751 = .ok (.lcmp, 1) := by decide +kernel
theorem dL_law_752 : decode cL_law 752 = .ok (.ifCond .eq 5, 3) := by decide +kernel
theorem dL_law_755 : decode cL_law 755 = .ok (.iconst 0, 1) := by decide +kernel
theorem dL_law_756 : decode cL_law 756 = .ok (.ireturn, 1) := by decide +kernel
theorem dL_law_757 : decode cL_law 757 = .ok (.goto 207, 3) := by decide +kernel
theorem dL_law_760 : decode cL_law 760 = .ok (.aload_n 1, 1) := by decide +kernel
theorem dL_law_761 : decode cL_law 761 = .ok (.aload_n 0, 1) := by decide +kernel
theorem dL_law_762 : decode cL_law 762 = .ok (.iload 4, 2) := by decide +kernel
theorem dL_law_764 : decode cL_law 764 = .ok (.iconst 1, 1) := by decide +kernel
theorem dL_law_765 : decode cL_law 765 = .ok (.iadd, 1) := by decide +kernel
theorem dL_law_766 : decode cL_law 766 = .ok (.iaload, 1) := by decide +kernel
theorem dL_law_767 : decode cL_law 767 = .ok (.aload_n 0, 1) := by decide +kernel
theorem dL_law_768 : decode cL_law 768 = .ok (.iload 4, 2) := by decide +kernel
theorem dL_law_770 : decode cL_law 770 = .ok (.iconst 2, 1) := by decide +kernel
theorem dL_law_771 : decode cL_law 771 = .ok (.iadd, 1) := by decide +kernel
theorem dL_law_772 : decode cL_law 772 = .ok (.iaload, 1) := by decide +kernel
theorem dL_law_773 : decode cL_law 773 = .ok (.aload_n 0, 1) := by decide +kernel
theorem dL_law_774 : decode cL_law 774 = .ok (.iload 4, 2) := by decide +kernel
theorem dL_law_776 : decode cL_law 776 = .ok (.iconst 3, 1) := by decide +kernel
theorem dL_law_777 : decode cL_law 777 = .ok (.iadd, 1) := by decide +kernel
theorem dL_law_778 : decode cL_law 778 = .ok (.iaload, 1) := by decide +kernel
theorem dL_law_779 : decode cL_law 779 = .ok (.aload_n 0, 1) := by decide +kernel
theorem dL_law_780 : decode cL_law 780 = .ok (.iload 4, 2) := by decide +kernel
theorem dL_law_782 : decode cL_law 782 = .ok (.iconst 4, 1) := by decide +kernel
theorem dL_law_783 : decode cL_law 783 = .ok (.iadd, 1) := by decide +kernel
theorem dL_law_784 : decode cL_law 784 = .ok (.iaload, 1) := by decide +kernel
theorem dL_law_785 : decode cL_law 785 = .ok (.aload_n 3, 1) := by decide +kernel
theorem dL_law_786 : decode cL_law 786 = .ok (.invokestatic 112, 3) := by decide +kernel
theorem dL_law_789 : decode cL_law 789 = .ok (.istore 5, 2) := by decide +kernel
theorem dL_law_791 : decode cL_law 791 = .ok (.aload_n 2, 1) := by decide +kernel
theorem dL_law_792 : decode cL_law 792 = .ok (.aload_n 0, 1) := by decide +kernel
theorem dL_law_793 : decode cL_law 793 = .ok (.iload 4, 2) := by decide +kernel
theorem dL_law_795 : decode cL_law 795 = .ok (.iconst 1, 1) := by decide +kernel
theorem dL_law_796 : decode cL_law 796 = .ok (.iadd, 1) := by decide +kernel
theorem dL_law_797 : decode cL_law 797 = .ok (.iaload, 1) := by decide +kernel
theorem dL_law_798 : decode cL_law 798 = .ok (.aload_n 0, 1) := by decide +kernel
theorem dL_law_799 : decode cL_law 799 = .ok (.iload 4, 2) := by decide +kernel
theorem dL_law_801 : decode cL_law 801 = .ok (.iconst 2, 1) := by decide +kernel
theorem dL_law_802 : decode cL_law 802 = .ok (.iadd, 1) := by decide +kernel
theorem dL_law_803 : decode cL_law 803 = .ok (.iaload, 1) := by decide +kernel
theorem dL_law_804 : decode cL_law 804 = .ok (.aload_n 0, 1) := by decide +kernel
theorem dL_law_805 : decode cL_law 805 = .ok (.iload 4, 2) := by decide +kernel
theorem dL_law_807 : decode cL_law 807 = .ok (.iconst 3, 1) := by decide +kernel
theorem dL_law_808 : decode cL_law 808 = .ok (.iadd, 1) := by decide +kernel
theorem dL_law_809 : decode cL_law 809 = .ok (.iaload, 1) := by decide +kernel
theorem dL_law_810 : decode cL_law 810 = .ok (.aload_n 0, 1) := by decide +kernel
theorem dL_law_811 : decode cL_law 811 = .ok (.iload 4, 2) := by decide +kernel
theorem dL_law_813 : decode cL_law 813 = .ok (.iconst 4, 1) := by decide +kernel
theorem dL_law_814 : decode cL_law 814 = .ok (.iadd, 1) := by decide +kernel
theorem dL_law_815 : decode cL_law 815 = .ok (.iaload, 1) := by decide +kernel
theorem dL_law_816 : decode cL_law 816 = .ok (.invokevirtual 115, 3) := by decide +kernel
theorem dL_law_819 : decode cL_law 819 = .ok (.istore 6, 2) := by decide +kernel
theorem dL_law_821 : decode cL_law 821 = .ok (.aload_n 2, 1) := by decide +kernel
theorem dL_law_822 : decode cL_law 822 = .ok (.invokevirtual 80, 3) := by decide +kernel
theorem dL_law_825 : decode cL_law 825 = .ok (.iload 5, 2) := by decide +kernel
theorem dL_law_827 : decode cL_law 827 = .ok (.if_icmp .eq 5, 3) := by decide +kernel
theorem dL_law_830 : decode cL_law 830 = .ok (.iconst 0, 1) := by decide +kernel
theorem dL_law_831 : decode cL_law 831 = .ok (.ireturn, 1) := by decide +kernel
theorem dL_law_832 : decode cL_law 832 = .ok (.iload 5, 2) := by decide +kernel
theorem dL_law_834 : decode cL_law 834 = .ok (.ifCond .ne 15, 3) := by decide +kernel
theorem dL_law_837 : decode cL_law 837 = .ok (.aload_n 3, 1) := by decide +kernel
theorem dL_law_838 : decode cL_law 838 = .ok (.iconst 0, 1) := by decide +kernel
theorem dL_law_839 : decode cL_law 839 = .ok (.laload, 1) := by decide +kernel
theorem dL_law_840 : decode cL_law 840 = .ok (.iload 6, 2) := by decide +kernel
theorem dL_law_842 : decode cL_law 842 = .ok (.i2l, 1) := by decide +kernel
theorem dL_law_843 : decode cL_law 843 = .ok (.lcmp, 1) := by decide +kernel
theorem dL_law_844 : decode cL_law 844 = .ok (.ifCond .eq 5, 3) := by decide +kernel
theorem dL_law_847 : decode cL_law 847 = .ok (.iconst 0, 1) := by decide +kernel
theorem dL_law_848 : decode cL_law 848 = .ok (.ireturn, 1) := by decide +kernel
theorem dL_law_849 : decode cL_law 849 = .ok (.goto 115, 3) := by decide +kernel
theorem dL_law_852 : decode cL_law 852 = .ok (.aload_n 1, 1) := by decide +kernel
theorem dL_law_853 : decode cL_law 853 = .ok (.aload_n 0, 1) := by decide +kernel
theorem dL_law_854 : decode cL_law 854 = .ok (.iload 4, 2) := by decide +kernel
theorem dL_law_856 : decode cL_law 856 = .ok (.iconst 1, 1) := by decide +kernel
theorem dL_law_857 : decode cL_law 857 = .ok (.iadd, 1) := by decide +kernel
theorem dL_law_858 : decode cL_law 858 = .ok (.iaload, 1) := by decide +kernel
theorem dL_law_859 : decode cL_law 859 = .ok (.aload_n 3, 1) := by decide +kernel
theorem dL_law_860 : decode cL_law 860 = .ok (.invokestatic 116, 3) := by decide +kernel
theorem dL_law_863 : decode cL_law 863 = .ok (.istore 5, 2) := by decide +kernel
theorem dL_law_865 : decode cL_law 865 = .ok (.aload_n 2, 1) := by decide +kernel
theorem dL_law_866 : decode cL_law 866 = .ok (.aload_n 0, 1) := by decide +kernel
theorem dL_law_867 : decode cL_law 867 = .ok (.iload 4, 2) := by decide +kernel
theorem dL_law_869 : decode cL_law 869 = .ok (.iconst 1, 1) := by decide +kernel
theorem dL_law_870 : decode cL_law 870 = .ok (.iadd, 1) := by decide +kernel
theorem dL_law_871 : decode cL_law 871 = .ok (.iaload, 1) := by decide +kernel
theorem dL_law_872 : decode cL_law 872 = .ok (.invokevirtual 118, 3) := by decide +kernel
theorem dL_law_875 : decode cL_law 875 = .ok (.istore 6, 2) := by decide +kernel
theorem dL_law_877 : decode cL_law 877 = .ok (.aload_n 2, 1) := by decide +kernel
theorem dL_law_878 : decode cL_law 878 = .ok (.invokevirtual 80, 3) := by decide +kernel
theorem dL_law_881 : decode cL_law 881 = .ok (.iload 5, 2) := by decide +kernel
theorem dL_law_883 : decode cL_law 883 = .ok (.if_icmp .eq 5, 3) := by decide +kernel
theorem dL_law_886 : decode cL_law 886 = .ok (.iconst 0, 1) := by decide +kernel
theorem dL_law_887 : decode cL_law 887 = .ok (.ireturn, 1) := by decide +kernel
theorem dL_law_888 : decode cL_law 888 = .ok (.iload 5, 2) := by decide +kernel
theorem dL_law_890 : decode cL_law 890 = .ok (.ifCond .ne 15, 3) := by decide +kernel
theorem dL_law_893 : decode cL_law 893 = .ok (.aload_n 3, 1) := by decide +kernel
theorem dL_law_894 : decode cL_law 894 = .ok (.iconst 0, 1) := by decide +kernel
theorem dL_law_895 : decode cL_law 895 = .ok (.laload, 1) := by decide +kernel
theorem dL_law_896 : decode cL_law 896 = .ok (.iload 6, 2) := by decide +kernel
theorem dL_law_898 : decode cL_law 898 = .ok (.i2l, 1) := by decide +kernel
theorem dL_law_899 : decode cL_law 899 = .ok (.lcmp, 1) := by decide +kernel
theorem dL_law_900 : decode cL_law 900 = .ok (.ifCond .eq 5, 3) := by decide +kernel
theorem dL_law_903 : decode cL_law 903 = .ok (.iconst 0, 1) := by decide +kernel
theorem dL_law_904 : decode cL_law 904 = .ok (.ireturn, 1) := by decide +kernel
theorem dL_law_905 : decode cL_law 905 = .ok (.goto 59, 3) := by decide +kernel
theorem dL_law_908 : decode cL_law 908 = .ok (.aload_n 1, 1) := by decide +kernel
theorem dL_law_909 : decode cL_law 909 = .ok (.aload_n 0, 1) := by decide +kernel
theorem dL_law_910 : decode cL_law 910 = .ok (.iload 4, 2) := by decide +kernel
theorem dL_law_912 : decode cL_law 912 = .ok (.iconst 1, 1) := by decide +kernel
theorem dL_law_913 : decode cL_law 913 = .ok (.iadd, 1) := by decide +kernel
theorem dL_law_914 : decode cL_law 914 = .ok (.iaload, 1) := by decide +kernel
theorem dL_law_915 : decode cL_law 915 = .ok (.aload_n 3, 1) := by decide +kernel
theorem dL_law_916 : decode cL_law 916 = .ok (.invokestatic 119, 3) := by decide +kernel
theorem dL_law_919 : decode cL_law 919 = .ok (.istore 5, 2) := by decide +kernel
theorem dL_law_921 : decode cL_law 921 = .ok (.aload_n 2, 1) := by decide +kernel
theorem dL_law_922 : decode cL_law 922 = .ok (.aload_n 0, 1) := by decide +kernel
theorem dL_law_923 : decode cL_law 923 = .ok (.iload 4, 2) := by decide +kernel
theorem dL_law_925 : decode cL_law 925 = .ok (.iconst 1, 1) := by decide +kernel
theorem dL_law_926 : decode cL_law 926 = .ok (.iadd, 1) := by decide +kernel
theorem dL_law_927 : decode cL_law 927 = .ok (.iaload, 1) := by decide +kernel
theorem dL_law_928 : decode cL_law 928 = .ok (.invokevirtual 121, 3) := by decide +kernel
theorem dL_law_931 : decode cL_law 931 = .ok (.istore 6, 2) := by decide +kernel
theorem dL_law_933 : decode cL_law 933 = .ok (.aload_n 2, 1) := by decide +kernel
theorem dL_law_934 : decode cL_law 934 = .ok (.invokevirtual 80, 3) := by decide +kernel
theorem dL_law_937 : decode cL_law 937 = .ok (.iload 5, 2) := by decide +kernel
theorem dL_law_939 : decode cL_law 939 = .ok (.if_icmp .eq 5, 3) := by decide +kernel
theorem dL_law_942 : decode cL_law 942 = .ok (.iconst 0, 1) := by decide +kernel
theorem dL_law_943 : decode cL_law 943 = .ok (.ireturn, 1) := by decide +kernel
theorem dL_law_944 : decode cL_law 944 = .ok (.iload 5, 2) := by decide +kernel
theorem dL_law_946 : decode cL_law 946 = .ok (.ifCond .ne 15, 3) := by decide +kernel
theorem dL_law_949 : decode cL_law 949 = .ok (.aload_n 3, 1) := by decide +kernel
theorem dL_law_950 : decode cL_law 950 = .ok (.iconst 0, 1) := by decide +kernel
theorem dL_law_951 : decode cL_law 951 = .ok (.laload, 1) := by decide +kernel
theorem dL_law_952 : decode cL_law 952 = .ok (.iload 6, 2) := by decide +kernel
theorem dL_law_954 : decode cL_law 954 = .ok (.i2l, 1) := by decide +kernel
theorem dL_law_955 : decode cL_law 955 = .ok (.lcmp, 1) := by decide +kernel
theorem dL_law_956 : decode cL_law 956 = .ok (.ifCond .eq 5, 3) := by decide +kernel
theorem dL_law_959 : decode cL_law 959 = .ok (.iconst 0, 1) := by decide +kernel
theorem dL_law_960 : decode cL_law 960 = .ok (.ireturn, 1) := by decide +kernel
theorem dL_law_961 : decode cL_law 961 = .ok (.goto 3, 3) := by decide +kernel
theorem dL_law_964 : decode cL_law 964 = .ok (.iinc 4 5, 3) := by decide +kernel
theorem dL_law_967 : decode cL_law 967 = .ok (.goto (-944), 3) := by decide +kernel
theorem dL_law_970 : decode cL_law 970 = .ok (.iconst 1, 1) := by decide +kernel
theorem dL_law_971 : decode cL_law 971 = .ok (.ireturn, 1) := by decide +kernel
