theorem dX0_init_0 : decode cX0_init 0 = .ok (.aload_n 0, 1) := by decide +kernel
theorem dX0_init_1 : decode cX0_init 1 = .ok (.invokespecial 3, 3) := by decide +kernel
theorem dX0_init_4 : decode cX0_init 4 = .ok (.aload_n 0, 1) := by decide +kernel
theorem dX0_init_5 : decode cX0_init 5 = .ok (.iconst 0, 1) := by decide +kernel
theorem dX0_init_6 : decode cX0_init 6 = .ok (.putfield 9, 3) := by decide +kernel
theorem dX0_init_9 : decode cX0_init 9 = .ok (.aload_n 0, 1) := by decide +kernel
theorem dX0_init_10 : decode cX0_init 10 = .ok (.iconst 0, 1) := by decide +kernel
theorem dX0_init_11 : decode cX0_init 11 = .ok (.putfield 15, 3) := by decide +kernel
theorem dX0_init_14 : decode cX0_init 14 = .ok (.aload_n 0, 1) := by decide +kernel
theorem dX0_init_15 : decode cX0_init 15 = .ok (.iconst 0, 1) := by decide +kernel
theorem dX0_init_16 : decode cX0_init 16 = .ok (.putfield 19, 3) := by decide +kernel
theorem dX0_init_19 : decode cX0_init 19 = .ok (.aload_n 0, 1) := by decide +kernel
theorem dX0_init_20 : decode cX0_init 20 = .ok (.iconst 0, 1) := by decide +kernel
theorem dX0_init_21 : decode cX0_init 21 = .ok (.putfield 22, 3) := by decide +kernel
theorem dX0_init_24 : decode cX0_init 24 = .ok (.aload_n 0, 1) := by decide +kernel
theorem dX0_init_25 : decode cX0_init 25 = .ok (.iconst 0, 1) := by decide +kernel
theorem dX0_init_26 : decode cX0_init 26 = .ok (.putfield 25, 3) := by decide +kernel
theorem dX0_init_29 : decode cX0_init 29 = .ok (.aload_n 0, 1) := by decide +kernel
theorem dX0_init_30 : decode cX0_init 30 = .ok (.bipush 48, 2) := by decide +kernel
theorem dX0_init_32 : decode cX0_init 32 = .ok (.newarray .int, 2) := by decide +kernel
theorem dX0_init_34 : decode cX0_init 34 = .ok (.putfield 28, 3) := by decide +kernel
theorem dX0_init_37 : decode cX0_init 37 = .ok (.aload_n 0, 1) := by decide +kernel
theorem dX0_init_38 : decode cX0_init 38 = .ok (.iconst 4, 1) := by decide +kernel
theorem dX0_init_39 : decode cX0_init 39 = .ok (.newarray .int, 2) := by decide +kernel
theorem dX0_init_41 : decode cX0_init 41 = .ok (.putfield 32, 3) := by decide +kernel
theorem dX0_init_44 : decode cX0_init 44 = .ok (.aload_n 0, 1) := by decide +kernel
theorem dX0_init_45 : decode cX0_init 45 = .ok (.iconst 0, 1) := by decide +kernel
theorem dX0_init_46 : decode cX0_init 46 = .ok (.putfield 35, 3) := by decide +kernel
theorem dX0_init_49 : decode cX0_init 49 = .ok (.aload_n 0, 1) := by decide +kernel
theorem dX0_init_50 : decode cX0_init 50 = .ok (.iconst 0, 1) := by decide +kernel
theorem dX0_init_51 : decode cX0_init 51 = .ok (.putfield 38, 3) := by decide +kernel
theorem dX0_init_54 : decode cX0_init 54 = .ok (.return_, 1) := by decide +kernel
theorem dX0_forget_0 : decode cX0_forget 0 = .ok (.aload_n 0, 1) := by decide +kernel
theorem dX0_forget_1 : decode cX0_forget 1 = .ok (.iconst 0, 1) := by decide +kernel
theorem dX0_forget_2 : decode cX0_forget 2 = .ok (.putfield 38, 3) := by decide +kernel
theorem dX0_forget_5 : decode cX0_forget 5 = .ok (.return_, 1) := by decide +kernel
theorem dX0_find_0 : decode cX0_find 0 = .ok (.aload_n 0, 1) := by decide +kernel
theorem dX0_find_1 : decode cX0_find 1 = .ok (.getfield 38, 3) := by decide +kernel
theorem dX0_find_4 : decode cX0_find 4 = .ok (.ifCond .eq 4, 3) := by decide +kernel
theorem dX0_find_7 : decode cX0_find 7 = .ok (.return_, 1) := by decide +kernel
theorem dX0_find_8 : decode cX0_find 8 = .ok (.aload_n 0, 1) := by decide +kernel
theorem dX0_find_9 : decode cX0_find 9 = .ok (.iconst 1, 1) := by decide +kernel
theorem dX0_find_10 : decode cX0_find 10 = .ok (.putfield 38, 3) := by decide +kernel
theorem dX0_find_13 : decode cX0_find 13 = .ok (.aload_n 0, 1) := by decide +kernel
theorem dX0_find_14 : decode cX0_find 14 = .ok (.iconst 0, 1) := by decide +kernel
theorem dX0_find_15 : decode cX0_find 15 = .ok (.putfield 9, 3) := by decide +kernel
theorem dX0_find_18 : decode cX0_find 18 = .ok (.aload_n 3, 1) := by decide +kernel
theorem dX0_find_19 : decode cX0_find 19 = .ok (.invokevirtual 41, 3) := by decide +kernel
theorem dX0_find_22 : decode cX0_find 22 = .ok (.aload_n 2, 1) := by decide +kernel
theorem dX0_find_23 : decode cX0_find 23 = .ok (.getfield 46, 3) := by decide +kernel
theorem dX0_find_26 : decode cX0_find 26 = .ok (.iconst 0, 1) := by decide +kernel
theorem dX0_find_27 : decode cX0_find 27 = .ok (.iaload, 1) := by decide +kernel
theorem dX0_find_28 : decode cX0_find 28 = .ok (.aload_n 2, 1) := by decide +kernel
theorem dX0_find_29 : decode cX0_find 29 = .ok (.getfield 46, 3) := by decide +kernel
theorem dX0_find_32 : decode cX0_find 32 = .ok (.iconst 1, 1) := by decide +kernel
theorem dX0_find_33 : decode cX0_find 33 = .ok (.iaload, 1) := by decide +kernel
theorem dX0_find_34 : decode cX0_find 34 = .ok (.iadd, 1) := by decide +kernel
theorem dX0_find_35 : decode cX0_find 35 = .ok (.istore 4, 2) := by decide +kernel
theorem dX0_find_37 : decode cX0_find 37 = .ok (.iconst 0, 1) := by decide +kernel
theorem dX0_find_38 : decode cX0_find 38 = .ok (.istore 5, 2) := by decide +kernel
theorem dX0_find_40 : decode cX0_find 40 = .ok (.iload 5, 2) := by decide +kernel
theorem dX0_find_42 : decode cX0_find 42 = .ok (.iload 4, 2) := by decide +kernel
theorem dX0_find_44 : decode cX0_find 44 = .ok (.if_icmp .gt 84, 3) := by decide +kernel
theorem dX0_find_47 : decode cX0_find 47 = .ok (.aload_n 0, 1) := by decide +kernel
theorem dX0_find_48 : decode cX0_find 48 = .ok (.getfield 9, 3) := by decide +kernel
theorem dX0_find_51 : decode cX0_find 51 = .ok (.ifCond .ne 77, 3) := by decide +kernel
theorem dX0_find_54 : decode cX0_find 54 = .ok (.iload 4, 2) := by decide +kernel
theorem dX0_find_56 : decode cX0_find 56 = .ok (.iload 5, 2) := by decide +kernel
theorem dX0_find_58 : decode cX0_find 58 = .ok (.isub, 1) := by decide +kernel
theorem dX0_find_59 : decode cX0_find 59 = .ok (.istore 6, 2) := by decide +kernel
theorem dX0_find_61 : decode cX0_find 61 = .ok (.iconst 0, 1) := by decide +kernel
theorem dX0_find_62 : decode cX0_find 62 = .ok (.istore 7, 2) := by decide +kernel
theorem dX0_find_64 : decode cX0_find 64 = .ok (.iload 7, 2) := by decide +kernel
theorem dX0_find_66 : decode cX0_find 66 = .ok (.bipush 48, 2) := by decide +kernel
theorem dX0_find_68 : decode cX0_find 68 = .ok (.iload 6, 2) := by decide +kernel
theorem dX0_find_70 : decode cX0_find 70 = .ok (.isub, 1) := by decide +kernel
theorem dX0_find_71 : decode cX0_find 71 = .ok (.if_icmp .gt 51, 3) := by decide +kernel
theorem dX0_find_74 : decode cX0_find 74 = .ok (.aload_n 0, 1) := by decide +kernel
theorem dX0_find_75 : decode cX0_find 75 = .ok (.getfield 9, 3) := by decide +kernel
theorem dX0_find_78 : decode cX0_find 78 = .ok (.ifCond .ne 44, 3) := by decide +kernel
theorem dX0_find_81 : decode cX0_find 81 = .ok (.aload_n 0, 1) := by decide +kernel
theorem dX0_find_82 : decode cX0_find 82 = .ok (.aload_n 1, 1) := by decide +kernel
theorem dX0_find_83 : decode cX0_find 83 = .ok (.iload 6, 2) := by decide +kernel
theorem dX0_find_85 : decode cX0_find 85 = .ok (.iload 7, 2) := by decide +kernel
theorem dX0_find_87 : decode cX0_find 87 = .ok (.iadd, 1) := by decide +kernel
theorem dX0_find_88 : decode cX0_find 88 = .ok (.invokevirtual 51, 3) := by decide +kernel
theorem dX0_find_91 : decode cX0_find 91 = .ok (.ifCond .eq 21, 3) := by decide +kernel
theorem dX0_find_94 : decode cX0_find 94 = .ok (.aload_n 0, 1) := by decide +kernel
theorem dX0_find_95 : decode cX0_find 95 = .ok (.aload_n 1, 1) := by decide +kernel
theorem dX0_find_96 : decode cX0_find 96 = .ok (.aload_n 2, 1) := by decide +kernel
theorem dX0_find_97 : decode cX0_find 97 = .ok (.aload_n 3, 1) := by decide +kernel
theorem dX0_find_98 : decode cX0_find 98 = .ok (.iload 5, 2) := by decide +kernel
theorem dX0_find_100 : decode cX0_find 100 = .ok (.iload 7, 2) := by decide +kernel
theorem dX0_find_102 : decode cX0_find 102 = .ok (.invokevirtual 57, 3) := by decide +kernel
theorem dX0_find_105 : decode cX0_find 105 = .ok (.ifCond .eq 7, 3) := by decide +kernel
theorem dX0_find_108 : decode cX0_find 108 = .ok (.iconst 1, 1) := by decide +kernel
theorem dX0_find_109 : decode cX0_find 109 = .ok (.goto 4, 3) := by decide +kernel
theorem dX0_find_112 : decode cX0_find 112 = .ok (.iconst 0, 1) := by decide +kernel
theorem dX0_find_113 : decode cX0_find 113 = .ok (.putfield 9, 3) := by decide +kernel
theorem dX0_find_116 : decode cX0_find 116 = .ok (.iinc 7 1, 3) := by decide +kernel
theorem dX0_find_119 : decode cX0_find 119 = .ok (.goto (-55), 3) := by decide +kernel
theorem dX0_find_122 : decode cX0_find 122 = .ok (.iinc 5 1, 3) := by decide +kernel
theorem dX0_find_125 : decode cX0_find 125 = .ok (.goto (-85), 3) := by decide +kernel
theorem dX0_find_128 : decode cX0_find 128 = .ok (.aload_n 0, 1) := by decide +kernel
theorem dX0_find_129 : decode cX0_find 129 = .ok (.getfield 9, 3) := by decide +kernel
theorem dX0_find_132 : decode cX0_find 132 = .ok (.ifCond .eq 10, 3) := by decide +kernel
theorem dX0_find_135 : decode cX0_find 135 = .ok (.aload_n 0, 1) := by decide +kernel
theorem dX0_find_136 : decode cX0_find 136 = .ok (.aload_n 1, 1) := by decide +kernel
theorem dX0_find_137 : decode cX0_find 137 = .ok (.aload_n 2, 1) := by decide +kernel
theorem dX0_find_138 : decode cX0_find 138 = .ok (.aload_n 3, 1) := by decide +kernel
theorem dX0_find_139 : decode cX0_find 139 = .ok (.invokevirtual 61, 3) := by decide +kernel
theorem dX0_find_142 : decode cX0_find 142 = .ok (.return_, 1) := by decide +kernel
theorem dX0_findSplit_0 : decode cX0_findSplit 0 = .ok (.iload 4, 2) := by decide +kernel
theorem dX0_findSplit_2 : decode cX0_findSplit 2 = .ok (.aload_n 2, 1) := by decide +kernel
theorem dX0_findSplit_3 : decode cX0_findSplit 3 = .ok (.getfield 46, 3) := by decide +kernel
theorem dX0_findSplit_6 : decode cX0_findSplit 6 = .ok (.iconst 0, 1) := by decide +kernel
theorem dX0_findSplit_7 : decode cX0_findSplit 7 = .ok (.iaload, 1) := by decide +kernel
theorem dX0_findSplit_8 : decode cX0_findSplit 8 = .ok (.invokestatic 65, 3) := by decide +kernel
theorem dX0_findSplit_11 : decode cX0_findSplit 11 = .ok (.istore 6, 2) := by decide +kernel
theorem dX0_findSplit_13 : decode cX0_findSplit 13 = .ok (.iconst 0, 1) := by decide +kernel
theorem dX0_findSplit_14 : decode cX0_findSplit 14 = .ok (.iload 4, 2) := by decide +kernel
theorem dX0_findSplit_16 : decode cX0_findSplit 16 = .ok (.aload_n 2, 1) := by decide +kernel
theorem dX0_findSplit_17 : decode cX0_findSplit 17 = .ok (.getfield 46, 3) := by decide +kernel
theorem dX0_findSplit_20 : decode cX0_findSplit 20 = .ok (.iconst 1, 1) := by decide +kernel
theorem dX0_findSplit_21 : decode cX0_findSplit 21 = .ok (.iaload, 1) := by decide +kernel
theorem dX0_findSplit_22 : decode cX0_findSplit 22 = .ok (.isub, 1) := by decide +kernel
theorem dX0_findSplit_23 : decode cX0_findSplit 23 = .ok (.invokestatic 71, 3) := by decide +kernel
theorem dX0_findSplit_26 : decode cX0_findSplit 26 = .ok (.istore 7, 2) := by decide +kernel
theorem dX0_findSplit_28 : decode cX0_findSplit 28 = .ok (.iload 7, 2) := by decide +kernel
theorem dX0_findSplit_30 : decode cX0_findSplit 30 = .ok (.iload 6, 2) := by decide +kernel
theorem dX0_findSplit_32 : decode cX0_findSplit 32 = .ok (.if_icmp .gt 136, 3) := by decide +kernel
theorem dX0_findSplit_35 : decode cX0_findSplit 35 = .ok (.aload_n 0, 1) := by decide +kernel
theorem dX0_findSplit_36 : decode cX0_findSplit 36 = .ok (.iload 7, 2) := by decide +kernel
theorem dX0_findSplit_38 : decode cX0_findSplit 38 = .ok (.putfield 15, 3) := by decide +kernel
theorem dX0_findSplit_41 : decode cX0_findSplit 41 = .ok (.aload_n 0, 1) := by decide +kernel
theorem dX0_findSplit_42 : decode cX0_findSplit 42 = .ok (.iload 4, 2) := by decide +kernel
theorem dX0_findSplit_44 : decode cX0_findSplit 44 = .ok (.iload 7, 2) := by decide +kernel
theorem dX0_findSplit_46 : decode cX0_findSplit 46 = .ok (.isub, 1) := by decide +kernel
theorem dX0_findSplit_47 : decode cX0_findSplit 47 = .ok (.putfield 19, 3) := by decide +kernel
theorem dX0_findSplit_50 : decode cX0_findSplit 50 = .ok (.aload_n 3, 1) := by decide +kernel
theorem dX0_findSplit_51 : decode cX0_findSplit 51 = .ok (.aload_n 1, 1) := by decide +kernel
theorem dX0_findSplit_52 : decode cX0_findSplit 52 = .ok (.aload_n 2, 1) := by decide +kernel
theorem dX0_findSplit_53 : decode cX0_findSplit 53 = .ok (.iconst 0, 1) := by decide +kernel
theorem dX0_findSplit_54 : decode cX0_findSplit 54 = .ok (.aload_n 2, 1) := by decide +kernel
theorem dX0_findSplit_55 : decode cX0_findSplit 55 = .ok (.iconst 0, 1) := by decide +kernel
theorem dX0_findSplit_56 : decode cX0_findSplit 56 = .ok (.aload_n 0, 1) := by decide +kernel
theorem dX0_findSplit_57 : decode cX0_findSplit 57 = .ok (.getfield 15, 3) := by decide +kernel
theorem dX0_findSplit_60 : decode cX0_findSplit 60 = .ok (.invokevirtual 74, 3) := by decide +kernel
theorem dX0_findSplit_63 : decode cX0_findSplit 63 = .ok (.invokevirtual 77, 3) := by decide +kernel
theorem dX0_findSplit_66 : decode cX0_findSplit 66 = .ok (.aload_n 3, 1) := by decide +kernel
theorem dX0_findSplit_67 : decode cX0_findSplit 67 = .ok (.aload_n 1, 1) := by decide +kernel
theorem dX0_findSplit_68 : decode cX0_findSplit 68 = .ok (.aload_n 2, 1) := by decide +kernel
theorem dX0_findSplit_69 : decode cX0_findSplit 69 = .ok (.iconst 1, 1) := by decide +kernel
theorem dX0_findSplit_70 : decode cX0_findSplit 70 = .ok (.aload_n 2, 1) := by decide +kernel
theorem dX0_findSplit_71 : decode cX0_findSplit 71 = .ok (.iconst 1, 1) := by decide +kernel
theorem dX0_findSplit_72 : decode cX0_findSplit 72 = .ok (.aload_n 0, 1) := by decide +kernel
theorem dX0_findSplit_73 : decode cX0_findSplit 73 = .ok (.getfield 19, 3) := by decide +kernel
theorem dX0_findSplit_76 : decode cX0_findSplit 76 = .ok (.invokevirtual 74, 3) := by decide +kernel
theorem dX0_findSplit_79 : decode cX0_findSplit 79 = .ok (.invokevirtual 77, 3) := by decide +kernel
theorem dX0_findSplit_82 : decode cX0_findSplit 82 = .ok (.aload_n 3, 1) := by decide +kernel
theorem dX0_findSplit_83 : decode cX0_findSplit 83 = .ok (.aload_n 2, 1) := by decide +kernel
theorem dX0_findSplit_84 : decode cX0_findSplit 84 = .ok (.iconst 0, 1) := by decide +kernel
theorem dX0_findSplit_85 : decode cX0_findSplit 85 = .ok (.aload_n 0, 1) := by decide +kernel
theorem dX0_findSplit_86 : decode cX0_findSplit 86 = .ok (.getfield 15, 3) := by decide +kernel
theorem dX0_findSplit_89 : decode cX0_findSplit 89 = .ok (.invokevirtual 81, 3) := by decide +kernel
theorem dX0_findSplit_92 : decode cX0_findSplit 92 = .ok (.istore 8, 2) := by decide +kernel
theorem dX0_findSplit_94 : decode cX0_findSplit 94 = .ok (.aload_n 3, 1) := by decide +kernel
theorem dX0_findSplit_95 : decode cX0_findSplit 95 = .ok (.aload_n 2, 1) := by decide +kernel
theorem dX0_findSplit_96 : decode cX0_findSplit 96 = .ok (.iconst 1, 1) := by decide +kernel
theorem dX0_findSplit_97 : decode cX0_findSplit 97 = .ok (.aload_n 0, 1) := by decide +kernel
theorem dX0_findSplit_98 : decode cX0_findSplit 98 = .ok (.getfield 19, 3) := by decide +kernel
theorem dX0_findSplit_101 : decode cX0_findSplit 101 = .ok (.invokevirtual 81, 3) := by decide +kernel
theorem dX0_findSplit_104 : decode cX0_findSplit 104 = .ok (.istore 9, 2) := by decide +kernel
theorem dX0_findSplit_106 : decode cX0_findSplit 106 = .ok (.iconst 0, 1) := by decide +kernel
theorem dX0_findSplit_107 : decode cX0_findSplit 107 = .ok (.iload 5, 2) := by decide +kernel
theorem dX0_findSplit_109 : decode cX0_findSplit 109 = .ok (.iload 9, 2) := by decide +kernel
theorem dX0_findSplit_111 : decode cX0_findSplit 111 = .ok (.isub, 1) := by decide +kernel
theorem dX0_findSplit_112 : decode cX0_findSplit 112 = .ok (.invokestatic 71, 3) := by decide +kernel
theorem dX0_findSplit_115 : decode cX0_findSplit 115 = .ok (.istore 10, 2) := by decide +kernel
theorem dX0_findSplit_117 : decode cX0_findSplit 117 = .ok (.iload 10, 2) := by decide +kernel
theorem dX0_findSplit_119 : decode cX0_findSplit 119 = .ok (.iload 5, 2) := by decide +kernel
theorem dX0_findSplit_121 : decode cX0_findSplit 121 = .ok (.iload 8, 2) := by decide +kernel
theorem dX0_findSplit_123 : decode cX0_findSplit 123 = .ok (.invokestatic 65, 3) := by decide +kernel
theorem dX0_findSplit_126 : decode cX0_findSplit 126 = .ok (.if_icmp .gt 36, 3) := by decide +kernel
theorem dX0_findSplit_129 : decode cX0_findSplit 129 = .ok (.aload_n 0, 1) := by decide +kernel
theorem dX0_findSplit_130 : decode cX0_findSplit 130 = .ok (.iload 10, 2) := by decide +kernel
theorem dX0_findSplit_132 : decode cX0_findSplit 132 = .ok (.putfield 22, 3) := by decide +kernel
theorem dX0_findSplit_135 : decode cX0_findSplit 135 = .ok (.aload_n 0, 1) := by decide +kernel
theorem dX0_findSplit_136 : decode cX0_findSplit 136 = .ok (.iload 5, 2) := by decide +kernel
theorem dX0_findSplit_138 : decode cX0_findSplit 138 = .ok (.iload 10, 2) := by decide +kernel
theorem dX0_findSplit_140 : decode cX0_findSplit 140 = .ok (.isub, 1) := by decide +kernel
theorem dX0_findSplit_141 : decode cX0_findSplit 141 = .ok (.putfield 25, 3) := by decide +kernel
theorem dX0_findSplit_144 : decode cX0_findSplit 144 = .ok (.aload_n 0, 1) := by decide +kernel
theorem dX0_findSplit_145 : decode cX0_findSplit 145 = .ok (.aload_n 1, 1) := by decide +kernel
theorem dX0_findSplit_146 : decode cX0_findSplit 146 = .ok (.aload_n 2, 1) := by decide +kernel
theorem dX0_findSplit_147 : decode cX0_findSplit 147 = .ok (.aload_n 3, 1) := by decide +kernel
theorem dX0_findSplit_148 : decode cX0_findSplit 148 = .ok (.invokevirtual 85, 3) := by decide +kernel
theorem dX0_findSplit_151 : decode cX0_findSplit 151 = .ok (.ifCond .eq 5, 3) := by decide +kernel
theorem dX0_findSplit_154 : decode cX0_findSplit 154 = .ok (.iconst 1, 1) := by decide +kernel
theorem dX0_findSplit_155 : decode cX0_findSplit 155 = .ok (.ireturn, 1) := by decide +kernel
theorem dX0_findSplit_156 : decode cX0_findSplit 156 = .ok (.iinc 10 1, 3) := by decide +kernel
theorem dX0_findSplit_159 : decode cX0_findSplit 159 = .ok (.goto (-42), 3) := by decide +kernel
theorem dX0_findSplit_162 : decode cX0_findSplit 162 = .ok (.iinc 7 1, 3) := by decide +kernel
theorem dX0_findSplit_165 : decode cX0_findSplit 165 = .ok (.goto (-137), 3) := by decide +kernel
theorem dX0_findSplit_168 : decode cX0_findSplit 168 = .ok (.iconst 0, 1) := by decide +kernel
theorem dX0_findSplit_169 : decode cX0_findSplit 169 = .ok (.ireturn, 1) := by decide +kernel
theorem dX0_meetsSo_0 : decode cX0_meetsSo 0 = .ok (.aload_n 2, 1) := by decide +kernel
theorem dX0_meetsSo_1 : decode cX0_meetsSo 1 = .ok (.getfield 46, 3) := by decide +kernel
theorem dX0_meetsSo_4 : decode cX0_meetsSo 4 = .ok (.iconst 0, 1) := by decide +kernel
theorem dX0_meetsSo_5 : decode cX0_meetsSo 5 = .ok (.iaload, 1) := by decide +kernel
theorem dX0_meetsSo_6 : decode cX0_meetsSo 6 = .ok (.aload_n 0, 1) := by decide +kernel
theorem dX0_meetsSo_7 : decode cX0_meetsSo 7 = .ok (.getfield 15, 3) := by decide +kernel
theorem dX0_meetsSo_10 : decode cX0_meetsSo 10 = .ok (.isub, 1) := by decide +kernel
theorem dX0_meetsSo_11 : decode cX0_meetsSo 11 = .ok (.aload_n 0, 1) := by decide +kernel
theorem dX0_meetsSo_12 : decode cX0_meetsSo 12 = .ok (.getfield 22, 3) := by decide +kernel
theorem dX0_meetsSo_15 : decode cX0_meetsSo 15 = .ok (.iadd, 1) := by decide +kernel
theorem dX0_meetsSo_16 : decode cX0_meetsSo 16 = .ok (.istore 4, 2) := by decide +kernel
theorem dX0_meetsSo_18 : decode cX0_meetsSo 18 = .ok (.aload_n 2, 1) := by decide +kernel
theorem dX0_meetsSo_19 : decode cX0_meetsSo 19 = .ok (.getfield 46, 3) := by decide +kernel
theorem dX0_meetsSo_22 : decode cX0_meetsSo 22 = .ok (.iconst 1, 1) := by decide +kernel
theorem dX0_meetsSo_23 : decode cX0_meetsSo 23 = .ok (.iaload, 1) := by decide +kernel
theorem dX0_meetsSo_24 : decode cX0_meetsSo 24 = .ok (.aload_n 0, 1) := by decide +kernel
theorem dX0_meetsSo_25 : decode cX0_meetsSo 25 = .ok (.getfield 19, 3) := by decide +kernel
theorem dX0_meetsSo_28 : decode cX0_meetsSo 28 = .ok (.isub, 1) := by decide +kernel
theorem dX0_meetsSo_29 : decode cX0_meetsSo 29 = .ok (.aload_n 0, 1) := by decide +kernel
theorem dX0_meetsSo_30 : decode cX0_meetsSo 30 = .ok (.getfield 25, 3) := by decide +kernel
theorem dX0_meetsSo_33 : decode cX0_meetsSo 33 = .ok (.iadd, 1) := by decide +kernel
theorem dX0_meetsSo_34 : decode cX0_meetsSo 34 = .ok (.istore 5, 2) := by decide +kernel
theorem dX0_meetsSo_36 : decode cX0_meetsSo 36 = .ok (.aload_n 1, 1) := by decide +kernel
theorem dX0_meetsSo_37 : decode cX0_meetsSo 37 = .ok (.aload_n 1, 1) := by decide +kernel
theorem dX0_meetsSo_38 : decode cX0_meetsSo 38 = .ok (.iload 4, 2) := by decide +kernel
theorem dX0_meetsSo_40 : decode cX0_meetsSo 40 = .ok (.iload 5, 2) := by decide +kernel
theorem dX0_meetsSo_42 : decode cX0_meetsSo 42 = .ok (.invokevirtual 89, 3) := by decide +kernel
theorem dX0_meetsSo_45 : decode cX0_meetsSo 45 = .ok (.invokevirtual 92, 3) := by decide +kernel
theorem dX0_meetsSo_48 : decode cX0_meetsSo 48 = .ok (.ifCond .eq 26, 3) := by decide +kernel
theorem dX0_meetsSo_51 : decode cX0_meetsSo 51 = .ok (.aload_n 1, 1) := by decide +kernel
theorem dX0_meetsSo_52 : decode cX0_meetsSo 52 = .ok (.aload_n 0, 1) := by decide +kernel
theorem dX0_meetsSo_53 : decode cX0_meetsSo 53 = .ok (.aload_n 2, 1) := by decide +kernel
theorem dX0_meetsSo_54 : decode cX0_meetsSo 54 = .ok (.aload_n 3, 1) := by decide +kernel
theorem dX0_meetsSo_55 : decode cX0_meetsSo 55 = .ok (.invokevirtual 95, 3) := by decide +kernel
theorem dX0_meetsSo_58 : decode cX0_meetsSo 58 = .ok (.aload_n 0, 1) := by decide +kernel
theorem dX0_meetsSo_59 : decode cX0_meetsSo 59 = .ok (.aload_n 2, 1) := by decide +kernel
theorem dX0_meetsSo_60 : decode cX0_meetsSo 60 = .ok (.aload_n 3, 1) := by decide +kernel
theorem dX0_meetsSo_61 : decode cX0_meetsSo 61 = .ok (.invokevirtual 99, 3) := by decide +kernel
theorem dX0_meetsSo_64 : decode cX0_meetsSo 64 = .ok (.invokevirtual 102, 3) := by decide +kernel
theorem dX0_meetsSo_67 : decode cX0_meetsSo 67 = .ok (.ifCond .eq 7, 3) := by decide +kernel
theorem dX0_meetsSo_70 : decode cX0_meetsSo 70 = .ok (.iconst 1, 1) := by decide +kernel
theorem dX0_meetsSo_71 : decode cX0_meetsSo 71 = .ok (.goto 4, 3) := by decide +kernel
theorem dX0_meetsSo_74 : decode cX0_meetsSo 74 = .ok (.iconst 0, 1) := by decide +kernel
theorem dX0_meetsSo_75 : decode cX0_meetsSo 75 = .ok (.ireturn, 1) := by decide +kernel
theorem dX0_leftLasts_0 : decode cX0_leftLasts 0 = .ok (.aload_n 2, 1) := by decide +kernel
theorem dX0_leftLasts_1 : decode cX0_leftLasts 1 = .ok (.iconst 0, 1) := by decide +kernel
theorem dX0_leftLasts_2 : decode cX0_leftLasts 2 = .ok (.aload_n 2, 1) := by decide +kernel
theorem dX0_leftLasts_3 : decode cX0_leftLasts 3 = .ok (.aload_n 1, 1) := by decide +kernel
theorem dX0_leftLasts_4 : decode cX0_leftLasts 4 = .ok (.iconst 0, 1) := by decide +kernel
theorem dX0_leftLasts_5 : decode cX0_leftLasts 5 = .ok (.aload_n 0, 1) := by decide +kernel
theorem dX0_leftLasts_6 : decode cX0_leftLasts 6 = .ok (.getfield 15, 3) := by decide +kernel
theorem dX0_leftLasts_9 : decode cX0_leftLasts 9 = .ok (.invokevirtual 74, 3) := by decide +kernel
theorem dX0_leftLasts_12 : decode cX0_leftLasts 12 = .ok (.invokevirtual 106, 3) := by decide +kernel
theorem dX0_leftLasts_15 : decode cX0_leftLasts 15 = .ok (.aload_n 0, 1) := by decide +kernel
theorem dX0_leftLasts_16 : decode cX0_leftLasts 16 = .ok (.getfield 22, 3) := by decide +kernel
theorem dX0_leftLasts_19 : decode cX0_leftLasts 19 = .ok (.invokevirtual 110, 3) := by decide +kernel
theorem dX0_leftLasts_22 : decode cX0_leftLasts 22 = .ok (.ireturn, 1) := by decide +kernel
theorem dX0_rightLasts_0 : decode cX0_rightLasts 0 = .ok (.aload_n 2, 1) := by decide +kernel
theorem dX0_rightLasts_1 : decode cX0_rightLasts 1 = .ok (.iconst 1, 1) := by decide +kernel
theorem dX0_rightLasts_2 : decode cX0_rightLasts 2 = .ok (.aload_n 2, 1) := by decide +kernel
theorem dX0_rightLasts_3 : decode cX0_rightLasts 3 = .ok (.aload_n 1, 1) := by decide +kernel
theorem dX0_rightLasts_4 : decode cX0_rightLasts 4 = .ok (.iconst 1, 1) := by decide +kernel
theorem dX0_rightLasts_5 : decode cX0_rightLasts 5 = .ok (.aload_n 0, 1) := by decide +kernel
theorem dX0_rightLasts_6 : decode cX0_rightLasts 6 = .ok (.getfield 19, 3) := by decide +kernel
theorem dX0_rightLasts_9 : decode cX0_rightLasts 9 = .ok (.invokevirtual 74, 3) := by decide +kernel
theorem dX0_rightLasts_12 : decode cX0_rightLasts 12 = .ok (.invokevirtual 106, 3) := by decide +kernel
theorem dX0_rightLasts_15 : decode cX0_rightLasts 15 = .ok (.aload_n 0, 1) := by decide +kernel
theorem dX0_rightLasts_16 : decode cX0_rightLasts 16 = .ok (.getfield 25, 3) := by decide +kernel
theorem dX0_rightLasts_19 : decode cX0_rightLasts 19 = .ok (.invokevirtual 110, 3) := by decide +kernel
theorem dX0_rightLasts_22 : decode cX0_rightLasts 22 = .ok (.ireturn, 1) := by decide +kernel
theorem dX0_tellRows_0 : decode cX0_tellRows 0 = .ok (.aload_n 0, 1) := by decide +kernel
theorem dX0_tellRows_1 : decode cX0_tellRows 1 = .ok (.getfield 32, 3) := by decide +kernel
theorem dX0_tellRows_4 : decode cX0_tellRows 4 = .ok (.iconst 0, 1) := by decide +kernel
theorem dX0_tellRows_5 : decode cX0_tellRows 5 = .ok (.invokestatic 114, 3) := by decide +kernel
theorem dX0_tellRows_8 : decode cX0_tellRows 8 = .ok (.aload_n 0, 1) := by decide +kernel
theorem dX0_tellRows_9 : decode cX0_tellRows 9 = .ok (.iconst 0, 1) := by decide +kernel
theorem dX0_tellRows_10 : decode cX0_tellRows 10 = .ok (.putfield 35, 3) := by decide +kernel
theorem dX0_tellRows_13 : decode cX0_tellRows 13 = .ok (.aload_n 2, 1) := by decide +kernel
theorem dX0_tellRows_14 : decode cX0_tellRows 14 = .ok (.iconst 0, 1) := by decide +kernel
theorem dX0_tellRows_15 : decode cX0_tellRows 15 = .ok (.aload_n 0, 1) := by decide +kernel
theorem dX0_tellRows_16 : decode cX0_tellRows 16 = .ok (.getfield 15, 3) := by decide +kernel
theorem dX0_tellRows_19 : decode cX0_tellRows 19 = .ok (.invokevirtual 74, 3) := by decide +kernel
theorem dX0_tellRows_22 : decode cX0_tellRows 22 = .ok (.istore 4, 2) := by decide +kernel
theorem dX0_tellRows_24 : decode cX0_tellRows 24 = .ok (.aload_n 2, 1) := by decide +kernel
theorem dX0_tellRows_25 : decode cX0_tellRows 25 = .ok (.iconst 1, 1) := by decide +kernel
theorem dX0_tellRows_26 : decode cX0_tellRows 26 = .ok (.aload_n 0, 1) := by decide +kernel
theorem dX0_tellRows_27 : decode cX0_tellRows 27 = .ok (.getfield 19, 3) := by decide +kernel
theorem dX0_tellRows_30 : decode cX0_tellRows 30 = .ok (.invokevirtual 74, 3) := by decide +kernel
theorem dX0_tellRows_33 : decode cX0_tellRows 33 = .ok (.istore 5, 2) := by decide +kernel
theorem dX0_tellRows_35 : decode cX0_tellRows 35 = .ok (.aload_n 3, 1) := by decide +kernel
theorem dX0_tellRows_36 : decode cX0_tellRows 36 = .ok (.getfield 120, 3) := by decide +kernel
theorem dX0_tellRows_39 : decode cX0_tellRows 39 = .ok (.astore 6, 2) := by decide +kernel
theorem dX0_tellRows_41 : decode cX0_tellRows 41 = .ok (.aload_n 0, 1) := by decide +kernel
theorem dX0_tellRows_42 : decode cX0_tellRows 42 = .ok (.getfield 22, 3) := by decide +kernel
theorem dX0_tellRows_45 : decode cX0_tellRows 45 = .ok (.ifCond .le 57, 3) := by decide +kernel
theorem dX0_tellRows_48 : decode cX0_tellRows 48 = .ok (.aload 6, 2) := by decide +kernel
theorem dX0_tellRows_50 : decode cX0_tellRows 50 = .ok (.aload_n 1, 1) := by decide +kernel
theorem dX0_tellRows_51 : decode cX0_tellRows 51 = .ok (.invokevirtual 124, 3) := by decide +kernel
theorem dX0_tellRows_54 : decode cX0_tellRows 54 = .ok (.aload 6, 2) := by decide +kernel
theorem dX0_tellRows_56 : decode cX0_tellRows 56 = .ok (.aload_n 1, 1) := by decide +kernel
theorem dX0_tellRows_57 : decode cX0_tellRows 57 = .ok (.aload_n 0, 1) := by decide +kernel
theorem dX0_tellRows_58 : decode cX0_tellRows 58 = .ok (.aload_n 1, 1) := by decide +kernel
theorem dX0_tellRows_59 : decode cX0_tellRows 59 = .ok (.aload_n 2, 1) := by decide +kernel
theorem dX0_tellRows_60 : decode cX0_tellRows 60 = .ok (.aload_n 3, 1) := by decide +kernel
theorem dX0_tellRows_61 : decode cX0_tellRows 61 = .ok (.invokevirtual 130, 3) := by decide +kernel
theorem dX0_tellRows_64 : decode cX0_tellRows 64 = .ok (.aload_n 2, 1) := by decide +kernel
theorem dX0_tellRows_65 : decode cX0_tellRows 65 = .ok (.iconst 0, 1) := by decide +kernel
theorem dX0_tellRows_66 : decode cX0_tellRows 66 = .ok (.iconst 0, 1) := by decide +kernel
theorem dX0_tellRows_67 : decode cX0_tellRows 67 = .ok (.invokevirtual 134, 3) := by decide +kernel
theorem dX0_tellRows_70 : decode cX0_tellRows 70 = .ok (.aload_n 2, 1) := by decide +kernel
theorem dX0_tellRows_71 : decode cX0_tellRows 71 = .ok (.iconst 0, 1) := by decide +kernel
theorem dX0_tellRows_72 : decode cX0_tellRows 72 = .ok (.iconst 1, 1) := by decide +kernel
theorem dX0_tellRows_73 : decode cX0_tellRows 73 = .ok (.invokevirtual 134, 3) := by decide +kernel
theorem dX0_tellRows_76 : decode cX0_tellRows 76 = .ok (.aload_n 0, 1) := by decide +kernel
theorem dX0_tellRows_77 : decode cX0_tellRows 77 = .ok (.getfield 22, 3) := by decide +kernel
theorem dX0_tellRows_80 : decode cX0_tellRows 80 = .ok (.invokevirtual 137, 3) := by decide +kernel
theorem dX0_tellRows_83 : decode cX0_tellRows 83 = .ok (.aload_n 0, 1) := by decide +kernel
theorem dX0_tellRows_84 : decode cX0_tellRows 84 = .ok (.aload_n 1, 1) := by decide +kernel
theorem dX0_tellRows_85 : decode cX0_tellRows 85 = .ok (.aload 6, 2) := by decide +kernel
theorem dX0_tellRows_87 : decode cX0_tellRows 87 = .ok (.iconst 0, 1) := by decide +kernel
theorem dX0_tellRows_88 : decode cX0_tellRows 88 = .ok (.aload_n 0, 1) := by decide +kernel
theorem dX0_tellRows_89 : decode cX0_tellRows 89 = .ok (.getfield 22, 3) := by decide +kernel
theorem dX0_tellRows_92 : decode cX0_tellRows 92 = .ok (.aload_n 1, 1) := by decide +kernel
theorem dX0_tellRows_93 : decode cX0_tellRows 93 = .ok (.iconst 0, 1) := by decide +kernel
theorem dX0_tellRows_94 : decode cX0_tellRows 94 = .ok (.iload 4, 2) := by decide +kernel
theorem dX0_tellRows_96 : decode cX0_tellRows 96 = .ok (.invokevirtual 141, 3) := by decide +kernel
theorem dX0_tellRows_99 : decode cX0_tellRows 99 = .ok (.invokevirtual 144, 3) := by decide +kernel
theorem dX0_tellRows_102 : decode cX0_tellRows 102 = .ok (.aload_n 0, 1) := by decide +kernel
theorem dX0_tellRows_103 : decode cX0_tellRows 103 = .ok (.getfield 22, 3) := by decide +kernel
theorem dX0_tellRows_106 : decode cX0_tellRows 106 = .ok (.ifCond .le 24, 3) := by decide +kernel
theorem dX0_tellRows_109 : decode cX0_tellRows 109 = .ok (.aload_n 0, 1) := by decide +kernel
theorem dX0_tellRows_110 : decode cX0_tellRows 110 = .ok (.getfield 35, 3) := by decide +kernel
theorem dX0_tellRows_113 : decode cX0_tellRows 113 = .ok (.ifCond .le 17, 3) := by decide +kernel
theorem dX0_tellRows_116 : decode cX0_tellRows 116 = .ok (.aload_n 0, 1) := by decide +kernel
theorem dX0_tellRows_117 : decode cX0_tellRows 117 = .ok (.getfield 28, 3) := by decide +kernel
theorem dX0_tellRows_120 : decode cX0_tellRows 120 = .ok (.aload_n 0, 1) := by decide +kernel
theorem dX0_tellRows_121 : decode cX0_tellRows 121 = .ok (.getfield 35, 3) := by decide +kernel
theorem dX0_tellRows_124 : decode cX0_tellRows 124 = .ok (.iconst 1, 1) := by decide +kernel
theorem dX0_tellRows_125 : decode cX0_tellRows 125 = .ok (.isub, 1) := by decide +kernel
theorem dX0_tellRows_126 : decode cX0_tellRows 126 = .ok (.iaload, 1) := by decide +kernel
theorem dX0_tellRows_127 : decode cX0_tellRows 127 = .ok (.goto 5, 3) := by decide +kernel
theorem dX0_tellRows_130 : decode cX0_tellRows 130 = .ok (.iload 4, 2) := by decide +kernel
theorem dX0_tellRows_132 : decode cX0_tellRows 132 = .ok (.istore 7, 2) := by decide +kernel
theorem dX0_tellRows_134 : decode cX0_tellRows 134 = .ok (.aload_n 0, 1) := by decide +kernel
theorem dX0_tellRows_135 : decode cX0_tellRows 135 = .ok (.getfield 25, 3) := by decide +kernel
theorem dX0_tellRows_138 : decode cX0_tellRows 138 = .ok (.ifCond .le 63, 3) := by decide +kernel
theorem dX0_tellRows_141 : decode cX0_tellRows 141 = .ok (.iload 7, 2) := by decide +kernel
theorem dX0_tellRows_143 : decode cX0_tellRows 143 = .ok (.ifCond .lt 58, 3) := by decide +kernel
theorem dX0_tellRows_146 : decode cX0_tellRows 146 = .ok (.aload 6, 2) := by decide +kernel
theorem dX0_tellRows_148 : decode cX0_tellRows 148 = .ok (.aload_n 1, 1) := by decide +kernel
theorem dX0_tellRows_149 : decode cX0_tellRows 149 = .ok (.iconst 1, 1) := by decide +kernel
theorem dX0_tellRows_150 : decode cX0_tellRows 150 = .ok (.invokevirtual 148, 3) := by decide +kernel
theorem dX0_tellRows_153 : decode cX0_tellRows 153 = .ok (.aload 6, 2) := by decide +kernel
theorem dX0_tellRows_155 : decode cX0_tellRows 155 = .ok (.aload_n 1, 1) := by decide +kernel
theorem dX0_tellRows_156 : decode cX0_tellRows 156 = .ok (.aload_n 1, 1) := by decide +kernel
theorem dX0_tellRows_157 : decode cX0_tellRows 157 = .ok (.iconst 1, 1) := by decide +kernel
theorem dX0_tellRows_158 : decode cX0_tellRows 158 = .ok (.iload 5, 2) := by decide +kernel
theorem dX0_tellRows_160 : decode cX0_tellRows 160 = .ok (.invokevirtual 141, 3) := by decide +kernel
theorem dX0_tellRows_163 : decode cX0_tellRows 163 = .ok (.aload_n 2, 1) := by decide +kernel
theorem dX0_tellRows_164 : decode cX0_tellRows 164 = .ok (.iconst 1, 1) := by decide +kernel
theorem dX0_tellRows_165 : decode cX0_tellRows 165 = .ok (.iconst 0, 1) := by decide +kernel
theorem dX0_tellRows_166 : decode cX0_tellRows 166 = .ok (.invokevirtual 134, 3) := by decide +kernel
theorem dX0_tellRows_169 : decode cX0_tellRows 169 = .ok (.aload_n 2, 1) := by decide +kernel
theorem dX0_tellRows_170 : decode cX0_tellRows 170 = .ok (.iconst 1, 1) := by decide +kernel
theorem dX0_tellRows_171 : decode cX0_tellRows 171 = .ok (.iconst 1, 1) := by decide +kernel
theorem dX0_tellRows_172 : decode cX0_tellRows 172 = .ok (.invokevirtual 134, 3) := by decide +kernel
theorem dX0_tellRows_175 : decode cX0_tellRows 175 = .ok (.aload_n 0, 1) := by decide +kernel
theorem dX0_tellRows_176 : decode cX0_tellRows 176 = .ok (.getfield 25, 3) := by decide +kernel
theorem dX0_tellRows_179 : decode cX0_tellRows 179 = .ok (.invokevirtual 137, 3) := by decide +kernel
theorem dX0_tellRows_182 : decode cX0_tellRows 182 = .ok (.aload_n 0, 1) := by decide +kernel
theorem dX0_tellRows_183 : decode cX0_tellRows 183 = .ok (.aload_n 1, 1) := by decide +kernel
theorem dX0_tellRows_184 : decode cX0_tellRows 184 = .ok (.aload 6, 2) := by decide +kernel
theorem dX0_tellRows_186 : decode cX0_tellRows 186 = .ok (.iconst 1, 1) := by decide +kernel
theorem dX0_tellRows_187 : decode cX0_tellRows 187 = .ok (.aload_n 0, 1) := by decide +kernel
theorem dX0_tellRows_188 : decode cX0_tellRows 188 = .ok (.getfield 25, 3) := by decide +kernel
theorem dX0_tellRows_191 : decode cX0_tellRows 191 = .ok (.aload_n 1, 1) := by decide +kernel
theorem dX0_tellRows_192 : decode cX0_tellRows 192 = .ok (.getfield 152, 3) := by decide +kernel
theorem dX0_tellRows_195 : decode cX0_tellRows 195 = .ok (.iload 7, 2) := by decide +kernel
theorem dX0_tellRows_197 : decode cX0_tellRows 197 = .ok (.iaload, 1) := by decide +kernel
theorem dX0_tellRows_198 : decode cX0_tellRows 198 = .ok (.invokevirtual 144, 3) := by decide +kernel
theorem dX0_tellRows_201 : decode cX0_tellRows 201 = .ok (.return_, 1) := by decide +kernel
theorem dX0_meetingLefts_0 : decode cX0_meetingLefts 0 = .ok (.aload_n 0, 1) := by decide +kernel
theorem dX0_meetingLefts_1 : decode cX0_meetingLefts 1 = .ok (.aload_n 2, 1) := by decide +kernel
theorem dX0_meetingLefts_2 : decode cX0_meetingLefts 2 = .ok (.aload_n 3, 1) := by decide +kernel
theorem dX0_meetingLefts_3 : decode cX0_meetingLefts 3 = .ok (.invokevirtual 95, 3) := by decide +kernel
theorem dX0_meetingLefts_6 : decode cX0_meetingLefts 6 = .ok (.istore 4, 2) := by decide +kernel
theorem dX0_meetingLefts_8 : decode cX0_meetingLefts 8 = .ok (.aload_n 0, 1) := by decide +kernel
theorem dX0_meetingLefts_9 : decode cX0_meetingLefts 9 = .ok (.aload_n 2, 1) := by decide +kernel
theorem dX0_meetingLefts_10 : decode cX0_meetingLefts 10 = .ok (.aload_n 3, 1) := by decide +kernel
theorem dX0_meetingLefts_11 : decode cX0_meetingLefts 11 = .ok (.invokevirtual 99, 3) := by decide +kernel
theorem dX0_meetingLefts_14 : decode cX0_meetingLefts 14 = .ok (.istore 5, 2) := by decide +kernel
theorem dX0_meetingLefts_16 : decode cX0_meetingLefts 16 = .ok (.iconst 0, 1) := by decide +kernel
theorem dX0_meetingLefts_17 : decode cX0_meetingLefts 17 = .ok (.istore 6, 2) := by decide +kernel
theorem dX0_meetingLefts_19 : decode cX0_meetingLefts 19 = .ok (.iconst 0, 1) := by decide +kernel
theorem dX0_meetingLefts_20 : decode cX0_meetingLefts 20 = .ok (.istore 7, 2) := by decide +kernel
theorem dX0_meetingLefts_22 : decode cX0_meetingLefts 22 = .ok (.iload 7, 2) := by decide +kernel
theorem dX0_meetingLefts_24 : decode cX0_meetingLefts 24 = .ok (.aload_n 1, 1) := by decide +kernel
theorem dX0_meetingLefts_25 : decode cX0_meetingLefts 25 = .ok (.getfield 155, 3) := by decide +kernel
theorem dX0_meetingLefts_28 : decode cX0_meetingLefts 28 = .ok (.if_icmp .ge 34, 3) := by decide +kernel
theorem dX0_meetingLefts_31 : decode cX0_meetingLefts 31 = .ok (.aload_n 1, 1) := by decide +kernel
theorem dX0_meetingLefts_32 : decode cX0_meetingLefts 32 = .ok (.iload 4, 2) := by decide +kernel
theorem dX0_meetingLefts_34 : decode cX0_meetingLefts 34 = .ok (.iconst 1, 1) := by decide +kernel
theorem dX0_meetingLefts_35 : decode cX0_meetingLefts 35 = .ok (.iload 7, 2) := by decide +kernel
theorem dX0_meetingLefts_37 : decode cX0_meetingLefts 37 = .ok (.ishl, 1) := by decide +kernel
theorem dX0_meetingLefts_38 : decode cX0_meetingLefts 38 = .ok (.iand, 1) := by decide +kernel
theorem dX0_meetingLefts_39 : decode cX0_meetingLefts 39 = .ok (.iload 5, 2) := by decide +kernel
theorem dX0_meetingLefts_41 : decode cX0_meetingLefts 41 = .ok (.invokevirtual 102, 3) := by decide +kernel
theorem dX0_meetingLefts_44 : decode cX0_meetingLefts 44 = .ok (.ifCond .eq 12, 3) := by decide +kernel
theorem dX0_meetingLefts_47 : decode cX0_meetingLefts 47 = .ok (.iload 6, 2) := by decide +kernel
theorem dX0_meetingLefts_49 : decode cX0_meetingLefts 49 = .ok (.iconst 1, 1) := by decide +kernel
theorem dX0_meetingLefts_50 : decode cX0_meetingLefts 50 = .ok (.iload 7, 2) := by decide +kernel
theorem dX0_meetingLefts_52 : decode cX0_meetingLefts 52 = .ok (.ishl, 1) := by decide +kernel
theorem dX0_meetingLefts_53 : decode cX0_meetingLefts 53 = .ok (.ior, 1) := by decide +kernel
theorem dX0_meetingLefts_54 : decode cX0_meetingLefts 54 = .ok (.istore 6, 2) := by decide +kernel
theorem dX0_meetingLefts_56 : decode cX0_meetingLefts 56 = .ok (.iinc 7 1, 3) := by decide +kernel
theorem dX0_meetingLefts_59 : decode cX0_meetingLefts 59 = .ok (.goto (-37), 3) := by decide +kernel
theorem dX0_meetingLefts_62 : decode cX0_meetingLefts 62 = .ok (.iload 6, 2) := by decide +kernel
theorem dX0_meetingLefts_64 : decode cX0_meetingLefts 64 = .ok (.ireturn, 1) := by decide +kernel
theorem dX0_tellSide_0 : decode cX0_tellSide 0 = .ok (.iload 5, 2) := by decide +kernel
theorem dX0_tellSide_2 : decode cX0_tellSide 2 = .ok (.istore 6, 2) := by decide +kernel
theorem dX0_tellSide_4 : decode cX0_tellSide 4 = .ok (.iload 4, 2) := by decide +kernel
theorem dX0_tellSide_6 : decode cX0_tellSide 6 = .ok (.istore 7, 2) := by decide +kernel
theorem dX0_tellSide_8 : decode cX0_tellSide 8 = .ok (.iload 7, 2) := by decide +kernel
theorem dX0_tellSide_10 : decode cX0_tellSide 10 = .ok (.ifCond .le 129, 3) := by decide +kernel
theorem dX0_tellSide_13 : decode cX0_tellSide 13 = .ok (.aload_n 2, 1) := by decide +kernel
theorem dX0_tellSide_14 : decode cX0_tellSide 14 = .ok (.iload 7, 2) := by decide +kernel
theorem dX0_tellSide_16 : decode cX0_tellSide 16 = .ok (.iload 6, 2) := by decide +kernel
theorem dX0_tellSide_18 : decode cX0_tellSide 18 = .ok (.aload_n 0, 1) := by decide +kernel
theorem dX0_tellSide_19 : decode cX0_tellSide 19 = .ok (.getfield 32, 3) := by decide +kernel
theorem dX0_tellSide_22 : decode cX0_tellSide 22 = .ok (.iload_n 3, 1) := by decide +kernel
theorem dX0_tellSide_23 : decode cX0_tellSide 23 = .ok (.iconst 2, 1) := by decide +kernel
theorem dX0_tellSide_24 : decode cX0_tellSide 24 = .ok (.imul, 1) := by decide +kernel
theorem dX0_tellSide_25 : decode cX0_tellSide 25 = .ok (.iaload, 1) := by decide +kernel
theorem dX0_tellSide_26 : decode cX0_tellSide 26 = .ok (.aload_n 0, 1) := by decide +kernel
theorem dX0_tellSide_27 : decode cX0_tellSide 27 = .ok (.getfield 32, 3) := by decide +kernel
theorem dX0_tellSide_30 : decode cX0_tellSide 30 = .ok (.iload_n 3, 1) := by decide +kernel
theorem dX0_tellSide_31 : decode cX0_tellSide 31 = .ok (.iconst 2, 1) := by decide +kernel
theorem dX0_tellSide_32 : decode cX0_tellSide 32 = .ok (.imul, 1) := by decide +kernel
theorem dX0_tellSide_33 : decode cX0_tellSide 33 = .ok (.iconst 1, 1) := by decide +kernel
theorem dX0_tellSide_34 : decode cX0_tellSide 34 = .ok (.iadd, 1) := by decide +kernel
theorem dX0_tellSide_35 : decode cX0_tellSide 35 = .ok (.iaload, 1) := by decide +kernel
theorem dX0_tellSide_36 : decode cX0_tellSide 36 = .ok (.invokevirtual 158, 3) := by decide +kernel
theorem dX0_tellSide_39 : decode cX0_tellSide 39 = .ok (.istore 8, 2) := by decide +kernel
theorem dX0_tellSide_41 : decode cX0_tellSide 41 = .ok (.iload 8, 2) := by decide +kernel
theorem dX0_tellSide_43 : decode cX0_tellSide 43 = .ok (.ifCond .lt 12, 3) := by decide +kernel
theorem dX0_tellSide_46 : decode cX0_tellSide 46 = .ok (.aload_n 0, 1) := by decide +kernel
theorem dX0_tellSide_47 : decode cX0_tellSide 47 = .ok (.getfield 35, 3) := by decide +kernel
theorem dX0_tellSide_50 : decode cX0_tellSide 50 = .ok (.bipush 48, 2) := by decide +kernel
theorem dX0_tellSide_52 : decode cX0_tellSide 52 = .ok (.if_icmp .lt 4, 3) := by decide +kernel
theorem dX0_tellSide_55 : decode cX0_tellSide 55 = .ok (.return_, 1) := by decide +kernel
theorem dX0_tellSide_56 : decode cX0_tellSide 56 = .ok (.aload_n 0, 1) := by decide +kernel
theorem dX0_tellSide_57 : decode cX0_tellSide 57 = .ok (.getfield 28, 3) := by decide +kernel
theorem dX0_tellSide_60 : decode cX0_tellSide 60 = .ok (.aload_n 0, 1) := by decide +kernel
theorem dX0_tellSide_61 : decode cX0_tellSide 61 = .ok (.getfield 35, 3) := by decide +kernel
theorem dX0_tellSide_64 : decode cX0_tellSide 64 = .ok (.iload 8, 2) := by decide +kernel
theorem dX0_tellSide_66 : decode cX0_tellSide 66 = .ok (.iastore, 1) := by decide +kernel
theorem dX0_tellSide_67 : decode cX0_tellSide 67 = .ok (.aload_n 0, 1) := by decide +kernel
theorem dX0_tellSide_68 : decode cX0_tellSide 68 = .ok (.dup, 1) := by decide +kernel
theorem dX0_tellSide_69 : decode cX0_tellSide 69 = .ok (.getfield 35, 3) := by decide +kernel
theorem dX0_tellSide_72 : decode cX0_tellSide 72 = .ok (.iconst 1, 1) := by decide +kernel
theorem dX0_tellSide_73 : decode cX0_tellSide 73 = .ok (.iadd, 1) := by decide +kernel
theorem dX0_tellSide_74 : decode cX0_tellSide 74 = .ok (.putfield 35, 3) := by decide +kernel
theorem dX0_tellSide_77 : decode cX0_tellSide 77 = .ok (.aload_n 0, 1) := by decide +kernel
theorem dX0_tellSide_78 : decode cX0_tellSide 78 = .ok (.getfield 32, 3) := by decide +kernel
theorem dX0_tellSide_81 : decode cX0_tellSide 81 = .ok (.iload_n 3, 1) := by decide +kernel
theorem dX0_tellSide_82 : decode cX0_tellSide 82 = .ok (.iconst 2, 1) := by decide +kernel
theorem dX0_tellSide_83 : decode cX0_tellSide 83 = .ok (.imul, 1) := by decide +kernel
theorem dX0_tellSide_84 : decode cX0_tellSide 84 = .ok (.aload_n 1, 1) := by decide +kernel
theorem dX0_tellSide_85 : decode cX0_tellSide 85 = .ok (.getfield 162, 3) := by decide +kernel
theorem dX0_tellSide_88 : decode cX0_tellSide 88 = .ok (.iload 8, 2) := by decide +kernel
theorem dX0_tellSide_90 : decode cX0_tellSide 90 = .ok (.iaload, 1) := by decide +kernel
theorem dX0_tellSide_91 : decode cX0_tellSide 91 = .ok (.iadd, 1) := by decide +kernel
theorem dX0_tellSide_92 : decode cX0_tellSide 92 = .ok (.dup2, 1) := by decide +kernel
theorem dX0_tellSide_93 : decode cX0_tellSide 93 = .ok (.iaload, 1) := by decide +kernel
theorem dX0_tellSide_94 : decode cX0_tellSide 94 = .ok (.aload_n 1, 1) := by decide +kernel
theorem dX0_tellSide_95 : decode cX0_tellSide 95 = .ok (.getfield 165, 3) := by decide +kernel
theorem dX0_tellSide_98 : decode cX0_tellSide 98 = .ok (.iload 8, 2) := by decide +kernel
theorem dX0_tellSide_100 : decode cX0_tellSide 100 = .ok (.iaload, 1) := by decide +kernel
theorem dX0_tellSide_101 : decode cX0_tellSide 101 = .ok (.iadd, 1) := by decide +kernel
theorem dX0_tellSide_102 : decode cX0_tellSide 102 = .ok (.iastore, 1) := by decide +kernel
theorem dX0_tellSide_103 : decode cX0_tellSide 103 = .ok (.iload_n 3, 1) := by decide +kernel
theorem dX0_tellSide_104 : decode cX0_tellSide 104 = .ok (.ifCond .ne 13, 3) := by decide +kernel
theorem dX0_tellSide_107 : decode cX0_tellSide 107 = .ok (.aload_n 1, 1) := by decide +kernel
theorem dX0_tellSide_108 : decode cX0_tellSide 108 = .ok (.getfield 152, 3) := by decide +kernel
theorem dX0_tellSide_111 : decode cX0_tellSide 111 = .ok (.iload 8, 2) := by decide +kernel
theorem dX0_tellSide_113 : decode cX0_tellSide 113 = .ok (.iaload, 1) := by decide +kernel
theorem dX0_tellSide_114 : decode cX0_tellSide 114 = .ok (.goto 17, 3) := by decide +kernel
theorem dX0_tellSide_117 : decode cX0_tellSide 117 = .ok (.aload_n 1, 1) := by decide +kernel
theorem dX0_tellSide_118 : decode cX0_tellSide 118 = .ok (.getfield 152, 3) := by decide +kernel
theorem dX0_tellSide_121 : decode cX0_tellSide 121 = .ok (.iload 8, 2) := by decide +kernel
theorem dX0_tellSide_123 : decode cX0_tellSide 123 = .ok (.iaload, 1) := by decide +kernel
theorem dX0_tellSide_124 : decode cX0_tellSide 124 = .ok (.aload_n 1, 1) := by decide +kernel
theorem dX0_tellSide_125 : decode cX0_tellSide 125 = .ok (.getfield 168, 3) := by decide +kernel
theorem dX0_tellSide_128 : decode cX0_tellSide 128 = .ok (.iconst (-1), 1) := by decide +kernel
theorem dX0_tellSide_129 : decode cX0_tellSide 129 = .ok (.ixor, 1) := by decide +kernel
theorem dX0_tellSide_130 : decode cX0_tellSide 130 = .ok (.iand, 1) := by decide +kernel
theorem dX0_tellSide_131 : decode cX0_tellSide 131 = .ok (.istore 6, 2) := by decide +kernel
theorem dX0_tellSide_133 : decode cX0_tellSide 133 = .ok (.iinc 7 (-1), 3) := by decide +kernel
theorem dX0_tellSide_136 : decode cX0_tellSide 136 = .ok (.goto (-128), 3) := by decide +kernel
theorem dX0_tellSide_139 : decode cX0_tellSide 139 = .ok (.return_, 1) := by decide +kernel
theorem dX1_init_0 : decode cX1_init 0 = .ok (.aload_n 0, 1) := by decide +kernel
theorem dX1_init_1 : decode cX1_init 1 = .ok (.invokespecial 3, 3) := by decide +kernel
theorem dX1_init_4 : decode cX1_init 4 = .ok (.aload_n 0, 1) := by decide +kernel
theorem dX1_init_5 : decode cX1_init 5 = .ok (.new 9, 3) := by decide +kernel
theorem dX1_init_8 : decode cX1_init 8 = .ok (.dup, 1) := by decide +kernel
theorem dX1_init_9 : decode cX1_init 9 = .ok (.invokespecial 11, 3) := by decide +kernel
theorem dX1_init_12 : decode cX1_init 12 = .ok (.putfield 12, 3) := by decide +kernel
theorem dX1_init_15 : decode cX1_init 15 = .ok (.aload_n 0, 1) := by decide +kernel
theorem dX1_init_16 : decode cX1_init 16 = .ok (.sipush 450, 3) := by decide +kernel
theorem dX1_init_19 : decode cX1_init 19 = .ok (.newarray .int, 2) := by decide +kernel
theorem dX1_init_21 : decode cX1_init 21 = .ok (.putfield 18, 3) := by decide +kernel
theorem dX1_init_24 : decode cX1_init 24 = .ok (.aload_n 0, 1) := by decide +kernel
theorem dX1_init_25 : decode cX1_init 25 = .ok (.bipush 18, 2) := by decide +kernel
theorem dX1_init_27 : decode cX1_init 27 = .ok (.newarray .int, 2) := by decide +kernel
theorem dX1_init_29 : decode cX1_init 29 = .ok (.putfield 22, 3) := by decide +kernel
theorem dX1_init_32 : decode cX1_init 32 = .ok (.aload_n 0, 1) := by decide +kernel
theorem dX1_init_33 : decode cX1_init 33 = .ok (.bipush 18, 2) := by decide +kernel
theorem dX1_init_35 : decode cX1_init 35 = .ok (.newarray .boolean, 2) := by decide +kernel
theorem dX1_init_37 : decode cX1_init 37 = .ok (.putfield 25, 3) := by decide +kernel
theorem dX1_init_40 : decode cX1_init 40 = .ok (.return_, 1) := by decide +kernel
theorem dX1_longestWalk_0 : decode cX1_longestWalk 0 = .ok (.aload_n 0, 1) := by decide +kernel
theorem dX1_longestWalk_1 : decode cX1_longestWalk 1 = .ok (.getfield 12, 3) := by decide +kernel
theorem dX1_longestWalk_4 : decode cX1_longestWalk 4 = .ok (.aload_n 1, 1) := by decide +kernel
theorem dX1_longestWalk_5 : decode cX1_longestWalk 5 = .ok (.iload_n 3, 1) := by decide +kernel
theorem dX1_longestWalk_6 : decode cX1_longestWalk 6 = .ok (.invokevirtual 29, 3) := by decide +kernel
theorem dX1_longestWalk_9 : decode cX1_longestWalk 9 = .ok (.aload_n 0, 1) := by decide +kernel
theorem dX1_longestWalk_10 : decode cX1_longestWalk 10 = .ok (.getfield 12, 3) := by decide +kernel
theorem dX1_longestWalk_13 : decode cX1_longestWalk 13 = .ok (.aload_n 1, 1) := by decide +kernel
theorem dX1_longestWalk_14 : decode cX1_longestWalk 14 = .ok (.aload_n 1, 1) := by decide +kernel
theorem dX1_longestWalk_15 : decode cX1_longestWalk 15 = .ok (.iload_n 3, 1) := by decide +kernel
theorem dX1_longestWalk_16 : decode cX1_longestWalk 16 = .ok (.aload_n 2, 1) := by decide +kernel
theorem dX1_longestWalk_17 : decode cX1_longestWalk 17 = .ok (.iload_n 3, 1) := by decide +kernel
theorem dX1_longestWalk_18 : decode cX1_longestWalk 18 = .ok (.invokevirtual 33, 3) := by decide +kernel
theorem dX1_longestWalk_21 : decode cX1_longestWalk 21 = .ok (.invokevirtual 39, 3) := by decide +kernel
theorem dX1_longestWalk_24 : decode cX1_longestWalk 24 = .ok (.aload_n 2, 1) := by decide +kernel
theorem dX1_longestWalk_25 : decode cX1_longestWalk 25 = .ok (.iload_n 3, 1) := by decide +kernel
theorem dX1_longestWalk_26 : decode cX1_longestWalk 26 = .ok (.iconst 0, 1) := by decide +kernel
theorem dX1_longestWalk_27 : decode cX1_longestWalk 27 = .ok (.invokevirtual 45, 3) := by decide +kernel
theorem dX1_longestWalk_30 : decode cX1_longestWalk 30 = .ok (.aload_n 2, 1) := by decide +kernel
theorem dX1_longestWalk_31 : decode cX1_longestWalk 31 = .ok (.iload_n 3, 1) := by decide +kernel
theorem dX1_longestWalk_32 : decode cX1_longestWalk 32 = .ok (.iconst 1, 1) := by decide +kernel
theorem dX1_longestWalk_33 : decode cX1_longestWalk 33 = .ok (.invokevirtual 45, 3) := by decide +kernel
theorem dX1_longestWalk_36 : decode cX1_longestWalk 36 = .ok (.bipush 24, 2) := by decide +kernel
theorem dX1_longestWalk_38 : decode cX1_longestWalk 38 = .ok (.aload_n 2, 1) := by decide +kernel
theorem dX1_longestWalk_39 : decode cX1_longestWalk 39 = .ok (.getfield 48, 3) := by decide +kernel
theorem dX1_longestWalk_42 : decode cX1_longestWalk 42 = .ok (.iload_n 3, 1) := by decide +kernel
theorem dX1_longestWalk_43 : decode cX1_longestWalk 43 = .ok (.iaload, 1) := by decide +kernel
theorem dX1_longestWalk_44 : decode cX1_longestWalk 44 = .ok (.isub, 1) := by decide +kernel
theorem dX1_longestWalk_45 : decode cX1_longestWalk 45 = .ok (.invokevirtual 51, 3) := by decide +kernel
theorem dX1_longestWalk_48 : decode cX1_longestWalk 48 = .ok (.aload_n 0, 1) := by decide +kernel
theorem dX1_longestWalk_49 : decode cX1_longestWalk 49 = .ok (.getfield 12, 3) := by decide +kernel
theorem dX1_longestWalk_52 : decode cX1_longestWalk 52 = .ok (.getfield 55, 3) := by decide +kernel
theorem dX1_longestWalk_55 : decode cX1_longestWalk 55 = .ok (.ireturn, 1) := by decide +kernel
theorem dX1_forget_0 : decode cX1_forget 0 = .ok (.iconst 0, 1) := by decide +kernel
theorem dX1_forget_1 : decode cX1_forget 1 = .ok (.istore_n 1, 1) := by decide +kernel
theorem dX1_forget_2 : decode cX1_forget 2 = .ok (.iload_n 1, 1) := by decide +kernel
theorem dX1_forget_3 : decode cX1_forget 3 = .ok (.bipush 18, 2) := by decide +kernel
theorem dX1_forget_5 : decode cX1_forget 5 = .ok (.if_icmp .ge 16, 3) := by decide +kernel
theorem dX1_forget_8 : decode cX1_forget 8 = .ok (.aload_n 0, 1) := by decide +kernel
theorem dX1_forget_9 : decode cX1_forget 9 = .ok (.getfield 25, 3) := by decide +kernel
theorem dX1_forget_12 : decode cX1_forget 12 = .ok (.iload_n 1, 1) := by decide +kernel
theorem dX1_forget_13 : decode cX1_forget 13 = .ok (.iconst 0, 1) := by decide +kernel
theorem dX1_forget_14 : decode cX1_forget 14 = .ok (.bastore, 1) := by decide +kernel
theorem dX1_forget_15 : decode cX1_forget 15 = .ok (.iinc 1 1, 3) := by decide +kernel
theorem dX1_forget_18 : decode cX1_forget 18 = .ok (.goto (-16), 3) := by decide +kernel
theorem dX1_forget_21 : decode cX1_forget 21 = .ok (.return_, 1) := by decide +kernel
theorem dX1_startOf_0 : decode cX1_startOf 0 = .ok (.iload_n 1, 1) := by decide +kernel
theorem dX1_startOf_1 : decode cX1_startOf 1 = .ok (.ifCond .ge 8, 3) := by decide +kernel
theorem dX1_startOf_4 : decode cX1_startOf 4 = .ok (.bipush 8, 2) := by decide +kernel
theorem dX1_startOf_6 : decode cX1_startOf 6 = .ok (.goto 4, 3) := by decide +kernel
theorem dX1_startOf_9 : decode cX1_startOf 9 = .ok (.iload_n 1, 1) := by decide +kernel
theorem dX1_startOf_10 : decode cX1_startOf 10 = .ok (.ireturn, 1) := by decide +kernel
theorem dX1_learnFrom_0 : decode cX1_learnFrom 0 = .ok (.aload_n 0, 1) := by decide +kernel
theorem dX1_learnFrom_1 : decode cX1_learnFrom 1 = .ok (.getfield 25, 3) := by decide +kernel
theorem dX1_learnFrom_4 : decode cX1_learnFrom 4 = .ok (.iload_n 3, 1) := by decide +kernel
theorem dX1_learnFrom_5 : decode cX1_learnFrom 5 = .ok (.bipush 9, 2) := by decide +kernel
theorem dX1_learnFrom_7 : decode cX1_learnFrom 7 = .ok (.imul, 1) := by decide +kernel
theorem dX1_learnFrom_8 : decode cX1_learnFrom 8 = .ok (.aload_n 0, 1) := by decide +kernel
theorem dX1_learnFrom_9 : decode cX1_learnFrom 9 = .ok (.iload 4, 2) := by decide +kernel
theorem dX1_learnFrom_11 : decode cX1_learnFrom 11 = .ok (.invokevirtual 58, 3) := by decide +kernel
theorem dX1_learnFrom_14 : decode cX1_learnFrom 14 = .ok (.iadd, 1) := by decide +kernel
theorem dX1_learnFrom_15 : decode cX1_learnFrom 15 = .ok (.baload, 1) := by decide +kernel
theorem dX1_learnFrom_16 : decode cX1_learnFrom 16 = .ok (.ifCond .ne 23, 3) := by decide +kernel
theorem dX1_learnFrom_19 : decode cX1_learnFrom 19 = .ok (.aload_n 0, 1) := by decide +kernel
theorem dX1_learnFrom_20 : decode cX1_learnFrom 20 = .ok (.aload_n 1, 1) := by decide +kernel
theorem dX1_learnFrom_21 : decode cX1_learnFrom 21 = .ok (.iload_n 3, 1) := by decide +kernel
theorem dX1_learnFrom_22 : decode cX1_learnFrom 22 = .ok (.iload 4, 2) := by decide +kernel
theorem dX1_learnFrom_24 : decode cX1_learnFrom 24 = .ok (.aload_n 2, 1) := by decide +kernel
theorem dX1_learnFrom_25 : decode cX1_learnFrom 25 = .ok (.iload_n 3, 1) := by decide +kernel
theorem dX1_learnFrom_26 : decode cX1_learnFrom 26 = .ok (.iconst 0, 1) := by decide +kernel
theorem dX1_learnFrom_27 : decode cX1_learnFrom 27 = .ok (.invokevirtual 45, 3) := by decide +kernel
theorem dX1_learnFrom_30 : decode cX1_learnFrom 30 = .ok (.aload_n 2, 1) := by decide +kernel
theorem dX1_learnFrom_31 : decode cX1_learnFrom 31 = .ok (.iload_n 3, 1) := by decide +kernel
theorem dX1_learnFrom_32 : decode cX1_learnFrom 32 = .ok (.iconst 1, 1) := by decide +kernel
theorem dX1_learnFrom_33 : decode cX1_learnFrom 33 = .ok (.invokevirtual 45, 3) := by decide +kernel
theorem dX1_learnFrom_36 : decode cX1_learnFrom 36 = .ok (.invokevirtual 61, 3) := by decide +kernel
theorem dX1_learnFrom_39 : decode cX1_learnFrom 39 = .ok (.return_, 1) := by decide +kernel
theorem dX1_learn_0 : decode cX1_learn 0 = .ok (.aload_n 0, 1) := by decide +kernel
theorem dX1_learn_1 : decode cX1_learn 1 = .ok (.getfield 12, 3) := by decide +kernel
theorem dX1_learn_4 : decode cX1_learn 4 = .ok (.aload_n 1, 1) := by decide +kernel
theorem dX1_learn_5 : decode cX1_learn 5 = .ok (.iload_n 2, 1) := by decide +kernel
theorem dX1_learn_6 : decode cX1_learn 6 = .ok (.invokevirtual 29, 3) := by decide +kernel
theorem dX1_learn_9 : decode cX1_learn 9 = .ok (.aload_n 0, 1) := by decide +kernel
theorem dX1_learn_10 : decode cX1_learn 10 = .ok (.getfield 12, 3) := by decide +kernel
theorem dX1_learn_13 : decode cX1_learn 13 = .ok (.aload_n 1, 1) := by decide +kernel
theorem dX1_learn_14 : decode cX1_learn 14 = .ok (.aload_n 1, 1) := by decide +kernel
theorem dX1_learn_15 : decode cX1_learn 15 = .ok (.iload_n 2, 1) := by decide +kernel
theorem dX1_learn_16 : decode cX1_learn 16 = .ok (.iload_n 3, 1) := by decide +kernel
theorem dX1_learn_17 : decode cX1_learn 17 = .ok (.invokevirtual 39, 3) := by decide +kernel
theorem dX1_learn_20 : decode cX1_learn 20 = .ok (.iload 4, 2) := by decide +kernel
theorem dX1_learn_22 : decode cX1_learn 22 = .ok (.iload 5, 2) := by decide +kernel
theorem dX1_learn_24 : decode cX1_learn 24 = .ok (.aload_n 1, 1) := by decide +kernel
theorem dX1_learn_25 : decode cX1_learn 25 = .ok (.iload_n 2, 1) := by decide +kernel
theorem dX1_learn_26 : decode cX1_learn 26 = .ok (.invokevirtual 64, 3) := by decide +kernel
theorem dX1_learn_29 : decode cX1_learn 29 = .ok (.invokevirtual 51, 3) := by decide +kernel
theorem dX1_learn_32 : decode cX1_learn 32 = .ok (.iload_n 2, 1) := by decide +kernel
theorem dX1_learn_33 : decode cX1_learn 33 = .ok (.bipush 9, 2) := by decide +kernel
theorem dX1_learn_35 : decode cX1_learn 35 = .ok (.imul, 1) := by decide +kernel
theorem dX1_learn_36 : decode cX1_learn 36 = .ok (.aload_n 0, 1) := by decide +kernel
theorem dX1_learn_37 : decode cX1_learn 37 = .ok (.iload_n 3, 1) := by decide +kernel
theorem dX1_learn_38 : decode cX1_learn 38 = .ok (.invokevirtual 58, 3) := by decide +kernel
theorem dX1_learn_41 : decode cX1_learn 41 = .ok (.iadd, 1) := by decide +kernel
theorem dX1_learn_42 : decode cX1_learn 42 = .ok (.istore 6, 2) := by decide +kernel
theorem dX1_learn_44 : decode cX1_learn 44 = .ok (.iconst 1, 1) := by decide +kernel
theorem dX1_learn_45 : decode cX1_learn 45 = .ok (.istore 7, 2) := by decide +kernel
theorem dX1_learn_47 : decode cX1_learn 47 = .ok (.iload 7, 2) := by decide +kernel
theorem dX1_learn_49 : decode cX1_learn 49 = .ok (.bipush 24, 2) := by decide +kernel
theorem dX1_learn_51 : decode cX1_learn 51 = .ok (.if_icmp .gt 32, 3) := by decide +kernel
theorem dX1_learn_54 : decode cX1_learn 54 = .ok (.aload_n 0, 1) := by decide +kernel
theorem dX1_learn_55 : decode cX1_learn 55 = .ok (.getfield 18, 3) := by decide +kernel
theorem dX1_learn_58 : decode cX1_learn 58 = .ok (.iload 6, 2) := by decide +kernel
theorem dX1_learn_60 : decode cX1_learn 60 = .ok (.bipush 25, 2) := by decide +kernel
theorem dX1_learn_62 : decode cX1_learn 62 = .ok (.imul, 1) := by decide +kernel
theorem dX1_learn_63 : decode cX1_learn 63 = .ok (.iload 7, 2) := by decide +kernel
theorem dX1_learn_65 : decode cX1_learn 65 = .ok (.iadd, 1) := by decide +kernel
theorem dX1_learn_66 : decode cX1_learn 66 = .ok (.aload_n 0, 1) := by decide +kernel
theorem dX1_learn_67 : decode cX1_learn 67 = .ok (.getfield 12, 3) := by decide +kernel
theorem dX1_learn_70 : decode cX1_learn 70 = .ok (.getfield 67, 3) := by decide +kernel
theorem dX1_learn_73 : decode cX1_learn 73 = .ok (.iload 7, 2) := by decide +kernel
theorem dX1_learn_75 : decode cX1_learn 75 = .ok (.iaload, 1) := by decide +kernel
theorem dX1_learn_76 : decode cX1_learn 76 = .ok (.iastore, 1) := by decide +kernel
theorem dX1_learn_77 : decode cX1_learn 77 = .ok (.iinc 7 1, 3) := by decide +kernel
theorem dX1_learn_80 : decode cX1_learn 80 = .ok (.goto (-33), 3) := by decide +kernel
theorem dX1_learn_83 : decode cX1_learn 83 = .ok (.aload_n 0, 1) := by decide +kernel
theorem dX1_learn_84 : decode cX1_learn 84 = .ok (.getfield 18, 3) := by decide +kernel
theorem dX1_learn_87 : decode cX1_learn 87 = .ok (.iload 6, 2) := by decide +kernel
theorem dX1_learn_89 : decode cX1_learn 89 = .ok (.bipush 25, 2) := by decide +kernel
theorem dX1_learn_91 : decode cX1_learn 91 = .ok (.imul, 1) := by decide +kernel
theorem dX1_learn_92 : decode cX1_learn 92 = .ok (.iload_n 3, 1) := by decide +kernel
theorem dX1_learn_93 : decode cX1_learn 93 = .ok (.ifCond .ge 7, 3) := by decide +kernel
theorem dX1_learn_96 : decode cX1_learn 96 = .ok (.iconst 0, 1) := by decide +kernel
theorem dX1_learn_97 : decode cX1_learn 97 = .ok (.goto 6, 3) := by decide +kernel
theorem dX1_learn_100 : decode cX1_learn 100 = .ok (.iconst 1, 1) := by decide +kernel
theorem dX1_learn_101 : decode cX1_learn 101 = .ok (.iload_n 3, 1) := by decide +kernel
theorem dX1_learn_102 : decode cX1_learn 102 = .ok (.ishl, 1) := by decide +kernel
theorem dX1_learn_103 : decode cX1_learn 103 = .ok (.iastore, 1) := by decide +kernel
theorem dX1_learn_104 : decode cX1_learn 104 = .ok (.aload_n 0, 1) := by decide +kernel
theorem dX1_learn_105 : decode cX1_learn 105 = .ok (.getfield 22, 3) := by decide +kernel
theorem dX1_learn_108 : decode cX1_learn 108 = .ok (.iload 6, 2) := by decide +kernel
theorem dX1_learn_110 : decode cX1_learn 110 = .ok (.aload_n 0, 1) := by decide +kernel
theorem dX1_learn_111 : decode cX1_learn 111 = .ok (.getfield 12, 3) := by decide +kernel
theorem dX1_learn_114 : decode cX1_learn 114 = .ok (.getfield 55, 3) := by decide +kernel
theorem dX1_learn_117 : decode cX1_learn 117 = .ok (.iastore, 1) := by decide +kernel
theorem dX1_learn_118 : decode cX1_learn 118 = .ok (.aload_n 0, 1) := by decide +kernel
theorem dX1_learn_119 : decode cX1_learn 119 = .ok (.getfield 25, 3) := by decide +kernel
theorem dX1_learn_122 : decode cX1_learn 122 = .ok (.iload 6, 2) := by decide +kernel
theorem dX1_learn_124 : decode cX1_learn 124 = .ok (.iconst 1, 1) := by decide +kernel
theorem dX1_learn_125 : decode cX1_learn 125 = .ok (.bastore, 1) := by decide +kernel
theorem dX1_learn_126 : decode cX1_learn 126 = .ok (.return_, 1) := by decide +kernel
theorem dX1_mostMore_0 : decode cX1_mostMore 0 = .ok (.iload_n 2, 1) := by decide +kernel
theorem dX1_mostMore_1 : decode cX1_mostMore 1 = .ok (.bipush 9, 2) := by decide +kernel
theorem dX1_mostMore_3 : decode cX1_mostMore 3 = .ok (.imul, 1) := by decide +kernel
theorem dX1_mostMore_4 : decode cX1_mostMore 4 = .ok (.aload_n 0, 1) := by decide +kernel
theorem dX1_mostMore_5 : decode cX1_mostMore 5 = .ok (.aload_n 1, 1) := by decide +kernel
theorem dX1_mostMore_6 : decode cX1_mostMore 6 = .ok (.iload_n 2, 1) := by decide +kernel
theorem dX1_mostMore_7 : decode cX1_mostMore 7 = .ok (.iload_n 3, 1) := by decide +kernel
theorem dX1_mostMore_8 : decode cX1_mostMore 8 = .ok (.invokevirtual 68, 3) := by decide +kernel
theorem dX1_mostMore_11 : decode cX1_mostMore 11 = .ok (.invokevirtual 58, 3) := by decide +kernel
theorem dX1_mostMore_14 : decode cX1_mostMore 14 = .ok (.iadd, 1) := by decide +kernel
theorem dX1_mostMore_15 : decode cX1_mostMore 15 = .ok (.istore 4, 2) := by decide +kernel
theorem dX1_mostMore_17 : decode cX1_mostMore 17 = .ok (.aload_n 0, 1) := by decide +kernel
theorem dX1_mostMore_18 : decode cX1_mostMore 18 = .ok (.getfield 22, 3) := by decide +kernel
theorem dX1_mostMore_21 : decode cX1_mostMore 21 = .ok (.iload 4, 2) := by decide +kernel
theorem dX1_mostMore_23 : decode cX1_mostMore 23 = .ok (.iaload, 1) := by decide +kernel
theorem dX1_mostMore_24 : decode cX1_mostMore 24 = .ok (.bipush 24, 2) := by decide +kernel
theorem dX1_mostMore_26 : decode cX1_mostMore 26 = .ok (.aload_n 1, 1) := by decide +kernel
theorem dX1_mostMore_27 : decode cX1_mostMore 27 = .ok (.getfield 48, 3) := by decide +kernel
theorem dX1_mostMore_30 : decode cX1_mostMore 30 = .ok (.iload_n 2, 1) := by decide +kernel
theorem dX1_mostMore_31 : decode cX1_mostMore 31 = .ok (.iaload, 1) := by decide +kernel
theorem dX1_mostMore_32 : decode cX1_mostMore 32 = .ok (.isub, 1) := by decide +kernel
theorem dX1_mostMore_33 : decode cX1_mostMore 33 = .ok (.iload_n 3, 1) := by decide +kernel
theorem dX1_mostMore_34 : decode cX1_mostMore 34 = .ok (.iadd, 1) := by decide +kernel
theorem dX1_mostMore_35 : decode cX1_mostMore 35 = .ok (.invokestatic 71, 3) := by decide +kernel
theorem dX1_mostMore_38 : decode cX1_mostMore 38 = .ok (.ireturn, 1) := by decide +kernel
theorem dX1_lastsOf_0 : decode cX1_lastsOf 0 = .ok (.aload_n 0, 1) := by decide +kernel
theorem dX1_lastsOf_1 : decode cX1_lastsOf 1 = .ok (.getfield 18, 3) := by decide +kernel
theorem dX1_lastsOf_4 : decode cX1_lastsOf 4 = .ok (.iload_n 1, 1) := by decide +kernel
theorem dX1_lastsOf_5 : decode cX1_lastsOf 5 = .ok (.bipush 9, 2) := by decide +kernel
theorem dX1_lastsOf_7 : decode cX1_lastsOf 7 = .ok (.imul, 1) := by decide +kernel
theorem dX1_lastsOf_8 : decode cX1_lastsOf 8 = .ok (.iload_n 2, 1) := by decide +kernel
theorem dX1_lastsOf_9 : decode cX1_lastsOf 9 = .ok (.iadd, 1) := by decide +kernel
theorem dX1_lastsOf_10 : decode cX1_lastsOf 10 = .ok (.bipush 25, 2) := by decide +kernel
theorem dX1_lastsOf_12 : decode cX1_lastsOf 12 = .ok (.imul, 1) := by decide +kernel
theorem dX1_lastsOf_13 : decode cX1_lastsOf 13 = .ok (.iload_n 3, 1) := by decide +kernel
theorem dX1_lastsOf_14 : decode cX1_lastsOf 14 = .ok (.iadd, 1) := by decide +kernel
theorem dX1_lastsOf_15 : decode cX1_lastsOf 15 = .ok (.iaload, 1) := by decide +kernel
theorem dX1_lastsOf_16 : decode cX1_lastsOf 16 = .ok (.ireturn, 1) := by decide +kernel
theorem dX1_sureAmong_0 : decode cX1_sureAmong 0 = .ok (.iload_n 3, 1) := by decide +kernel
theorem dX1_sureAmong_1 : decode cX1_sureAmong 1 = .ok (.ifCond .ne 7, 3) := by decide +kernel
theorem dX1_sureAmong_4 : decode cX1_sureAmong 4 = .ok (.iconst 1, 1) := by decide +kernel
theorem dX1_sureAmong_5 : decode cX1_sureAmong 5 = .ok (.goto 4, 3) := by decide +kernel
theorem dX1_sureAmong_8 : decode cX1_sureAmong 8 = .ok (.iconst 0, 1) := by decide +kernel
theorem dX1_sureAmong_9 : decode cX1_sureAmong 9 = .ok (.istore 5, 2) := by decide +kernel
theorem dX1_sureAmong_11 : decode cX1_sureAmong 11 = .ok (.aload_n 2, 1) := by decide +kernel
theorem dX1_sureAmong_12 : decode cX1_sureAmong 12 = .ok (.aload_n 1, 1) := by decide +kernel
theorem dX1_sureAmong_13 : decode cX1_sureAmong 13 = .ok (.iload 5, 2) := by decide +kernel
theorem dX1_sureAmong_15 : decode cX1_sureAmong 15 = .ok (.invokevirtual 76, 3) := by decide +kernel
theorem dX1_sureAmong_18 : decode cX1_sureAmong 18 = .ok (.istore 6, 2) := by decide +kernel
theorem dX1_sureAmong_20 : decode cX1_sureAmong 20 = .ok (.aload_n 0, 1) := by decide +kernel
theorem dX1_sureAmong_21 : decode cX1_sureAmong 21 = .ok (.invokevirtual 80, 3) := by decide +kernel
theorem dX1_sureAmong_24 : decode cX1_sureAmong 24 = .ok (.aload_n 0, 1) := by decide +kernel
theorem dX1_sureAmong_25 : decode cX1_sureAmong 25 = .ok (.aload_n 1, 1) := by decide +kernel
theorem dX1_sureAmong_26 : decode cX1_sureAmong 26 = .ok (.aload_n 2, 1) := by decide +kernel
theorem dX1_sureAmong_27 : decode cX1_sureAmong 27 = .ok (.iload_n 3, 1) := by decide +kernel
theorem dX1_sureAmong_28 : decode cX1_sureAmong 28 = .ok (.iload 4, 2) := by decide +kernel
theorem dX1_sureAmong_30 : decode cX1_sureAmong 30 = .ok (.invokevirtual 83, 3) := by decide +kernel
theorem dX1_sureAmong_33 : decode cX1_sureAmong 33 = .ok (.aload_n 0, 1) := by decide +kernel
theorem dX1_sureAmong_34 : decode cX1_sureAmong 34 = .ok (.aload_n 1, 1) := by decide +kernel
theorem dX1_sureAmong_35 : decode cX1_sureAmong 35 = .ok (.aload_n 2, 1) := by decide +kernel
theorem dX1_sureAmong_36 : decode cX1_sureAmong 36 = .ok (.iload 5, 2) := by decide +kernel
theorem dX1_sureAmong_38 : decode cX1_sureAmong 38 = .ok (.iload 6, 2) := by decide +kernel
theorem dX1_sureAmong_40 : decode cX1_sureAmong 40 = .ok (.invokevirtual 83, 3) := by decide +kernel
theorem dX1_sureAmong_43 : decode cX1_sureAmong 43 = .ok (.iload 6, 2) := by decide +kernel
theorem dX1_sureAmong_45 : decode cX1_sureAmong 45 = .ok (.ifCond .ne 17, 3) := by decide +kernel
theorem dX1_sureAmong_48 : decode cX1_sureAmong 48 = .ok (.aload_n 0, 1) := by decide +kernel
theorem dX1_sureAmong_49 : decode cX1_sureAmong 49 = .ok (.aload_n 1, 1) := by decide +kernel
theorem dX1_sureAmong_50 : decode cX1_sureAmong 50 = .ok (.aload_n 2, 1) := by decide +kernel
theorem dX1_sureAmong_51 : decode cX1_sureAmong 51 = .ok (.iload 5, 2) := by decide +kernel
theorem dX1_sureAmong_53 : decode cX1_sureAmong 53 = .ok (.aload_n 2, 1) := by decide +kernel
theorem dX1_sureAmong_54 : decode cX1_sureAmong 54 = .ok (.iload 5, 2) := by decide +kernel
theorem dX1_sureAmong_56 : decode cX1_sureAmong 56 = .ok (.invokevirtual 33, 3) := by decide +kernel
theorem dX1_sureAmong_59 : decode cX1_sureAmong 59 = .ok (.invokevirtual 87, 3) := by decide +kernel
theorem dX1_sureAmong_62 : decode cX1_sureAmong 62 = .ok (.iconst 0, 1) := by decide +kernel
theorem dX1_sureAmong_63 : decode cX1_sureAmong 63 = .ok (.istore 7, 2) := by decide +kernel
theorem dX1_sureAmong_65 : decode cX1_sureAmong 65 = .ok (.iconst 0, 1) := by decide +kernel
theorem dX1_sureAmong_66 : decode cX1_sureAmong 66 = .ok (.istore 8, 2) := by decide +kernel
theorem dX1_sureAmong_68 : decode cX1_sureAmong 68 = .ok (.iload 8, 2) := by decide +kernel
theorem dX1_sureAmong_70 : decode cX1_sureAmong 70 = .ok (.aload_n 1, 1) := by decide +kernel
theorem dX1_sureAmong_71 : decode cX1_sureAmong 71 = .ok (.getfield 90, 3) := by decide +kernel
theorem dX1_sureAmong_74 : decode cX1_sureAmong 74 = .ok (.if_icmp .ge 42, 3) := by decide +kernel
theorem dX1_sureAmong_77 : decode cX1_sureAmong 77 = .ok (.iload 4, 2) := by decide +kernel
theorem dX1_sureAmong_79 : decode cX1_sureAmong 79 = .ok (.iload 8, 2) := by decide +kernel
theorem dX1_sureAmong_81 : decode cX1_sureAmong 81 = .ok (.invokestatic 93, 3) := by decide +kernel
theorem dX1_sureAmong_84 : decode cX1_sureAmong 84 = .ok (.ifCond .eq 26, 3) := by decide +kernel
theorem dX1_sureAmong_87 : decode cX1_sureAmong 87 = .ok (.aload_n 0, 1) := by decide +kernel
theorem dX1_sureAmong_88 : decode cX1_sureAmong 88 = .ok (.aload_n 1, 1) := by decide +kernel
theorem dX1_sureAmong_89 : decode cX1_sureAmong 89 = .ok (.aload_n 2, 1) := by decide +kernel
theorem dX1_sureAmong_90 : decode cX1_sureAmong 90 = .ok (.iload_n 3, 1) := by decide +kernel
theorem dX1_sureAmong_91 : decode cX1_sureAmong 91 = .ok (.iload 8, 2) := by decide +kernel
theorem dX1_sureAmong_93 : decode cX1_sureAmong 93 = .ok (.iload 6, 2) := by decide +kernel
theorem dX1_sureAmong_95 : decode cX1_sureAmong 95 = .ok (.invokevirtual 97, 3) := by decide +kernel
theorem dX1_sureAmong_98 : decode cX1_sureAmong 98 = .ok (.ifCond .eq 12, 3) := by decide +kernel
theorem dX1_sureAmong_101 : decode cX1_sureAmong 101 = .ok (.iload 7, 2) := by decide +kernel
theorem dX1_sureAmong_103 : decode cX1_sureAmong 103 = .ok (.iconst 1, 1) := by decide +kernel
theorem dX1_sureAmong_104 : decode cX1_sureAmong 104 = .ok (.iload 8, 2) := by decide +kernel
theorem dX1_sureAmong_106 : decode cX1_sureAmong 106 = .ok (.ishl, 1) := by decide +kernel
theorem dX1_sureAmong_107 : decode cX1_sureAmong 107 = .ok (.ior, 1) := by decide +kernel
theorem dX1_sureAmong_108 : decode cX1_sureAmong 108 = .ok (.istore 7, 2) := by decide +kernel
theorem dX1_sureAmong_110 : decode cX1_sureAmong 110 = .ok (.iinc 8 1, 3) := by decide +kernel
theorem dX1_sureAmong_113 : decode cX1_sureAmong 113 = .ok (.goto (-45), 3) := by decide +kernel
theorem dX1_sureAmong_116 : decode cX1_sureAmong 116 = .ok (.iload 7, 2) := by decide +kernel
theorem dX1_sureAmong_118 : decode cX1_sureAmong 118 = .ok (.ireturn, 1) := by decide +kernel
theorem dX1_learnBehind_0 : decode cX1_learnBehind 0 = .ok (.iconst 0, 1) := by decide +kernel
theorem dX1_learnBehind_1 : decode cX1_learnBehind 1 = .ok (.istore 5, 2) := by decide +kernel
theorem dX1_learnBehind_3 : decode cX1_learnBehind 3 = .ok (.iload 5, 2) := by decide +kernel
theorem dX1_learnBehind_5 : decode cX1_learnBehind 5 = .ok (.aload_n 1, 1) := by decide +kernel
theorem dX1_learnBehind_6 : decode cX1_learnBehind 6 = .ok (.getfield 90, 3) := by decide +kernel
theorem dX1_learnBehind_9 : decode cX1_learnBehind 9 = .ok (.if_icmp .ge 55, 3) := by decide +kernel
theorem dX1_learnBehind_12 : decode cX1_learnBehind 12 = .ok (.iload 4, 2) := by decide +kernel
theorem dX1_learnBehind_14 : decode cX1_learnBehind 14 = .ok (.iload 5, 2) := by decide +kernel
theorem dX1_learnBehind_16 : decode cX1_learnBehind 16 = .ok (.invokestatic 93, 3) := by decide +kernel
theorem dX1_learnBehind_19 : decode cX1_learnBehind 19 = .ok (.ifCond .eq 39, 3) := by decide +kernel
theorem dX1_learnBehind_22 : decode cX1_learnBehind 22 = .ok (.aload_n 0, 1) := by decide +kernel
theorem dX1_learnBehind_23 : decode cX1_learnBehind 23 = .ok (.aload_n 1, 1) := by decide +kernel
theorem dX1_learnBehind_24 : decode cX1_learnBehind 24 = .ok (.iload_n 3, 1) := by decide +kernel
theorem dX1_learnBehind_25 : decode cX1_learnBehind 25 = .ok (.iload 5, 2) := by decide +kernel
theorem dX1_learnBehind_27 : decode cX1_learnBehind 27 = .ok (.aload_n 2, 1) := by decide +kernel
theorem dX1_learnBehind_28 : decode cX1_learnBehind 28 = .ok (.iload_n 3, 1) := by decide +kernel
theorem dX1_learnBehind_29 : decode cX1_learnBehind 29 = .ok (.iconst 0, 1) := by decide +kernel
theorem dX1_learnBehind_30 : decode cX1_learnBehind 30 = .ok (.invokevirtual 45, 3) := by decide +kernel
theorem dX1_learnBehind_33 : decode cX1_learnBehind 33 = .ok (.aload_n 1, 1) := by decide +kernel
theorem dX1_learnBehind_34 : decode cX1_learnBehind 34 = .ok (.iload 5, 2) := by decide +kernel
theorem dX1_learnBehind_36 : decode cX1_learnBehind 36 = .ok (.iconst 0, 1) := by decide +kernel
theorem dX1_learnBehind_37 : decode cX1_learnBehind 37 = .ok (.invokevirtual 101, 3) := by decide +kernel
theorem dX1_learnBehind_40 : decode cX1_learnBehind 40 = .ok (.isub, 1) := by decide +kernel
theorem dX1_learnBehind_41 : decode cX1_learnBehind 41 = .ok (.aload_n 2, 1) := by decide +kernel
theorem dX1_learnBehind_42 : decode cX1_learnBehind 42 = .ok (.iload_n 3, 1) := by decide +kernel
theorem dX1_learnBehind_43 : decode cX1_learnBehind 43 = .ok (.iconst 1, 1) := by decide +kernel
theorem dX1_learnBehind_44 : decode cX1_learnBehind 44 = .ok (.invokevirtual 45, 3) := by decide +kernel
theorem dX1_learnBehind_47 : decode cX1_learnBehind 47 = .ok (.aload_n 1, 1) := by decide +kernel
theorem dX1_learnBehind_48 : decode cX1_learnBehind 48 = .ok (.iload 5, 2) := by decide +kernel
theorem dX1_learnBehind_50 : decode cX1_learnBehind 50 = .ok (.iconst 1, 1) := by decide +kernel
theorem dX1_learnBehind_51 : decode cX1_learnBehind 51 = .ok (.invokevirtual 101, 3) := by decide +kernel
theorem dX1_learnBehind_54 : decode cX1_learnBehind 54 = .ok (.isub, 1) := by decide +kernel
theorem dX1_learnBehind_55 : decode cX1_learnBehind 55 = .ok (.invokevirtual 61, 3) := by decide +kernel
theorem dX1_learnBehind_58 : decode cX1_learnBehind 58 = .ok (.iinc 5 1, 3) := by decide +kernel
theorem dX1_learnBehind_61 : decode cX1_learnBehind 61 = .ok (.goto (-58), 3) := by decide +kernel
theorem dX1_learnBehind_64 : decode cX1_learnBehind 64 = .ok (.return_, 1) := by decide +kernel
theorem dX1_outlasts_0 : decode cX1_outlasts 0 = .ok (.iload_n 3, 1) := by decide +kernel
theorem dX1_outlasts_1 : decode cX1_outlasts 1 = .ok (.ifCond .ne 7, 3) := by decide +kernel
theorem dX1_outlasts_4 : decode cX1_outlasts 4 = .ok (.iconst 1, 1) := by decide +kernel
theorem dX1_outlasts_5 : decode cX1_outlasts 5 = .ok (.goto 4, 3) := by decide +kernel
theorem dX1_outlasts_8 : decode cX1_outlasts 8 = .ok (.iconst 0, 1) := by decide +kernel
theorem dX1_outlasts_9 : decode cX1_outlasts 9 = .ok (.istore 6, 2) := by decide +kernel
theorem dX1_outlasts_11 : decode cX1_outlasts 11 = .ok (.aload_n 2, 1) := by decide +kernel
theorem dX1_outlasts_12 : decode cX1_outlasts 12 = .ok (.getfield 48, 3) := by decide +kernel
theorem dX1_outlasts_15 : decode cX1_outlasts 15 = .ok (.iload_n 3, 1) := by decide +kernel
theorem dX1_outlasts_16 : decode cX1_outlasts 16 = .ok (.iaload, 1) := by decide +kernel
theorem dX1_outlasts_17 : decode cX1_outlasts 17 = .ok (.iconst 1, 1) := by decide +kernel
theorem dX1_outlasts_18 : decode cX1_outlasts 18 = .ok (.iadd, 1) := by decide +kernel
theorem dX1_outlasts_19 : decode cX1_outlasts 19 = .ok (.istore 7, 2) := by decide +kernel
theorem dX1_outlasts_21 : decode cX1_outlasts 21 = .ok (.iload 5, 2) := by decide +kernel
theorem dX1_outlasts_23 : decode cX1_outlasts 23 = .ok (.ifCond .ne 59, 3) := by decide +kernel
theorem dX1_outlasts_26 : decode cX1_outlasts 26 = .ok (.aload_n 0, 1) := by decide +kernel
theorem dX1_outlasts_27 : decode cX1_outlasts 27 = .ok (.aload_n 2, 1) := by decide +kernel
theorem dX1_outlasts_28 : decode cX1_outlasts 28 = .ok (.iload 6, 2) := by decide +kernel
theorem dX1_outlasts_30 : decode cX1_outlasts 30 = .ok (.invokevirtual 33, 3) := by decide +kernel
theorem dX1_outlasts_33 : decode cX1_outlasts 33 = .ok (.invokevirtual 58, 3) := by decide +kernel
theorem dX1_outlasts_36 : decode cX1_outlasts 36 = .ok (.istore 8, 2) := by decide +kernel
theorem dX1_outlasts_38 : decode cX1_outlasts 38 = .ok (.iload_n 3, 1) := by decide +kernel
theorem dX1_outlasts_39 : decode cX1_outlasts 39 = .ok (.ifCond .ne 24, 3) := by decide +kernel
theorem dX1_outlasts_42 : decode cX1_outlasts 42 = .ok (.aload_n 0, 1) := by decide +kernel
theorem dX1_outlasts_43 : decode cX1_outlasts 43 = .ok (.aload_n 1, 1) := by decide +kernel
theorem dX1_outlasts_44 : decode cX1_outlasts 44 = .ok (.iload 4, 2) := by decide +kernel
theorem dX1_outlasts_46 : decode cX1_outlasts 46 = .ok (.iload 7, 2) := by decide +kernel
theorem dX1_outlasts_48 : decode cX1_outlasts 48 = .ok (.iload 8, 2) := by decide +kernel
theorem dX1_outlasts_50 : decode cX1_outlasts 50 = .ok (.aload_n 2, 1) := by decide +kernel
theorem dX1_outlasts_51 : decode cX1_outlasts 51 = .ok (.getfield 48, 3) := by decide +kernel
theorem dX1_outlasts_54 : decode cX1_outlasts 54 = .ok (.iload 6, 2) := by decide +kernel
theorem dX1_outlasts_56 : decode cX1_outlasts 56 = .ok (.iaload, 1) := by decide +kernel
theorem dX1_outlasts_57 : decode cX1_outlasts 57 = .ok (.invokevirtual 104, 3) := by decide +kernel
theorem dX1_outlasts_60 : decode cX1_outlasts 60 = .ok (.goto 21, 3) := by decide +kernel
theorem dX1_outlasts_63 : decode cX1_outlasts 63 = .ok (.aload_n 0, 1) := by decide +kernel
theorem dX1_outlasts_64 : decode cX1_outlasts 64 = .ok (.aload_n 1, 1) := by decide +kernel
theorem dX1_outlasts_65 : decode cX1_outlasts 65 = .ok (.iload 8, 2) := by decide +kernel
theorem dX1_outlasts_67 : decode cX1_outlasts 67 = .ok (.aload_n 2, 1) := by decide +kernel
theorem dX1_outlasts_68 : decode cX1_outlasts 68 = .ok (.getfield 48, 3) := by decide +kernel
theorem dX1_outlasts_71 : decode cX1_outlasts 71 = .ok (.iload 6, 2) := by decide +kernel
theorem dX1_outlasts_73 : decode cX1_outlasts 73 = .ok (.iaload, 1) := by decide +kernel
theorem dX1_outlasts_74 : decode cX1_outlasts 74 = .ok (.iload 4, 2) := by decide +kernel
theorem dX1_outlasts_76 : decode cX1_outlasts 76 = .ok (.iload 7, 2) := by decide +kernel
theorem dX1_outlasts_78 : decode cX1_outlasts 78 = .ok (.invokevirtual 104, 3) := by decide +kernel
theorem dX1_outlasts_81 : decode cX1_outlasts 81 = .ok (.ireturn, 1) := by decide +kernel
theorem dX1_outlasts_82 : decode cX1_outlasts 82 = .ok (.aload_n 2, 1) := by decide +kernel
theorem dX1_outlasts_83 : decode cX1_outlasts 83 = .ok (.getfield 48, 3) := by decide +kernel
theorem dX1_outlasts_86 : decode cX1_outlasts 86 = .ok (.iload 6, 2) := by decide +kernel
theorem dX1_outlasts_88 : decode cX1_outlasts 88 = .ok (.iaload, 1) := by decide +kernel
theorem dX1_outlasts_89 : decode cX1_outlasts 89 = .ok (.iconst 1, 1) := by decide +kernel
theorem dX1_outlasts_90 : decode cX1_outlasts 90 = .ok (.iadd, 1) := by decide +kernel
theorem dX1_outlasts_91 : decode cX1_outlasts 91 = .ok (.istore 8, 2) := by decide +kernel
theorem dX1_outlasts_93 : decode cX1_outlasts 93 = .ok (.iconst 0, 1) := by decide +kernel
theorem dX1_outlasts_94 : decode cX1_outlasts 94 = .ok (.istore 9, 2) := by decide +kernel
theorem dX1_outlasts_96 : decode cX1_outlasts 96 = .ok (.iload 9, 2) := by decide +kernel
theorem dX1_outlasts_98 : decode cX1_outlasts 98 = .ok (.aload_n 1, 1) := by decide +kernel
theorem dX1_outlasts_99 : decode cX1_outlasts 99 = .ok (.getfield 90, 3) := by decide +kernel
theorem dX1_outlasts_102 : decode cX1_outlasts 102 = .ok (.if_icmp .ge 60, 3) := by decide +kernel
theorem dX1_outlasts_105 : decode cX1_outlasts 105 = .ok (.iload 5, 2) := by decide +kernel
theorem dX1_outlasts_107 : decode cX1_outlasts 107 = .ok (.iload 9, 2) := by decide +kernel
theorem dX1_outlasts_109 : decode cX1_outlasts 109 = .ok (.invokestatic 93, 3) := by decide +kernel
theorem dX1_outlasts_112 : decode cX1_outlasts 112 = .ok (.ifCond .eq 44, 3) := by decide +kernel
theorem dX1_outlasts_115 : decode cX1_outlasts 115 = .ok (.iload_n 3, 1) := by decide +kernel
theorem dX1_outlasts_116 : decode cX1_outlasts 116 = .ok (.ifCond .ne 22, 3) := by decide +kernel
theorem dX1_outlasts_119 : decode cX1_outlasts 119 = .ok (.aload_n 0, 1) := by decide +kernel
theorem dX1_outlasts_120 : decode cX1_outlasts 120 = .ok (.aload_n 1, 1) := by decide +kernel
theorem dX1_outlasts_121 : decode cX1_outlasts 121 = .ok (.iload 4, 2) := by decide +kernel
theorem dX1_outlasts_123 : decode cX1_outlasts 123 = .ok (.iload 7, 2) := by decide +kernel
theorem dX1_outlasts_125 : decode cX1_outlasts 125 = .ok (.iload 9, 2) := by decide +kernel
theorem dX1_outlasts_127 : decode cX1_outlasts 127 = .ok (.iload 8, 2) := by decide +kernel
theorem dX1_outlasts_129 : decode cX1_outlasts 129 = .ok (.invokevirtual 104, 3) := by decide +kernel
theorem dX1_outlasts_132 : decode cX1_outlasts 132 = .ok (.ifCond .eq 22, 3) := by decide +kernel
theorem dX1_outlasts_135 : decode cX1_outlasts 135 = .ok (.goto 21, 3) := by decide +kernel
theorem dX1_outlasts_138 : decode cX1_outlasts 138 = .ok (.aload_n 0, 1) := by decide +kernel
theorem dX1_outlasts_139 : decode cX1_outlasts 139 = .ok (.aload_n 1, 1) := by decide +kernel
theorem dX1_outlasts_140 : decode cX1_outlasts 140 = .ok (.iload 9, 2) := by decide +kernel
theorem dX1_outlasts_142 : decode cX1_outlasts 142 = .ok (.iload 8, 2) := by decide +kernel
theorem dX1_outlasts_144 : decode cX1_outlasts 144 = .ok (.iload 4, 2) := by decide +kernel
theorem dX1_outlasts_146 : decode cX1_outlasts 146 = .ok (.iload 7, 2) := by decide +kernel
theorem dX1_outlasts_148 : decode cX1_outlasts 148 = .ok (.invokevirtual 104, 3) := by decide +kernel
theorem dX1_outlasts_151 : decode cX1_outlasts 151 = .ok (.ifCond .ne 5, 3) := by decide +kernel
theorem dX1_outlasts_154 : decode cX1_outlasts 154 = .ok (.iconst 0, 1) := by decide +kernel
theorem dX1_outlasts_155 : decode cX1_outlasts 155 = .ok (.ireturn, 1) := by decide +kernel
theorem dX1_outlasts_156 : decode cX1_outlasts 156 = .ok (.iinc 9 1, 3) := by decide +kernel
theorem dX1_outlasts_159 : decode cX1_outlasts 159 = .ok (.goto (-63), 3) := by decide +kernel
theorem dX1_outlasts_162 : decode cX1_outlasts 162 = .ok (.iconst 1, 1) := by decide +kernel
theorem dX1_outlasts_163 : decode cX1_outlasts 163 = .ok (.ireturn, 1) := by decide +kernel
theorem dX1_meetsFrom_0 : decode cX1_meetsFrom 0 = .ok (.iconst 0, 1) := by decide +kernel
theorem dX1_meetsFrom_1 : decode cX1_meetsFrom 1 = .ok (.istore 6, 2) := by decide +kernel
theorem dX1_meetsFrom_3 : decode cX1_meetsFrom 3 = .ok (.iload 6, 2) := by decide +kernel
theorem dX1_meetsFrom_5 : decode cX1_meetsFrom 5 = .ok (.bipush 24, 2) := by decide +kernel
theorem dX1_meetsFrom_7 : decode cX1_meetsFrom 7 = .ok (.iload_n 3, 1) := by decide +kernel
theorem dX1_meetsFrom_8 : decode cX1_meetsFrom 8 = .ok (.isub, 1) := by decide +kernel
theorem dX1_meetsFrom_9 : decode cX1_meetsFrom 9 = .ok (.if_icmp .gt 74, 3) := by decide +kernel
theorem dX1_meetsFrom_12 : decode cX1_meetsFrom 12 = .ok (.iconst 0, 1) := by decide +kernel
theorem dX1_meetsFrom_13 : decode cX1_meetsFrom 13 = .ok (.istore 7, 2) := by decide +kernel
theorem dX1_meetsFrom_15 : decode cX1_meetsFrom 15 = .ok (.iload 7, 2) := by decide +kernel
theorem dX1_meetsFrom_17 : decode cX1_meetsFrom 17 = .ok (.bipush 24, 2) := by decide +kernel
theorem dX1_meetsFrom_19 : decode cX1_meetsFrom 19 = .ok (.iload 5, 2) := by decide +kernel
theorem dX1_meetsFrom_21 : decode cX1_meetsFrom 21 = .ok (.isub, 1) := by decide +kernel
theorem dX1_meetsFrom_22 : decode cX1_meetsFrom 22 = .ok (.if_icmp .gt 55, 3) := by decide +kernel
theorem dX1_meetsFrom_25 : decode cX1_meetsFrom 25 = .ok (.aload_n 1, 1) := by decide +kernel
theorem dX1_meetsFrom_26 : decode cX1_meetsFrom 26 = .ok (.aload_n 1, 1) := by decide +kernel
theorem dX1_meetsFrom_27 : decode cX1_meetsFrom 27 = .ok (.iload_n 3, 1) := by decide +kernel
theorem dX1_meetsFrom_28 : decode cX1_meetsFrom 28 = .ok (.iload 6, 2) := by decide +kernel
theorem dX1_meetsFrom_30 : decode cX1_meetsFrom 30 = .ok (.iadd, 1) := by decide +kernel
theorem dX1_meetsFrom_31 : decode cX1_meetsFrom 31 = .ok (.iload 5, 2) := by decide +kernel
theorem dX1_meetsFrom_33 : decode cX1_meetsFrom 33 = .ok (.iload 7, 2) := by decide +kernel
theorem dX1_meetsFrom_35 : decode cX1_meetsFrom 35 = .ok (.iadd, 1) := by decide +kernel
theorem dX1_meetsFrom_36 : decode cX1_meetsFrom 36 = .ok (.invokevirtual 108, 3) := by decide +kernel
theorem dX1_meetsFrom_39 : decode cX1_meetsFrom 39 = .ok (.invokevirtual 111, 3) := by decide +kernel
theorem dX1_meetsFrom_42 : decode cX1_meetsFrom 42 = .ok (.ifCond .eq 29, 3) := by decide +kernel
theorem dX1_meetsFrom_45 : decode cX1_meetsFrom 45 = .ok (.aload_n 1, 1) := by decide +kernel
theorem dX1_meetsFrom_46 : decode cX1_meetsFrom 46 = .ok (.aload_n 0, 1) := by decide +kernel
theorem dX1_meetsFrom_47 : decode cX1_meetsFrom 47 = .ok (.iconst 0, 1) := by decide +kernel
theorem dX1_meetsFrom_48 : decode cX1_meetsFrom 48 = .ok (.iload_n 2, 1) := by decide +kernel
theorem dX1_meetsFrom_49 : decode cX1_meetsFrom 49 = .ok (.iload 6, 2) := by decide +kernel
theorem dX1_meetsFrom_51 : decode cX1_meetsFrom 51 = .ok (.invokevirtual 115, 3) := by decide +kernel
theorem dX1_meetsFrom_54 : decode cX1_meetsFrom 54 = .ok (.aload_n 0, 1) := by decide +kernel
theorem dX1_meetsFrom_55 : decode cX1_meetsFrom 55 = .ok (.iconst 1, 1) := by decide +kernel
theorem dX1_meetsFrom_56 : decode cX1_meetsFrom 56 = .ok (.iload 4, 2) := by decide +kernel
theorem dX1_meetsFrom_58 : decode cX1_meetsFrom 58 = .ok (.iload 7, 2) := by decide +kernel
theorem dX1_meetsFrom_60 : decode cX1_meetsFrom 60 = .ok (.invokevirtual 115, 3) := by decide +kernel
theorem dX1_meetsFrom_63 : decode cX1_meetsFrom 63 = .ok (.invokevirtual 119, 3) := by decide +kernel
theorem dX1_meetsFrom_66 : decode cX1_meetsFrom 66 = .ok (.ifCond .eq 5, 3) := by decide +kernel
theorem dX1_meetsFrom_69 : decode cX1_meetsFrom 69 = .ok (.iconst 1, 1) := by decide +kernel
theorem dX1_meetsFrom_70 : decode cX1_meetsFrom 70 = .ok (.ireturn, 1) := by decide +kernel
theorem dX1_meetsFrom_71 : decode cX1_meetsFrom 71 = .ok (.iinc 7 1, 3) := by decide +kernel
theorem dX1_meetsFrom_74 : decode cX1_meetsFrom 74 = .ok (.goto (-59), 3) := by decide +kernel
theorem dX1_meetsFrom_77 : decode cX1_meetsFrom 77 = .ok (.iinc 6 1, 3) := by decide +kernel
theorem dX1_meetsFrom_80 : decode cX1_meetsFrom 80 = .ok (.goto (-77), 3) := by decide +kernel
theorem dX1_meetsFrom_83 : decode cX1_meetsFrom 83 = .ok (.iconst 0, 1) := by decide +kernel
theorem dX1_meetsFrom_84 : decode cX1_meetsFrom 84 = .ok (.ireturn, 1) := by decide +kernel
theorem dX2_init_0 : decode cX2_init 0 = .ok (.aload_n 0, 1) := by decide +kernel
theorem dX2_init_1 : decode cX2_init 1 = .ok (.invokespecial 3, 3) := by decide +kernel
theorem dX2_init_4 : decode cX2_init 4 = .ok (.aload_n 0, 1) := by decide +kernel
theorem dX2_init_5 : decode cX2_init 5 = .ok (.bipush 24, 2) := by decide +kernel
theorem dX2_init_7 : decode cX2_init 7 = .ok (.newarray .int, 2) := by decide +kernel
theorem dX2_init_9 : decode cX2_init 9 = .ok (.putfield 9, 3) := by decide +kernel
theorem dX2_init_12 : decode cX2_init 12 = .ok (.aload_n 0, 1) := by decide +kernel
theorem dX2_init_13 : decode cX2_init 13 = .ok (.bipush 24, 2) := by decide +kernel
theorem dX2_init_15 : decode cX2_init 15 = .ok (.newarray .int, 2) := by decide +kernel
theorem dX2_init_17 : decode cX2_init 17 = .ok (.putfield 15, 3) := by decide +kernel
theorem dX2_init_20 : decode cX2_init 20 = .ok (.aload_n 0, 1) := by decide +kernel
theorem dX2_init_21 : decode cX2_init 21 = .ok (.bipush 25, 2) := by decide +kernel
theorem dX2_init_23 : decode cX2_init 23 = .ok (.newarray .long, 2) := by decide +kernel
theorem dX2_init_25 : decode cX2_init 25 = .ok (.putfield 18, 3) := by decide +kernel
theorem dX2_init_28 : decode cX2_init 28 = .ok (.return_, 1) := by decide +kernel
theorem dX2_hearNotes_0 : decode cX2_hearNotes 0 = .ok (.aload_n 0, 1) := by decide +kernel
theorem dX2_hearNotes_1 : decode cX2_hearNotes 1 = .ok (.getfield 9, 3) := by decide +kernel
theorem dX2_hearNotes_4 : decode cX2_hearNotes 4 = .ok (.iconst 0, 1) := by decide +kernel
theorem dX2_hearNotes_5 : decode cX2_hearNotes 5 = .ok (.invokestatic 22, 3) := by decide +kernel
theorem dX2_hearNotes_8 : decode cX2_hearNotes 8 = .ok (.aload_n 0, 1) := by decide +kernel
theorem dX2_hearNotes_9 : decode cX2_hearNotes 9 = .ok (.getfield 15, 3) := by decide +kernel
theorem dX2_hearNotes_12 : decode cX2_hearNotes 12 = .ok (.iconst 0, 1) := by decide +kernel
theorem dX2_hearNotes_13 : decode cX2_hearNotes 13 = .ok (.invokestatic 22, 3) := by decide +kernel
theorem dX2_hearNotes_16 : decode cX2_hearNotes 16 = .ok (.iconst 0, 1) := by decide +kernel
theorem dX2_hearNotes_17 : decode cX2_hearNotes 17 = .ok (.istore_n 2, 1) := by decide +kernel
theorem dX2_hearNotes_18 : decode cX2_hearNotes 18 = .ok (.iload_n 2, 1) := by decide +kernel
theorem dX2_hearNotes_19 : decode cX2_hearNotes 19 = .ok (.aload_n 1, 1) := by decide +kernel
theorem dX2_hearNotes_20 : decode cX2_hearNotes 20 = .ok (.getfield 28, 3) := by decide +kernel
theorem dX2_hearNotes_23 : decode cX2_hearNotes 23 = .ok (.if_icmp .ge 67, 3) := by decide +kernel
theorem dX2_hearNotes_26 : decode cX2_hearNotes 26 = .ok (.aload_n 1, 1) := by decide +kernel
theorem dX2_hearNotes_27 : decode cX2_hearNotes 27 = .ok (.getfield 34, 3) := by decide +kernel
theorem dX2_hearNotes_30 : decode cX2_hearNotes 30 = .ok (.iload_n 2, 1) := by decide +kernel
theorem dX2_hearNotes_31 : decode cX2_hearNotes 31 = .ok (.iaload, 1) := by decide +kernel
theorem dX2_hearNotes_32 : decode cX2_hearNotes 32 = .ok (.ifCond .ne 22, 3) := by decide +kernel
theorem dX2_hearNotes_35 : decode cX2_hearNotes 35 = .ok (.aload_n 0, 1) := by decide +kernel
theorem dX2_hearNotes_36 : decode cX2_hearNotes 36 = .ok (.aload_n 1, 1) := by decide +kernel
theorem dX2_hearNotes_37 : decode cX2_hearNotes 37 = .ok (.getfield 37, 3) := by decide +kernel
theorem dX2_hearNotes_40 : decode cX2_hearNotes 40 = .ok (.iload_n 2, 1) := by decide +kernel
theorem dX2_hearNotes_41 : decode cX2_hearNotes 41 = .ok (.iaload, 1) := by decide +kernel
theorem dX2_hearNotes_42 : decode cX2_hearNotes 42 = .ok (.aload_n 1, 1) := by decide +kernel
theorem dX2_hearNotes_43 : decode cX2_hearNotes 43 = .ok (.getfield 40, 3) := by decide +kernel
theorem dX2_hearNotes_46 : decode cX2_hearNotes 46 = .ok (.iload_n 2, 1) := by decide +kernel
theorem dX2_hearNotes_47 : decode cX2_hearNotes 47 = .ok (.iaload, 1) := by decide +kernel
theorem dX2_hearNotes_48 : decode cX2_hearNotes 48 = .ok (.invokevirtual 43, 3) := by decide +kernel
theorem dX2_hearNotes_51 : decode cX2_hearNotes 51 = .ok (.goto 33, 3) := by decide +kernel
theorem dX2_hearNotes_54 : decode cX2_hearNotes 54 = .ok (.aload_n 1, 1) := by decide +kernel
theorem dX2_hearNotes_55 : decode cX2_hearNotes 55 = .ok (.getfield 40, 3) := by decide +kernel
theorem dX2_hearNotes_58 : decode cX2_hearNotes 58 = .ok (.iload_n 2, 1) := by decide +kernel
theorem dX2_hearNotes_59 : decode cX2_hearNotes 59 = .ok (.iaload, 1) := by decide +kernel
theorem dX2_hearNotes_60 : decode cX2_hearNotes 60 = .ok (.istore_n 3, 1) := by decide +kernel
theorem dX2_hearNotes_61 : decode cX2_hearNotes 61 = .ok (.aload_n 0, 1) := by decide +kernel
theorem dX2_hearNotes_62 : decode cX2_hearNotes 62 = .ok (.getfield 15, 3) := by decide +kernel
theorem dX2_hearNotes_65 : decode cX2_hearNotes 65 = .ok (.iload_n 3, 1) := by decide +kernel
theorem dX2_hearNotes_66 : decode cX2_hearNotes 66 = .ok (.aload_n 0, 1) := by decide +kernel
theorem dX2_hearNotes_67 : decode cX2_hearNotes 67 = .ok (.getfield 15, 3) := by decide +kernel
theorem dX2_hearNotes_70 : decode cX2_hearNotes 70 = .ok (.iload_n 3, 1) := by decide +kernel
theorem dX2_hearNotes_71 : decode cX2_hearNotes 71 = .ok (.iaload, 1) := by decide +kernel
theorem dX2_hearNotes_72 : decode cX2_hearNotes 72 = .ok (.aload_n 1, 1) := by decide +kernel
theorem dX2_hearNotes_73 : decode cX2_hearNotes 73 = .ok (.getfield 37, 3) := by decide +kernel
theorem dX2_hearNotes_76 : decode cX2_hearNotes 76 = .ok (.iload_n 2, 1) := by decide +kernel
theorem dX2_hearNotes_77 : decode cX2_hearNotes 77 = .ok (.iaload, 1) := by decide +kernel
theorem dX2_hearNotes_78 : decode cX2_hearNotes 78 = .ok (.iconst 1, 1) := by decide +kernel
theorem dX2_hearNotes_79 : decode cX2_hearNotes 79 = .ok (.iadd, 1) := by decide +kernel
theorem dX2_hearNotes_80 : decode cX2_hearNotes 80 = .ok (.invokestatic 47, 3) := by decide +kernel
theorem dX2_hearNotes_83 : decode cX2_hearNotes 83 = .ok (.iastore, 1) := by decide +kernel
theorem dX2_hearNotes_84 : decode cX2_hearNotes 84 = .ok (.iinc 2 1, 3) := by decide +kernel
theorem dX2_hearNotes_87 : decode cX2_hearNotes 87 = .ok (.goto (-69), 3) := by decide +kernel
theorem dX2_hearNotes_90 : decode cX2_hearNotes 90 = .ok (.return_, 1) := by decide +kernel
theorem dX2_putLeftAhead_0 : decode cX2_putLeftAhead 0 = .ok (.aload_n 0, 1) := by decide +kernel
theorem dX2_putLeftAhead_1 : decode cX2_putLeftAhead 1 = .ok (.getfield 9, 3) := by decide +kernel
theorem dX2_putLeftAhead_4 : decode cX2_putLeftAhead 4 = .ok (.iload_n 2, 1) := by decide +kernel
theorem dX2_putLeftAhead_5 : decode cX2_putLeftAhead 5 = .ok (.aload_n 0, 1) := by decide +kernel
theorem dX2_putLeftAhead_6 : decode cX2_putLeftAhead 6 = .ok (.getfield 9, 3) := by decide +kernel
theorem dX2_putLeftAhead_9 : decode cX2_putLeftAhead 9 = .ok (.iload_n 2, 1) := by decide +kernel
theorem dX2_putLeftAhead_10 : decode cX2_putLeftAhead 10 = .ok (.iaload, 1) := by decide +kernel
theorem dX2_putLeftAhead_11 : decode cX2_putLeftAhead 11 = .ok (.iload_n 1, 1) := by decide +kernel
theorem dX2_putLeftAhead_12 : decode cX2_putLeftAhead 12 = .ok (.iconst 1, 1) := by decide +kernel
theorem dX2_putLeftAhead_13 : decode cX2_putLeftAhead 13 = .ok (.iadd, 1) := by decide +kernel
theorem dX2_putLeftAhead_14 : decode cX2_putLeftAhead 14 = .ok (.invokestatic 47, 3) := by decide +kernel
theorem dX2_putLeftAhead_17 : decode cX2_putLeftAhead 17 = .ok (.iastore, 1) := by decide +kernel
theorem dX2_putLeftAhead_18 : decode cX2_putLeftAhead 18 = .ok (.return_, 1) := by decide +kernel
theorem dX2_count_0 : decode cX2_count 0 = .ok (.aload_n 0, 1) := by decide +kernel
theorem dX2_count_1 : decode cX2_count 1 = .ok (.getfield 18, 3) := by decide +kernel
theorem dX2_count_4 : decode cX2_count 4 = .ok (.iconst 0, 1) := by decide +kernel
theorem dX2_count_5 : decode cX2_count 5 = .ok (.lconst 1, 1) := by decide +kernel
theorem dX2_count_6 : decode cX2_count 6 = .ok (.lastore, 1) := by decide +kernel
theorem dX2_count_7 : decode cX2_count 7 = .ok (.iconst 1, 1) := by decide +kernel
theorem dX2_count_8 : decode cX2_count 8 = .ok (.istore_n 3, 1) := by decide +kernel
theorem dX2_count_9 : decode cX2_count 9 = .ok (.iload_n 3, 1) := by decide +kernel
theorem dX2_count_10 : decode cX2_count 10 = .ok (.iload_n 2, 1) := by decide +kernel
theorem dX2_count_11 : decode cX2_count 11 = .ok (.if_icmp .gt 38, 3) := by decide +kernel
theorem dX2_count_14 : decode cX2_count 14 = .ok (.aload_n 0, 1) := by decide +kernel
theorem dX2_count_15 : decode cX2_count 15 = .ok (.getfield 18, 3) := by decide +kernel
theorem dX2_count_18 : decode cX2_count 18 = .ok (.iload_n 3, 1) := by decide +kernel
theorem dX2_count_19 : decode cX2_count 19 = .ok (.aload_n 0, 1) := by decide +kernel
theorem dX2_count_20 : decode cX2_count 20 = .ok (.getfield 9, 3) := by decide +kernel
theorem dX2_count_23 : decode cX2_count 23 = .ok (.iload_n 3, 1) := by decide +kernel
theorem dX2_count_24 : decode cX2_count 24 = .ok (.iconst 1, 1) := by decide +kernel
theorem dX2_count_25 : decode cX2_count 25 = .ok (.isub, 1) := by decide +kernel
theorem dX2_count_26 : decode cX2_count 26 = .ok (.iaload, 1) := by decide +kernel
theorem dX2_count_27 : decode cX2_count 27 = .ok (.ifCond .ne 14, 3) := by decide +kernel
theorem dX2_count_30 : decode cX2_count 30 = .ok (.aload_n 0, 1) := by decide +kernel
theorem dX2_count_31 : decode cX2_count 31 = .ok (.getfield 18, 3) := by decide +kernel
theorem dX2_count_34 : decode cX2_count 34 = .ok (.iload_n 3, 1) := by decide +kernel
theorem dX2_count_35 : decode cX2_count 35 = .ok (.iconst 1, 1) := by decide +kernel
theorem dX2_count_36 : decode cX2_count 36 = .ok (.isub, 1) := by decide +kernel
theorem dX2_count_37 : decode cX2_count 37 = .ok (.laload, 1) := by decide +kernel
theorem dX2_count_38 : decode cX2_count 38 = .ok (.goto 4, 3) := by decide +kernel
theorem dX2_count_41 : decode cX2_count 41 = .ok (.lconst 0, 1) := by decide +kernel
theorem dX2_count_42 : decode cX2_count 42 = .ok (.lastore, 1) := by decide +kernel
theorem dX2_count_43 : decode cX2_count 43 = .ok (.iinc 3 1, 3) := by decide +kernel
theorem dX2_count_46 : decode cX2_count 46 = .ok (.goto (-37), 3) := by decide +kernel
theorem dX2_count_49 : decode cX2_count 49 = .ok (.iconst 1, 1) := by decide +kernel
theorem dX2_count_50 : decode cX2_count 50 = .ok (.istore_n 3, 1) := by decide +kernel
theorem dX2_count_51 : decode cX2_count 51 = .ok (.iload_n 3, 1) := by decide +kernel
theorem dX2_count_52 : decode cX2_count 52 = .ok (.iload_n 1, 1) := by decide +kernel
theorem dX2_count_53 : decode cX2_count 53 = .ok (.if_icmp .gt 115, 3) := by decide +kernel
theorem dX2_count_56 : decode cX2_count 56 = .ok (.aload_n 0, 1) := by decide +kernel
theorem dX2_count_57 : decode cX2_count 57 = .ok (.getfield 15, 3) := by decide +kernel
theorem dX2_count_60 : decode cX2_count 60 = .ok (.iload_n 3, 1) := by decide +kernel
theorem dX2_count_61 : decode cX2_count 61 = .ok (.iconst 1, 1) := by decide +kernel
theorem dX2_count_62 : decode cX2_count 62 = .ok (.isub, 1) := by decide +kernel
theorem dX2_count_63 : decode cX2_count 63 = .ok (.iaload, 1) := by decide +kernel
theorem dX2_count_64 : decode cX2_count 64 = .ok (.istore 4, 2) := by decide +kernel
theorem dX2_count_66 : decode cX2_count 66 = .ok (.aload_n 0, 1) := by decide +kernel
theorem dX2_count_67 : decode cX2_count 67 = .ok (.getfield 18, 3) := by decide +kernel
theorem dX2_count_70 : decode cX2_count 70 = .ok (.iconst 0, 1) := by decide +kernel
theorem dX2_count_71 : decode cX2_count 71 = .ok (.iload 4, 2) := by decide +kernel
theorem dX2_count_73 : decode cX2_count 73 = .ok (.ifCond .ne 12, 3) := by decide +kernel
theorem dX2_count_76 : decode cX2_count 76 = .ok (.aload_n 0, 1) := by decide +kernel
theorem dX2_count_77 : decode cX2_count 77 = .ok (.getfield 18, 3) := by decide +kernel
theorem dX2_count_80 : decode cX2_count 80 = .ok (.iconst 0, 1) := by decide +kernel
theorem dX2_count_81 : decode cX2_count 81 = .ok (.laload, 1) := by decide +kernel
theorem dX2_count_82 : decode cX2_count 82 = .ok (.goto 4, 3) := by decide +kernel
theorem dX2_count_85 : decode cX2_count 85 = .ok (.lconst 0, 1) := by decide +kernel
theorem dX2_count_86 : decode cX2_count 86 = .ok (.lastore, 1) := by decide +kernel
theorem dX2_count_87 : decode cX2_count 87 = .ok (.iconst 1, 1) := by decide +kernel
theorem dX2_count_88 : decode cX2_count 88 = .ok (.istore 5, 2) := by decide +kernel
theorem dX2_count_90 : decode cX2_count 90 = .ok (.iload 5, 2) := by decide +kernel
theorem dX2_count_92 : decode cX2_count 92 = .ok (.iload_n 2, 1) := by decide +kernel
theorem dX2_count_93 : decode cX2_count 93 = .ok (.if_icmp .gt 69, 3) := by decide +kernel
theorem dX2_count_96 : decode cX2_count 96 = .ok (.iload 4, 2) := by decide +kernel
theorem dX2_count_98 : decode cX2_count 98 = .ok (.iload 5, 2) := by decide +kernel
theorem dX2_count_100 : decode cX2_count 100 = .ok (.if_icmp .gt 13, 3) := by decide +kernel
theorem dX2_count_103 : decode cX2_count 103 = .ok (.aload_n 0, 1) := by decide +kernel
theorem dX2_count_104 : decode cX2_count 104 = .ok (.getfield 18, 3) := by decide +kernel
theorem dX2_count_107 : decode cX2_count 107 = .ok (.iload 5, 2) := by decide +kernel
theorem dX2_count_109 : decode cX2_count 109 = .ok (.laload, 1) := by decide +kernel
theorem dX2_count_110 : decode cX2_count 110 = .ok (.goto 4, 3) := by decide +kernel
theorem dX2_count_113 : decode cX2_count 113 = .ok (.lconst 0, 1) := by decide +kernel
theorem dX2_count_114 : decode cX2_count 114 = .ok (.lstore 6, 2) := by decide +kernel
theorem dX2_count_116 : decode cX2_count 116 = .ok (.aload_n 0, 1) := by decide +kernel
theorem dX2_count_117 : decode cX2_count 117 = .ok (.getfield 9, 3) := by decide +kernel
theorem dX2_count_120 : decode cX2_count 120 = .ok (.iload 5, 2) := by decide +kernel
theorem dX2_count_122 : decode cX2_count 122 = .ok (.iconst 1, 1) := by decide +kernel
theorem dX2_count_123 : decode cX2_count 123 = .ok (.isub, 1) := by decide +kernel
theorem dX2_count_124 : decode cX2_count 124 = .ok (.iaload, 1) := by decide +kernel
theorem dX2_count_125 : decode cX2_count 125 = .ok (.iload_n 3, 1) := by decide +kernel
theorem dX2_count_126 : decode cX2_count 126 = .ok (.if_icmp .gt 15, 3) := by decide +kernel
theorem dX2_count_129 : decode cX2_count 129 = .ok (.aload_n 0, 1) := by decide +kernel
theorem dX2_count_130 : decode cX2_count 130 = .ok (.getfield 18, 3) := by decide +kernel
theorem dX2_count_133 : decode cX2_count 133 = .ok (.iload 5, 2) := by decide +kernel
theorem dX2_count_135 : decode cX2_count 135 = .ok (.iconst 1, 1) := by decide +kernel
theorem dX2_count_136 : decode cX2_count 136 = .ok (.isub, 1) := by decide +kernel
theorem dX2_count_137 : decode cX2_count 137 = .ok (.laload, 1) := by decide +kernel
theorem dX2_count_138 : decode cX2_count 138 = .ok (.goto 4, 3) := by decide +kernel
theorem dX2_count_141 : decode cX2_count 141 = .ok (.lconst 0, 1) := by decide +kernel
theorem dX2_count_142 : decode cX2_count 142 = .ok (.lstore 8, 2) := by decide +kernel
theorem dX2_count_144 : decode cX2_count 144 = .ok (.aload_n 0, 1) := by decide +kernel
theorem dX2_count_145 : decode cX2_count 145 = .ok (.getfield 18, 3) := by decide +kernel
theorem dX2_count_148 : decode cX2_count 148 = .ok (.iload 5, 2) := by decide +kernel
theorem dX2_count_150 : decode cX2_count 150 = .ok (.lload 6, 2) := by decide +kernel
theorem dX2_count_152 : decode cX2_count 152 = .ok (.lload 8, 2) := by decide +kernel
theorem dX2_count_154 : decode cX2_count 154 = .ok (.ladd, 1) := by decide +kernel
theorem dX2_count_155 : decode cX2_count 155 = .ok (.lastore, 1) := by decide +kernel
theorem dX2_count_156 : decode cX2_count 156 = .ok (.iinc 5 1, 3) := by decide +kernel
theorem dX2_count_159 : decode cX2_count 159 = .ok (.goto (-69), 3) := by decide +kernel
theorem dX2_count_162 : decode cX2_count 162 = .ok (.iinc 3 1, 3) := by decide +kernel
theorem dX2_count_165 : decode cX2_count 165 = .ok (.goto (-114), 3) := by decide +kernel
theorem dX2_count_168 : decode cX2_count 168 = .ok (.aload_n 0, 1) := by decide +kernel
theorem dX2_count_169 : decode cX2_count 169 = .ok (.getfield 18, 3) := by decide +kernel
theorem dX2_count_172 : decode cX2_count 172 = .ok (.iload_n 2, 1) := by decide +kernel
theorem dX2_count_173 : decode cX2_count 173 = .ok (.laload, 1) := by decide +kernel
theorem dX2_count_174 : decode cX2_count 174 = .ok (.lreturn, 1) := by decide +kernel
theorem dX3_init_0 : decode cX3_init 0 = .ok (.aload_n 0, 1) := by decide +kernel
theorem dX3_init_1 : decode cX3_init 1 = .ok (.invokespecial 3, 3) := by decide +kernel
theorem dX3_init_4 : decode cX3_init 4 = .ok (.aload_n 0, 1) := by decide +kernel
theorem dX3_init_5 : decode cX3_init 5 = .ok (.bipush 48, 2) := by decide +kernel
theorem dX3_init_7 : decode cX3_init 7 = .ok (.newarray .int, 2) := by decide +kernel
theorem dX3_init_9 : decode cX3_init 9 = .ok (.putfield 9, 3) := by decide +kernel
theorem dX3_init_12 : decode cX3_init 12 = .ok (.aload_n 0, 1) := by decide +kernel
theorem dX3_init_13 : decode cX3_init 13 = .ok (.iconst 2, 1) := by decide +kernel
theorem dX3_init_14 : decode cX3_init 14 = .ok (.newarray .int, 2) := by decide +kernel
theorem dX3_init_16 : decode cX3_init 16 = .ok (.putfield 15, 3) := by decide +kernel
theorem dX3_init_19 : decode cX3_init 19 = .ok (.aload_n 0, 1) := by decide +kernel
theorem dX3_init_20 : decode cX3_init 20 = .ok (.iconst 4, 1) := by decide +kernel
theorem dX3_init_21 : decode cX3_init 21 = .ok (.newarray .int, 2) := by decide +kernel
theorem dX3_init_23 : decode cX3_init 23 = .ok (.putfield 18, 3) := by decide +kernel
theorem dX3_init_26 : decode cX3_init 26 = .ok (.aload_n 0, 1) := by decide +kernel
theorem dX3_init_27 : decode cX3_init 27 = .ok (.iconst 4, 1) := by decide +kernel
theorem dX3_init_28 : decode cX3_init 28 = .ok (.newarray .int, 2) := by decide +kernel
theorem dX3_init_30 : decode cX3_init 30 = .ok (.putfield 21, 3) := by decide +kernel
theorem dX3_init_33 : decode cX3_init 33 = .ok (.aload_n 0, 1) := by decide +kernel
theorem dX3_init_34 : decode cX3_init 34 = .ok (.iconst 0, 1) := by decide +kernel
theorem dX3_init_35 : decode cX3_init 35 = .ok (.putfield 24, 3) := by decide +kernel
theorem dX3_init_38 : decode cX3_init 38 = .ok (.return_, 1) := by decide +kernel
theorem dX3_clear_0 : decode cX3_clear 0 = .ok (.aload_n 0, 1) := by decide +kernel
theorem dX3_clear_1 : decode cX3_clear 1 = .ok (.getfield 15, 3) := by decide +kernel
theorem dX3_clear_4 : decode cX3_clear 4 = .ok (.iconst 0, 1) := by decide +kernel
theorem dX3_clear_5 : decode cX3_clear 5 = .ok (.invokestatic 28, 3) := by decide +kernel
theorem dX3_clear_8 : decode cX3_clear 8 = .ok (.aload_n 0, 1) := by decide +kernel
theorem dX3_clear_9 : decode cX3_clear 9 = .ok (.getfield 18, 3) := by decide +kernel
theorem dX3_clear_12 : decode cX3_clear 12 = .ok (.iconst 0, 1) := by decide +kernel
theorem dX3_clear_13 : decode cX3_clear 13 = .ok (.invokestatic 28, 3) := by decide +kernel
theorem dX3_clear_16 : decode cX3_clear 16 = .ok (.aload_n 0, 1) := by decide +kernel
theorem dX3_clear_17 : decode cX3_clear 17 = .ok (.getfield 21, 3) := by decide +kernel
theorem dX3_clear_20 : decode cX3_clear 20 = .ok (.iconst 0, 1) := by decide +kernel
theorem dX3_clear_21 : decode cX3_clear 21 = .ok (.invokestatic 28, 3) := by decide +kernel
theorem dX3_clear_24 : decode cX3_clear 24 = .ok (.aload_n 0, 1) := by decide +kernel
theorem dX3_clear_25 : decode cX3_clear 25 = .ok (.iconst 0, 1) := by decide +kernel
theorem dX3_clear_26 : decode cX3_clear 26 = .ok (.putfield 24, 3) := by decide +kernel
theorem dX3_clear_29 : decode cX3_clear 29 = .ok (.return_, 1) := by decide +kernel
theorem dX3_copyFrom_0 : decode cX3_copyFrom 0 = .ok (.iconst 0, 1) := by decide +kernel
theorem dX3_copyFrom_1 : decode cX3_copyFrom 1 = .ok (.istore_n 2, 1) := by decide +kernel
theorem dX3_copyFrom_2 : decode cX3_copyFrom 2 = .ok (.iload_n 2, 1) := by decide +kernel
theorem dX3_copyFrom_3 : decode cX3_copyFrom 3 = .ok (.bipush 48, 2) := by decide +kernel
theorem dX3_copyFrom_5 : decode cX3_copyFrom 5 = .ok (.if_icmp .ge 21, 3) := by decide +kernel
theorem dX3_copyFrom_8 : decode cX3_copyFrom 8 = .ok (.aload_n 0, 1) := by decide +kernel
theorem dX3_copyFrom_9 : decode cX3_copyFrom 9 = .ok (.getfield 9, 3) := by decide +kernel
theorem dX3_copyFrom_12 : decode cX3_copyFrom 12 = .ok (.iload_n 2, 1) := by decide +kernel
theorem dX3_copyFrom_13 : decode cX3_copyFrom 13 = .ok (.aload_n 1, 1) := by decide +kernel
theorem dX3_copyFrom_14 : decode cX3_copyFrom 14 = .ok (.getfield 9, 3) := by decide +kernel
theorem dX3_copyFrom_17 : decode cX3_copyFrom 17 = .ok (.iload_n 2, 1) := by decide +kernel
theorem dX3_copyFrom_18 : decode cX3_copyFrom 18 = .ok (.iaload, 1) := by decide +kernel
theorem dX3_copyFrom_19 : decode cX3_copyFrom 19 = .ok (.iastore, 1) := by decide +kernel
theorem dX3_copyFrom_20 : decode cX3_copyFrom 20 = .ok (.iinc 2 1, 3) := by decide +kernel
theorem dX3_copyFrom_23 : decode cX3_copyFrom 23 = .ok (.goto (-21), 3) := by decide +kernel
theorem dX3_copyFrom_26 : decode cX3_copyFrom 26 = .ok (.iconst 0, 1) := by decide +kernel
theorem dX3_copyFrom_27 : decode cX3_copyFrom 27 = .ok (.istore_n 2, 1) := by decide +kernel
theorem dX3_copyFrom_28 : decode cX3_copyFrom 28 = .ok (.iload_n 2, 1) := by decide +kernel
theorem dX3_copyFrom_29 : decode cX3_copyFrom 29 = .ok (.iconst 1, 1) := by decide +kernel
theorem dX3_copyFrom_30 : decode cX3_copyFrom 30 = .ok (.if_icmp .gt 21, 3) := by decide +kernel
theorem dX3_copyFrom_33 : decode cX3_copyFrom 33 = .ok (.aload_n 0, 1) := by decide +kernel
theorem dX3_copyFrom_34 : decode cX3_copyFrom 34 = .ok (.getfield 15, 3) := by decide +kernel
theorem dX3_copyFrom_37 : decode cX3_copyFrom 37 = .ok (.iload_n 2, 1) := by decide +kernel
theorem dX3_copyFrom_38 : decode cX3_copyFrom 38 = .ok (.aload_n 1, 1) := by decide +kernel
theorem dX3_copyFrom_39 : decode cX3_copyFrom 39 = .ok (.getfield 15, 3) := by decide +kernel
theorem dX3_copyFrom_42 : decode cX3_copyFrom 42 = .ok (.iload_n 2, 1) := by decide +kernel
theorem dX3_copyFrom_43 : decode cX3_copyFrom 43 = .ok (.iaload, 1) := by decide +kernel
theorem dX3_copyFrom_44 : decode cX3_copyFrom 44 = .ok (.iastore, 1) := by decide +kernel
theorem dX3_copyFrom_45 : decode cX3_copyFrom 45 = .ok (.iinc 2 1, 3) := by decide +kernel
theorem dX3_copyFrom_48 : decode cX3_copyFrom 48 = .ok (.goto (-20), 3) := by decide +kernel
theorem dX3_copyFrom_51 : decode cX3_copyFrom 51 = .ok (.iconst 0, 1) := by decide +kernel
theorem dX3_copyFrom_52 : decode cX3_copyFrom 52 = .ok (.istore_n 2, 1) := by decide +kernel
theorem dX3_copyFrom_53 : decode cX3_copyFrom 53 = .ok (.iload_n 2, 1) := by decide +kernel
theorem dX3_copyFrom_54 : decode cX3_copyFrom 54 = .ok (.iconst 4, 1) := by decide +kernel
theorem dX3_copyFrom_55 : decode cX3_copyFrom 55 = .ok (.if_icmp .ge 33, 3) := by decide +kernel
theorem dX3_copyFrom_58 : decode cX3_copyFrom 58 = .ok (.aload_n 0, 1) := by decide +kernel
theorem dX3_copyFrom_59 : decode cX3_copyFrom 59 = .ok (.getfield 18, 3) := by decide +kernel
theorem dX3_copyFrom_62 : decode cX3_copyFrom 62 = .ok (.iload_n 2, 1) := by decide +kernel
theorem dX3_copyFrom_63 : decode cX3_copyFrom 63 = .ok (.aload_n 1, 1) := by decide +kernel
theorem dX3_copyFrom_64 : decode cX3_copyFrom 64 = .ok (.getfield 18, 3) := by decide +kernel
theorem dX3_copyFrom_67 : decode cX3_copyFrom 67 = .ok (.iload_n 2, 1) := by decide +kernel
theorem dX3_copyFrom_68 : decode cX3_copyFrom 68 = .ok (.iaload, 1) := by decide +kernel
theorem dX3_copyFrom_69 : decode cX3_copyFrom 69 = .ok (.iastore, 1) := by decide +kernel
theorem dX3_copyFrom_70 : decode cX3_copyFrom 70 = .ok (.aload_n 0, 1) := by decide +kernel
theorem dX3_copyFrom_71 : decode cX3_copyFrom 71 = .ok (.getfield 21, 3) := by decide +kernel
theorem dX3_copyFrom_74 : decode cX3_copyFrom 74 = .ok (.iload_n 2, 1) := by decide +kernel
theorem dX3_copyFrom_75 : decode cX3_copyFrom 75 = .ok (.aload_n 1, 1) := by decide +kernel
theorem dX3_copyFrom_76 : decode cX3_copyFrom 76 = .ok (.getfield 21, 3) := by decide +kernel
theorem dX3_copyFrom_79 : decode cX3_copyFrom 79 = .ok (.iload_n 2, 1) := by decide +kernel
theorem dX3_copyFrom_80 : decode cX3_copyFrom 80 = .ok (.iaload, 1) := by decide +kernel
theorem dX3_copyFrom_81 : decode cX3_copyFrom 81 = .ok (.iastore, 1) := by decide +kernel
theorem dX3_copyFrom_82 : decode cX3_copyFrom 82 = .ok (.iinc 2 1, 3) := by decide +kernel
theorem dX3_copyFrom_85 : decode cX3_copyFrom 85 = .ok (.goto (-32), 3) := by decide +kernel
theorem dX3_copyFrom_88 : decode cX3_copyFrom 88 = .ok (.aload_n 0, 1) := by decide +kernel
theorem dX3_copyFrom_89 : decode cX3_copyFrom 89 = .ok (.aload_n 1, 1) := by decide +kernel
theorem dX3_copyFrom_90 : decode cX3_copyFrom 90 = .ok (.getfield 24, 3) := by decide +kernel
theorem dX3_copyFrom_93 : decode cX3_copyFrom 93 = .ok (.putfield 24, 3) := by decide +kernel
theorem dX3_copyFrom_96 : decode cX3_copyFrom 96 = .ok (.return_, 1) := by decide +kernel
theorem dX3_rowAt_0 : decode cX3_rowAt 0 = .ok (.aload_n 0, 1) := by decide +kernel
theorem dX3_rowAt_1 : decode cX3_rowAt 1 = .ok (.getfield 9, 3) := by decide +kernel
theorem dX3_rowAt_4 : decode cX3_rowAt 4 = .ok (.iload_n 1, 1) := by decide +kernel
theorem dX3_rowAt_5 : decode cX3_rowAt 5 = .ok (.bipush 24, 2) := by decide +kernel
theorem dX3_rowAt_7 : decode cX3_rowAt 7 = .ok (.imul, 1) := by decide +kernel
theorem dX3_rowAt_8 : decode cX3_rowAt 8 = .ok (.iload_n 2, 1) := by decide +kernel
theorem dX3_rowAt_9 : decode cX3_rowAt 9 = .ok (.iadd, 1) := by decide +kernel
theorem dX3_rowAt_10 : decode cX3_rowAt 10 = .ok (.iaload, 1) := by decide +kernel
theorem dX3_rowAt_11 : decode cX3_rowAt 11 = .ok (.ireturn, 1) := by decide +kernel
theorem dX3_storeOf_0 : decode cX3_storeOf 0 = .ok (.aload_n 0, 1) := by decide +kernel
theorem dX3_storeOf_1 : decode cX3_storeOf 1 = .ok (.getfield 18, 3) := by decide +kernel
theorem dX3_storeOf_4 : decode cX3_storeOf 4 = .ok (.iload_n 1, 1) := by decide +kernel
theorem dX3_storeOf_5 : decode cX3_storeOf 5 = .ok (.iconst 2, 1) := by decide +kernel
theorem dX3_storeOf_6 : decode cX3_storeOf 6 = .ok (.imul, 1) := by decide +kernel
theorem dX3_storeOf_7 : decode cX3_storeOf 7 = .ok (.iload_n 2, 1) := by decide +kernel
theorem dX3_storeOf_8 : decode cX3_storeOf 8 = .ok (.iadd, 1) := by decide +kernel
theorem dX3_storeOf_9 : decode cX3_storeOf 9 = .ok (.iaload, 1) := by decide +kernel
theorem dX3_storeOf_10 : decode cX3_storeOf 10 = .ok (.ireturn, 1) := by decide +kernel
theorem dX3_lastRow_0 : decode cX3_lastRow 0 = .ok (.aload_n 0, 1) := by decide +kernel
theorem dX3_lastRow_1 : decode cX3_lastRow 1 = .ok (.iload_n 1, 1) := by decide +kernel
theorem dX3_lastRow_2 : decode cX3_lastRow 2 = .ok (.iconst 0, 1) := by decide +kernel
theorem dX3_lastRow_3 : decode cX3_lastRow 3 = .ok (.invokevirtual 34, 3) := by decide +kernel
theorem dX3_lastRow_6 : decode cX3_lastRow 6 = .ok (.ireturn, 1) := by decide +kernel
theorem dX3_lastAfter_0 : decode cX3_lastAfter 0 = .ok (.aload_n 0, 1) := by decide +kernel
theorem dX3_lastAfter_1 : decode cX3_lastAfter 1 = .ok (.getfield 15, 3) := by decide +kernel
theorem dX3_lastAfter_4 : decode cX3_lastAfter 4 = .ok (.iload_n 1, 1) := by decide +kernel
theorem dX3_lastAfter_5 : decode cX3_lastAfter 5 = .ok (.iaload, 1) := by decide +kernel
theorem dX3_lastAfter_6 : decode cX3_lastAfter 6 = .ok (.iload_n 2, 1) := by decide +kernel
theorem dX3_lastAfter_7 : decode cX3_lastAfter 7 = .ok (.isub, 1) := by decide +kernel
theorem dX3_lastAfter_8 : decode cX3_lastAfter 8 = .ok (.istore_n 3, 1) := by decide +kernel
theorem dX3_lastAfter_9 : decode cX3_lastAfter 9 = .ok (.iload_n 3, 1) := by decide +kernel
theorem dX3_lastAfter_10 : decode cX3_lastAfter 10 = .ok (.ifCond .le 20, 3) := by decide +kernel
theorem dX3_lastAfter_13 : decode cX3_lastAfter 13 = .ok (.iload_n 3, 1) := by decide +kernel
theorem dX3_lastAfter_14 : decode cX3_lastAfter 14 = .ok (.bipush 24, 2) := by decide +kernel
theorem dX3_lastAfter_16 : decode cX3_lastAfter 16 = .ok (.if_icmp .gt 14, 3) := by decide +kernel
theorem dX3_lastAfter_19 : decode cX3_lastAfter 19 = .ok (.aload_n 0, 1) := by decide +kernel
theorem dX3_lastAfter_20 : decode cX3_lastAfter 20 = .ok (.iload_n 1, 1) := by decide +kernel
theorem dX3_lastAfter_21 : decode cX3_lastAfter 21 = .ok (.iload_n 3, 1) := by decide +kernel
theorem dX3_lastAfter_22 : decode cX3_lastAfter 22 = .ok (.iconst 1, 1) := by decide +kernel
theorem dX3_lastAfter_23 : decode cX3_lastAfter 23 = .ok (.isub, 1) := by decide +kernel
theorem dX3_lastAfter_24 : decode cX3_lastAfter 24 = .ok (.invokevirtual 38, 3) := by decide +kernel
theorem dX3_lastAfter_27 : decode cX3_lastAfter 27 = .ok (.goto 4, 3) := by decide +kernel
theorem dX3_lastAfter_30 : decode cX3_lastAfter 30 = .ok (.iconst (-1), 1) := by decide +kernel
theorem dX3_lastAfter_31 : decode cX3_lastAfter 31 = .ok (.ireturn, 1) := by decide +kernel
theorem dX3_hindrance_0 : decode cX3_hindrance 0 = .ok (.aload_n 0, 1) := by decide +kernel
theorem dX3_hindrance_1 : decode cX3_hindrance 1 = .ok (.getfield 15, 3) := by decide +kernel
theorem dX3_hindrance_4 : decode cX3_hindrance 4 = .ok (.iload_n 2, 1) := by decide +kernel
theorem dX3_hindrance_5 : decode cX3_hindrance 5 = .ok (.iaload, 1) := by decide +kernel
theorem dX3_hindrance_6 : decode cX3_hindrance 6 = .ok (.bipush 24, 2) := by decide +kernel
theorem dX3_hindrance_8 : decode cX3_hindrance 8 = .ok (.if_icmp .lt 5, 3) := by decide +kernel
theorem dX3_hindrance_11 : decode cX3_hindrance 11 = .ok (.iconst 3, 1) := by decide +kernel
theorem dX3_hindrance_12 : decode cX3_hindrance 12 = .ok (.ireturn, 1) := by decide +kernel
theorem dX3_hindrance_13 : decode cX3_hindrance 13 = .ok (.aload_n 1, 1) := by decide +kernel
theorem dX3_hindrance_14 : decode cX3_hindrance 14 = .ok (.iload_n 2, 1) := by decide +kernel
theorem dX3_hindrance_15 : decode cX3_hindrance 15 = .ok (.aload_n 0, 1) := by decide +kernel
theorem dX3_hindrance_16 : decode cX3_hindrance 16 = .ok (.iload_n 2, 1) := by decide +kernel
theorem dX3_hindrance_17 : decode cX3_hindrance 17 = .ok (.invokevirtual 41, 3) := by decide +kernel
theorem dX3_hindrance_20 : decode cX3_hindrance 20 = .ok (.invokevirtual 45, 3) := by decide +kernel
theorem dX3_hindrance_23 : decode cX3_hindrance 23 = .ok (.iload_n 3, 1) := by decide +kernel
theorem dX3_hindrance_24 : decode cX3_hindrance 24 = .ok (.invokestatic 50, 3) := by decide +kernel
theorem dX3_hindrance_27 : decode cX3_hindrance 27 = .ok (.ifCond .ne 5, 3) := by decide +kernel
theorem dX3_hindrance_30 : decode cX3_hindrance 30 = .ok (.iconst 5, 1) := by decide +kernel
theorem dX3_hindrance_31 : decode cX3_hindrance 31 = .ok (.ireturn, 1) := by decide +kernel
theorem dX3_hindrance_32 : decode cX3_hindrance 32 = .ok (.aload_n 1, 1) := by decide +kernel
theorem dX3_hindrance_33 : decode cX3_hindrance 33 = .ok (.getfield 54, 3) := by decide +kernel
theorem dX3_hindrance_36 : decode cX3_hindrance 36 = .ok (.iload_n 3, 1) := by decide +kernel
theorem dX3_hindrance_37 : decode cX3_hindrance 37 = .ok (.iaload, 1) := by decide +kernel
theorem dX3_hindrance_38 : decode cX3_hindrance 38 = .ok (.aload_n 0, 1) := by decide +kernel
theorem dX3_hindrance_39 : decode cX3_hindrance 39 = .ok (.iload_n 2, 1) := by decide +kernel
theorem dX3_hindrance_40 : decode cX3_hindrance 40 = .ok (.aload_n 1, 1) := by decide +kernel
theorem dX3_hindrance_41 : decode cX3_hindrance 41 = .ok (.getfield 57, 3) := by decide +kernel
theorem dX3_hindrance_44 : decode cX3_hindrance 44 = .ok (.iload_n 3, 1) := by decide +kernel
theorem dX3_hindrance_45 : decode cX3_hindrance 45 = .ok (.iaload, 1) := by decide +kernel
theorem dX3_hindrance_46 : decode cX3_hindrance 46 = .ok (.invokevirtual 60, 3) := by decide +kernel
theorem dX3_hindrance_49 : decode cX3_hindrance 49 = .ok (.if_icmp .le 8, 3) := by decide +kernel
theorem dX3_hindrance_52 : decode cX3_hindrance 52 = .ok (.bipush 6, 2) := by decide +kernel
theorem dX3_hindrance_54 : decode cX3_hindrance 54 = .ok (.goto 4, 3) := by decide +kernel
theorem dX3_hindrance_57 : decode cX3_hindrance 57 = .ok (.iconst 0, 1) := by decide +kernel
theorem dX3_hindrance_58 : decode cX3_hindrance 58 = .ok (.ireturn, 1) := by decide +kernel
theorem dX3_choices_0 : decode cX3_choices 0 = .ok (.iconst 0, 1) := by decide +kernel
theorem dX3_choices_1 : decode cX3_choices 1 = .ok (.istore_n 3, 1) := by decide +kernel
theorem dX3_choices_2 : decode cX3_choices 2 = .ok (.iconst 0, 1) := by decide +kernel
theorem dX3_choices_3 : decode cX3_choices 3 = .ok (.istore 4, 2) := by decide +kernel
theorem dX3_choices_5 : decode cX3_choices 5 = .ok (.iload 4, 2) := by decide +kernel
theorem dX3_choices_7 : decode cX3_choices 7 = .ok (.aload_n 1, 1) := by decide +kernel
theorem dX3_choices_8 : decode cX3_choices 8 = .ok (.getfield 63, 3) := by decide +kernel
theorem dX3_choices_11 : decode cX3_choices 11 = .ok (.if_icmp .ge 27, 3) := by decide +kernel
theorem dX3_choices_14 : decode cX3_choices 14 = .ok (.aload_n 0, 1) := by decide +kernel
theorem dX3_choices_15 : decode cX3_choices 15 = .ok (.aload_n 1, 1) := by decide +kernel
theorem dX3_choices_16 : decode cX3_choices 16 = .ok (.iload_n 2, 1) := by decide +kernel
theorem dX3_choices_17 : decode cX3_choices 17 = .ok (.iload 4, 2) := by decide +kernel
theorem dX3_choices_19 : decode cX3_choices 19 = .ok (.invokevirtual 66, 3) := by decide +kernel
theorem dX3_choices_22 : decode cX3_choices 22 = .ok (.ifCond .ne 10, 3) := by decide +kernel
theorem dX3_choices_25 : decode cX3_choices 25 = .ok (.iload_n 3, 1) := by decide +kernel
theorem dX3_choices_26 : decode cX3_choices 26 = .ok (.iconst 1, 1) := by decide +kernel
theorem dX3_choices_27 : decode cX3_choices 27 = .ok (.iload 4, 2) := by decide +kernel
theorem dX3_choices_29 : decode cX3_choices 29 = .ok (.ishl, 1) := by decide +kernel
theorem dX3_choices_30 : decode cX3_choices 30 = .ok (.ior, 1) := by decide +kernel
theorem dX3_choices_31 : decode cX3_choices 31 = .ok (.istore_n 3, 1) := by decide +kernel
theorem dX3_choices_32 : decode cX3_choices 32 = .ok (.iinc 4 1, 3) := by decide +kernel
theorem dX3_choices_35 : decode cX3_choices 35 = .ok (.goto (-30), 3) := by decide +kernel
theorem dX3_choices_38 : decode cX3_choices 38 = .ok (.iload_n 3, 1) := by decide +kernel
theorem dX3_choices_39 : decode cX3_choices 39 = .ok (.ireturn, 1) := by decide +kernel
theorem dX3_addRow_0 : decode cX3_addRow 0 = .ok (.aload_n 0, 1) := by decide +kernel
theorem dX3_addRow_1 : decode cX3_addRow 1 = .ok (.getfield 15, 3) := by decide +kernel
theorem dX3_addRow_4 : decode cX3_addRow 4 = .ok (.iload_n 2, 1) := by decide +kernel
theorem dX3_addRow_5 : decode cX3_addRow 5 = .ok (.iaload, 1) := by decide +kernel
theorem dX3_addRow_6 : decode cX3_addRow 6 = .ok (.bipush 24, 2) := by decide +kernel
theorem dX3_addRow_8 : decode cX3_addRow 8 = .ok (.if_icmp .lt 4, 3) := by decide +kernel
theorem dX3_addRow_11 : decode cX3_addRow 11 = .ok (.return_, 1) := by decide +kernel
theorem dX3_addRow_12 : decode cX3_addRow 12 = .ok (.aload_n 0, 1) := by decide +kernel
theorem dX3_addRow_13 : decode cX3_addRow 13 = .ok (.getfield 9, 3) := by decide +kernel
theorem dX3_addRow_16 : decode cX3_addRow 16 = .ok (.iload_n 2, 1) := by decide +kernel
theorem dX3_addRow_17 : decode cX3_addRow 17 = .ok (.bipush 24, 2) := by decide +kernel
theorem dX3_addRow_19 : decode cX3_addRow 19 = .ok (.imul, 1) := by decide +kernel
theorem dX3_addRow_20 : decode cX3_addRow 20 = .ok (.aload_n 0, 1) := by decide +kernel
theorem dX3_addRow_21 : decode cX3_addRow 21 = .ok (.getfield 15, 3) := by decide +kernel
theorem dX3_addRow_24 : decode cX3_addRow 24 = .ok (.iload_n 2, 1) := by decide +kernel
theorem dX3_addRow_25 : decode cX3_addRow 25 = .ok (.iaload, 1) := by decide +kernel
theorem dX3_addRow_26 : decode cX3_addRow 26 = .ok (.iadd, 1) := by decide +kernel
theorem dX3_addRow_27 : decode cX3_addRow 27 = .ok (.iload_n 3, 1) := by decide +kernel
theorem dX3_addRow_28 : decode cX3_addRow 28 = .ok (.iastore, 1) := by decide +kernel
theorem dX3_addRow_29 : decode cX3_addRow 29 = .ok (.aload_n 0, 1) := by decide +kernel
theorem dX3_addRow_30 : decode cX3_addRow 30 = .ok (.getfield 15, 3) := by decide +kernel
theorem dX3_addRow_33 : decode cX3_addRow 33 = .ok (.iload_n 2, 1) := by decide +kernel
theorem dX3_addRow_34 : decode cX3_addRow 34 = .ok (.dup2, 1) := by decide +kernel
theorem dX3_addRow_35 : decode cX3_addRow 35 = .ok (.iaload, 1) := by decide +kernel
theorem dX3_addRow_36 : decode cX3_addRow 36 = .ok (.iconst 1, 1) := by decide +kernel
theorem dX3_addRow_37 : decode cX3_addRow 37 = .ok (.iadd, 1) := by decide +kernel
theorem dX3_addRow_38 : decode cX3_addRow 38 = .ok (.iastore, 1) := by decide +kernel
theorem dX3_addRow_39 : decode cX3_addRow 39 = .ok (.aload_n 0, 1) := by decide +kernel
theorem dX3_addRow_40 : decode cX3_addRow 40 = .ok (.getfield 18, 3) := by decide +kernel
theorem dX3_addRow_43 : decode cX3_addRow 43 = .ok (.iload_n 2, 1) := by decide +kernel
theorem dX3_addRow_44 : decode cX3_addRow 44 = .ok (.iconst 2, 1) := by decide +kernel
theorem dX3_addRow_45 : decode cX3_addRow 45 = .ok (.imul, 1) := by decide +kernel
theorem dX3_addRow_46 : decode cX3_addRow 46 = .ok (.aload_n 1, 1) := by decide +kernel
theorem dX3_addRow_47 : decode cX3_addRow 47 = .ok (.getfield 57, 3) := by decide +kernel
theorem dX3_addRow_50 : decode cX3_addRow 50 = .ok (.iload_n 3, 1) := by decide +kernel
theorem dX3_addRow_51 : decode cX3_addRow 51 = .ok (.iaload, 1) := by decide +kernel
theorem dX3_addRow_52 : decode cX3_addRow 52 = .ok (.iadd, 1) := by decide +kernel
theorem dX3_addRow_53 : decode cX3_addRow 53 = .ok (.dup2, 1) := by decide +kernel
theorem dX3_addRow_54 : decode cX3_addRow 54 = .ok (.iaload, 1) := by decide +kernel
theorem dX3_addRow_55 : decode cX3_addRow 55 = .ok (.aload_n 1, 1) := by decide +kernel
theorem dX3_addRow_56 : decode cX3_addRow 56 = .ok (.getfield 54, 3) := by decide +kernel
theorem dX3_addRow_59 : decode cX3_addRow 59 = .ok (.iload_n 3, 1) := by decide +kernel
theorem dX3_addRow_60 : decode cX3_addRow 60 = .ok (.iaload, 1) := by decide +kernel
theorem dX3_addRow_61 : decode cX3_addRow 61 = .ok (.isub, 1) := by decide +kernel
theorem dX3_addRow_62 : decode cX3_addRow 62 = .ok (.iastore, 1) := by decide +kernel
theorem dX3_addRow_63 : decode cX3_addRow 63 = .ok (.return_, 1) := by decide +kernel
theorem dX3_dropRow_0 : decode cX3_dropRow 0 = .ok (.aload_n 0, 1) := by decide +kernel
theorem dX3_dropRow_1 : decode cX3_dropRow 1 = .ok (.iload_n 2, 1) := by decide +kernel
theorem dX3_dropRow_2 : decode cX3_dropRow 2 = .ok (.invokevirtual 41, 3) := by decide +kernel
theorem dX3_dropRow_5 : decode cX3_dropRow 5 = .ok (.istore_n 3, 1) := by decide +kernel
theorem dX3_dropRow_6 : decode cX3_dropRow 6 = .ok (.iload_n 3, 1) := by decide +kernel
theorem dX3_dropRow_7 : decode cX3_dropRow 7 = .ok (.ifCond .ge 4, 3) := by decide +kernel
theorem dX3_dropRow_10 : decode cX3_dropRow 10 = .ok (.return_, 1) := by decide +kernel
theorem dX3_dropRow_11 : decode cX3_dropRow 11 = .ok (.aload_n 0, 1) := by decide +kernel
theorem dX3_dropRow_12 : decode cX3_dropRow 12 = .ok (.getfield 15, 3) := by decide +kernel
theorem dX3_dropRow_15 : decode cX3_dropRow 15 = .ok (.iload_n 2, 1) := by decide +kernel
theorem dX3_dropRow_16 : decode cX3_dropRow 16 = .ok (.dup2, 1) := by decide +kernel
theorem dX3_dropRow_17 : decode cX3_dropRow 17 = .ok (.iaload, 1) := by decide +kernel
theorem dX3_dropRow_18 : decode cX3_dropRow 18 = .ok (.iconst 1, 1) := by decide +kernel
theorem dX3_dropRow_19 : decode cX3_dropRow 19 = .ok (.isub, 1) := by decide +kernel
theorem dX3_dropRow_20 : decode cX3_dropRow 20 = .ok (.iastore, 1) := by decide +kernel
theorem dX3_dropRow_21 : decode cX3_dropRow 21 = .ok (.aload_n 0, 1) := by decide +kernel
theorem dX3_dropRow_22 : decode cX3_dropRow 22 = .ok (.getfield 21, 3) := by decide +kernel
theorem dX3_dropRow_25 : decode cX3_dropRow 25 = .ok (.iload_n 2, 1) := by decide +kernel
theorem dX3_dropRow_26 : decode cX3_dropRow 26 = .ok (.iconst 2, 1) := by decide +kernel
theorem dX3_dropRow_27 : decode cX3_dropRow 27 = .ok (.imul, 1) := by decide +kernel
theorem dX3_dropRow_28 : decode cX3_dropRow 28 = .ok (.aload_n 1, 1) := by decide +kernel
theorem dX3_dropRow_29 : decode cX3_dropRow 29 = .ok (.getfield 57, 3) := by decide +kernel
theorem dX3_dropRow_32 : decode cX3_dropRow 32 = .ok (.iload_n 3, 1) := by decide +kernel
theorem dX3_dropRow_33 : decode cX3_dropRow 33 = .ok (.iaload, 1) := by decide +kernel
theorem dX3_dropRow_34 : decode cX3_dropRow 34 = .ok (.iadd, 1) := by decide +kernel
theorem dX3_dropRow_35 : decode cX3_dropRow 35 = .ok (.dup2, 1) := by decide +kernel
theorem dX3_dropRow_36 : decode cX3_dropRow 36 = .ok (.iaload, 1) := by decide +kernel
theorem dX3_dropRow_37 : decode cX3_dropRow 37 = .ok (.aload_n 1, 1) := by decide +kernel
theorem dX3_dropRow_38 : decode cX3_dropRow 38 = .ok (.getfield 54, 3) := by decide +kernel
theorem dX3_dropRow_41 : decode cX3_dropRow 41 = .ok (.iload_n 3, 1) := by decide +kernel
theorem dX3_dropRow_42 : decode cX3_dropRow 42 = .ok (.iaload, 1) := by decide +kernel
theorem dX3_dropRow_43 : decode cX3_dropRow 43 = .ok (.iadd, 1) := by decide +kernel
theorem dX3_dropRow_44 : decode cX3_dropRow 44 = .ok (.iastore, 1) := by decide +kernel
theorem dX3_dropRow_45 : decode cX3_dropRow 45 = .ok (.return_, 1) := by decide +kernel
theorem dX3_inCloth_0 : decode cX3_inCloth 0 = .ok (.iconst 0, 1) := by decide +kernel
theorem dX3_inCloth_1 : decode cX3_inCloth 1 = .ok (.istore 4, 2) := by decide +kernel
theorem dX3_inCloth_3 : decode cX3_inCloth 3 = .ok (.iconst 0, 1) := by decide +kernel
theorem dX3_inCloth_4 : decode cX3_inCloth 4 = .ok (.istore 5, 2) := by decide +kernel
theorem dX3_inCloth_6 : decode cX3_inCloth 6 = .ok (.iload 5, 2) := by decide +kernel
theorem dX3_inCloth_8 : decode cX3_inCloth 8 = .ok (.aload_n 0, 1) := by decide +kernel
theorem dX3_inCloth_9 : decode cX3_inCloth 9 = .ok (.getfield 15, 3) := by decide +kernel
theorem dX3_inCloth_12 : decode cX3_inCloth 12 = .ok (.iload_n 2, 1) := by decide +kernel
theorem dX3_inCloth_13 : decode cX3_inCloth 13 = .ok (.iaload, 1) := by decide +kernel
theorem dX3_inCloth_14 : decode cX3_inCloth 14 = .ok (.if_icmp .ge 26, 3) := by decide +kernel
theorem dX3_inCloth_17 : decode cX3_inCloth 17 = .ok (.iload 4, 2) := by decide +kernel
theorem dX3_inCloth_19 : decode cX3_inCloth 19 = .ok (.aload_n 1, 1) := by decide +kernel
theorem dX3_inCloth_20 : decode cX3_inCloth 20 = .ok (.aload_n 0, 1) := by decide +kernel
theorem dX3_inCloth_21 : decode cX3_inCloth 21 = .ok (.iload_n 2, 1) := by decide +kernel
theorem dX3_inCloth_22 : decode cX3_inCloth 22 = .ok (.iload 5, 2) := by decide +kernel
theorem dX3_inCloth_24 : decode cX3_inCloth 24 = .ok (.invokevirtual 38, 3) := by decide +kernel
theorem dX3_inCloth_27 : decode cX3_inCloth 27 = .ok (.iload_n 3, 1) := by decide +kernel
theorem dX3_inCloth_28 : decode cX3_inCloth 28 = .ok (.invokevirtual 70, 3) := by decide +kernel
theorem dX3_inCloth_31 : decode cX3_inCloth 31 = .ok (.iadd, 1) := by decide +kernel
theorem dX3_inCloth_32 : decode cX3_inCloth 32 = .ok (.istore 4, 2) := by decide +kernel
theorem dX3_inCloth_34 : decode cX3_inCloth 34 = .ok (.iinc 5 1, 3) := by decide +kernel
theorem dX3_inCloth_37 : decode cX3_inCloth 37 = .ok (.goto (-31), 3) := by decide +kernel
theorem dX3_inCloth_40 : decode cX3_inCloth 40 = .ok (.iload 4, 2) := by decide +kernel
theorem dX3_inCloth_42 : decode cX3_inCloth 42 = .ok (.ireturn, 1) := by decide +kernel
theorem dX3_sidesMeet_0 : decode cX3_sidesMeet 0 = .ok (.aload_n 0, 1) := by decide +kernel
theorem dX3_sidesMeet_1 : decode cX3_sidesMeet 1 = .ok (.iconst 0, 1) := by decide +kernel
theorem dX3_sidesMeet_2 : decode cX3_sidesMeet 2 = .ok (.invokevirtual 41, 3) := by decide +kernel
theorem dX3_sidesMeet_5 : decode cX3_sidesMeet 5 = .ok (.istore_n 2, 1) := by decide +kernel
theorem dX3_sidesMeet_6 : decode cX3_sidesMeet 6 = .ok (.aload_n 0, 1) := by decide +kernel
theorem dX3_sidesMeet_7 : decode cX3_sidesMeet 7 = .ok (.iconst 1, 1) := by decide +kernel
theorem dX3_sidesMeet_8 : decode cX3_sidesMeet 8 = .ok (.invokevirtual 41, 3) := by decide +kernel
theorem dX3_sidesMeet_11 : decode cX3_sidesMeet 11 = .ok (.istore_n 3, 1) := by decide +kernel
theorem dX3_sidesMeet_12 : decode cX3_sidesMeet 12 = .ok (.iload_n 2, 1) := by decide +kernel
theorem dX3_sidesMeet_13 : decode cX3_sidesMeet 13 = .ok (.ifCond .lt 47, 3) := by decide +kernel
theorem dX3_sidesMeet_16 : decode cX3_sidesMeet 16 = .ok (.iload_n 3, 1) := by decide +kernel
theorem dX3_sidesMeet_17 : decode cX3_sidesMeet 17 = .ok (.ifCond .lt 43, 3) := by decide +kernel
theorem dX3_sidesMeet_20 : decode cX3_sidesMeet 20 = .ok (.aload_n 1, 1) := by decide +kernel
theorem dX3_sidesMeet_21 : decode cX3_sidesMeet 21 = .ok (.getfield 73, 3) := by decide +kernel
theorem dX3_sidesMeet_24 : decode cX3_sidesMeet 24 = .ok (.iload_n 2, 1) := by decide +kernel
theorem dX3_sidesMeet_25 : decode cX3_sidesMeet 25 = .ok (.iaload, 1) := by decide +kernel
theorem dX3_sidesMeet_26 : decode cX3_sidesMeet 26 = .ok (.iload_n 3, 1) := by decide +kernel
theorem dX3_sidesMeet_27 : decode cX3_sidesMeet 27 = .ok (.invokestatic 50, 3) := by decide +kernel
theorem dX3_sidesMeet_30 : decode cX3_sidesMeet 30 = .ok (.ifCond .eq 30, 3) := by decide +kernel
theorem dX3_sidesMeet_33 : decode cX3_sidesMeet 33 = .ok (.aload_n 1, 1) := by decide +kernel
theorem dX3_sidesMeet_34 : decode cX3_sidesMeet 34 = .ok (.aload_n 1, 1) := by decide +kernel
theorem dX3_sidesMeet_35 : decode cX3_sidesMeet 35 = .ok (.aload_n 0, 1) := by decide +kernel
theorem dX3_sidesMeet_36 : decode cX3_sidesMeet 36 = .ok (.getfield 15, 3) := by decide +kernel
theorem dX3_sidesMeet_39 : decode cX3_sidesMeet 39 = .ok (.iconst 0, 1) := by decide +kernel
theorem dX3_sidesMeet_40 : decode cX3_sidesMeet 40 = .ok (.iaload, 1) := by decide +kernel
theorem dX3_sidesMeet_41 : decode cX3_sidesMeet 41 = .ok (.aload_n 0, 1) := by decide +kernel
theorem dX3_sidesMeet_42 : decode cX3_sidesMeet 42 = .ok (.getfield 15, 3) := by decide +kernel
theorem dX3_sidesMeet_45 : decode cX3_sidesMeet 45 = .ok (.iconst 1, 1) := by decide +kernel
theorem dX3_sidesMeet_46 : decode cX3_sidesMeet 46 = .ok (.iaload, 1) := by decide +kernel
theorem dX3_sidesMeet_47 : decode cX3_sidesMeet 47 = .ok (.invokevirtual 76, 3) := by decide +kernel
theorem dX3_sidesMeet_50 : decode cX3_sidesMeet 50 = .ok (.invokevirtual 79, 3) := by decide +kernel
theorem dX3_sidesMeet_53 : decode cX3_sidesMeet 53 = .ok (.ifCond .eq 7, 3) := by decide +kernel
theorem dX3_sidesMeet_56 : decode cX3_sidesMeet 56 = .ok (.iconst 1, 1) := by decide +kernel
theorem dX3_sidesMeet_57 : decode cX3_sidesMeet 57 = .ok (.goto 4, 3) := by decide +kernel
theorem dX3_sidesMeet_60 : decode cX3_sidesMeet 60 = .ok (.iconst 0, 1) := by decide +kernel
theorem dX3_sidesMeet_61 : decode cX3_sidesMeet 61 = .ok (.ireturn, 1) := by decide +kernel
theorem dX3_sharedPlaces_0 : decode cX3_sharedPlaces 0 = .ok (.aload_n 0, 1) := by decide +kernel
theorem dX3_sharedPlaces_1 : decode cX3_sharedPlaces 1 = .ok (.getfield 15, 3) := by decide +kernel
theorem dX3_sharedPlaces_4 : decode cX3_sharedPlaces 4 = .ok (.iconst 0, 1) := by decide +kernel
theorem dX3_sharedPlaces_5 : decode cX3_sharedPlaces 5 = .ok (.iaload, 1) := by decide +kernel
theorem dX3_sharedPlaces_6 : decode cX3_sharedPlaces 6 = .ok (.aload_n 0, 1) := by decide +kernel
theorem dX3_sharedPlaces_7 : decode cX3_sharedPlaces 7 = .ok (.getfield 15, 3) := by decide +kernel
theorem dX3_sharedPlaces_10 : decode cX3_sharedPlaces 10 = .ok (.iconst 1, 1) := by decide +kernel
theorem dX3_sharedPlaces_11 : decode cX3_sharedPlaces 11 = .ok (.iaload, 1) := by decide +kernel
theorem dX3_sharedPlaces_12 : decode cX3_sharedPlaces 12 = .ok (.invokestatic 83, 3) := by decide +kernel
theorem dX3_sharedPlaces_15 : decode cX3_sharedPlaces 15 = .ok (.ireturn, 1) := by decide +kernel
theorem dX3_answersAt_0 : decode cX3_answersAt 0 = .ok (.aload_n 1, 1) := by decide +kernel
theorem dX3_answersAt_1 : decode cX3_answersAt 1 = .ok (.getfield 88, 3) := by decide +kernel
theorem dX3_answersAt_4 : decode cX3_answersAt 4 = .ok (.aload_n 0, 1) := by decide +kernel
theorem dX3_answersAt_5 : decode cX3_answersAt 5 = .ok (.iconst 0, 1) := by decide +kernel
theorem dX3_answersAt_6 : decode cX3_answersAt 6 = .ok (.iload_n 2, 1) := by decide +kernel
theorem dX3_answersAt_7 : decode cX3_answersAt 7 = .ok (.invokevirtual 38, 3) := by decide +kernel
theorem dX3_answersAt_10 : decode cX3_answersAt 10 = .ok (.iaload, 1) := by decide +kernel
theorem dX3_answersAt_11 : decode cX3_answersAt 11 = .ok (.aload_n 0, 1) := by decide +kernel
theorem dX3_answersAt_12 : decode cX3_answersAt 12 = .ok (.iconst 1, 1) := by decide +kernel
theorem dX3_answersAt_13 : decode cX3_answersAt 13 = .ok (.iload_n 2, 1) := by decide +kernel
theorem dX3_answersAt_14 : decode cX3_answersAt 14 = .ok (.invokevirtual 38, 3) := by decide +kernel
theorem dX3_answersAt_17 : decode cX3_answersAt 17 = .ok (.if_icmp .ne 7, 3) := by decide +kernel
theorem dX3_answersAt_20 : decode cX3_answersAt 20 = .ok (.iconst 1, 1) := by decide +kernel
theorem dX3_answersAt_21 : decode cX3_answersAt 21 = .ok (.goto 4, 3) := by decide +kernel
theorem dX3_answersAt_24 : decode cX3_answersAt 24 = .ok (.iconst 0, 1) := by decide +kernel
theorem dX3_answersAt_25 : decode cX3_answersAt 25 = .ok (.ireturn, 1) := by decide +kernel
theorem dX3_firstWrong_0 : decode cX3_firstWrong 0 = .ok (.iconst 0, 1) := by decide +kernel
theorem dX3_firstWrong_1 : decode cX3_firstWrong 1 = .ok (.istore_n 2, 1) := by decide +kernel
theorem dX3_firstWrong_2 : decode cX3_firstWrong 2 = .ok (.iload_n 2, 1) := by decide +kernel
theorem dX3_firstWrong_3 : decode cX3_firstWrong 3 = .ok (.aload_n 0, 1) := by decide +kernel
theorem dX3_firstWrong_4 : decode cX3_firstWrong 4 = .ok (.invokevirtual 91, 3) := by decide +kernel
theorem dX3_firstWrong_7 : decode cX3_firstWrong 7 = .ok (.if_icmp .ge 20, 3) := by decide +kernel
theorem dX3_firstWrong_10 : decode cX3_firstWrong 10 = .ok (.aload_n 0, 1) := by decide +kernel
theorem dX3_firstWrong_11 : decode cX3_firstWrong 11 = .ok (.aload_n 1, 1) := by decide +kernel
theorem dX3_firstWrong_12 : decode cX3_firstWrong 12 = .ok (.iload_n 2, 1) := by decide +kernel
theorem dX3_firstWrong_13 : decode cX3_firstWrong 13 = .ok (.invokevirtual 95, 3) := by decide +kernel
theorem dX3_firstWrong_16 : decode cX3_firstWrong 16 = .ok (.ifCond .ne 5, 3) := by decide +kernel
theorem dX3_firstWrong_19 : decode cX3_firstWrong 19 = .ok (.iload_n 2, 1) := by decide +kernel
theorem dX3_firstWrong_20 : decode cX3_firstWrong 20 = .ok (.ireturn, 1) := by decide +kernel
theorem dX3_firstWrong_21 : decode cX3_firstWrong 21 = .ok (.iinc 2 1, 3) := by decide +kernel
theorem dX3_firstWrong_24 : decode cX3_firstWrong 24 = .ok (.goto (-22), 3) := by decide +kernel
theorem dX3_firstWrong_27 : decode cX3_firstWrong 27 = .ok (.iconst (-1), 1) := by decide +kernel
theorem dX3_firstWrong_28 : decode cX3_firstWrong 28 = .ok (.ireturn, 1) := by decide +kernel
theorem dX3_showsMotif_0 : decode cX3_showsMotif 0 = .ok (.aload_n 1, 1) := by decide +kernel
theorem dX3_showsMotif_1 : decode cX3_showsMotif 1 = .ok (.getfield 99, 3) := by decide +kernel
theorem dX3_showsMotif_4 : decode cX3_showsMotif 4 = .ok (.iload_n 2, 1) := by decide +kernel
theorem dX3_showsMotif_5 : decode cX3_showsMotif 5 = .ok (.iaload, 1) := by decide +kernel
theorem dX3_showsMotif_6 : decode cX3_showsMotif 6 = .ok (.tableswitch 80 0 2 #[26, 37, 48], 26) := by decide +kernel
theorem dX3_showsMotif_32 : decode cX3_showsMotif 32 = .ok (.aload_n 0, 1) := by decide +kernel
theorem dX3_showsMotif_33 : decode cX3_showsMotif 33 = .ok (.aload_n 1, 1) := by decide +kernel
theorem dX3_showsMotif_34 : decode cX3_showsMotif 34 = .ok (.iload_n 2, 1) := by decide +kernel
theorem dX3_showsMotif_35 : decode cX3_showsMotif 35 = .ok (.iload_n 3, 1) := by decide +kernel
theorem dX3_showsMotif_36 : decode cX3_showsMotif 36 = .ok (.iload 4, 2) := by decide +kernel
theorem dX3_showsMotif_38 : decode cX3_showsMotif 38 = .ok (.iconst 0, 1) := by decide +kernel
theorem dX3_showsMotif_39 : decode cX3_showsMotif 39 = .ok (.invokevirtual 102, 3) := by decide +kernel
theorem dX3_showsMotif_42 : decode cX3_showsMotif 42 = .ok (.ireturn, 1) := by decide +kernel
theorem dX3_showsMotif_43 : decode cX3_showsMotif 43 = .ok (.aload_n 0, 1) := by decide +kernel
theorem dX3_showsMotif_44 : decode cX3_showsMotif 44 = .ok (.aload_n 1, 1) := by decide +kernel
theorem dX3_showsMotif_45 : decode cX3_showsMotif 45 = .ok (.iload_n 2, 1) := by decide +kernel
theorem dX3_showsMotif_46 : decode cX3_showsMotif 46 = .ok (.iload_n 3, 1) := by decide +kernel
theorem dX3_showsMotif_47 : decode cX3_showsMotif 47 = .ok (.iload 4, 2) := by decide +kernel
theorem dX3_showsMotif_49 : decode cX3_showsMotif 49 = .ok (.iconst 1, 1) := by decide +kernel
theorem dX3_showsMotif_50 : decode cX3_showsMotif 50 = .ok (.invokevirtual 102, 3) := by decide +kernel
theorem dX3_showsMotif_53 : decode cX3_showsMotif 53 = .ok (.ireturn, 1) := by decide +kernel
theorem dX3_showsMotif_54 : decode cX3_showsMotif 54 = .ok (.aload_n 0, 1) := by decide +kernel
theorem dX3_showsMotif_55 : decode cX3_showsMotif 55 = .ok (.aload_n 1, 1) := by decide +kernel
theorem dX3_showsMotif_56 : decode cX3_showsMotif 56 = .ok (.iload_n 2, 1) := by decide +kernel
theorem dX3_showsMotif_57 : decode cX3_showsMotif 57 = .ok (.iload_n 3, 1) := by decide +kernel
theorem dX3_showsMotif_58 : decode cX3_showsMotif 58 = .ok (.iload 4, 2) := by decide +kernel
theorem dX3_showsMotif_60 : decode cX3_showsMotif 60 = .ok (.iconst 0, 1) := by decide +kernel
theorem dX3_showsMotif_61 : decode cX3_showsMotif 61 = .ok (.invokevirtual 102, 3) := by decide +kernel
theorem dX3_showsMotif_64 : decode cX3_showsMotif 64 = .ok (.ifCond .ne 16, 3) := by decide +kernel
theorem dX3_showsMotif_67 : decode cX3_showsMotif 67 = .ok (.aload_n 0, 1) := by decide +kernel
theorem dX3_showsMotif_68 : decode cX3_showsMotif 68 = .ok (.aload_n 1, 1) := by decide +kernel
theorem dX3_showsMotif_69 : decode cX3_showsMotif 69 = .ok (.iload_n 2, 1) := by decide +kernel
theorem dX3_showsMotif_70 : decode cX3_showsMotif 70 = .ok (.iload_n 3, 1) := by decide +kernel
theorem dX3_showsMotif_71 : decode cX3_showsMotif 71 = .ok (.iload 4, 2) := by decide +kernel
theorem dX3_showsMotif_73 : decode cX3_showsMotif 73 = .ok (.iconst 1, 1) := by decide +kernel
theorem dX3_showsMotif_74 : decode cX3_showsMotif 74 = .ok (.invokevirtual 102, 3) := by decide +kernel
theorem dX3_showsMotif_77 : decode cX3_showsMotif 77 = .ok (.ifCond .eq 7, 3) := by decide +kernel
theorem dX3_showsMotif_80 : decode cX3_showsMotif 80 = .ok (.iconst 1, 1) := by decide +kernel
theorem dX3_showsMotif_81 : decode cX3_showsMotif 81 = .ok (.goto 4, 3) := by decide +kernel
theorem dX3_showsMotif_84 : decode cX3_showsMotif 84 = .ok (.iconst 0, 1) := by decide +kernel
theorem dX3_showsMotif_85 : decode cX3_showsMotif 85 = .ok (.ireturn, 1) := by decide +kernel
theorem dX3_showsMotif_86 : decode cX3_showsMotif 86 = .ok (.aload_n 0, 1) := by decide +kernel
theorem dX3_showsMotif_87 : decode cX3_showsMotif 87 = .ok (.aload_n 1, 1) := by decide +kernel
theorem dX3_showsMotif_88 : decode cX3_showsMotif 88 = .ok (.iload_n 2, 1) := by decide +kernel
theorem dX3_showsMotif_89 : decode cX3_showsMotif 89 = .ok (.iload_n 3, 1) := by decide +kernel
theorem dX3_showsMotif_90 : decode cX3_showsMotif 90 = .ok (.iload 4, 2) := by decide +kernel
theorem dX3_showsMotif_92 : decode cX3_showsMotif 92 = .ok (.invokevirtual 106, 3) := by decide +kernel
theorem dX3_showsMotif_95 : decode cX3_showsMotif 95 = .ok (.ireturn, 1) := by decide +kernel
theorem dX3_showsRows_0 : decode cX3_showsRows 0 = .ok (.aload_n 1, 1) := by decide +kernel
theorem dX3_showsRows_1 : decode cX3_showsRows 1 = .ok (.getfield 110, 3) := by decide +kernel
theorem dX3_showsRows_4 : decode cX3_showsRows 4 = .ok (.iload_n 2, 1) := by decide +kernel
theorem dX3_showsRows_5 : decode cX3_showsRows 5 = .ok (.iaload, 1) := by decide +kernel
theorem dX3_showsRows_6 : decode cX3_showsRows 6 = .ok (.istore 6, 2) := by decide +kernel
theorem dX3_showsRows_8 : decode cX3_showsRows 8 = .ok (.iload 4, 2) := by decide +kernel
theorem dX3_showsRows_10 : decode cX3_showsRows 10 = .ok (.iload 6, 2) := by decide +kernel
theorem dX3_showsRows_12 : decode cX3_showsRows 12 = .ok (.iadd, 1) := by decide +kernel
theorem dX3_showsRows_13 : decode cX3_showsRows 13 = .ok (.aload_n 0, 1) := by decide +kernel
theorem dX3_showsRows_14 : decode cX3_showsRows 14 = .ok (.getfield 15, 3) := by decide +kernel
theorem dX3_showsRows_17 : decode cX3_showsRows 17 = .ok (.iload_n 3, 1) := by decide +kernel
theorem dX3_showsRows_18 : decode cX3_showsRows 18 = .ok (.iaload, 1) := by decide +kernel
theorem dX3_showsRows_19 : decode cX3_showsRows 19 = .ok (.if_icmp .le 5, 3) := by decide +kernel
theorem dX3_showsRows_22 : decode cX3_showsRows 22 = .ok (.iconst 0, 1) := by decide +kernel
theorem dX3_showsRows_23 : decode cX3_showsRows 23 = .ok (.ireturn, 1) := by decide +kernel
theorem dX3_showsRows_24 : decode cX3_showsRows 24 = .ok (.iconst 0, 1) := by decide +kernel
theorem dX3_showsRows_25 : decode cX3_showsRows 25 = .ok (.istore 7, 2) := by decide +kernel
theorem dX3_showsRows_27 : decode cX3_showsRows 27 = .ok (.iload 7, 2) := by decide +kernel
theorem dX3_showsRows_29 : decode cX3_showsRows 29 = .ok (.iload 6, 2) := by decide +kernel
theorem dX3_showsRows_31 : decode cX3_showsRows 31 = .ok (.if_icmp .ge 54, 3) := by decide +kernel
theorem dX3_showsRows_34 : decode cX3_showsRows 34 = .ok (.aload_n 1, 1) := by decide +kernel
theorem dX3_showsRows_35 : decode cX3_showsRows 35 = .ok (.getfield 113, 3) := by decide +kernel
theorem dX3_showsRows_38 : decode cX3_showsRows 38 = .ok (.iload_n 2, 1) := by decide +kernel
theorem dX3_showsRows_39 : decode cX3_showsRows 39 = .ok (.iconst 4, 1) := by decide +kernel
theorem dX3_showsRows_40 : decode cX3_showsRows 40 = .ok (.imul, 1) := by decide +kernel
theorem dX3_showsRows_41 : decode cX3_showsRows 41 = .ok (.iload 5, 2) := by decide +kernel
theorem dX3_showsRows_43 : decode cX3_showsRows 43 = .ok (.ifCond .eq 13, 3) := by decide +kernel
theorem dX3_showsRows_46 : decode cX3_showsRows 46 = .ok (.iload 6, 2) := by decide +kernel
theorem dX3_showsRows_48 : decode cX3_showsRows 48 = .ok (.iconst 1, 1) := by decide +kernel
theorem dX3_showsRows_49 : decode cX3_showsRows 49 = .ok (.isub, 1) := by decide +kernel
theorem dX3_showsRows_50 : decode cX3_showsRows 50 = .ok (.iload 7, 2) := by decide +kernel
theorem dX3_showsRows_52 : decode cX3_showsRows 52 = .ok (.isub, 1) := by decide +kernel
theorem dX3_showsRows_53 : decode cX3_showsRows 53 = .ok (.goto 5, 3) := by decide +kernel
theorem dX3_showsRows_56 : decode cX3_showsRows 56 = .ok (.iload 7, 2) := by decide +kernel
theorem dX3_showsRows_58 : decode cX3_showsRows 58 = .ok (.iadd, 1) := by decide +kernel
theorem dX3_showsRows_59 : decode cX3_showsRows 59 = .ok (.iaload, 1) := by decide +kernel
theorem dX3_showsRows_60 : decode cX3_showsRows 60 = .ok (.istore 8, 2) := by decide +kernel
theorem dX3_showsRows_62 : decode cX3_showsRows 62 = .ok (.aload_n 0, 1) := by decide +kernel
theorem dX3_showsRows_63 : decode cX3_showsRows 63 = .ok (.iload_n 3, 1) := by decide +kernel
theorem dX3_showsRows_64 : decode cX3_showsRows 64 = .ok (.iload 4, 2) := by decide +kernel
theorem dX3_showsRows_66 : decode cX3_showsRows 66 = .ok (.iload 7, 2) := by decide +kernel
theorem dX3_showsRows_68 : decode cX3_showsRows 68 = .ok (.iadd, 1) := by decide +kernel
theorem dX3_showsRows_69 : decode cX3_showsRows 69 = .ok (.invokevirtual 38, 3) := by decide +kernel
theorem dX3_showsRows_72 : decode cX3_showsRows 72 = .ok (.iload 8, 2) := by decide +kernel
theorem dX3_showsRows_74 : decode cX3_showsRows 74 = .ok (.if_icmp .eq 5, 3) := by decide +kernel
theorem dX3_showsRows_77 : decode cX3_showsRows 77 = .ok (.iconst 0, 1) := by decide +kernel
theorem dX3_showsRows_78 : decode cX3_showsRows 78 = .ok (.ireturn, 1) := by decide +kernel
theorem dX3_showsRows_79 : decode cX3_showsRows 79 = .ok (.iinc 7 1, 3) := by decide +kernel
theorem dX3_showsRows_82 : decode cX3_showsRows 82 = .ok (.goto (-55), 3) := by decide +kernel
theorem dX3_showsRows_85 : decode cX3_showsRows 85 = .ok (.iconst 1, 1) := by decide +kernel
theorem dX3_showsRows_86 : decode cX3_showsRows 86 = .ok (.ireturn, 1) := by decide +kernel
theorem dX3_showsGrowing_0 : decode cX3_showsGrowing 0 = .ok (.iload 4, 2) := by decide +kernel
theorem dX3_showsGrowing_2 : decode cX3_showsGrowing 2 = .ok (.istore 5, 2) := by decide +kernel
theorem dX3_showsGrowing_4 : decode cX3_showsGrowing 4 = .ok (.iconst 0, 1) := by decide +kernel
theorem dX3_showsGrowing_5 : decode cX3_showsGrowing 5 = .ok (.istore 6, 2) := by decide +kernel
theorem dX3_showsGrowing_7 : decode cX3_showsGrowing 7 = .ok (.iload 6, 2) := by decide +kernel
theorem dX3_showsGrowing_9 : decode cX3_showsGrowing 9 = .ok (.aload_n 1, 1) := by decide +kernel
theorem dX3_showsGrowing_10 : decode cX3_showsGrowing 10 = .ok (.getfield 110, 3) := by decide +kernel
theorem dX3_showsGrowing_13 : decode cX3_showsGrowing 13 = .ok (.iload_n 2, 1) := by decide +kernel
theorem dX3_showsGrowing_14 : decode cX3_showsGrowing 14 = .ok (.iaload, 1) := by decide +kernel
theorem dX3_showsGrowing_15 : decode cX3_showsGrowing 15 = .ok (.if_icmp .ge 62, 3) := by decide +kernel
theorem dX3_showsGrowing_18 : decode cX3_showsGrowing 18 = .ok (.iconst 0, 1) := by decide +kernel
theorem dX3_showsGrowing_19 : decode cX3_showsGrowing 19 = .ok (.istore 7, 2) := by decide +kernel
theorem dX3_showsGrowing_21 : decode cX3_showsGrowing 21 = .ok (.iload 7, 2) := by decide +kernel
theorem dX3_showsGrowing_23 : decode cX3_showsGrowing 23 = .ok (.iload 6, 2) := by decide +kernel
theorem dX3_showsGrowing_25 : decode cX3_showsGrowing 25 = .ok (.if_icmp .gt 46, 3) := by decide +kernel
theorem dX3_showsGrowing_28 : decode cX3_showsGrowing 28 = .ok (.iload 5, 2) := by decide +kernel
theorem dX3_showsGrowing_30 : decode cX3_showsGrowing 30 = .ok (.aload_n 0, 1) := by decide +kernel
theorem dX3_showsGrowing_31 : decode cX3_showsGrowing 31 = .ok (.getfield 15, 3) := by decide +kernel
theorem dX3_showsGrowing_34 : decode cX3_showsGrowing 34 = .ok (.iload_n 3, 1) := by decide +kernel
theorem dX3_showsGrowing_35 : decode cX3_showsGrowing 35 = .ok (.iaload, 1) := by decide +kernel
theorem dX3_showsGrowing_36 : decode cX3_showsGrowing 36 = .ok (.if_icmp .ge 24, 3) := by decide +kernel
theorem dX3_showsGrowing_39 : decode cX3_showsGrowing 39 = .ok (.aload_n 0, 1) := by decide +kernel
theorem dX3_showsGrowing_40 : decode cX3_showsGrowing 40 = .ok (.iload_n 3, 1) := by decide +kernel
theorem dX3_showsGrowing_41 : decode cX3_showsGrowing 41 = .ok (.iload 5, 2) := by decide +kernel
theorem dX3_showsGrowing_43 : decode cX3_showsGrowing 43 = .ok (.invokevirtual 38, 3) := by decide +kernel
theorem dX3_showsGrowing_46 : decode cX3_showsGrowing 46 = .ok (.aload_n 1, 1) := by decide +kernel
theorem dX3_showsGrowing_47 : decode cX3_showsGrowing 47 = .ok (.getfield 113, 3) := by decide +kernel
theorem dX3_showsGrowing_50 : decode cX3_showsGrowing 50 = .ok (.iload_n 2, 1) := by decide +kernel
theorem dX3_showsGrowing_51 : decode cX3_showsGrowing 51 = .ok (.iconst 4, 1) := by decide +kernel
theorem dX3_showsGrowing_52 : decode cX3_showsGrowing 52 = .ok (.imul, 1) := by decide +kernel
theorem dX3_showsGrowing_53 : decode cX3_showsGrowing 53 = .ok (.iload 6, 2) := by decide +kernel
theorem dX3_showsGrowing_55 : decode cX3_showsGrowing 55 = .ok (.iadd, 1) := by decide +kernel
theorem dX3_showsGrowing_56 : decode cX3_showsGrowing 56 = .ok (.iaload, 1) := by decide +kernel
theorem dX3_showsGrowing_57 : decode cX3_showsGrowing 57 = .ok (.if_icmp .eq 5, 3) := by decide +kernel
theorem dX3_showsGrowing_60 : decode cX3_showsGrowing 60 = .ok (.iconst 0, 1) := by decide +kernel
theorem dX3_showsGrowing_61 : decode cX3_showsGrowing 61 = .ok (.ireturn, 1) := by decide +kernel
theorem dX3_showsGrowing_62 : decode cX3_showsGrowing 62 = .ok (.iinc 5 1, 3) := by decide +kernel
theorem dX3_showsGrowing_65 : decode cX3_showsGrowing 65 = .ok (.iinc 7 1, 3) := by decide +kernel
theorem dX3_showsGrowing_68 : decode cX3_showsGrowing 68 = .ok (.goto (-47), 3) := by decide +kernel
theorem dX3_showsGrowing_71 : decode cX3_showsGrowing 71 = .ok (.iinc 6 1, 3) := by decide +kernel
theorem dX3_showsGrowing_74 : decode cX3_showsGrowing 74 = .ok (.goto (-67), 3) := by decide +kernel
theorem dX3_showsGrowing_77 : decode cX3_showsGrowing 77 = .ok (.iconst 1, 1) := by decide +kernel
theorem dX3_showsGrowing_78 : decode cX3_showsGrowing 78 = .ok (.ireturn, 1) := by decide +kernel
theorem dX4_init_0 : decode cX4_init 0 = .ok (.aload_n 0, 1) := by decide +kernel
theorem dX4_init_1 : decode cX4_init 1 = .ok (.invokespecial 3, 3) := by decide +kernel
theorem dX4_init_4 : decode cX4_init 4 = .ok (.aload_n 0, 1) := by decide +kernel
theorem dX4_init_5 : decode cX4_init 5 = .ok (.iconst 0, 1) := by decide +kernel
theorem dX4_init_6 : decode cX4_init 6 = .ok (.putfield 9, 3) := by decide +kernel
theorem dX4_init_9 : decode cX4_init 9 = .ok (.aload_n 0, 1) := by decide +kernel
theorem dX4_init_10 : decode cX4_init 10 = .ok (.iconst 0, 1) := by decide +kernel
theorem dX4_init_11 : decode cX4_init 11 = .ok (.putfield 15, 3) := by decide +kernel
theorem dX4_init_14 : decode cX4_init 14 = .ok (.aload_n 0, 1) := by decide +kernel
theorem dX4_init_15 : decode cX4_init 15 = .ok (.iconst 0, 1) := by decide +kernel
theorem dX4_init_16 : decode cX4_init 16 = .ok (.putfield 18, 3) := by decide +kernel
theorem dX4_init_19 : decode cX4_init 19 = .ok (.aload_n 0, 1) := by decide +kernel
theorem dX4_init_20 : decode cX4_init 20 = .ok (.iconst 2, 1) := by decide +kernel
theorem dX4_init_21 : decode cX4_init 21 = .ok (.newarray .int, 2) := by decide +kernel
theorem dX4_init_23 : decode cX4_init 23 = .ok (.putfield 21, 3) := by decide +kernel
theorem dX4_init_26 : decode cX4_init 26 = .ok (.aload_n 0, 1) := by decide +kernel
theorem dX4_init_27 : decode cX4_init 27 = .ok (.iconst 0, 1) := by decide +kernel
theorem dX4_init_28 : decode cX4_init 28 = .ok (.putfield 25, 3) := by decide +kernel
theorem dX4_init_31 : decode cX4_init 31 = .ok (.aload_n 0, 1) := by decide +kernel
theorem dX4_init_32 : decode cX4_init 32 = .ok (.iconst 0, 1) := by decide +kernel
theorem dX4_init_33 : decode cX4_init 33 = .ok (.putfield 28, 3) := by decide +kernel
theorem dX4_init_36 : decode cX4_init 36 = .ok (.aload_n 0, 1) := by decide +kernel
theorem dX4_init_37 : decode cX4_init 37 = .ok (.bipush 8, 2) := by decide +kernel
theorem dX4_init_39 : decode cX4_init 39 = .ok (.newarray .int, 2) := by decide +kernel
theorem dX4_init_41 : decode cX4_init 41 = .ok (.putfield 31, 3) := by decide +kernel
theorem dX4_init_44 : decode cX4_init 44 = .ok (.aload_n 0, 1) := by decide +kernel
theorem dX4_init_45 : decode cX4_init 45 = .ok (.bipush 8, 2) := by decide +kernel
theorem dX4_init_47 : decode cX4_init 47 = .ok (.newarray .int, 2) := by decide +kernel
theorem dX4_init_49 : decode cX4_init 49 = .ok (.putfield 34, 3) := by decide +kernel
theorem dX4_init_52 : decode cX4_init 52 = .ok (.aload_n 0, 1) := by decide +kernel
theorem dX4_init_53 : decode cX4_init 53 = .ok (.bipush 8, 2) := by decide +kernel
theorem dX4_init_55 : decode cX4_init 55 = .ok (.newarray .int, 2) := by decide +kernel
theorem dX4_init_57 : decode cX4_init 57 = .ok (.putfield 37, 3) := by decide +kernel
theorem dX4_init_60 : decode cX4_init 60 = .ok (.aload_n 0, 1) := by decide +kernel
theorem dX4_init_61 : decode cX4_init 61 = .ok (.iconst 0, 1) := by decide +kernel
theorem dX4_init_62 : decode cX4_init 62 = .ok (.putfield 40, 3) := by decide +kernel
theorem dX4_init_65 : decode cX4_init 65 = .ok (.aload_n 0, 1) := by decide +kernel
theorem dX4_init_66 : decode cX4_init 66 = .ok (.bipush 8, 2) := by decide +kernel
theorem dX4_init_68 : decode cX4_init 68 = .ok (.newarray .int, 2) := by decide +kernel
theorem dX4_init_70 : decode cX4_init 70 = .ok (.putfield 43, 3) := by decide +kernel
theorem dX4_init_73 : decode cX4_init 73 = .ok (.aload_n 0, 1) := by decide +kernel
theorem dX4_init_74 : decode cX4_init 74 = .ok (.bipush 8, 2) := by decide +kernel
theorem dX4_init_76 : decode cX4_init 76 = .ok (.newarray .int, 2) := by decide +kernel
theorem dX4_init_78 : decode cX4_init 78 = .ok (.putfield 46, 3) := by decide +kernel
theorem dX4_init_81 : decode cX4_init 81 = .ok (.aload_n 0, 1) := by decide +kernel
theorem dX4_init_82 : decode cX4_init 82 = .ok (.iconst 0, 1) := by decide +kernel
theorem dX4_init_83 : decode cX4_init 83 = .ok (.putfield 49, 3) := by decide +kernel
theorem dX4_init_86 : decode cX4_init 86 = .ok (.aload_n 0, 1) := by decide +kernel
theorem dX4_init_87 : decode cX4_init 87 = .ok (.iconst 4, 1) := by decide +kernel
theorem dX4_init_88 : decode cX4_init 88 = .ok (.newarray .int, 2) := by decide +kernel
theorem dX4_init_90 : decode cX4_init 90 = .ok (.putfield 52, 3) := by decide +kernel
theorem dX4_init_93 : decode cX4_init 93 = .ok (.aload_n 0, 1) := by decide +kernel
theorem dX4_init_94 : decode cX4_init 94 = .ok (.iconst 4, 1) := by decide +kernel
theorem dX4_init_95 : decode cX4_init 95 = .ok (.newarray .int, 2) := by decide +kernel
theorem dX4_init_97 : decode cX4_init 97 = .ok (.putfield 55, 3) := by decide +kernel
theorem dX4_init_100 : decode cX4_init 100 = .ok (.aload_n 0, 1) := by decide +kernel
theorem dX4_init_101 : decode cX4_init 101 = .ok (.bipush 16, 2) := by decide +kernel
theorem dX4_init_103 : decode cX4_init 103 = .ok (.newarray .int, 2) := by decide +kernel
theorem dX4_init_105 : decode cX4_init 105 = .ok (.putfield 58, 3) := by decide +kernel
theorem dX4_init_108 : decode cX4_init 108 = .ok (.aload_n 0, 1) := by decide +kernel
theorem dX4_init_109 : decode cX4_init 109 = .ok (.iconst 0, 1) := by decide +kernel
theorem dX4_init_110 : decode cX4_init 110 = .ok (.putfield 61, 3) := by decide +kernel
theorem dX4_init_113 : decode cX4_init 113 = .ok (.aload_n 0, 1) := by decide +kernel
theorem dX4_init_114 : decode cX4_init 114 = .ok (.bipush 6, 2) := by decide +kernel
theorem dX4_init_116 : decode cX4_init 116 = .ok (.newarray .int, 2) := by decide +kernel
theorem dX4_init_118 : decode cX4_init 118 = .ok (.putfield 64, 3) := by decide +kernel
theorem dX4_init_121 : decode cX4_init 121 = .ok (.aload_n 0, 1) := by decide +kernel
theorem dX4_init_122 : decode cX4_init 122 = .ok (.bipush 6, 2) := by decide +kernel
theorem dX4_init_124 : decode cX4_init 124 = .ok (.newarray .int, 2) := by decide +kernel
theorem dX4_init_126 : decode cX4_init 126 = .ok (.putfield 67, 3) := by decide +kernel
theorem dX4_init_129 : decode cX4_init 129 = .ok (.aload_n 0, 1) := by decide +kernel
theorem dX4_init_130 : decode cX4_init 130 = .ok (.bipush 6, 2) := by decide +kernel
theorem dX4_init_132 : decode cX4_init 132 = .ok (.newarray .int, 2) := by decide +kernel
theorem dX4_init_134 : decode cX4_init 134 = .ok (.putfield 70, 3) := by decide +kernel
theorem dX4_init_137 : decode cX4_init 137 = .ok (.return_, 1) := by decide +kernel
theorem dX4_clear_0 : decode cX4_clear 0 = .ok (.aload_n 0, 1) := by decide +kernel
theorem dX4_clear_1 : decode cX4_clear 1 = .ok (.iconst 0, 1) := by decide +kernel
theorem dX4_clear_2 : decode cX4_clear 2 = .ok (.putfield 9, 3) := by decide +kernel
theorem dX4_clear_5 : decode cX4_clear 5 = .ok (.aload_n 0, 1) := by decide +kernel
theorem dX4_clear_6 : decode cX4_clear 6 = .ok (.iconst 0, 1) := by decide +kernel
theorem dX4_clear_7 : decode cX4_clear 7 = .ok (.putfield 15, 3) := by decide +kernel
theorem dX4_clear_10 : decode cX4_clear 10 = .ok (.aload_n 0, 1) := by decide +kernel
theorem dX4_clear_11 : decode cX4_clear 11 = .ok (.iconst 0, 1) := by decide +kernel
theorem dX4_clear_12 : decode cX4_clear 12 = .ok (.putfield 18, 3) := by decide +kernel
theorem dX4_clear_15 : decode cX4_clear 15 = .ok (.aload_n 0, 1) := by decide +kernel
theorem dX4_clear_16 : decode cX4_clear 16 = .ok (.getfield 21, 3) := by decide +kernel
theorem dX4_clear_19 : decode cX4_clear 19 = .ok (.iconst 0, 1) := by decide +kernel
theorem dX4_clear_20 : decode cX4_clear 20 = .ok (.iconst 0, 1) := by decide +kernel
theorem dX4_clear_21 : decode cX4_clear 21 = .ok (.iastore, 1) := by decide +kernel
theorem dX4_clear_22 : decode cX4_clear 22 = .ok (.aload_n 0, 1) := by decide +kernel
theorem dX4_clear_23 : decode cX4_clear 23 = .ok (.getfield 21, 3) := by decide +kernel
theorem dX4_clear_26 : decode cX4_clear 26 = .ok (.iconst 1, 1) := by decide +kernel
theorem dX4_clear_27 : decode cX4_clear 27 = .ok (.iconst 0, 1) := by decide +kernel
theorem dX4_clear_28 : decode cX4_clear 28 = .ok (.iastore, 1) := by decide +kernel
theorem dX4_clear_29 : decode cX4_clear 29 = .ok (.aload_n 0, 1) := by decide +kernel
theorem dX4_clear_30 : decode cX4_clear 30 = .ok (.iconst 0, 1) := by decide +kernel
theorem dX4_clear_31 : decode cX4_clear 31 = .ok (.putfield 25, 3) := by decide +kernel
theorem dX4_clear_34 : decode cX4_clear 34 = .ok (.aload_n 0, 1) := by decide +kernel
theorem dX4_clear_35 : decode cX4_clear 35 = .ok (.iconst 0, 1) := by decide +kernel
theorem dX4_clear_36 : decode cX4_clear 36 = .ok (.putfield 28, 3) := by decide +kernel
theorem dX4_clear_39 : decode cX4_clear 39 = .ok (.aload_n 0, 1) := by decide +kernel
theorem dX4_clear_40 : decode cX4_clear 40 = .ok (.iconst 0, 1) := by decide +kernel
theorem dX4_clear_41 : decode cX4_clear 41 = .ok (.putfield 40, 3) := by decide +kernel
theorem dX4_clear_44 : decode cX4_clear 44 = .ok (.aload_n 0, 1) := by decide +kernel
theorem dX4_clear_45 : decode cX4_clear 45 = .ok (.iconst 0, 1) := by decide +kernel
theorem dX4_clear_46 : decode cX4_clear 46 = .ok (.putfield 49, 3) := by decide +kernel
theorem dX4_clear_49 : decode cX4_clear 49 = .ok (.aload_n 0, 1) := by decide +kernel
theorem dX4_clear_50 : decode cX4_clear 50 = .ok (.iconst 0, 1) := by decide +kernel
theorem dX4_clear_51 : decode cX4_clear 51 = .ok (.putfield 61, 3) := by decide +kernel
theorem dX4_clear_54 : decode cX4_clear 54 = .ok (.return_, 1) := by decide +kernel
theorem dX4_addKind_0 : decode cX4_addKind 0 = .ok (.aload_n 0, 1) := by decide +kernel
theorem dX4_addKind_1 : decode cX4_addKind 1 = .ok (.getfield 28, 3) := by decide +kernel
theorem dX4_addKind_4 : decode cX4_addKind 4 = .ok (.bipush 8, 2) := by decide +kernel
theorem dX4_addKind_6 : decode cX4_addKind 6 = .ok (.if_icmp .lt 4, 3) := by decide +kernel
theorem dX4_addKind_9 : decode cX4_addKind 9 = .ok (.return_, 1) := by decide +kernel
theorem dX4_addKind_10 : decode cX4_addKind 10 = .ok (.aload_n 0, 1) := by decide +kernel
theorem dX4_addKind_11 : decode cX4_addKind 11 = .ok (.getfield 31, 3) := by decide +kernel
theorem dX4_addKind_14 : decode cX4_addKind 14 = .ok (.aload_n 0, 1) := by decide +kernel
theorem dX4_addKind_15 : decode cX4_addKind 15 = .ok (.getfield 28, 3) := by decide +kernel
theorem dX4_addKind_18 : decode cX4_addKind 18 = .ok (.iload_n 1, 1) := by decide +kernel
theorem dX4_addKind_19 : decode cX4_addKind 19 = .ok (.iastore, 1) := by decide +kernel
theorem dX4_addKind_20 : decode cX4_addKind 20 = .ok (.aload_n 0, 1) := by decide +kernel
theorem dX4_addKind_21 : decode cX4_addKind 21 = .ok (.getfield 34, 3) := by decide +kernel
theorem dX4_addKind_24 : decode cX4_addKind 24 = .ok (.aload_n 0, 1) := by decide +kernel
theorem dX4_addKind_25 : decode cX4_addKind 25 = .ok (.getfield 28, 3) := by decide +kernel
theorem dX4_addKind_28 : decode cX4_addKind 28 = .ok (.iload_n 2, 1) := by decide +kernel
theorem dX4_addKind_29 : decode cX4_addKind 29 = .ok (.iastore, 1) := by decide +kernel
theorem dX4_addKind_30 : decode cX4_addKind 30 = .ok (.aload_n 0, 1) := by decide +kernel
theorem dX4_addKind_31 : decode cX4_addKind 31 = .ok (.getfield 37, 3) := by decide +kernel
theorem dX4_addKind_34 : decode cX4_addKind 34 = .ok (.aload_n 0, 1) := by decide +kernel
theorem dX4_addKind_35 : decode cX4_addKind 35 = .ok (.getfield 28, 3) := by decide +kernel
theorem dX4_addKind_38 : decode cX4_addKind 38 = .ok (.aload_n 0, 1) := by decide +kernel
theorem dX4_addKind_39 : decode cX4_addKind 39 = .ok (.getfield 28, 3) := by decide +kernel
theorem dX4_addKind_42 : decode cX4_addKind 42 = .ok (.iastore, 1) := by decide +kernel
theorem dX4_addKind_43 : decode cX4_addKind 43 = .ok (.aload_n 0, 1) := by decide +kernel
theorem dX4_addKind_44 : decode cX4_addKind 44 = .ok (.getfield 43, 3) := by decide +kernel
theorem dX4_addKind_47 : decode cX4_addKind 47 = .ok (.aload_n 0, 1) := by decide +kernel
theorem dX4_addKind_48 : decode cX4_addKind 48 = .ok (.getfield 28, 3) := by decide +kernel
theorem dX4_addKind_51 : decode cX4_addKind 51 = .ok (.iconst 0, 1) := by decide +kernel
theorem dX4_addKind_52 : decode cX4_addKind 52 = .ok (.iastore, 1) := by decide +kernel
theorem dX4_addKind_53 : decode cX4_addKind 53 = .ok (.aload_n 0, 1) := by decide +kernel
theorem dX4_addKind_54 : decode cX4_addKind 54 = .ok (.getfield 46, 3) := by decide +kernel
theorem dX4_addKind_57 : decode cX4_addKind 57 = .ok (.aload_n 0, 1) := by decide +kernel
theorem dX4_addKind_58 : decode cX4_addKind 58 = .ok (.getfield 28, 3) := by decide +kernel
theorem dX4_addKind_61 : decode cX4_addKind 61 = .ok (.iconst 0, 1) := by decide +kernel
theorem dX4_addKind_62 : decode cX4_addKind 62 = .ok (.iastore, 1) := by decide +kernel
theorem dX4_addKind_63 : decode cX4_addKind 63 = .ok (.aload_n 0, 1) := by decide +kernel
theorem dX4_addKind_64 : decode cX4_addKind 64 = .ok (.dup, 1) := by decide +kernel
theorem dX4_addKind_65 : decode cX4_addKind 65 = .ok (.getfield 28, 3) := by decide +kernel
theorem dX4_addKind_68 : decode cX4_addKind 68 = .ok (.iconst 1, 1) := by decide +kernel
theorem dX4_addKind_69 : decode cX4_addKind 69 = .ok (.iadd, 1) := by decide +kernel
theorem dX4_addKind_70 : decode cX4_addKind 70 = .ok (.putfield 28, 3) := by decide +kernel
theorem dX4_addKind_73 : decode cX4_addKind 73 = .ok (.return_, 1) := by decide +kernel
theorem dX4_allow_0 : decode cX4_allow 0 = .ok (.aload_n 0, 1) := by decide +kernel
theorem dX4_allow_1 : decode cX4_allow 1 = .ok (.getfield 43, 3) := by decide +kernel
theorem dX4_allow_4 : decode cX4_allow 4 = .ok (.iload_n 1, 1) := by decide +kernel
theorem dX4_allow_5 : decode cX4_allow 5 = .ok (.dup2, 1) := by decide +kernel
theorem dX4_allow_6 : decode cX4_allow 6 = .ok (.iaload, 1) := by decide +kernel
theorem dX4_allow_7 : decode cX4_allow 7 = .ok (.iconst 1, 1) := by decide +kernel
theorem dX4_allow_8 : decode cX4_allow 8 = .ok (.iload_n 2, 1) := by decide +kernel
theorem dX4_allow_9 : decode cX4_allow 9 = .ok (.ishl, 1) := by decide +kernel
theorem dX4_allow_10 : decode cX4_allow 10 = .ok (.ior, 1) := by decide +kernel
theorem dX4_allow_11 : decode cX4_allow 11 = .ok (.iastore, 1) := by decide +kernel
theorem dX4_allow_12 : decode cX4_allow 12 = .ok (.aload_n 0, 1) := by decide +kernel
theorem dX4_allow_13 : decode cX4_allow 13 = .ok (.getfield 46, 3) := by decide +kernel
theorem dX4_allow_16 : decode cX4_allow 16 = .ok (.iload_n 2, 1) := by decide +kernel
theorem dX4_allow_17 : decode cX4_allow 17 = .ok (.dup2, 1) := by decide +kernel
theorem dX4_allow_18 : decode cX4_allow 18 = .ok (.iaload, 1) := by decide +kernel
theorem dX4_allow_19 : decode cX4_allow 19 = .ok (.iconst 1, 1) := by decide +kernel
theorem dX4_allow_20 : decode cX4_allow 20 = .ok (.iload_n 1, 1) := by decide +kernel
theorem dX4_allow_21 : decode cX4_allow 21 = .ok (.ishl, 1) := by decide +kernel
theorem dX4_allow_22 : decode cX4_allow 22 = .ok (.ior, 1) := by decide +kernel
theorem dX4_allow_23 : decode cX4_allow 23 = .ok (.iastore, 1) := by decide +kernel
theorem dX4_allow_24 : decode cX4_allow 24 = .ok (.return_, 1) := by decide +kernel
theorem dX4_allKinds_0 : decode cX4_allKinds 0 = .ok (.iconst 1, 1) := by decide +kernel
theorem dX4_allKinds_1 : decode cX4_allKinds 1 = .ok (.aload_n 0, 1) := by decide +kernel
theorem dX4_allKinds_2 : decode cX4_allKinds 2 = .ok (.getfield 28, 3) := by decide +kernel
theorem dX4_allKinds_5 : decode cX4_allKinds 5 = .ok (.ishl, 1) := by decide +kernel
theorem dX4_allKinds_6 : decode cX4_allKinds 6 = .ok (.iconst 1, 1) := by decide +kernel
theorem dX4_allKinds_7 : decode cX4_allKinds 7 = .ok (.isub, 1) := by decide +kernel
theorem dX4_allKinds_8 : decode cX4_allKinds 8 = .ok (.ireturn, 1) := by decide +kernel
theorem dX4_isSeam_0 : decode cX4_isSeam 0 = .ok (.aload_n 0, 1) := by decide +kernel
theorem dX4_isSeam_1 : decode cX4_isSeam 1 = .ok (.getfield 40, 3) := by decide +kernel
theorem dX4_isSeam_4 : decode cX4_isSeam 4 = .ok (.iload_n 1, 1) := by decide +kernel
theorem dX4_isSeam_5 : decode cX4_isSeam 5 = .ok (.invokestatic 73, 3) := by decide +kernel
theorem dX4_isSeam_8 : decode cX4_isSeam 8 = .ok (.ireturn, 1) := by decide +kernel
theorem dX4_behind_0 : decode cX4_behind 0 = .ok (.iload_n 2, 1) := by decide +kernel
theorem dX4_behind_1 : decode cX4_behind 1 = .ok (.ifCond .ge 8, 3) := by decide +kernel
theorem dX4_behind_4 : decode cX4_behind 4 = .ok (.aload_n 0, 1) := by decide +kernel
theorem dX4_behind_5 : decode cX4_behind 5 = .ok (.invokevirtual 77, 3) := by decide +kernel
theorem dX4_behind_8 : decode cX4_behind 8 = .ok (.ireturn, 1) := by decide +kernel
theorem dX4_behind_9 : decode cX4_behind 9 = .ok (.aload_n 0, 1) := by decide +kernel
theorem dX4_behind_10 : decode cX4_behind 10 = .ok (.getfield 40, 3) := by decide +kernel
theorem dX4_behind_13 : decode cX4_behind 13 = .ok (.iload_n 2, 1) := by decide +kernel
theorem dX4_behind_14 : decode cX4_behind 14 = .ok (.invokestatic 73, 3) := by decide +kernel
theorem dX4_behind_17 : decode cX4_behind 17 = .ok (.ifCond .eq 5, 3) := by decide +kernel
theorem dX4_behind_20 : decode cX4_behind 20 = .ok (.iconst 0, 1) := by decide +kernel
theorem dX4_behind_21 : decode cX4_behind 21 = .ok (.ireturn, 1) := by decide +kernel
theorem dX4_behind_22 : decode cX4_behind 22 = .ok (.iload_n 1, 1) := by decide +kernel
theorem dX4_behind_23 : decode cX4_behind 23 = .ok (.ifCond .ne 12, 3) := by decide +kernel
theorem dX4_behind_26 : decode cX4_behind 26 = .ok (.aload_n 0, 1) := by decide +kernel
theorem dX4_behind_27 : decode cX4_behind 27 = .ok (.getfield 43, 3) := by decide +kernel
theorem dX4_behind_30 : decode cX4_behind 30 = .ok (.iload_n 2, 1) := by decide +kernel
theorem dX4_behind_31 : decode cX4_behind 31 = .ok (.iaload, 1) := by decide +kernel
theorem dX4_behind_32 : decode cX4_behind 32 = .ok (.goto 9, 3) := by decide +kernel
theorem dX4_behind_35 : decode cX4_behind 35 = .ok (.aload_n 0, 1) := by decide +kernel
theorem dX4_behind_36 : decode cX4_behind 36 = .ok (.getfield 46, 3) := by decide +kernel
theorem dX4_behind_39 : decode cX4_behind 39 = .ok (.iload_n 2, 1) := by decide +kernel
theorem dX4_behind_40 : decode cX4_behind 40 = .ok (.iaload, 1) := by decide +kernel
theorem dX4_behind_41 : decode cX4_behind 41 = .ok (.ireturn, 1) := by decide +kernel
theorem dX4_standsFor_0 : decode cX4_standsFor 0 = .ok (.iload_n 1, 1) := by decide +kernel
theorem dX4_standsFor_1 : decode cX4_standsFor 1 = .ok (.iload_n 2, 1) := by decide +kernel
theorem dX4_standsFor_2 : decode cX4_standsFor 2 = .ok (.if_icmp .eq 56, 3) := by decide +kernel
theorem dX4_standsFor_5 : decode cX4_standsFor 5 = .ok (.aload_n 0, 1) := by decide +kernel
theorem dX4_standsFor_6 : decode cX4_standsFor 6 = .ok (.iload_n 1, 1) := by decide +kernel
theorem dX4_standsFor_7 : decode cX4_standsFor 7 = .ok (.invokevirtual 81, 3) := by decide +kernel
theorem dX4_standsFor_10 : decode cX4_standsFor 10 = .ok (.aload_n 0, 1) := by decide +kernel
theorem dX4_standsFor_11 : decode cX4_standsFor 11 = .ok (.iload_n 2, 1) := by decide +kernel
theorem dX4_standsFor_12 : decode cX4_standsFor 12 = .ok (.invokevirtual 81, 3) := by decide +kernel
theorem dX4_standsFor_15 : decode cX4_standsFor 15 = .ok (.if_icmp .ne 43, 3) := by decide +kernel
theorem dX4_standsFor_18 : decode cX4_standsFor 18 = .ok (.aload_n 0, 1) := by decide +kernel
theorem dX4_standsFor_19 : decode cX4_standsFor 19 = .ok (.getfield 46, 3) := by decide +kernel
theorem dX4_standsFor_22 : decode cX4_standsFor 22 = .ok (.iload_n 2, 1) := by decide +kernel
theorem dX4_standsFor_23 : decode cX4_standsFor 23 = .ok (.iaload, 1) := by decide +kernel
theorem dX4_standsFor_24 : decode cX4_standsFor 24 = .ok (.aload_n 0, 1) := by decide +kernel
theorem dX4_standsFor_25 : decode cX4_standsFor 25 = .ok (.getfield 46, 3) := by decide +kernel
theorem dX4_standsFor_28 : decode cX4_standsFor 28 = .ok (.iload_n 1, 1) := by decide +kernel
theorem dX4_standsFor_29 : decode cX4_standsFor 29 = .ok (.iaload, 1) := by decide +kernel
theorem dX4_standsFor_30 : decode cX4_standsFor 30 = .ok (.iconst (-1), 1) := by decide +kernel
theorem dX4_standsFor_31 : decode cX4_standsFor 31 = .ok (.ixor, 1) := by decide +kernel
theorem dX4_standsFor_32 : decode cX4_standsFor 32 = .ok (.iand, 1) := by decide +kernel
theorem dX4_standsFor_33 : decode cX4_standsFor 33 = .ok (.ifCond .ne 25, 3) := by decide +kernel
theorem dX4_standsFor_36 : decode cX4_standsFor 36 = .ok (.aload_n 0, 1) := by decide +kernel
theorem dX4_standsFor_37 : decode cX4_standsFor 37 = .ok (.getfield 43, 3) := by decide +kernel
theorem dX4_standsFor_40 : decode cX4_standsFor 40 = .ok (.iload_n 2, 1) := by decide +kernel
theorem dX4_standsFor_41 : decode cX4_standsFor 41 = .ok (.iaload, 1) := by decide +kernel
theorem dX4_standsFor_42 : decode cX4_standsFor 42 = .ok (.aload_n 0, 1) := by decide +kernel
theorem dX4_standsFor_43 : decode cX4_standsFor 43 = .ok (.getfield 43, 3) := by decide +kernel
theorem dX4_standsFor_46 : decode cX4_standsFor 46 = .ok (.iload_n 1, 1) := by decide +kernel
theorem dX4_standsFor_47 : decode cX4_standsFor 47 = .ok (.iaload, 1) := by decide +kernel
theorem dX4_standsFor_48 : decode cX4_standsFor 48 = .ok (.iconst (-1), 1) := by decide +kernel
theorem dX4_standsFor_49 : decode cX4_standsFor 49 = .ok (.ixor, 1) := by decide +kernel
theorem dX4_standsFor_50 : decode cX4_standsFor 50 = .ok (.iand, 1) := by decide +kernel
theorem dX4_standsFor_51 : decode cX4_standsFor 51 = .ok (.ifCond .ne 7, 3) := by decide +kernel
theorem dX4_standsFor_54 : decode cX4_standsFor 54 = .ok (.iconst 1, 1) := by decide +kernel
theorem dX4_standsFor_55 : decode cX4_standsFor 55 = .ok (.goto 4, 3) := by decide +kernel
theorem dX4_standsFor_58 : decode cX4_standsFor 58 = .ok (.iconst 0, 1) := by decide +kernel
theorem dX4_standsFor_59 : decode cX4_standsFor 59 = .ok (.ireturn, 1) := by decide +kernel
theorem dX4_takesOf_0 : decode cX4_takesOf 0 = .ok (.aload_n 0, 1) := by decide +kernel
theorem dX4_takesOf_1 : decode cX4_takesOf 1 = .ok (.getfield 31, 3) := by decide +kernel
theorem dX4_takesOf_4 : decode cX4_takesOf 4 = .ok (.iload_n 1, 1) := by decide +kernel
theorem dX4_takesOf_5 : decode cX4_takesOf 5 = .ok (.iaload, 1) := by decide +kernel
theorem dX4_takesOf_6 : decode cX4_takesOf 6 = .ok (.iload_n 2, 1) := by decide +kernel
theorem dX4_takesOf_7 : decode cX4_takesOf 7 = .ok (.if_icmp .ne 12, 3) := by decide +kernel
theorem dX4_takesOf_10 : decode cX4_takesOf 10 = .ok (.aload_n 0, 1) := by decide +kernel
theorem dX4_takesOf_11 : decode cX4_takesOf 11 = .ok (.getfield 34, 3) := by decide +kernel
theorem dX4_takesOf_14 : decode cX4_takesOf 14 = .ok (.iload_n 1, 1) := by decide +kernel
theorem dX4_takesOf_15 : decode cX4_takesOf 15 = .ok (.iaload, 1) := by decide +kernel
theorem dX4_takesOf_16 : decode cX4_takesOf 16 = .ok (.goto 4, 3) := by decide +kernel
theorem dX4_takesOf_19 : decode cX4_takesOf 19 = .ok (.iconst 0, 1) := by decide +kernel
theorem dX4_takesOf_20 : decode cX4_takesOf 20 = .ok (.ireturn, 1) := by decide +kernel
theorem dX4_unitsOf_0 : decode cX4_unitsOf 0 = .ok (.iload_n 1, 1) := by decide +kernel
theorem dX4_unitsOf_1 : decode cX4_unitsOf 1 = .ok (.aload_n 0, 1) := by decide +kernel
theorem dX4_unitsOf_2 : decode cX4_unitsOf 2 = .ok (.getfield 21, 3) := by decide +kernel
theorem dX4_unitsOf_5 : decode cX4_unitsOf 5 = .ok (.iconst 0, 1) := by decide +kernel
theorem dX4_unitsOf_6 : decode cX4_unitsOf 6 = .ok (.iaload, 1) := by decide +kernel
theorem dX4_unitsOf_7 : decode cX4_unitsOf 7 = .ok (.imul, 1) := by decide +kernel
theorem dX4_unitsOf_8 : decode cX4_unitsOf 8 = .ok (.iload_n 2, 1) := by decide +kernel
theorem dX4_unitsOf_9 : decode cX4_unitsOf 9 = .ok (.aload_n 0, 1) := by decide +kernel
theorem dX4_unitsOf_10 : decode cX4_unitsOf 10 = .ok (.getfield 21, 3) := by decide +kernel
theorem dX4_unitsOf_13 : decode cX4_unitsOf 13 = .ok (.iconst 1, 1) := by decide +kernel
theorem dX4_unitsOf_14 : decode cX4_unitsOf 14 = .ok (.iaload, 1) := by decide +kernel
theorem dX4_unitsOf_15 : decode cX4_unitsOf 15 = .ok (.imul, 1) := by decide +kernel
theorem dX4_unitsOf_16 : decode cX4_unitsOf 16 = .ok (.iadd, 1) := by decide +kernel
theorem dX4_unitsOf_17 : decode cX4_unitsOf 17 = .ok (.ireturn, 1) := by decide +kernel
theorem dX4_fits_0 : decode cX4_fits 0 = .ok (.iload_n 1, 1) := by decide +kernel
theorem dX4_fits_1 : decode cX4_fits 1 = .ok (.aload_n 0, 1) := by decide +kernel
theorem dX4_fits_2 : decode cX4_fits 2 = .ok (.getfield 9, 3) := by decide +kernel
theorem dX4_fits_5 : decode cX4_fits 5 = .ok (.if_icmp .lt 20, 3) := by decide +kernel
theorem dX4_fits_8 : decode cX4_fits 8 = .ok (.iload_n 1, 1) := by decide +kernel
theorem dX4_fits_9 : decode cX4_fits 9 = .ok (.aload_n 0, 1) := by decide +kernel
theorem dX4_fits_10 : decode cX4_fits 10 = .ok (.getfield 9, 3) := by decide +kernel
theorem dX4_fits_13 : decode cX4_fits 13 = .ok (.aload_n 0, 1) := by decide +kernel
theorem dX4_fits_14 : decode cX4_fits 14 = .ok (.getfield 15, 3) := by decide +kernel
theorem dX4_fits_17 : decode cX4_fits 17 = .ok (.iadd, 1) := by decide +kernel
theorem dX4_fits_18 : decode cX4_fits 18 = .ok (.if_icmp .gt 7, 3) := by decide +kernel
theorem dX4_fits_21 : decode cX4_fits 21 = .ok (.iconst 1, 1) := by decide +kernel
theorem dX4_fits_22 : decode cX4_fits 22 = .ok (.goto 4, 3) := by decide +kernel
theorem dX4_fits_25 : decode cX4_fits 25 = .ok (.iconst 0, 1) := by decide +kernel
theorem dX4_fits_26 : decode cX4_fits 26 = .ok (.ireturn, 1) := by decide +kernel
theorem dX4_mayFit_0 : decode cX4_mayFit 0 = .ok (.iload_n 1, 1) := by decide +kernel
theorem dX4_mayFit_1 : decode cX4_mayFit 1 = .ok (.aload_n 0, 1) := by decide +kernel
theorem dX4_mayFit_2 : decode cX4_mayFit 2 = .ok (.getfield 21, 3) := by decide +kernel
theorem dX4_mayFit_5 : decode cX4_mayFit 5 = .ok (.iconst 0, 1) := by decide +kernel
theorem dX4_mayFit_6 : decode cX4_mayFit 6 = .ok (.iaload, 1) := by decide +kernel
theorem dX4_mayFit_7 : decode cX4_mayFit 7 = .ok (.aload_n 0, 1) := by decide +kernel
theorem dX4_mayFit_8 : decode cX4_mayFit 8 = .ok (.getfield 21, 3) := by decide +kernel
theorem dX4_mayFit_11 : decode cX4_mayFit 11 = .ok (.iconst 1, 1) := by decide +kernel
theorem dX4_mayFit_12 : decode cX4_mayFit 12 = .ok (.iaload, 1) := by decide +kernel
theorem dX4_mayFit_13 : decode cX4_mayFit 13 = .ok (.invokestatic 85, 3) := by decide +kernel
theorem dX4_mayFit_16 : decode cX4_mayFit 16 = .ok (.imul, 1) := by decide +kernel
theorem dX4_mayFit_17 : decode cX4_mayFit 17 = .ok (.aload_n 0, 1) := by decide +kernel
theorem dX4_mayFit_18 : decode cX4_mayFit 18 = .ok (.getfield 9, 3) := by decide +kernel
theorem dX4_mayFit_21 : decode cX4_mayFit 21 = .ok (.if_icmp .lt 36, 3) := by decide +kernel
theorem dX4_mayFit_24 : decode cX4_mayFit 24 = .ok (.iload_n 1, 1) := by decide +kernel
theorem dX4_mayFit_25 : decode cX4_mayFit 25 = .ok (.aload_n 0, 1) := by decide +kernel
theorem dX4_mayFit_26 : decode cX4_mayFit 26 = .ok (.getfield 21, 3) := by decide +kernel
theorem dX4_mayFit_29 : decode cX4_mayFit 29 = .ok (.iconst 0, 1) := by decide +kernel
theorem dX4_mayFit_30 : decode cX4_mayFit 30 = .ok (.iaload, 1) := by decide +kernel
theorem dX4_mayFit_31 : decode cX4_mayFit 31 = .ok (.aload_n 0, 1) := by decide +kernel
theorem dX4_mayFit_32 : decode cX4_mayFit 32 = .ok (.getfield 21, 3) := by decide +kernel
theorem dX4_mayFit_35 : decode cX4_mayFit 35 = .ok (.iconst 1, 1) := by decide +kernel
theorem dX4_mayFit_36 : decode cX4_mayFit 36 = .ok (.iaload, 1) := by decide +kernel
theorem dX4_mayFit_37 : decode cX4_mayFit 37 = .ok (.invokestatic 91, 3) := by decide +kernel
theorem dX4_mayFit_40 : decode cX4_mayFit 40 = .ok (.imul, 1) := by decide +kernel
theorem dX4_mayFit_41 : decode cX4_mayFit 41 = .ok (.aload_n 0, 1) := by decide +kernel
theorem dX4_mayFit_42 : decode cX4_mayFit 42 = .ok (.getfield 9, 3) := by decide +kernel
theorem dX4_mayFit_45 : decode cX4_mayFit 45 = .ok (.aload_n 0, 1) := by decide +kernel
theorem dX4_mayFit_46 : decode cX4_mayFit 46 = .ok (.getfield 15, 3) := by decide +kernel
theorem dX4_mayFit_49 : decode cX4_mayFit 49 = .ok (.iadd, 1) := by decide +kernel
theorem dX4_mayFit_50 : decode cX4_mayFit 50 = .ok (.if_icmp .gt 7, 3) := by decide +kernel
theorem dX4_mayFit_53 : decode cX4_mayFit 53 = .ok (.iconst 1, 1) := by decide +kernel
theorem dX4_mayFit_54 : decode cX4_mayFit 54 = .ok (.goto 4, 3) := by decide +kernel
theorem dX4_mayFit_57 : decode cX4_mayFit 57 = .ok (.iconst 0, 1) := by decide +kernel
theorem dX4_mayFit_58 : decode cX4_mayFit 58 = .ok (.ireturn, 1) := by decide +kernel
theorem dX4_mostRows_0 : decode cX4_mostRows 0 = .ok (.iconst 0, 1) := by decide +kernel
theorem dX4_mostRows_1 : decode cX4_mostRows 1 = .ok (.istore_n 2, 1) := by decide +kernel
theorem dX4_mostRows_2 : decode cX4_mostRows 2 = .ok (.iload_n 2, 1) := by decide +kernel
theorem dX4_mostRows_3 : decode cX4_mostRows 3 = .ok (.bipush 24, 2) := by decide +kernel
theorem dX4_mostRows_5 : decode cX4_mostRows 5 = .ok (.if_icmp .ge 31, 3) := by decide +kernel
theorem dX4_mostRows_8 : decode cX4_mostRows 8 = .ok (.iload_n 2, 1) := by decide +kernel
theorem dX4_mostRows_9 : decode cX4_mostRows 9 = .ok (.iconst 1, 1) := by decide +kernel
theorem dX4_mostRows_10 : decode cX4_mostRows 10 = .ok (.iadd, 1) := by decide +kernel
theorem dX4_mostRows_11 : decode cX4_mostRows 11 = .ok (.aload_n 0, 1) := by decide +kernel
theorem dX4_mostRows_12 : decode cX4_mostRows 12 = .ok (.getfield 21, 3) := by decide +kernel
theorem dX4_mostRows_15 : decode cX4_mostRows 15 = .ok (.iload_n 1, 1) := by decide +kernel
theorem dX4_mostRows_16 : decode cX4_mostRows 16 = .ok (.iaload, 1) := by decide +kernel
theorem dX4_mostRows_17 : decode cX4_mostRows 17 = .ok (.imul, 1) := by decide +kernel
theorem dX4_mostRows_18 : decode cX4_mostRows 18 = .ok (.aload_n 0, 1) := by decide +kernel
theorem dX4_mostRows_19 : decode cX4_mostRows 19 = .ok (.getfield 9, 3) := by decide +kernel
theorem dX4_mostRows_22 : decode cX4_mostRows 22 = .ok (.aload_n 0, 1) := by decide +kernel
theorem dX4_mostRows_23 : decode cX4_mostRows 23 = .ok (.getfield 15, 3) := by decide +kernel
theorem dX4_mostRows_26 : decode cX4_mostRows 26 = .ok (.iadd, 1) := by decide +kernel
theorem dX4_mostRows_27 : decode cX4_mostRows 27 = .ok (.if_icmp .gt 9, 3) := by decide +kernel
theorem dX4_mostRows_30 : decode cX4_mostRows 30 = .ok (.iinc 2 1, 3) := by decide +kernel
theorem dX4_mostRows_33 : decode cX4_mostRows 33 = .ok (.goto (-31), 3) := by decide +kernel
theorem dX4_mostRows_36 : decode cX4_mostRows 36 = .ok (.iload_n 2, 1) := by decide +kernel
theorem dX4_mostRows_37 : decode cX4_mostRows 37 = .ok (.ireturn, 1) := by decide +kernel
theorem dX4_joins_0 : decode cX4_joins 0 = .ok (.iconst 0, 1) := by decide +kernel
theorem dX4_joins_1 : decode cX4_joins 1 = .ok (.istore_n 3, 1) := by decide +kernel
theorem dX4_joins_2 : decode cX4_joins 2 = .ok (.iload_n 3, 1) := by decide +kernel
theorem dX4_joins_3 : decode cX4_joins 3 = .ok (.aload_n 0, 1) := by decide +kernel
theorem dX4_joins_4 : decode cX4_joins 4 = .ok (.getfield 28, 3) := by decide +kernel
theorem dX4_joins_7 : decode cX4_joins 7 = .ok (.if_icmp .ge 30, 3) := by decide +kernel
theorem dX4_joins_10 : decode cX4_joins 10 = .ok (.iload_n 1, 1) := by decide +kernel
theorem dX4_joins_11 : decode cX4_joins 11 = .ok (.iload_n 3, 1) := by decide +kernel
theorem dX4_joins_12 : decode cX4_joins 12 = .ok (.invokestatic 73, 3) := by decide +kernel
theorem dX4_joins_15 : decode cX4_joins 15 = .ok (.ifCond .eq 16, 3) := by decide +kernel
theorem dX4_joins_18 : decode cX4_joins 18 = .ok (.aload_n 0, 1) := by decide +kernel
theorem dX4_joins_19 : decode cX4_joins 19 = .ok (.getfield 43, 3) := by decide +kernel
theorem dX4_joins_22 : decode cX4_joins 22 = .ok (.iload_n 3, 1) := by decide +kernel
theorem dX4_joins_23 : decode cX4_joins 23 = .ok (.iaload, 1) := by decide +kernel
theorem dX4_joins_24 : decode cX4_joins 24 = .ok (.iload_n 2, 1) := by decide +kernel
theorem dX4_joins_25 : decode cX4_joins 25 = .ok (.iand, 1) := by decide +kernel
theorem dX4_joins_26 : decode cX4_joins 26 = .ok (.ifCond .eq 5, 3) := by decide +kernel
theorem dX4_joins_29 : decode cX4_joins 29 = .ok (.iconst 1, 1) := by decide +kernel
theorem dX4_joins_30 : decode cX4_joins 30 = .ok (.ireturn, 1) := by decide +kernel
theorem dX4_joins_31 : decode cX4_joins 31 = .ok (.iinc 3 1, 3) := by decide +kernel
theorem dX4_joins_34 : decode cX4_joins 34 = .ok (.goto (-32), 3) := by decide +kernel
theorem dX4_joins_37 : decode cX4_joins 37 = .ok (.iconst 0, 1) := by decide +kernel
theorem dX4_joins_38 : decode cX4_joins 38 = .ok (.ireturn, 1) := by decide +kernel
theorem dX5_init_0 : decode cX5_init 0 = .ok (.aload_n 0, 1) := by decide +kernel
theorem dX5_init_1 : decode cX5_init 1 = .ok (.invokespecial 3, 3) := by decide +kernel
theorem dX5_init_4 : decode cX5_init 4 = .ok (.aload_n 0, 1) := by decide +kernel
theorem dX5_init_5 : decode cX5_init 5 = .ok (.iconst 0, 1) := by decide +kernel
theorem dX5_init_6 : decode cX5_init 6 = .ok (.newarray .byte, 2) := by decide +kernel
theorem dX5_init_8 : decode cX5_init 8 = .ok (.putfield 9, 3) := by decide +kernel
theorem dX5_init_11 : decode cX5_init 11 = .ok (.aload_n 0, 1) := by decide +kernel
theorem dX5_init_12 : decode cX5_init 12 = .ok (.iconst 0, 1) := by decide +kernel
theorem dX5_init_13 : decode cX5_init 13 = .ok (.putfield 15, 3) := by decide +kernel
theorem dX5_init_16 : decode cX5_init 16 = .ok (.aload_n 0, 1) := by decide +kernel
theorem dX5_init_17 : decode cX5_init 17 = .ok (.iconst 0, 1) := by decide +kernel
theorem dX5_init_18 : decode cX5_init 18 = .ok (.putfield 19, 3) := by decide +kernel
theorem dX5_init_21 : decode cX5_init 21 = .ok (.aload_n 0, 1) := by decide +kernel
theorem dX5_init_22 : decode cX5_init 22 = .ok (.iconst 0, 1) := by decide +kernel
theorem dX5_init_23 : decode cX5_init 23 = .ok (.putfield 22, 3) := by decide +kernel
theorem dX5_init_26 : decode cX5_init 26 = .ok (.aload_n 0, 1) := by decide +kernel
theorem dX5_init_27 : decode cX5_init 27 = .ok (.iconst 0, 1) := by decide +kernel
theorem dX5_init_28 : decode cX5_init 28 = .ok (.putfield 25, 3) := by decide +kernel
theorem dX5_init_31 : decode cX5_init 31 = .ok (.aload_n 0, 1) := by decide +kernel
theorem dX5_init_32 : decode cX5_init 32 = .ok (.lconst 0, 1) := by decide +kernel
theorem dX5_init_33 : decode cX5_init 33 = .ok (.putfield 28, 3) := by decide +kernel
theorem dX5_init_36 : decode cX5_init 36 = .ok (.aload_n 0, 1) := by decide +kernel
theorem dX5_init_37 : decode cX5_init 37 = .ok (.iconst 0, 1) := by decide +kernel
theorem dX5_init_38 : decode cX5_init 38 = .ok (.putfield 32, 3) := by decide +kernel
theorem dX5_init_41 : decode cX5_init 41 = .ok (.aload_n 0, 1) := by decide +kernel
theorem dX5_init_42 : decode cX5_init 42 = .ok (.iconst 0, 1) := by decide +kernel
theorem dX5_init_43 : decode cX5_init 43 = .ok (.putfield 35, 3) := by decide +kernel
theorem dX5_init_46 : decode cX5_init 46 = .ok (.aload_n 0, 1) := by decide +kernel
theorem dX5_init_47 : decode cX5_init 47 = .ok (.new 38, 3) := by decide +kernel
theorem dX5_init_50 : decode cX5_init 50 = .ok (.dup, 1) := by decide +kernel
theorem dX5_init_51 : decode cX5_init 51 = .ok (.invokespecial 40, 3) := by decide +kernel
theorem dX5_init_54 : decode cX5_init 54 = .ok (.putfield 41, 3) := by decide +kernel
theorem dX5_init_57 : decode cX5_init 57 = .ok (.aload_n 0, 1) := by decide +kernel
theorem dX5_init_58 : decode cX5_init 58 = .ok (.new 45, 3) := by decide +kernel
theorem dX5_init_61 : decode cX5_init 61 = .ok (.dup, 1) := by decide +kernel
theorem dX5_init_62 : decode cX5_init 62 = .ok (.invokespecial 47, 3) := by decide +kernel
theorem dX5_init_65 : decode cX5_init 65 = .ok (.putfield 48, 3) := by decide +kernel
theorem dX5_init_68 : decode cX5_init 68 = .ok (.aload_n 0, 1) := by decide +kernel
theorem dX5_init_69 : decode cX5_init 69 = .ok (.bipush 14, 2) := by decide +kernel
theorem dX5_init_71 : decode cX5_init 71 = .ok (.newarray .long, 2) := by decide +kernel
theorem dX5_init_73 : decode cX5_init 73 = .ok (.putfield 52, 3) := by decide +kernel
theorem dX5_init_76 : decode cX5_init 76 = .ok (.aload_n 0, 1) := by decide +kernel
theorem dX5_init_77 : decode cX5_init 77 = .ok (.bipush 14, 2) := by decide +kernel
theorem dX5_init_79 : decode cX5_init 79 = .ok (.newarray .int, 2) := by decide +kernel
theorem dX5_init_81 : decode cX5_init 81 = .ok (.putfield 56, 3) := by decide +kernel
theorem dX5_init_84 : decode cX5_init 84 = .ok (.aload_n 0, 1) := by decide +kernel
theorem dX5_init_85 : decode cX5_init 85 = .ok (.bipush 14, 2) := by decide +kernel
theorem dX5_init_87 : decode cX5_init 87 = .ok (.newarray .int, 2) := by decide +kernel
theorem dX5_init_89 : decode cX5_init 89 = .ok (.putfield 60, 3) := by decide +kernel
theorem dX5_init_92 : decode cX5_init 92 = .ok (.aload_n 0, 1) := by decide +kernel
theorem dX5_init_93 : decode cX5_init 93 = .ok (.iconst 0, 1) := by decide +kernel
theorem dX5_init_94 : decode cX5_init 94 = .ok (.putfield 63, 3) := by decide +kernel
theorem dX5_init_97 : decode cX5_init 97 = .ok (.aload_n 0, 1) := by decide +kernel
theorem dX5_init_98 : decode cX5_init 98 = .ok (.iconst 0, 1) := by decide +kernel
theorem dX5_init_99 : decode cX5_init 99 = .ok (.putfield 66, 3) := by decide +kernel
theorem dX5_init_102 : decode cX5_init 102 = .ok (.aload_n 0, 1) := by decide +kernel
theorem dX5_init_103 : decode cX5_init 103 = .ok (.iconst 0, 1) := by decide +kernel
theorem dX5_init_104 : decode cX5_init 104 = .ok (.putfield 70, 3) := by decide +kernel
theorem dX5_init_107 : decode cX5_init 107 = .ok (.aload_n 0, 1) := by decide +kernel
theorem dX5_init_108 : decode cX5_init 108 = .ok (.iconst 0, 1) := by decide +kernel
theorem dX5_init_109 : decode cX5_init 109 = .ok (.putfield 73, 3) := by decide +kernel
theorem dX5_init_112 : decode cX5_init 112 = .ok (.aload_n 0, 1) := by decide +kernel
theorem dX5_init_113 : decode cX5_init 113 = .ok (.iconst 0, 1) := by decide +kernel
theorem dX5_init_114 : decode cX5_init 114 = .ok (.putfield 76, 3) := by decide +kernel
theorem dX5_init_117 : decode cX5_init 117 = .ok (.aload_n 0, 1) := by decide +kernel
theorem dX5_init_118 : decode cX5_init 118 = .ok (.iconst 0, 1) := by decide +kernel
theorem dX5_init_119 : decode cX5_init 119 = .ok (.putfield 79, 3) := by decide +kernel
theorem dX5_init_122 : decode cX5_init 122 = .ok (.aload_n 0, 1) := by decide +kernel
theorem dX5_init_123 : decode cX5_init 123 = .ok (.iconst (-1), 1) := by decide +kernel
theorem dX5_init_124 : decode cX5_init 124 = .ok (.putfield 82, 3) := by decide +kernel
theorem dX5_init_127 : decode cX5_init 127 = .ok (.return_, 1) := by decide +kernel
theorem dX5_read_0 : decode cX5_read 0 = .ok (.aload_n 0, 1) := by decide +kernel
theorem dX5_read_1 : decode cX5_read 1 = .ok (.aload_n 1, 1) := by decide +kernel
theorem dX5_read_2 : decode cX5_read 2 = .ok (.iload_n 2, 1) := by decide +kernel
theorem dX5_read_3 : decode cX5_read 3 = .ok (.aload_n 1, 1) := by decide +kernel
theorem dX5_read_4 : decode cX5_read 4 = .ok (.arraylength, 1) := by decide +kernel
theorem dX5_read_5 : decode cX5_read 5 = .ok (.invokestatic 85, 3) := by decide +kernel
theorem dX5_read_8 : decode cX5_read 8 = .ok (.invokevirtual 91, 3) := by decide +kernel
theorem dX5_read_11 : decode cX5_read 11 = .ok (.aload_n 0, 1) := by decide +kernel
theorem dX5_read_12 : decode cX5_read 12 = .ok (.invokevirtual 95, 3) := by decide +kernel
theorem dX5_read_15 : decode cX5_read 15 = .ok (.iconst 0, 1) := by decide +kernel
theorem dX5_read_16 : decode cX5_read 16 = .ok (.istore_n 3, 1) := by decide +kernel
theorem dX5_read_17 : decode cX5_read 17 = .ok (.iload_n 3, 1) := by decide +kernel
theorem dX5_read_18 : decode cX5_read 18 = .ok (.sipush 900, 3) := by decide +kernel
theorem dX5_read_21 : decode cX5_read 21 = .ok (.if_icmp .gt 75, 3) := by decide +kernel
theorem dX5_read_24 : decode cX5_read 24 = .ok (.aload_n 0, 1) := by decide +kernel
theorem dX5_read_25 : decode cX5_read 25 = .ok (.invokevirtual 98, 3) := by decide +kernel
theorem dX5_read_28 : decode cX5_read 28 = .ok (.ifCond .ne 5, 3) := by decide +kernel
theorem dX5_read_31 : decode cX5_read 31 = .ok (.iconst 0, 1) := by decide +kernel
theorem dX5_read_32 : decode cX5_read 32 = .ok (.ireturn, 1) := by decide +kernel
theorem dX5_read_33 : decode cX5_read 33 = .ok (.aload_n 0, 1) := by decide +kernel
theorem dX5_read_34 : decode cX5_read 34 = .ok (.getfield 25, 3) := by decide +kernel
theorem dX5_read_37 : decode cX5_read 37 = .ok (.ifCond .ne 35, 3) := by decide +kernel
theorem dX5_read_40 : decode cX5_read 40 = .ok (.aload_n 0, 1) := by decide +kernel
theorem dX5_read_41 : decode cX5_read 41 = .ok (.getfield 66, 3) := by decide +kernel
theorem dX5_read_44 : decode cX5_read 44 = .ok (.ifCond .eq 13, 3) := by decide +kernel
theorem dX5_read_47 : decode cX5_read 47 = .ok (.aload_n 0, 1) := by decide +kernel
theorem dX5_read_48 : decode cX5_read 48 = .ok (.getfield 41, 3) := by decide +kernel
theorem dX5_read_51 : decode cX5_read 51 = .ok (.getfield 102, 3) := by decide +kernel
theorem dX5_read_54 : decode cX5_read 54 = .ok (.ifCond .gt 12, 3) := by decide +kernel
theorem dX5_read_57 : decode cX5_read 57 = .ok (.aload_n 0, 1) := by decide +kernel
theorem dX5_read_58 : decode cX5_read 58 = .ok (.bipush 6, 2) := by decide +kernel
theorem dX5_read_60 : decode cX5_read 60 = .ok (.invokevirtual 105, 3) := by decide +kernel
theorem dX5_read_63 : decode cX5_read 63 = .ok (.ifCond .eq 7, 3) := by decide +kernel
theorem dX5_read_66 : decode cX5_read 66 = .ok (.iconst 1, 1) := by decide +kernel
theorem dX5_read_67 : decode cX5_read 67 = .ok (.goto 4, 3) := by decide +kernel
theorem dX5_read_70 : decode cX5_read 70 = .ok (.iconst 0, 1) := by decide +kernel
theorem dX5_read_71 : decode cX5_read 71 = .ok (.ireturn, 1) := by decide +kernel
theorem dX5_read_72 : decode cX5_read 72 = .ok (.aload_n 0, 1) := by decide +kernel
theorem dX5_read_73 : decode cX5_read 73 = .ok (.getfield 25, 3) := by decide +kernel
theorem dX5_read_76 : decode cX5_read 76 = .ok (.iconst 3, 1) := by decide +kernel
theorem dX5_read_77 : decode cX5_read 77 = .ok (.if_icmp .eq 9, 3) := by decide +kernel
theorem dX5_read_80 : decode cX5_read 80 = .ok (.aload_n 0, 1) := by decide +kernel
theorem dX5_read_81 : decode cX5_read 81 = .ok (.iconst 1, 1) := by decide +kernel
theorem dX5_read_82 : decode cX5_read 82 = .ok (.invokevirtual 105, 3) := by decide +kernel
theorem dX5_read_85 : decode cX5_read 85 = .ok (.ireturn, 1) := by decide +kernel
theorem dX5_read_86 : decode cX5_read 86 = .ok (.aload_n 0, 1) := by decide +kernel
theorem dX5_read_87 : decode cX5_read 87 = .ok (.invokevirtual 95, 3) := by decide +kernel
theorem dX5_read_90 : decode cX5_read 90 = .ok (.iinc 3 1, 3) := by decide +kernel
theorem dX5_read_93 : decode cX5_read 93 = .ok (.goto (-76), 3) := by decide +kernel
theorem dX5_read_96 : decode cX5_read 96 = .ok (.aload_n 0, 1) := by decide +kernel
theorem dX5_read_97 : decode cX5_read 97 = .ok (.iconst 1, 1) := by decide +kernel
theorem dX5_read_98 : decode cX5_read 98 = .ok (.invokevirtual 105, 3) := by decide +kernel
theorem dX5_read_101 : decode cX5_read 101 = .ok (.ireturn, 1) := by decide +kernel
theorem dX5_begin_0 : decode cX5_begin 0 = .ok (.aload_n 0, 1) := by decide +kernel
theorem dX5_begin_1 : decode cX5_begin 1 = .ok (.aload_n 1, 1) := by decide +kernel
theorem dX5_begin_2 : decode cX5_begin 2 = .ok (.putfield 9, 3) := by decide +kernel
theorem dX5_begin_5 : decode cX5_begin 5 = .ok (.aload_n 0, 1) := by decide +kernel
theorem dX5_begin_6 : decode cX5_begin 6 = .ok (.iload_n 2, 1) := by decide +kernel
theorem dX5_begin_7 : decode cX5_begin 7 = .ok (.putfield 15, 3) := by decide +kernel
theorem dX5_begin_10 : decode cX5_begin 10 = .ok (.aload_n 0, 1) := by decide +kernel
theorem dX5_begin_11 : decode cX5_begin 11 = .ok (.iconst 0, 1) := by decide +kernel
theorem dX5_begin_12 : decode cX5_begin 12 = .ok (.putfield 22, 3) := by decide +kernel
theorem dX5_begin_15 : decode cX5_begin 15 = .ok (.aload_n 0, 1) := by decide +kernel
theorem dX5_begin_16 : decode cX5_begin 16 = .ok (.getfield 41, 3) := by decide +kernel
theorem dX5_begin_19 : decode cX5_begin 19 = .ok (.invokevirtual 109, 3) := by decide +kernel
theorem dX5_begin_22 : decode cX5_begin 22 = .ok (.aload_n 0, 1) := by decide +kernel
theorem dX5_begin_23 : decode cX5_begin 23 = .ok (.getfield 48, 3) := by decide +kernel
theorem dX5_begin_26 : decode cX5_begin 26 = .ok (.invokevirtual 112, 3) := by decide +kernel
theorem dX5_begin_29 : decode cX5_begin 29 = .ok (.aload_n 0, 1) := by decide +kernel
theorem dX5_begin_30 : decode cX5_begin 30 = .ok (.iconst 0, 1) := by decide +kernel
theorem dX5_begin_31 : decode cX5_begin 31 = .ok (.putfield 63, 3) := by decide +kernel
theorem dX5_begin_34 : decode cX5_begin 34 = .ok (.aload_n 0, 1) := by decide +kernel
theorem dX5_begin_35 : decode cX5_begin 35 = .ok (.iconst 0, 1) := by decide +kernel
theorem dX5_begin_36 : decode cX5_begin 36 = .ok (.putfield 66, 3) := by decide +kernel
theorem dX5_begin_39 : decode cX5_begin 39 = .ok (.aload_n 0, 1) := by decide +kernel
theorem dX5_begin_40 : decode cX5_begin 40 = .ok (.iconst 0, 1) := by decide +kernel
theorem dX5_begin_41 : decode cX5_begin 41 = .ok (.putfield 70, 3) := by decide +kernel
theorem dX5_begin_44 : decode cX5_begin 44 = .ok (.aload_n 0, 1) := by decide +kernel
theorem dX5_begin_45 : decode cX5_begin 45 = .ok (.iconst 0, 1) := by decide +kernel
theorem dX5_begin_46 : decode cX5_begin 46 = .ok (.putfield 73, 3) := by decide +kernel
theorem dX5_begin_49 : decode cX5_begin 49 = .ok (.aload_n 0, 1) := by decide +kernel
theorem dX5_begin_50 : decode cX5_begin 50 = .ok (.iconst 0, 1) := by decide +kernel
theorem dX5_begin_51 : decode cX5_begin 51 = .ok (.putfield 76, 3) := by decide +kernel
theorem dX5_begin_54 : decode cX5_begin 54 = .ok (.aload_n 0, 1) := by decide +kernel
theorem dX5_begin_55 : decode cX5_begin 55 = .ok (.iconst 0, 1) := by decide +kernel
theorem dX5_begin_56 : decode cX5_begin 56 = .ok (.putfield 79, 3) := by decide +kernel
theorem dX5_begin_59 : decode cX5_begin 59 = .ok (.aload_n 0, 1) := by decide +kernel
theorem dX5_begin_60 : decode cX5_begin 60 = .ok (.iconst (-1), 1) := by decide +kernel
theorem dX5_begin_61 : decode cX5_begin 61 = .ok (.putfield 82, 3) := by decide +kernel
theorem dX5_begin_64 : decode cX5_begin 64 = .ok (.return_, 1) := by decide +kernel
theorem dX5_fail_0 : decode cX5_fail 0 = .ok (.aload_n 0, 1) := by decide +kernel
theorem dX5_fail_1 : decode cX5_fail 1 = .ok (.iload_n 1, 1) := by decide +kernel
theorem dX5_fail_2 : decode cX5_fail 2 = .ok (.putfield 79, 3) := by decide +kernel
theorem dX5_fail_5 : decode cX5_fail 5 = .ok (.aload_n 0, 1) := by decide +kernel
theorem dX5_fail_6 : decode cX5_fail 6 = .ok (.aload_n 0, 1) := by decide +kernel
theorem dX5_fail_7 : decode cX5_fail 7 = .ok (.getfield 19, 3) := by decide +kernel
theorem dX5_fail_10 : decode cX5_fail 10 = .ok (.putfield 82, 3) := by decide +kernel
theorem dX5_fail_13 : decode cX5_fail 13 = .ok (.iconst 0, 1) := by decide +kernel
theorem dX5_fail_14 : decode cX5_fail 14 = .ok (.ireturn, 1) := by decide +kernel
theorem dX5_advance_0 : decode cX5_advance 0 = .ok (.aload_n 0, 1) := by decide +kernel
theorem dX5_advance_1 : decode cX5_advance 1 = .ok (.aload_n 0, 1) := by decide +kernel
theorem dX5_advance_2 : decode cX5_advance 2 = .ok (.getfield 22, 3) := by decide +kernel
theorem dX5_advance_5 : decode cX5_advance 5 = .ok (.putfield 19, 3) := by decide +kernel
theorem dX5_advance_8 : decode cX5_advance 8 = .ok (.aload_n 0, 1) := by decide +kernel
theorem dX5_advance_9 : decode cX5_advance 9 = .ok (.getfield 19, 3) := by decide +kernel
theorem dX5_advance_12 : decode cX5_advance 12 = .ok (.aload_n 0, 1) := by decide +kernel
theorem dX5_advance_13 : decode cX5_advance 13 = .ok (.getfield 15, 3) := by decide +kernel
theorem dX5_advance_16 : decode cX5_advance 16 = .ok (.if_icmp .ge 30, 3) := by decide +kernel
theorem dX5_advance_19 : decode cX5_advance 19 = .ok (.aload_n 0, 1) := by decide +kernel
theorem dX5_advance_20 : decode cX5_advance 20 = .ok (.getfield 9, 3) := by decide +kernel
theorem dX5_advance_23 : decode cX5_advance 23 = .ok (.aload_n 0, 1) := by decide +kernel
theorem dX5_advance_24 : decode cX5_advance 24 = .ok (.getfield 19, 3) := by decide +kernel
theorem dX5_advance_27 : decode cX5_advance 27 = .ok (.baload, 1) := by decide +kernel
theorem dX5_advance_28 : decode cX5_advance 28 = .ok (.bipush 32, 2) := by decide +kernel
theorem dX5_advance_30 : decode cX5_advance 30 = .ok (.if_icmp .ne 16, 3) := by decide +kernel
theorem dX5_advance_33 : decode cX5_advance 33 = .ok (.aload_n 0, 1) := by decide +kernel
theorem dX5_advance_34 : decode cX5_advance 34 = .ok (.dup, 1) := by decide +kernel
theorem dX5_advance_35 : decode cX5_advance 35 = .ok (.getfield 19, 3) := by decide +kernel
theorem dX5_advance_38 : decode cX5_advance 38 = .ok (.iconst 1, 1) := by decide +kernel
theorem dX5_advance_39 : decode cX5_advance 39 = .ok (.iadd, 1) := by decide +kernel
theorem dX5_advance_40 : decode cX5_advance 40 = .ok (.putfield 19, 3) := by decide +kernel
theorem dX5_advance_43 : decode cX5_advance 43 = .ok (.goto (-35), 3) := by decide +kernel
theorem dX5_advance_46 : decode cX5_advance 46 = .ok (.aload_n 0, 1) := by decide +kernel
theorem dX5_advance_47 : decode cX5_advance 47 = .ok (.getfield 19, 3) := by decide +kernel
theorem dX5_advance_50 : decode cX5_advance 50 = .ok (.aload_n 0, 1) := by decide +kernel
theorem dX5_advance_51 : decode cX5_advance 51 = .ok (.getfield 15, 3) := by decide +kernel
theorem dX5_advance_54 : decode cX5_advance 54 = .ok (.if_icmp .lt 19, 3) := by decide +kernel
theorem dX5_advance_57 : decode cX5_advance 57 = .ok (.aload_n 0, 1) := by decide +kernel
theorem dX5_advance_58 : decode cX5_advance 58 = .ok (.aload_n 0, 1) := by decide +kernel
theorem dX5_advance_59 : decode cX5_advance 59 = .ok (.getfield 15, 3) := by decide +kernel
theorem dX5_advance_62 : decode cX5_advance 62 = .ok (.putfield 22, 3) := by decide +kernel
theorem dX5_advance_65 : decode cX5_advance 65 = .ok (.aload_n 0, 1) := by decide +kernel
theorem dX5_advance_66 : decode cX5_advance 66 = .ok (.iconst 0, 1) := by decide +kernel
theorem dX5_advance_67 : decode cX5_advance 67 = .ok (.putfield 25, 3) := by decide +kernel
theorem dX5_advance_70 : decode cX5_advance 70 = .ok (.goto 51, 3) := by decide +kernel
theorem dX5_advance_73 : decode cX5_advance 73 = .ok (.aload_n 0, 1) := by decide +kernel
theorem dX5_advance_74 : decode cX5_advance 74 = .ok (.getfield 9, 3) := by decide +kernel
theorem dX5_advance_77 : decode cX5_advance 77 = .ok (.aload_n 0, 1) := by decide +kernel
theorem dX5_advance_78 : decode cX5_advance 78 = .ok (.getfield 19, 3) := by decide +kernel
theorem dX5_advance_81 : decode cX5_advance 81 = .ok (.baload, 1) := by decide +kernel
theorem dX5_advance_82 : decode cX5_advance 82 = .ok (.invokestatic 113, 3) := by decide +kernel
theorem dX5_advance_85 : decode cX5_advance 85 = .ok (.ifCond .eq 10, 3) := by decide +kernel
theorem dX5_advance_88 : decode cX5_advance 88 = .ok (.aload_n 0, 1) := by decide +kernel
theorem dX5_advance_89 : decode cX5_advance 89 = .ok (.invokevirtual 116, 3) := by decide +kernel
theorem dX5_advance_92 : decode cX5_advance 92 = .ok (.goto 29, 3) := by decide +kernel
theorem dX5_advance_95 : decode cX5_advance 95 = .ok (.aload_n 0, 1) := by decide +kernel
theorem dX5_advance_96 : decode cX5_advance 96 = .ok (.getfield 9, 3) := by decide +kernel
theorem dX5_advance_99 : decode cX5_advance 99 = .ok (.aload_n 0, 1) := by decide +kernel
theorem dX5_advance_100 : decode cX5_advance 100 = .ok (.getfield 19, 3) := by decide +kernel
theorem dX5_advance_103 : decode cX5_advance 103 = .ok (.baload, 1) := by decide +kernel
theorem dX5_advance_104 : decode cX5_advance 104 = .ok (.invokestatic 119, 3) := by decide +kernel
theorem dX5_advance_107 : decode cX5_advance 107 = .ok (.ifCond .eq 10, 3) := by decide +kernel
theorem dX5_advance_110 : decode cX5_advance 110 = .ok (.aload_n 0, 1) := by decide +kernel
theorem dX5_advance_111 : decode cX5_advance 111 = .ok (.invokevirtual 122, 3) := by decide +kernel
theorem dX5_advance_114 : decode cX5_advance 114 = .ok (.goto 7, 3) := by decide +kernel
theorem dX5_advance_117 : decode cX5_advance 117 = .ok (.aload_n 0, 1) := by decide +kernel
theorem dX5_advance_118 : decode cX5_advance 118 = .ok (.invokevirtual 125, 3) := by decide +kernel
theorem dX5_advance_121 : decode cX5_advance 121 = .ok (.return_, 1) := by decide +kernel
theorem dX5_takeWord_0 : decode cX5_takeWord 0 = .ok (.aload_n 0, 1) := by decide +kernel
theorem dX5_takeWord_1 : decode cX5_takeWord 1 = .ok (.aload_n 0, 1) := by decide +kernel
theorem dX5_takeWord_2 : decode cX5_takeWord 2 = .ok (.getfield 19, 3) := by decide +kernel
theorem dX5_takeWord_5 : decode cX5_takeWord 5 = .ok (.putfield 22, 3) := by decide +kernel
theorem dX5_takeWord_8 : decode cX5_takeWord 8 = .ok (.aload_n 0, 1) := by decide +kernel
theorem dX5_takeWord_9 : decode cX5_takeWord 9 = .ok (.lconst 0, 1) := by decide +kernel
theorem dX5_takeWord_10 : decode cX5_takeWord 10 = .ok (.putfield 28, 3) := by decide +kernel
theorem dX5_takeWord_13 : decode cX5_takeWord 13 = .ok (.aload_n 0, 1) := by decide +kernel
theorem dX5_takeWord_14 : decode cX5_takeWord 14 = .ok (.getfield 22, 3) := by decide +kernel
theorem dX5_takeWord_17 : decode cX5_takeWord 17 = .ok (.aload_n 0, 1) := by decide +kernel
theorem dX5_takeWord_18 : decode cX5_takeWord 18 = .ok (.getfield 15, 3) := by decide +kernel
theorem dX5_takeWord_21 : decode cX5_takeWord 21 = .ok (.if_icmp .ge 59, 3) := by decide +kernel
theorem dX5_takeWord_24 : decode cX5_takeWord 24 = .ok (.aload_n 0, 1) := by decide +kernel
theorem dX5_takeWord_25 : decode cX5_takeWord 25 = .ok (.getfield 9, 3) := by decide +kernel
theorem dX5_takeWord_28 : decode cX5_takeWord 28 = .ok (.aload_n 0, 1) := by decide +kernel
theorem dX5_takeWord_29 : decode cX5_takeWord 29 = .ok (.getfield 22, 3) := by decide +kernel
theorem dX5_takeWord_32 : decode cX5_takeWord 32 = .ok (.baload, 1) := by decide +kernel
theorem dX5_takeWord_33 : decode cX5_takeWord 33 = .ok (.invokestatic 113, 3) := by decide +kernel
theorem dX5_takeWord_36 : decode cX5_takeWord 36 = .ok (.ifCond .eq 44, 3) := by decide +kernel
theorem dX5_takeWord_39 : decode cX5_takeWord 39 = .ok (.aload_n 0, 1) := by decide +kernel
theorem dX5_takeWord_40 : decode cX5_takeWord 40 = .ok (.aload_n 0, 1) := by decide +kernel
theorem dX5_takeWord_41 : decode cX5_takeWord 41 = .ok (.getfield 28, 3) := by decide +kernel
theorem dX5_takeWord_44 : decode cX5_takeWord 44 = .ok (.ldc2_w 128, 3) := by decide +kernel
theorem dX5_takeWord_47 : decode cX5_takeWord 47 = .ok (.lmul, 1) := by decide +kernel
theorem dX5_takeWord_48 : decode cX5_takeWord 48 = .ok (.aload_n 0, 1) := by decide +kernel
theorem dX5_takeWord_49 : decode cX5_takeWord 49 = .ok (.getfield 9, 3) := by decide +kernel
theorem dX5_takeWord_52 : decode cX5_takeWord 52 = .ok (.aload_n 0, 1) := by decide +kernel
theorem dX5_takeWord_53 : decode cX5_takeWord 53 = .ok (.getfield 22, 3) := by decide +kernel
theorem dX5_takeWord_56 : decode cX5_takeWord 56 = .ok (.baload, 1) := by decide +kernel
theorem dX5_takeWord_57 : decode cX5_takeWord 57 = .ok (.bipush 97, 2) := by decide +kernel
theorem dX5_takeWord_59 : decode cX5_takeWord 59 = .ok (.isub, 1) := by decide +kernel
theorem dX5_takeWord_60 : decode cX5_takeWord 60 = .ok (.iconst 1, 1) := by decide +kernel
theorem dX5_takeWord_61 : decode cX5_takeWord 61 = .ok (.iadd, 1) := by decide +kernel
theorem dX5_takeWord_62 : decode cX5_takeWord 62 = .ok (.i2l, 1) := by decide +kernel
theorem dX5_takeWord_63 : decode cX5_takeWord 63 = .ok (.ladd, 1) := by decide +kernel
theorem dX5_takeWord_64 : decode cX5_takeWord 64 = .ok (.putfield 28, 3) := by decide +kernel
theorem dX5_takeWord_67 : decode cX5_takeWord 67 = .ok (.aload_n 0, 1) := by decide +kernel
theorem dX5_takeWord_68 : decode cX5_takeWord 68 = .ok (.dup, 1) := by decide +kernel
theorem dX5_takeWord_69 : decode cX5_takeWord 69 = .ok (.getfield 22, 3) := by decide +kernel
theorem dX5_takeWord_72 : decode cX5_takeWord 72 = .ok (.iconst 1, 1) := by decide +kernel
theorem dX5_takeWord_73 : decode cX5_takeWord 73 = .ok (.iadd, 1) := by decide +kernel
theorem dX5_takeWord_74 : decode cX5_takeWord 74 = .ok (.putfield 22, 3) := by decide +kernel
theorem dX5_takeWord_77 : decode cX5_takeWord 77 = .ok (.goto (-64), 3) := by decide +kernel
theorem dX5_takeWord_80 : decode cX5_takeWord 80 = .ok (.aload_n 0, 1) := by decide +kernel
theorem dX5_takeWord_81 : decode cX5_takeWord 81 = .ok (.aload_n 0, 1) := by decide +kernel
theorem dX5_takeWord_82 : decode cX5_takeWord 82 = .ok (.getfield 22, 3) := by decide +kernel
theorem dX5_takeWord_85 : decode cX5_takeWord 85 = .ok (.aload_n 0, 1) := by decide +kernel
theorem dX5_takeWord_86 : decode cX5_takeWord 86 = .ok (.getfield 19, 3) := by decide +kernel
theorem dX5_takeWord_89 : decode cX5_takeWord 89 = .ok (.isub, 1) := by decide +kernel
theorem dX5_takeWord_90 : decode cX5_takeWord 90 = .ok (.bipush 8, 2) := by decide +kernel
theorem dX5_takeWord_92 : decode cX5_takeWord 92 = .ok (.if_icmp .gt 7, 3) := by decide +kernel
theorem dX5_takeWord_95 : decode cX5_takeWord 95 = .ok (.iconst 1, 1) := by decide +kernel
theorem dX5_takeWord_96 : decode cX5_takeWord 96 = .ok (.goto 4, 3) := by decide +kernel
theorem dX5_takeWord_99 : decode cX5_takeWord 99 = .ok (.iconst 5, 1) := by decide +kernel
theorem dX5_takeWord_100 : decode cX5_takeWord 100 = .ok (.putfield 25, 3) := by decide +kernel
theorem dX5_takeWord_103 : decode cX5_takeWord 103 = .ok (.return_, 1) := by decide +kernel
theorem dX5_takeWhole_0 : decode cX5_takeWhole 0 = .ok (.aload_n 0, 1) := by decide +kernel
theorem dX5_takeWhole_1 : decode cX5_takeWhole 1 = .ok (.aload_n 0, 1) := by decide +kernel
theorem dX5_takeWhole_2 : decode cX5_takeWhole 2 = .ok (.getfield 19, 3) := by decide +kernel
theorem dX5_takeWhole_5 : decode cX5_takeWhole 5 = .ok (.putfield 22, 3) := by decide +kernel
theorem dX5_takeWhole_8 : decode cX5_takeWhole 8 = .ok (.aload_n 0, 1) := by decide +kernel
theorem dX5_takeWhole_9 : decode cX5_takeWhole 9 = .ok (.iconst 0, 1) := by decide +kernel
theorem dX5_takeWhole_10 : decode cX5_takeWhole 10 = .ok (.putfield 32, 3) := by decide +kernel
theorem dX5_takeWhole_13 : decode cX5_takeWhole 13 = .ok (.aload_n 0, 1) := by decide +kernel
theorem dX5_takeWhole_14 : decode cX5_takeWhole 14 = .ok (.getfield 22, 3) := by decide +kernel
theorem dX5_takeWhole_17 : decode cX5_takeWhole 17 = .ok (.aload_n 0, 1) := by decide +kernel
theorem dX5_takeWhole_18 : decode cX5_takeWhole 18 = .ok (.getfield 15, 3) := by decide +kernel
theorem dX5_takeWhole_21 : decode cX5_takeWhole 21 = .ok (.if_icmp .ge 55, 3) := by decide +kernel
theorem dX5_takeWhole_24 : decode cX5_takeWhole 24 = .ok (.aload_n 0, 1) := by decide +kernel
theorem dX5_takeWhole_25 : decode cX5_takeWhole 25 = .ok (.getfield 9, 3) := by decide +kernel
theorem dX5_takeWhole_28 : decode cX5_takeWhole 28 = .ok (.aload_n 0, 1) := by decide +kernel
theorem dX5_takeWhole_29 : decode cX5_takeWhole 29 = .ok (.getfield 22, 3) := by decide +kernel
theorem dX5_takeWhole_32 : decode cX5_takeWhole 32 = .ok (.baload, 1) := by decide +kernel
theorem dX5_takeWhole_33 : decode cX5_takeWhole 33 = .ok (.invokestatic 119, 3) := by decide +kernel
theorem dX5_takeWhole_36 : decode cX5_takeWhole 36 = .ok (.ifCond .eq 40, 3) := by decide +kernel
theorem dX5_takeWhole_39 : decode cX5_takeWhole 39 = .ok (.aload_n 0, 1) := by decide +kernel
theorem dX5_takeWhole_40 : decode cX5_takeWhole 40 = .ok (.aload_n 0, 1) := by decide +kernel
theorem dX5_takeWhole_41 : decode cX5_takeWhole 41 = .ok (.getfield 32, 3) := by decide +kernel
theorem dX5_takeWhole_44 : decode cX5_takeWhole 44 = .ok (.bipush 10, 2) := by decide +kernel
theorem dX5_takeWhole_46 : decode cX5_takeWhole 46 = .ok (.imul, 1) := by decide +kernel
theorem dX5_takeWhole_47 : decode cX5_takeWhole 47 = .ok (.aload_n 0, 1) := by decide +kernel
theorem dX5_takeWhole_48 : decode cX5_takeWhole 48 = .ok (.getfield 9, 3) := by decide +kernel
theorem dX5_takeWhole_51 : decode cX5_takeWhole 51 = .ok (.aload_n 0, 1) := by decide +kernel
theorem dX5_takeWhole_52 : decode cX5_takeWhole 52 = .ok (.getfield 22, 3) := by decide +kernel
theorem dX5_takeWhole_55 : decode cX5_takeWhole 55 = .ok (.baload, 1) := by decide +kernel
theorem dX5_takeWhole_56 : decode cX5_takeWhole 56 = .ok (.bipush 48, 2) := by decide +kernel
theorem dX5_takeWhole_58 : decode cX5_takeWhole 58 = .ok (.isub, 1) := by decide +kernel
theorem dX5_takeWhole_59 : decode cX5_takeWhole 59 = .ok (.iadd, 1) := by decide +kernel
theorem dX5_takeWhole_60 : decode cX5_takeWhole 60 = .ok (.putfield 32, 3) := by decide +kernel
theorem dX5_takeWhole_63 : decode cX5_takeWhole 63 = .ok (.aload_n 0, 1) := by decide +kernel
theorem dX5_takeWhole_64 : decode cX5_takeWhole 64 = .ok (.dup, 1) := by decide +kernel
theorem dX5_takeWhole_65 : decode cX5_takeWhole 65 = .ok (.getfield 22, 3) := by decide +kernel
theorem dX5_takeWhole_68 : decode cX5_takeWhole 68 = .ok (.iconst 1, 1) := by decide +kernel
theorem dX5_takeWhole_69 : decode cX5_takeWhole 69 = .ok (.iadd, 1) := by decide +kernel
theorem dX5_takeWhole_70 : decode cX5_takeWhole 70 = .ok (.putfield 22, 3) := by decide +kernel
theorem dX5_takeWhole_73 : decode cX5_takeWhole 73 = .ok (.goto (-60), 3) := by decide +kernel
theorem dX5_takeWhole_76 : decode cX5_takeWhole 76 = .ok (.aload_n 0, 1) := by decide +kernel
theorem dX5_takeWhole_77 : decode cX5_takeWhole 77 = .ok (.aload_n 0, 1) := by decide +kernel
theorem dX5_takeWhole_78 : decode cX5_takeWhole 78 = .ok (.getfield 22, 3) := by decide +kernel
theorem dX5_takeWhole_81 : decode cX5_takeWhole 81 = .ok (.aload_n 0, 1) := by decide +kernel
theorem dX5_takeWhole_82 : decode cX5_takeWhole 82 = .ok (.getfield 19, 3) := by decide +kernel
theorem dX5_takeWhole_85 : decode cX5_takeWhole 85 = .ok (.isub, 1) := by decide +kernel
theorem dX5_takeWhole_86 : decode cX5_takeWhole 86 = .ok (.iconst 3, 1) := by decide +kernel
theorem dX5_takeWhole_87 : decode cX5_takeWhole 87 = .ok (.if_icmp .gt 7, 3) := by decide +kernel
theorem dX5_takeWhole_90 : decode cX5_takeWhole 90 = .ok (.iconst 2, 1) := by decide +kernel
theorem dX5_takeWhole_91 : decode cX5_takeWhole 91 = .ok (.goto 4, 3) := by decide +kernel
theorem dX5_takeWhole_94 : decode cX5_takeWhole 94 = .ok (.iconst 5, 1) := by decide +kernel
theorem dX5_takeWhole_95 : decode cX5_takeWhole 95 = .ok (.putfield 25, 3) := by decide +kernel
theorem dX5_takeWhole_98 : decode cX5_takeWhole 98 = .ok (.return_, 1) := by decide +kernel
theorem dX5_takeSign_0 : decode cX5_takeSign 0 = .ok (.aload_n 0, 1) := by decide +kernel
theorem dX5_takeSign_1 : decode cX5_takeSign 1 = .ok (.aload_n 0, 1) := by decide +kernel
theorem dX5_takeSign_2 : decode cX5_takeSign 2 = .ok (.getfield 19, 3) := by decide +kernel
theorem dX5_takeSign_5 : decode cX5_takeSign 5 = .ok (.iconst 1, 1) := by decide +kernel
theorem dX5_takeSign_6 : decode cX5_takeSign 6 = .ok (.iadd, 1) := by decide +kernel
theorem dX5_takeSign_7 : decode cX5_takeSign 7 = .ok (.putfield 22, 3) := by decide +kernel
theorem dX5_takeSign_10 : decode cX5_takeSign 10 = .ok (.aload_n 0, 1) := by decide +kernel
theorem dX5_takeSign_11 : decode cX5_takeSign 11 = .ok (.getfield 9, 3) := by decide +kernel
theorem dX5_takeSign_14 : decode cX5_takeSign 14 = .ok (.aload_n 0, 1) := by decide +kernel
theorem dX5_takeSign_15 : decode cX5_takeSign 15 = .ok (.getfield 19, 3) := by decide +kernel
theorem dX5_takeSign_18 : decode cX5_takeSign 18 = .ok (.baload, 1) := by decide +kernel
theorem dX5_takeSign_19 : decode cX5_takeSign 19 = .ok (.bipush 59, 2) := by decide +kernel
theorem dX5_takeSign_21 : decode cX5_takeSign 21 = .ok (.if_icmp .ne 11, 3) := by decide +kernel
theorem dX5_takeSign_24 : decode cX5_takeSign 24 = .ok (.aload_n 0, 1) := by decide +kernel
theorem dX5_takeSign_25 : decode cX5_takeSign 25 = .ok (.iconst 3, 1) := by decide +kernel
theorem dX5_takeSign_26 : decode cX5_takeSign 26 = .ok (.putfield 25, 3) := by decide +kernel
theorem dX5_takeSign_29 : decode cX5_takeSign 29 = .ok (.goto 26, 3) := by decide +kernel
theorem dX5_takeSign_32 : decode cX5_takeSign 32 = .ok (.aload_n 0, 1) := by decide +kernel
theorem dX5_takeSign_33 : decode cX5_takeSign 33 = .ok (.aload_n 0, 1) := by decide +kernel
theorem dX5_takeSign_34 : decode cX5_takeSign 34 = .ok (.getfield 9, 3) := by decide +kernel
theorem dX5_takeSign_37 : decode cX5_takeSign 37 = .ok (.aload_n 0, 1) := by decide +kernel
theorem dX5_takeSign_38 : decode cX5_takeSign 38 = .ok (.getfield 19, 3) := by decide +kernel
theorem dX5_takeSign_41 : decode cX5_takeSign 41 = .ok (.baload, 1) := by decide +kernel
theorem dX5_takeSign_42 : decode cX5_takeSign 42 = .ok (.bipush 44, 2) := by decide +kernel
theorem dX5_takeSign_44 : decode cX5_takeSign 44 = .ok (.if_icmp .ne 7, 3) := by decide +kernel
theorem dX5_takeSign_47 : decode cX5_takeSign 47 = .ok (.iconst 4, 1) := by decide +kernel
theorem dX5_takeSign_48 : decode cX5_takeSign 48 = .ok (.goto 4, 3) := by decide +kernel
theorem dX5_takeSign_51 : decode cX5_takeSign 51 = .ok (.iconst 5, 1) := by decide +kernel
theorem dX5_takeSign_52 : decode cX5_takeSign 52 = .ok (.putfield 25, 3) := by decide +kernel
theorem dX5_takeSign_55 : decode cX5_takeSign 55 = .ok (.return_, 1) := by decide +kernel
theorem dX5_isLetter_0 : decode cX5_isLetter 0 = .ok (.iload_n 0, 1) := by decide +kernel
theorem dX5_isLetter_1 : decode cX5_isLetter 1 = .ok (.bipush 97, 2) := by decide +kernel
theorem dX5_isLetter_3 : decode cX5_isLetter 3 = .ok (.if_icmp .lt 13, 3) := by decide +kernel
theorem dX5_isLetter_6 : decode cX5_isLetter 6 = .ok (.iload_n 0, 1) := by decide +kernel
theorem dX5_isLetter_7 : decode cX5_isLetter 7 = .ok (.bipush 122, 2) := by decide +kernel
theorem dX5_isLetter_9 : decode cX5_isLetter 9 = .ok (.if_icmp .gt 7, 3) := by decide +kernel
theorem dX5_isLetter_12 : decode cX5_isLetter 12 = .ok (.iconst 1, 1) := by decide +kernel
theorem dX5_isLetter_13 : decode cX5_isLetter 13 = .ok (.goto 4, 3) := by decide +kernel
theorem dX5_isLetter_16 : decode cX5_isLetter 16 = .ok (.iconst 0, 1) := by decide +kernel
theorem dX5_isLetter_17 : decode cX5_isLetter 17 = .ok (.ireturn, 1) := by decide +kernel
theorem dX5_isDigit_0 : decode cX5_isDigit 0 = .ok (.iload_n 0, 1) := by decide +kernel
theorem dX5_isDigit_1 : decode cX5_isDigit 1 = .ok (.bipush 48, 2) := by decide +kernel
theorem dX5_isDigit_3 : decode cX5_isDigit 3 = .ok (.if_icmp .lt 13, 3) := by decide +kernel
theorem dX5_isDigit_6 : decode cX5_isDigit 6 = .ok (.iload_n 0, 1) := by decide +kernel
theorem dX5_isDigit_7 : decode cX5_isDigit 7 = .ok (.bipush 57, 2) := by decide +kernel
theorem dX5_isDigit_9 : decode cX5_isDigit 9 = .ok (.if_icmp .gt 7, 3) := by decide +kernel
theorem dX5_isDigit_12 : decode cX5_isDigit 12 = .ok (.iconst 1, 1) := by decide +kernel
theorem dX5_isDigit_13 : decode cX5_isDigit 13 = .ok (.goto 4, 3) := by decide +kernel
theorem dX5_isDigit_16 : decode cX5_isDigit 16 = .ok (.iconst 0, 1) := by decide +kernel
theorem dX5_isDigit_17 : decode cX5_isDigit 17 = .ok (.ireturn, 1) := by decide +kernel
theorem dX5_isWord_0 : decode cX5_isWord 0 = .ok (.aload_n 0, 1) := by decide +kernel
theorem dX5_isWord_1 : decode cX5_isWord 1 = .ok (.getfield 25, 3) := by decide +kernel
theorem dX5_isWord_4 : decode cX5_isWord 4 = .ok (.iconst 1, 1) := by decide +kernel
theorem dX5_isWord_5 : decode cX5_isWord 5 = .ok (.if_icmp .ne 19, 3) := by decide +kernel
theorem dX5_isWord_8 : decode cX5_isWord 8 = .ok (.aload_n 0, 1) := by decide +kernel
theorem dX5_isWord_9 : decode cX5_isWord 9 = .ok (.getfield 22, 3) := by decide +kernel
theorem dX5_isWord_12 : decode cX5_isWord 12 = .ok (.aload_n 0, 1) := by decide +kernel
theorem dX5_isWord_13 : decode cX5_isWord 13 = .ok (.getfield 19, 3) := by decide +kernel
theorem dX5_isWord_16 : decode cX5_isWord 16 = .ok (.isub, 1) := by decide +kernel
theorem dX5_isWord_17 : decode cX5_isWord 17 = .ok (.aload_n 1, 1) := by decide +kernel
theorem dX5_isWord_18 : decode cX5_isWord 18 = .ok (.invokevirtual 130, 3) := by decide +kernel
theorem dX5_isWord_21 : decode cX5_isWord 21 = .ok (.if_icmp .eq 5, 3) := by decide +kernel
theorem dX5_isWord_24 : decode cX5_isWord 24 = .ok (.iconst 0, 1) := by decide +kernel
theorem dX5_isWord_25 : decode cX5_isWord 25 = .ok (.ireturn, 1) := by decide +kernel
theorem dX5_isWord_26 : decode cX5_isWord 26 = .ok (.iconst 0, 1) := by decide +kernel
theorem dX5_isWord_27 : decode cX5_isWord 27 = .ok (.istore_n 2, 1) := by decide +kernel
theorem dX5_isWord_28 : decode cX5_isWord 28 = .ok (.iload_n 2, 1) := by decide +kernel
theorem dX5_isWord_29 : decode cX5_isWord 29 = .ok (.aload_n 1, 1) := by decide +kernel
theorem dX5_isWord_30 : decode cX5_isWord 30 = .ok (.invokevirtual 130, 3) := by decide +kernel
theorem dX5_isWord_33 : decode cX5_isWord 33 = .ok (.if_icmp .ge 30, 3) := by decide +kernel
theorem dX5_isWord_36 : decode cX5_isWord 36 = .ok (.aload_n 0, 1) := by decide +kernel
theorem dX5_isWord_37 : decode cX5_isWord 37 = .ok (.getfield 9, 3) := by decide +kernel
theorem dX5_isWord_40 : decode cX5_isWord 40 = .ok (.aload_n 0, 1) := by decide +kernel
theorem dX5_isWord_41 : decode cX5_isWord 41 = .ok (.getfield 19, 3) := by decide +kernel
theorem dX5_isWord_44 : decode cX5_isWord 44 = .ok (.iload_n 2, 1) := by decide +kernel
theorem dX5_isWord_45 : decode cX5_isWord 45 = .ok (.iadd, 1) := by decide +kernel
theorem dX5_isWord_46 : decode cX5_isWord 46 = .ok (.baload, 1) := by decide +kernel
theorem dX5_isWord_47 : decode cX5_isWord 47 = .ok (.aload_n 1, 1) := by decide +kernel
theorem dX5_isWord_48 : decode cX5_isWord 48 = .ok (.iload_n 2, 1) := by decide +kernel
theorem dX5_isWord_49 : decode cX5_isWord 49 = .ok (.invokevirtual 136, 3) := by decide +kernel
theorem dX5_isWord_52 : decode cX5_isWord 52 = .ok (.if_icmp .eq 5, 3) := by decide +kernel
theorem dX5_isWord_55 : decode cX5_isWord 55 = .ok (.iconst 0, 1) := by decide +kernel
theorem dX5_isWord_56 : decode cX5_isWord 56 = .ok (.ireturn, 1) := by decide +kernel
theorem dX5_isWord_57 : decode cX5_isWord 57 = .ok (.iinc 2 1, 3) := by decide +kernel
theorem dX5_isWord_60 : decode cX5_isWord 60 = .ok (.goto (-32), 3) := by decide +kernel
theorem dX5_isWord_63 : decode cX5_isWord 63 = .ok (.iconst 1, 1) := by decide +kernel
theorem dX5_isWord_64 : decode cX5_isWord 64 = .ok (.ireturn, 1) := by decide +kernel
theorem dX5_isName_0 : decode cX5_isName 0 = .ok (.aload_n 0, 1) := by decide +kernel
theorem dX5_isName_1 : decode cX5_isName 1 = .ok (.getfield 25, 3) := by decide +kernel
theorem dX5_isName_4 : decode cX5_isName 4 = .ok (.iconst 1, 1) := by decide +kernel
theorem dX5_isName_5 : decode cX5_isName 5 = .ok (.if_icmp .ne 115, 3) := by decide +kernel
theorem dX5_isName_8 : decode cX5_isName 8 = .ok (.aload_n 0, 1) := by decide +kernel
theorem dX5_isName_9 : decode cX5_isName 9 = .ok (.ldc 140, 2) := by decide +kernel
theorem dX5_isName_11 : decode cX5_isName 11 = .ok (.invokevirtual 142, 3) := by decide +kernel
theorem dX5_isName_14 : decode cX5_isName 14 = .ok (.ifCond .ne 106, 3) := by decide +kernel
theorem dX5_isName_17 : decode cX5_isName 17 = .ok (.aload_n 0, 1) := by decide +kernel
theorem dX5_isName_18 : decode cX5_isName 18 = .ok (.ldc 146, 2) := by decide +kernel
theorem dX5_isName_20 : decode cX5_isName 20 = .ok (.invokevirtual 142, 3) := by decide +kernel
theorem dX5_isName_23 : decode cX5_isName 23 = .ok (.ifCond .ne 97, 3) := by decide +kernel
theorem dX5_isName_26 : decode cX5_isName 26 = .ok (.aload_n 0, 1) := by decide +kernel
theorem dX5_isName_27 : decode cX5_isName 27 = .ok (.ldc 148, 2) := by decide +kernel
theorem dX5_isName_29 : decode cX5_isName 29 = .ok (.invokevirtual 142, 3) := by decide +kernel
theorem dX5_isName_32 : decode cX5_isName 32 = .ok (.ifCond .ne 88, 3) := by decide +kernel
theorem dX5_isName_35 : decode cX5_isName 35 = .ok (.aload_n 0, 1) := by decide +kernel
theorem dX5_isName_36 : decode cX5_isName 36 = .ok (.ldc 150, 2) := by decide +kernel
theorem dX5_isName_38 : decode cX5_isName 38 = .ok (.invokevirtual 142, 3) := by decide +kernel
theorem dX5_isName_41 : decode cX5_isName 41 = .ok (.ifCond .ne 79, 3) := by decide +kernel
theorem dX5_isName_44 : decode cX5_isName 44 = .ok (.aload_n 0, 1) := by decide +kernel
theorem dX5_isName_45 : decode cX5_isName 45 = .ok (.ldc 152, 2) := by decide +kernel
theorem dX5_isName_47 : decode cX5_isName 47 = .ok (.invokevirtual 142, 3) := by decide +kernel
theorem dX5_isName_50 : decode cX5_isName 50 = .ok (.ifCond .ne 70, 3) := by decide +kernel
theorem dX5_isName_53 : decode cX5_isName 53 = .ok (.aload_n 0, 1) := by decide +kernel
theorem dX5_isName_54 : decode cX5_isName 54 = .ok (.ldc 154, 2) := by decide +kernel
theorem dX5_isName_56 : decode cX5_isName 56 = .ok (.invokevirtual 142, 3) := by decide +kernel
theorem dX5_isName_59 : decode cX5_isName 59 = .ok (.ifCond .ne 61, 3) := by decide +kernel
theorem dX5_isName_62 : decode cX5_isName 62 = .ok (.aload_n 0, 1) := by decide +kernel
theorem dX5_isName_63 : decode cX5_isName 63 = .ok (.ldc 156, 2) := by decide +kernel
theorem dX5_isName_65 : decode cX5_isName 65 = .ok (.invokevirtual 142, 3) := by decide +kernel
theorem dX5_isName_68 : decode cX5_isName 68 = .ok (.ifCond .ne 52, 3) := by decide +kernel
theorem dX5_isName_71 : decode cX5_isName 71 = .ok (.aload_n 0, 1) := by decide +kernel
theorem dX5_isName_72 : decode cX5_isName 72 = .ok (.ldc 158, 2) := by decide +kernel
theorem dX5_isName_74 : decode cX5_isName 74 = .ok (.invokevirtual 142, 3) := by decide +kernel
theorem dX5_isName_77 : decode cX5_isName 77 = .ok (.ifCond .ne 43, 3) := by decide +kernel
theorem dX5_isName_80 : decode cX5_isName 80 = .ok (.aload_n 0, 1) := by decide +kernel
theorem dX5_isName_81 : decode cX5_isName 81 = .ok (.ldc 160, 2) := by decide +kernel
theorem dX5_isName_83 : decode cX5_isName 83 = .ok (.invokevirtual 142, 3) := by decide +kernel
theorem dX5_isName_86 : decode cX5_isName 86 = .ok (.ifCond .ne 34, 3) := by decide +kernel
theorem dX5_isName_89 : decode cX5_isName 89 = .ok (.aload_n 0, 1) := by decide +kernel
theorem dX5_isName_90 : decode cX5_isName 90 = .ok (.ldc 162, 2) := by decide +kernel
theorem dX5_isName_92 : decode cX5_isName 92 = .ok (.invokevirtual 142, 3) := by decide +kernel
theorem dX5_isName_95 : decode cX5_isName 95 = .ok (.ifCond .ne 25, 3) := by decide +kernel
theorem dX5_isName_98 : decode cX5_isName 98 = .ok (.aload_n 0, 1) := by decide +kernel
theorem dX5_isName_99 : decode cX5_isName 99 = .ok (.ldc 164, 2) := by decide +kernel
theorem dX5_isName_101 : decode cX5_isName 101 = .ok (.invokevirtual 142, 3) := by decide +kernel
theorem dX5_isName_104 : decode cX5_isName 104 = .ok (.ifCond .ne 16, 3) := by decide +kernel
theorem dX5_isName_107 : decode cX5_isName 107 = .ok (.aload_n 0, 1) := by decide +kernel
theorem dX5_isName_108 : decode cX5_isName 108 = .ok (.ldc 166, 2) := by decide +kernel
theorem dX5_isName_110 : decode cX5_isName 110 = .ok (.invokevirtual 142, 3) := by decide +kernel
theorem dX5_isName_113 : decode cX5_isName 113 = .ok (.ifCond .ne 7, 3) := by decide +kernel
theorem dX5_isName_116 : decode cX5_isName 116 = .ok (.iconst 1, 1) := by decide +kernel
theorem dX5_isName_117 : decode cX5_isName 117 = .ok (.goto 4, 3) := by decide +kernel
theorem dX5_isName_120 : decode cX5_isName 120 = .ok (.iconst 0, 1) := by decide +kernel
theorem dX5_isName_121 : decode cX5_isName 121 = .ok (.ireturn, 1) := by decide +kernel
theorem dX5_passWord_0 : decode cX5_passWord 0 = .ok (.aload_n 0, 1) := by decide +kernel
theorem dX5_passWord_1 : decode cX5_passWord 1 = .ok (.aload_n 1, 1) := by decide +kernel
theorem dX5_passWord_2 : decode cX5_passWord 2 = .ok (.invokevirtual 142, 3) := by decide +kernel
theorem dX5_passWord_5 : decode cX5_passWord 5 = .ok (.ifCond .ne 9, 3) := by decide +kernel
theorem dX5_passWord_8 : decode cX5_passWord 8 = .ok (.aload_n 0, 1) := by decide +kernel
theorem dX5_passWord_9 : decode cX5_passWord 9 = .ok (.iconst 1, 1) := by decide +kernel
theorem dX5_passWord_10 : decode cX5_passWord 10 = .ok (.invokevirtual 105, 3) := by decide +kernel
theorem dX5_passWord_13 : decode cX5_passWord 13 = .ok (.ireturn, 1) := by decide +kernel
theorem dX5_passWord_14 : decode cX5_passWord 14 = .ok (.aload_n 0, 1) := by decide +kernel
theorem dX5_passWord_15 : decode cX5_passWord 15 = .ok (.invokevirtual 95, 3) := by decide +kernel
theorem dX5_passWord_18 : decode cX5_passWord 18 = .ok (.iconst 1, 1) := by decide +kernel
theorem dX5_passWord_19 : decode cX5_passWord 19 = .ok (.ireturn, 1) := by decide +kernel
theorem dX5_passWhole_0 : decode cX5_passWhole 0 = .ok (.aload_n 0, 1) := by decide +kernel
theorem dX5_passWhole_1 : decode cX5_passWhole 1 = .ok (.getfield 25, 3) := by decide +kernel
theorem dX5_passWhole_4 : decode cX5_passWhole 4 = .ok (.iconst 2, 1) := by decide +kernel
theorem dX5_passWhole_5 : decode cX5_passWhole 5 = .ok (.if_icmp .eq 9, 3) := by decide +kernel
theorem dX5_passWhole_8 : decode cX5_passWhole 8 = .ok (.aload_n 0, 1) := by decide +kernel
theorem dX5_passWhole_9 : decode cX5_passWhole 9 = .ok (.iconst 1, 1) := by decide +kernel
theorem dX5_passWhole_10 : decode cX5_passWhole 10 = .ok (.invokevirtual 105, 3) := by decide +kernel
theorem dX5_passWhole_13 : decode cX5_passWhole 13 = .ok (.ireturn, 1) := by decide +kernel
theorem dX5_passWhole_14 : decode cX5_passWhole 14 = .ok (.aload_n 0, 1) := by decide +kernel
theorem dX5_passWhole_15 : decode cX5_passWhole 15 = .ok (.getfield 32, 3) := by decide +kernel
theorem dX5_passWhole_18 : decode cX5_passWhole 18 = .ok (.iload_n 1, 1) := by decide +kernel
theorem dX5_passWhole_19 : decode cX5_passWhole 19 = .ok (.if_icmp .lt 11, 3) := by decide +kernel
theorem dX5_passWhole_22 : decode cX5_passWhole 22 = .ok (.aload_n 0, 1) := by decide +kernel
theorem dX5_passWhole_23 : decode cX5_passWhole 23 = .ok (.getfield 32, 3) := by decide +kernel
theorem dX5_passWhole_26 : decode cX5_passWhole 26 = .ok (.iload_n 2, 1) := by decide +kernel
theorem dX5_passWhole_27 : decode cX5_passWhole 27 = .ok (.if_icmp .le 9, 3) := by decide +kernel
theorem dX5_passWhole_30 : decode cX5_passWhole 30 = .ok (.aload_n 0, 1) := by decide +kernel
theorem dX5_passWhole_31 : decode cX5_passWhole 31 = .ok (.iconst 4, 1) := by decide +kernel
theorem dX5_passWhole_32 : decode cX5_passWhole 32 = .ok (.invokevirtual 105, 3) := by decide +kernel
theorem dX5_passWhole_35 : decode cX5_passWhole 35 = .ok (.ireturn, 1) := by decide +kernel
theorem dX5_passWhole_36 : decode cX5_passWhole 36 = .ok (.aload_n 0, 1) := by decide +kernel
theorem dX5_passWhole_37 : decode cX5_passWhole 37 = .ok (.aload_n 0, 1) := by decide +kernel
theorem dX5_passWhole_38 : decode cX5_passWhole 38 = .ok (.getfield 32, 3) := by decide +kernel
theorem dX5_passWhole_41 : decode cX5_passWhole 41 = .ok (.putfield 35, 3) := by decide +kernel
theorem dX5_passWhole_44 : decode cX5_passWhole 44 = .ok (.aload_n 0, 1) := by decide +kernel
theorem dX5_passWhole_45 : decode cX5_passWhole 45 = .ok (.invokevirtual 95, 3) := by decide +kernel
theorem dX5_passWhole_48 : decode cX5_passWhole 48 = .ok (.iconst 1, 1) := by decide +kernel
theorem dX5_passWhole_49 : decode cX5_passWhole 49 = .ok (.ireturn, 1) := by decide +kernel
theorem dX5_passNewName_0 : decode cX5_passNewName 0 = .ok (.aload_n 0, 1) := by decide +kernel
theorem dX5_passNewName_1 : decode cX5_passNewName 1 = .ok (.invokevirtual 168, 3) := by decide +kernel
theorem dX5_passNewName_4 : decode cX5_passNewName 4 = .ok (.ifCond .ne 9, 3) := by decide +kernel
theorem dX5_passNewName_7 : decode cX5_passNewName 7 = .ok (.aload_n 0, 1) := by decide +kernel
theorem dX5_passNewName_8 : decode cX5_passNewName 8 = .ok (.iconst 1, 1) := by decide +kernel
theorem dX5_passNewName_9 : decode cX5_passNewName 9 = .ok (.invokevirtual 105, 3) := by decide +kernel
theorem dX5_passNewName_12 : decode cX5_passNewName 12 = .ok (.ireturn, 1) := by decide +kernel
theorem dX5_passNewName_13 : decode cX5_passNewName 13 = .ok (.aload_n 0, 1) := by decide +kernel
theorem dX5_passNewName_14 : decode cX5_passNewName 14 = .ok (.invokevirtual 171, 3) := by decide +kernel
theorem dX5_passNewName_17 : decode cX5_passNewName 17 = .ok (.ifCond .lt 9, 3) := by decide +kernel
theorem dX5_passNewName_20 : decode cX5_passNewName 20 = .ok (.aload_n 0, 1) := by decide +kernel
theorem dX5_passNewName_21 : decode cX5_passNewName 21 = .ok (.iconst 3, 1) := by decide +kernel
theorem dX5_passNewName_22 : decode cX5_passNewName 22 = .ok (.invokevirtual 105, 3) := by decide +kernel
theorem dX5_passNewName_25 : decode cX5_passNewName 25 = .ok (.ireturn, 1) := by decide +kernel
theorem dX5_passNewName_26 : decode cX5_passNewName 26 = .ok (.aload_n 0, 1) := by decide +kernel
theorem dX5_passNewName_27 : decode cX5_passNewName 27 = .ok (.getfield 63, 3) := by decide +kernel
theorem dX5_passNewName_30 : decode cX5_passNewName 30 = .ok (.bipush 14, 2) := by decide +kernel
theorem dX5_passNewName_32 : decode cX5_passNewName 32 = .ok (.if_icmp .ge 46, 3) := by decide +kernel
theorem dX5_passNewName_35 : decode cX5_passNewName 35 = .ok (.aload_n 0, 1) := by decide +kernel
theorem dX5_passNewName_36 : decode cX5_passNewName 36 = .ok (.getfield 52, 3) := by decide +kernel
theorem dX5_passNewName_39 : decode cX5_passNewName 39 = .ok (.aload_n 0, 1) := by decide +kernel
theorem dX5_passNewName_40 : decode cX5_passNewName 40 = .ok (.getfield 63, 3) := by decide +kernel
theorem dX5_passNewName_43 : decode cX5_passNewName 43 = .ok (.aload_n 0, 1) := by decide +kernel
theorem dX5_passNewName_44 : decode cX5_passNewName 44 = .ok (.getfield 28, 3) := by decide +kernel
theorem dX5_passNewName_47 : decode cX5_passNewName 47 = .ok (.lastore, 1) := by decide +kernel
theorem dX5_passNewName_48 : decode cX5_passNewName 48 = .ok (.aload_n 0, 1) := by decide +kernel
theorem dX5_passNewName_49 : decode cX5_passNewName 49 = .ok (.getfield 56, 3) := by decide +kernel
theorem dX5_passNewName_52 : decode cX5_passNewName 52 = .ok (.aload_n 0, 1) := by decide +kernel
theorem dX5_passNewName_53 : decode cX5_passNewName 53 = .ok (.getfield 63, 3) := by decide +kernel
theorem dX5_passNewName_56 : decode cX5_passNewName 56 = .ok (.iload_n 1, 1) := by decide +kernel
theorem dX5_passNewName_57 : decode cX5_passNewName 57 = .ok (.iastore, 1) := by decide +kernel
theorem dX5_passNewName_58 : decode cX5_passNewName 58 = .ok (.aload_n 0, 1) := by decide +kernel
theorem dX5_passNewName_59 : decode cX5_passNewName 59 = .ok (.getfield 60, 3) := by decide +kernel
theorem dX5_passNewName_62 : decode cX5_passNewName 62 = .ok (.aload_n 0, 1) := by decide +kernel
theorem dX5_passNewName_63 : decode cX5_passNewName 63 = .ok (.getfield 63, 3) := by decide +kernel
theorem dX5_passNewName_66 : decode cX5_passNewName 66 = .ok (.iload_n 2, 1) := by decide +kernel
theorem dX5_passNewName_67 : decode cX5_passNewName 67 = .ok (.iastore, 1) := by decide +kernel
theorem dX5_passNewName_68 : decode cX5_passNewName 68 = .ok (.aload_n 0, 1) := by decide +kernel
theorem dX5_passNewName_69 : decode cX5_passNewName 69 = .ok (.dup, 1) := by decide +kernel
theorem dX5_passNewName_70 : decode cX5_passNewName 70 = .ok (.getfield 63, 3) := by decide +kernel
theorem dX5_passNewName_73 : decode cX5_passNewName 73 = .ok (.iconst 1, 1) := by decide +kernel
theorem dX5_passNewName_74 : decode cX5_passNewName 74 = .ok (.iadd, 1) := by decide +kernel
theorem dX5_passNewName_75 : decode cX5_passNewName 75 = .ok (.putfield 63, 3) := by decide +kernel
theorem dX5_passNewName_78 : decode cX5_passNewName 78 = .ok (.aload_n 0, 1) := by decide +kernel
theorem dX5_passNewName_79 : decode cX5_passNewName 79 = .ok (.invokevirtual 95, 3) := by decide +kernel
theorem dX5_passNewName_82 : decode cX5_passNewName 82 = .ok (.iconst 1, 1) := by decide +kernel
theorem dX5_passNewName_83 : decode cX5_passNewName 83 = .ok (.ireturn, 1) := by decide +kernel
theorem dX5_nameIndex_0 : decode cX5_nameIndex 0 = .ok (.iconst 0, 1) := by decide +kernel
theorem dX5_nameIndex_1 : decode cX5_nameIndex 1 = .ok (.istore_n 1, 1) := by decide +kernel
theorem dX5_nameIndex_2 : decode cX5_nameIndex 2 = .ok (.iload_n 1, 1) := by decide +kernel
theorem dX5_nameIndex_3 : decode cX5_nameIndex 3 = .ok (.aload_n 0, 1) := by decide +kernel
theorem dX5_nameIndex_4 : decode cX5_nameIndex 4 = .ok (.getfield 63, 3) := by decide +kernel
theorem dX5_nameIndex_7 : decode cX5_nameIndex 7 = .ok (.if_icmp .ge 25, 3) := by decide +kernel
theorem dX5_nameIndex_10 : decode cX5_nameIndex 10 = .ok (.aload_n 0, 1) := by decide +kernel
theorem dX5_nameIndex_11 : decode cX5_nameIndex 11 = .ok (.getfield 52, 3) := by decide +kernel
theorem dX5_nameIndex_14 : decode cX5_nameIndex 14 = .ok (.iload_n 1, 1) := by decide +kernel
theorem dX5_nameIndex_15 : decode cX5_nameIndex 15 = .ok (.laload, 1) := by decide +kernel
theorem dX5_nameIndex_16 : decode cX5_nameIndex 16 = .ok (.aload_n 0, 1) := by decide +kernel
theorem dX5_nameIndex_17 : decode cX5_nameIndex 17 = .ok (.getfield 28, 3) := by decide +kernel
theorem dX5_nameIndex_20 : decode cX5_nameIndex 20 = .ok (.lcmp, 1) := by decide +kernel
theorem dX5_nameIndex_21 : decode cX5_nameIndex 21 = .ok (.ifCond .ne 5, 3) := by decide +kernel
theorem dX5_nameIndex_24 : decode cX5_nameIndex 24 = .ok (.iload_n 1, 1) := by decide +kernel
theorem dX5_nameIndex_25 : decode cX5_nameIndex 25 = .ok (.ireturn, 1) := by decide +kernel
theorem dX5_nameIndex_26 : decode cX5_nameIndex 26 = .ok (.iinc 1 1, 3) := by decide +kernel
theorem dX5_nameIndex_29 : decode cX5_nameIndex 29 = .ok (.goto (-27), 3) := by decide +kernel
theorem dX5_nameIndex_32 : decode cX5_nameIndex 32 = .ok (.iconst (-1), 1) := by decide +kernel
theorem dX5_nameIndex_33 : decode cX5_nameIndex 33 = .ok (.ireturn, 1) := by decide +kernel
theorem dX5_findName_0 : decode cX5_findName 0 = .ok (.aload_n 0, 1) := by decide +kernel
theorem dX5_findName_1 : decode cX5_findName 1 = .ok (.invokevirtual 168, 3) := by decide +kernel
theorem dX5_findName_4 : decode cX5_findName 4 = .ok (.ifCond .ne 9, 3) := by decide +kernel
theorem dX5_findName_7 : decode cX5_findName 7 = .ok (.aload_n 0, 1) := by decide +kernel
theorem dX5_findName_8 : decode cX5_findName 8 = .ok (.iconst 1, 1) := by decide +kernel
theorem dX5_findName_9 : decode cX5_findName 9 = .ok (.invokevirtual 105, 3) := by decide +kernel
theorem dX5_findName_12 : decode cX5_findName 12 = .ok (.ireturn, 1) := by decide +kernel
theorem dX5_findName_13 : decode cX5_findName 13 = .ok (.aload_n 0, 1) := by decide +kernel
theorem dX5_findName_14 : decode cX5_findName 14 = .ok (.invokevirtual 171, 3) := by decide +kernel
theorem dX5_findName_17 : decode cX5_findName 17 = .ok (.istore_n 2, 1) := by decide +kernel
theorem dX5_findName_18 : decode cX5_findName 18 = .ok (.iload_n 2, 1) := by decide +kernel
theorem dX5_findName_19 : decode cX5_findName 19 = .ok (.ifCond .lt 13, 3) := by decide +kernel
theorem dX5_findName_22 : decode cX5_findName 22 = .ok (.aload_n 0, 1) := by decide +kernel
theorem dX5_findName_23 : decode cX5_findName 23 = .ok (.getfield 56, 3) := by decide +kernel
theorem dX5_findName_26 : decode cX5_findName 26 = .ok (.iload_n 2, 1) := by decide +kernel
theorem dX5_findName_27 : decode cX5_findName 27 = .ok (.iaload, 1) := by decide +kernel
theorem dX5_findName_28 : decode cX5_findName 28 = .ok (.iload_n 1, 1) := by decide +kernel
theorem dX5_findName_29 : decode cX5_findName 29 = .ok (.if_icmp .eq 9, 3) := by decide +kernel
theorem dX5_findName_32 : decode cX5_findName 32 = .ok (.aload_n 0, 1) := by decide +kernel
theorem dX5_findName_33 : decode cX5_findName 33 = .ok (.iconst 2, 1) := by decide +kernel
theorem dX5_findName_34 : decode cX5_findName 34 = .ok (.invokevirtual 105, 3) := by decide +kernel
theorem dX5_findName_37 : decode cX5_findName 37 = .ok (.ireturn, 1) := by decide +kernel
theorem dX5_findName_38 : decode cX5_findName 38 = .ok (.aload_n 0, 1) := by decide +kernel
theorem dX5_findName_39 : decode cX5_findName 39 = .ok (.aload_n 0, 1) := by decide +kernel
theorem dX5_findName_40 : decode cX5_findName 40 = .ok (.getfield 60, 3) := by decide +kernel
theorem dX5_findName_43 : decode cX5_findName 43 = .ok (.iload_n 2, 1) := by decide +kernel
theorem dX5_findName_44 : decode cX5_findName 44 = .ok (.iaload, 1) := by decide +kernel
theorem dX5_findName_45 : decode cX5_findName 45 = .ok (.putfield 35, 3) := by decide +kernel
theorem dX5_findName_48 : decode cX5_findName 48 = .ok (.iconst 1, 1) := by decide +kernel
theorem dX5_findName_49 : decode cX5_findName 49 = .ok (.ireturn, 1) := by decide +kernel
theorem dX5_readLine_0 : decode cX5_readLine 0 = .ok (.aload_n 0, 1) := by decide +kernel
theorem dX5_readLine_1 : decode cX5_readLine 1 = .ok (.ldc 140, 2) := by decide +kernel
theorem dX5_readLine_3 : decode cX5_readLine 3 = .ok (.invokevirtual 142, 3) := by decide +kernel
theorem dX5_readLine_6 : decode cX5_readLine 6 = .ok (.ifCond .eq 8, 3) := by decide +kernel
theorem dX5_readLine_9 : decode cX5_readLine 9 = .ok (.aload_n 0, 1) := by decide +kernel
theorem dX5_readLine_10 : decode cX5_readLine 10 = .ok (.invokevirtual 174, 3) := by decide +kernel
theorem dX5_readLine_13 : decode cX5_readLine 13 = .ok (.ireturn, 1) := by decide +kernel
theorem dX5_readLine_14 : decode cX5_readLine 14 = .ok (.aload_n 0, 1) := by decide +kernel
theorem dX5_readLine_15 : decode cX5_readLine 15 = .ok (.ldc 146, 2) := by decide +kernel
theorem dX5_readLine_17 : decode cX5_readLine 17 = .ok (.invokevirtual 142, 3) := by decide +kernel
theorem dX5_readLine_20 : decode cX5_readLine 20 = .ok (.ifCond .eq 8, 3) := by decide +kernel
theorem dX5_readLine_23 : decode cX5_readLine 23 = .ok (.aload_n 0, 1) := by decide +kernel
theorem dX5_readLine_24 : decode cX5_readLine 24 = .ok (.invokevirtual 177, 3) := by decide +kernel
theorem dX5_readLine_27 : decode cX5_readLine 27 = .ok (.ireturn, 1) := by decide +kernel
theorem dX5_readLine_28 : decode cX5_readLine 28 = .ok (.aload_n 0, 1) := by decide +kernel
theorem dX5_readLine_29 : decode cX5_readLine 29 = .ok (.ldc 148, 2) := by decide +kernel
theorem dX5_readLine_31 : decode cX5_readLine 31 = .ok (.invokevirtual 142, 3) := by decide +kernel
theorem dX5_readLine_34 : decode cX5_readLine 34 = .ok (.ifCond .eq 8, 3) := by decide +kernel
theorem dX5_readLine_37 : decode cX5_readLine 37 = .ok (.aload_n 0, 1) := by decide +kernel
theorem dX5_readLine_38 : decode cX5_readLine 38 = .ok (.invokevirtual 180, 3) := by decide +kernel
theorem dX5_readLine_41 : decode cX5_readLine 41 = .ok (.ireturn, 1) := by decide +kernel
theorem dX5_readLine_42 : decode cX5_readLine 42 = .ok (.aload_n 0, 1) := by decide +kernel
theorem dX5_readLine_43 : decode cX5_readLine 43 = .ok (.ldc 150, 2) := by decide +kernel
theorem dX5_readLine_45 : decode cX5_readLine 45 = .ok (.invokevirtual 142, 3) := by decide +kernel
theorem dX5_readLine_48 : decode cX5_readLine 48 = .ok (.ifCond .eq 8, 3) := by decide +kernel
theorem dX5_readLine_51 : decode cX5_readLine 51 = .ok (.aload_n 0, 1) := by decide +kernel
theorem dX5_readLine_52 : decode cX5_readLine 52 = .ok (.invokevirtual 183, 3) := by decide +kernel
theorem dX5_readLine_55 : decode cX5_readLine 55 = .ok (.ireturn, 1) := by decide +kernel
theorem dX5_readLine_56 : decode cX5_readLine 56 = .ok (.aload_n 0, 1) := by decide +kernel
theorem dX5_readLine_57 : decode cX5_readLine 57 = .ok (.ldc 152, 2) := by decide +kernel
theorem dX5_readLine_59 : decode cX5_readLine 59 = .ok (.invokevirtual 142, 3) := by decide +kernel
theorem dX5_readLine_62 : decode cX5_readLine 62 = .ok (.ifCond .eq 8, 3) := by decide +kernel
theorem dX5_readLine_65 : decode cX5_readLine 65 = .ok (.aload_n 0, 1) := by decide +kernel
theorem dX5_readLine_66 : decode cX5_readLine 66 = .ok (.invokevirtual 186, 3) := by decide +kernel
theorem dX5_readLine_69 : decode cX5_readLine 69 = .ok (.ireturn, 1) := by decide +kernel
theorem dX5_readLine_70 : decode cX5_readLine 70 = .ok (.aload_n 0, 1) := by decide +kernel
theorem dX5_readLine_71 : decode cX5_readLine 71 = .ok (.ldc 154, 2) := by decide +kernel
theorem dX5_readLine_73 : decode cX5_readLine 73 = .ok (.invokevirtual 142, 3) := by decide +kernel
theorem dX5_readLine_76 : decode cX5_readLine 76 = .ok (.ifCond .eq 9, 3) := by decide +kernel
theorem dX5_readLine_79 : decode cX5_readLine 79 = .ok (.aload_n 0, 1) := by decide +kernel
theorem dX5_readLine_80 : decode cX5_readLine 80 = .ok (.iconst 0, 1) := by decide +kernel
theorem dX5_readLine_81 : decode cX5_readLine 81 = .ok (.invokevirtual 189, 3) := by decide +kernel
theorem dX5_readLine_84 : decode cX5_readLine 84 = .ok (.ireturn, 1) := by decide +kernel
theorem dX5_readLine_85 : decode cX5_readLine 85 = .ok (.aload_n 0, 1) := by decide +kernel
theorem dX5_readLine_86 : decode cX5_readLine 86 = .ok (.ldc 156, 2) := by decide +kernel
theorem dX5_readLine_88 : decode cX5_readLine 88 = .ok (.invokevirtual 142, 3) := by decide +kernel
theorem dX5_readLine_91 : decode cX5_readLine 91 = .ok (.ifCond .eq 9, 3) := by decide +kernel
theorem dX5_readLine_94 : decode cX5_readLine 94 = .ok (.aload_n 0, 1) := by decide +kernel
theorem dX5_readLine_95 : decode cX5_readLine 95 = .ok (.iconst 1, 1) := by decide +kernel
theorem dX5_readLine_96 : decode cX5_readLine 96 = .ok (.invokevirtual 189, 3) := by decide +kernel
theorem dX5_readLine_99 : decode cX5_readLine 99 = .ok (.ireturn, 1) := by decide +kernel
theorem dX5_readLine_100 : decode cX5_readLine 100 = .ok (.aload_n 0, 1) := by decide +kernel
theorem dX5_readLine_101 : decode cX5_readLine 101 = .ok (.ldc 158, 2) := by decide +kernel
theorem dX5_readLine_103 : decode cX5_readLine 103 = .ok (.invokevirtual 142, 3) := by decide +kernel
theorem dX5_readLine_106 : decode cX5_readLine 106 = .ok (.ifCond .eq 8, 3) := by decide +kernel
theorem dX5_readLine_109 : decode cX5_readLine 109 = .ok (.aload_n 0, 1) := by decide +kernel
theorem dX5_readLine_110 : decode cX5_readLine 110 = .ok (.invokevirtual 192, 3) := by decide +kernel
theorem dX5_readLine_113 : decode cX5_readLine 113 = .ok (.ireturn, 1) := by decide +kernel
theorem dX5_readLine_114 : decode cX5_readLine 114 = .ok (.aload_n 0, 1) := by decide +kernel
theorem dX5_readLine_115 : decode cX5_readLine 115 = .ok (.ldc 160, 2) := by decide +kernel
theorem dX5_readLine_117 : decode cX5_readLine 117 = .ok (.invokevirtual 142, 3) := by decide +kernel
theorem dX5_readLine_120 : decode cX5_readLine 120 = .ok (.ifCond .eq 10, 3) := by decide +kernel
theorem dX5_readLine_123 : decode cX5_readLine 123 = .ok (.aload_n 0, 1) := by decide +kernel
theorem dX5_readLine_124 : decode cX5_readLine 124 = .ok (.invokevirtual 195, 3) := by decide +kernel
theorem dX5_readLine_127 : decode cX5_readLine 127 = .ok (.goto 8, 3) := by decide +kernel
theorem dX5_readLine_130 : decode cX5_readLine 130 = .ok (.aload_n 0, 1) := by decide +kernel
theorem dX5_readLine_131 : decode cX5_readLine 131 = .ok (.iconst 1, 1) := by decide +kernel
theorem dX5_readLine_132 : decode cX5_readLine 132 = .ok (.invokevirtual 105, 3) := by decide +kernel
theorem dX5_readLine_135 : decode cX5_readLine 135 = .ok (.ireturn, 1) := by decide +kernel
theorem dX5_readCloth_0 : decode cX5_readCloth 0 = .ok (.aload_n 0, 1) := by decide +kernel
theorem dX5_readCloth_1 : decode cX5_readCloth 1 = .ok (.getfield 66, 3) := by decide +kernel
theorem dX5_readCloth_4 : decode cX5_readCloth 4 = .ok (.ifCond .eq 9, 3) := by decide +kernel
theorem dX5_readCloth_7 : decode cX5_readCloth 7 = .ok (.aload_n 0, 1) := by decide +kernel
theorem dX5_readCloth_8 : decode cX5_readCloth 8 = .ok (.iconst 3, 1) := by decide +kernel
theorem dX5_readCloth_9 : decode cX5_readCloth 9 = .ok (.invokevirtual 105, 3) := by decide +kernel
theorem dX5_readCloth_12 : decode cX5_readCloth 12 = .ok (.ireturn, 1) := by decide +kernel
theorem dX5_readCloth_13 : decode cX5_readCloth 13 = .ok (.aload_n 0, 1) := by decide +kernel
theorem dX5_readCloth_14 : decode cX5_readCloth 14 = .ok (.iconst 1, 1) := by decide +kernel
theorem dX5_readCloth_15 : decode cX5_readCloth 15 = .ok (.putfield 66, 3) := by decide +kernel
theorem dX5_readCloth_18 : decode cX5_readCloth 18 = .ok (.aload_n 0, 1) := by decide +kernel
theorem dX5_readCloth_19 : decode cX5_readCloth 19 = .ok (.invokevirtual 95, 3) := by decide +kernel
theorem dX5_readCloth_22 : decode cX5_readCloth 22 = .ok (.aload_n 0, 1) := by decide +kernel
theorem dX5_readCloth_23 : decode cX5_readCloth 23 = .ok (.ldc 198, 2) := by decide +kernel
theorem dX5_readCloth_25 : decode cX5_readCloth 25 = .ok (.invokevirtual 199, 3) := by decide +kernel
theorem dX5_readCloth_28 : decode cX5_readCloth 28 = .ok (.ifCond .eq 13, 3) := by decide +kernel
theorem dX5_readCloth_31 : decode cX5_readCloth 31 = .ok (.aload_n 0, 1) := by decide +kernel
theorem dX5_readCloth_32 : decode cX5_readCloth 32 = .ok (.iconst 4, 1) := by decide +kernel
theorem dX5_readCloth_33 : decode cX5_readCloth 33 = .ok (.bipush 60, 2) := by decide +kernel
theorem dX5_readCloth_35 : decode cX5_readCloth 35 = .ok (.invokevirtual 202, 3) := by decide +kernel
theorem dX5_readCloth_38 : decode cX5_readCloth 38 = .ok (.ifCond .ne 5, 3) := by decide +kernel
theorem dX5_readCloth_41 : decode cX5_readCloth 41 = .ok (.iconst 0, 1) := by decide +kernel
theorem dX5_readCloth_42 : decode cX5_readCloth 42 = .ok (.ireturn, 1) := by decide +kernel
theorem dX5_readCloth_43 : decode cX5_readCloth 43 = .ok (.aload_n 0, 1) := by decide +kernel
theorem dX5_readCloth_44 : decode cX5_readCloth 44 = .ok (.getfield 41, 3) := by decide +kernel
theorem dX5_readCloth_47 : decode cX5_readCloth 47 = .ok (.aload_n 0, 1) := by decide +kernel
theorem dX5_readCloth_48 : decode cX5_readCloth 48 = .ok (.getfield 35, 3) := by decide +kernel
theorem dX5_readCloth_51 : decode cX5_readCloth 51 = .ok (.putfield 206, 3) := by decide +kernel
theorem dX5_readCloth_54 : decode cX5_readCloth 54 = .ok (.aload_n 0, 1) := by decide +kernel
theorem dX5_readCloth_55 : decode cX5_readCloth 55 = .ok (.ldc 208, 2) := by decide +kernel
theorem dX5_readCloth_57 : decode cX5_readCloth 57 = .ok (.invokevirtual 199, 3) := by decide +kernel
theorem dX5_readCloth_60 : decode cX5_readCloth 60 = .ok (.ifCond .eq 13, 3) := by decide +kernel
theorem dX5_readCloth_63 : decode cX5_readCloth 63 = .ok (.aload_n 0, 1) := by decide +kernel
theorem dX5_readCloth_64 : decode cX5_readCloth 64 = .ok (.iconst 0, 1) := by decide +kernel
theorem dX5_readCloth_65 : decode cX5_readCloth 65 = .ok (.bipush 9, 2) := by decide +kernel
theorem dX5_readCloth_67 : decode cX5_readCloth 67 = .ok (.invokevirtual 202, 3) := by decide +kernel
theorem dX5_readCloth_70 : decode cX5_readCloth 70 = .ok (.ifCond .ne 5, 3) := by decide +kernel
theorem dX5_readCloth_73 : decode cX5_readCloth 73 = .ok (.iconst 0, 1) := by decide +kernel
theorem dX5_readCloth_74 : decode cX5_readCloth 74 = .ok (.ireturn, 1) := by decide +kernel
theorem dX5_readCloth_75 : decode cX5_readCloth 75 = .ok (.aload_n 0, 1) := by decide +kernel
theorem dX5_readCloth_76 : decode cX5_readCloth 76 = .ok (.getfield 41, 3) := by decide +kernel
theorem dX5_readCloth_79 : decode cX5_readCloth 79 = .ok (.aload_n 0, 1) := by decide +kernel
theorem dX5_readCloth_80 : decode cX5_readCloth 80 = .ok (.getfield 35, 3) := by decide +kernel
theorem dX5_readCloth_83 : decode cX5_readCloth 83 = .ok (.putfield 210, 3) := by decide +kernel
theorem dX5_readCloth_86 : decode cX5_readCloth 86 = .ok (.aload_n 0, 1) := by decide +kernel
theorem dX5_readCloth_87 : decode cX5_readCloth 87 = .ok (.ldc 154, 2) := by decide +kernel
theorem dX5_readCloth_89 : decode cX5_readCloth 89 = .ok (.invokevirtual 199, 3) := by decide +kernel
theorem dX5_readCloth_92 : decode cX5_readCloth 92 = .ok (.ifCond .eq 13, 3) := by decide +kernel
theorem dX5_readCloth_95 : decode cX5_readCloth 95 = .ok (.aload_n 0, 1) := by decide +kernel
theorem dX5_readCloth_96 : decode cX5_readCloth 96 = .ok (.iconst 1, 1) := by decide +kernel
theorem dX5_readCloth_97 : decode cX5_readCloth 97 = .ok (.bipush 9, 2) := by decide +kernel
theorem dX5_readCloth_99 : decode cX5_readCloth 99 = .ok (.invokevirtual 202, 3) := by decide +kernel
theorem dX5_readCloth_102 : decode cX5_readCloth 102 = .ok (.ifCond .ne 5, 3) := by decide +kernel
theorem dX5_readCloth_105 : decode cX5_readCloth 105 = .ok (.iconst 0, 1) := by decide +kernel
theorem dX5_readCloth_106 : decode cX5_readCloth 106 = .ok (.ireturn, 1) := by decide +kernel
theorem dX5_readCloth_107 : decode cX5_readCloth 107 = .ok (.aload_n 0, 1) := by decide +kernel
theorem dX5_readCloth_108 : decode cX5_readCloth 108 = .ok (.getfield 41, 3) := by decide +kernel
theorem dX5_readCloth_111 : decode cX5_readCloth 111 = .ok (.getfield 212, 3) := by decide +kernel
theorem dX5_readCloth_114 : decode cX5_readCloth 114 = .ok (.iconst 0, 1) := by decide +kernel
theorem dX5_readCloth_115 : decode cX5_readCloth 115 = .ok (.aload_n 0, 1) := by decide +kernel
theorem dX5_readCloth_116 : decode cX5_readCloth 116 = .ok (.getfield 35, 3) := by decide +kernel
theorem dX5_readCloth_119 : decode cX5_readCloth 119 = .ok (.iastore, 1) := by decide +kernel
theorem dX5_readCloth_120 : decode cX5_readCloth 120 = .ok (.aload_n 0, 1) := by decide +kernel
theorem dX5_readCloth_121 : decode cX5_readCloth 121 = .ok (.ldc 156, 2) := by decide +kernel
theorem dX5_readCloth_123 : decode cX5_readCloth 123 = .ok (.invokevirtual 199, 3) := by decide +kernel
theorem dX5_readCloth_126 : decode cX5_readCloth 126 = .ok (.ifCond .eq 13, 3) := by decide +kernel
theorem dX5_readCloth_129 : decode cX5_readCloth 129 = .ok (.aload_n 0, 1) := by decide +kernel
theorem dX5_readCloth_130 : decode cX5_readCloth 130 = .ok (.iconst 1, 1) := by decide +kernel
theorem dX5_readCloth_131 : decode cX5_readCloth 131 = .ok (.bipush 9, 2) := by decide +kernel
theorem dX5_readCloth_133 : decode cX5_readCloth 133 = .ok (.invokevirtual 202, 3) := by decide +kernel
theorem dX5_readCloth_136 : decode cX5_readCloth 136 = .ok (.ifCond .ne 5, 3) := by decide +kernel
theorem dX5_readCloth_139 : decode cX5_readCloth 139 = .ok (.iconst 0, 1) := by decide +kernel
theorem dX5_readCloth_140 : decode cX5_readCloth 140 = .ok (.ireturn, 1) := by decide +kernel
theorem dX5_readCloth_141 : decode cX5_readCloth 141 = .ok (.aload_n 0, 1) := by decide +kernel
theorem dX5_readCloth_142 : decode cX5_readCloth 142 = .ok (.getfield 41, 3) := by decide +kernel
theorem dX5_readCloth_145 : decode cX5_readCloth 145 = .ok (.getfield 212, 3) := by decide +kernel
theorem dX5_readCloth_148 : decode cX5_readCloth 148 = .ok (.iconst 1, 1) := by decide +kernel
theorem dX5_readCloth_149 : decode cX5_readCloth 149 = .ok (.aload_n 0, 1) := by decide +kernel
theorem dX5_readCloth_150 : decode cX5_readCloth 150 = .ok (.getfield 35, 3) := by decide +kernel
theorem dX5_readCloth_153 : decode cX5_readCloth 153 = .ok (.iastore, 1) := by decide +kernel
theorem dX5_readCloth_154 : decode cX5_readCloth 154 = .ok (.aload_n 0, 1) := by decide +kernel
theorem dX5_readCloth_155 : decode cX5_readCloth 155 = .ok (.ldc 215, 2) := by decide +kernel
theorem dX5_readCloth_157 : decode cX5_readCloth 157 = .ok (.invokevirtual 199, 3) := by decide +kernel
theorem dX5_readCloth_160 : decode cX5_readCloth 160 = .ok (.ifCond .eq 12, 3) := by decide +kernel
theorem dX5_readCloth_163 : decode cX5_readCloth 163 = .ok (.aload_n 0, 1) := by decide +kernel
theorem dX5_readCloth_164 : decode cX5_readCloth 164 = .ok (.iconst 1, 1) := by decide +kernel
theorem dX5_readCloth_165 : decode cX5_readCloth 165 = .ok (.iconst 5, 1) := by decide +kernel
theorem dX5_readCloth_166 : decode cX5_readCloth 166 = .ok (.invokevirtual 202, 3) := by decide +kernel
theorem dX5_readCloth_169 : decode cX5_readCloth 169 = .ok (.ifCond .ne 5, 3) := by decide +kernel
theorem dX5_readCloth_172 : decode cX5_readCloth 172 = .ok (.iconst 0, 1) := by decide +kernel
theorem dX5_readCloth_173 : decode cX5_readCloth 173 = .ok (.ireturn, 1) := by decide +kernel
theorem dX5_readCloth_174 : decode cX5_readCloth 174 = .ok (.aload_n 0, 1) := by decide +kernel
theorem dX5_readCloth_175 : decode cX5_readCloth 175 = .ok (.getfield 41, 3) := by decide +kernel
theorem dX5_readCloth_178 : decode cX5_readCloth 178 = .ok (.aload_n 0, 1) := by decide +kernel
theorem dX5_readCloth_179 : decode cX5_readCloth 179 = .ok (.getfield 35, 3) := by decide +kernel
theorem dX5_readCloth_182 : decode cX5_readCloth 182 = .ok (.putfield 217, 3) := by decide +kernel
theorem dX5_readCloth_185 : decode cX5_readCloth 185 = .ok (.iconst 1, 1) := by decide +kernel
theorem dX5_readCloth_186 : decode cX5_readCloth 186 = .ok (.ireturn, 1) := by decide +kernel
theorem dX5_readColour_0 : decode cX5_readColour 0 = .ok (.aload_n 0, 1) := by decide +kernel
theorem dX5_readColour_1 : decode cX5_readColour 1 = .ok (.getfield 41, 3) := by decide +kernel
theorem dX5_readColour_4 : decode cX5_readColour 4 = .ok (.getfield 219, 3) := by decide +kernel
theorem dX5_readColour_7 : decode cX5_readColour 7 = .ok (.iconst 2, 1) := by decide +kernel
theorem dX5_readColour_8 : decode cX5_readColour 8 = .ok (.if_icmp .lt 9, 3) := by decide +kernel
theorem dX5_readColour_11 : decode cX5_readColour 11 = .ok (.aload_n 0, 1) := by decide +kernel
theorem dX5_readColour_12 : decode cX5_readColour 12 = .ok (.iconst 5, 1) := by decide +kernel
theorem dX5_readColour_13 : decode cX5_readColour 13 = .ok (.invokevirtual 105, 3) := by decide +kernel
theorem dX5_readColour_16 : decode cX5_readColour 16 = .ok (.ireturn, 1) := by decide +kernel
theorem dX5_readColour_17 : decode cX5_readColour 17 = .ok (.aload_n 0, 1) := by decide +kernel
theorem dX5_readColour_18 : decode cX5_readColour 18 = .ok (.invokevirtual 95, 3) := by decide +kernel
theorem dX5_readColour_21 : decode cX5_readColour 21 = .ok (.aload_n 0, 1) := by decide +kernel
theorem dX5_readColour_22 : decode cX5_readColour 22 = .ok (.iconst 0, 1) := by decide +kernel
theorem dX5_readColour_23 : decode cX5_readColour 23 = .ok (.aload_n 0, 1) := by decide +kernel
theorem dX5_readColour_24 : decode cX5_readColour 24 = .ok (.getfield 41, 3) := by decide +kernel
theorem dX5_readColour_27 : decode cX5_readColour 27 = .ok (.getfield 219, 3) := by decide +kernel
theorem dX5_readColour_30 : decode cX5_readColour 30 = .ok (.invokevirtual 222, 3) := by decide +kernel
theorem dX5_readColour_33 : decode cX5_readColour 33 = .ok (.ifCond .eq 22, 3) := by decide +kernel
theorem dX5_readColour_36 : decode cX5_readColour 36 = .ok (.aload_n 0, 1) := by decide +kernel
theorem dX5_readColour_37 : decode cX5_readColour 37 = .ok (.ldc 154, 2) := by decide +kernel
theorem dX5_readColour_39 : decode cX5_readColour 39 = .ok (.invokevirtual 199, 3) := by decide +kernel
theorem dX5_readColour_42 : decode cX5_readColour 42 = .ok (.ifCond .eq 13, 3) := by decide +kernel
theorem dX5_readColour_45 : decode cX5_readColour 45 = .ok (.aload_n 0, 1) := by decide +kernel
theorem dX5_readColour_46 : decode cX5_readColour 46 = .ok (.iconst 0, 1) := by decide +kernel
theorem dX5_readColour_47 : decode cX5_readColour 47 = .ok (.bipush 9, 2) := by decide +kernel
theorem dX5_readColour_49 : decode cX5_readColour 49 = .ok (.invokevirtual 202, 3) := by decide +kernel
theorem dX5_readColour_52 : decode cX5_readColour 52 = .ok (.ifCond .ne 5, 3) := by decide +kernel
theorem dX5_readColour_55 : decode cX5_readColour 55 = .ok (.iconst 0, 1) := by decide +kernel
theorem dX5_readColour_56 : decode cX5_readColour 56 = .ok (.ireturn, 1) := by decide +kernel
theorem dX5_readColour_57 : decode cX5_readColour 57 = .ok (.aload_n 0, 1) := by decide +kernel
theorem dX5_readColour_58 : decode cX5_readColour 58 = .ok (.getfield 48, 3) := by decide +kernel
theorem dX5_readColour_61 : decode cX5_readColour 61 = .ok (.getfield 225, 3) := by decide +kernel
theorem dX5_readColour_64 : decode cX5_readColour 64 = .ok (.iconst 0, 1) := by decide +kernel
theorem dX5_readColour_65 : decode cX5_readColour 65 = .ok (.aload_n 0, 1) := by decide +kernel
theorem dX5_readColour_66 : decode cX5_readColour 66 = .ok (.getfield 41, 3) := by decide +kernel
theorem dX5_readColour_69 : decode cX5_readColour 69 = .ok (.getfield 219, 3) := by decide +kernel
theorem dX5_readColour_72 : decode cX5_readColour 72 = .ok (.iadd, 1) := by decide +kernel
theorem dX5_readColour_73 : decode cX5_readColour 73 = .ok (.aload_n 0, 1) := by decide +kernel
theorem dX5_readColour_74 : decode cX5_readColour 74 = .ok (.getfield 35, 3) := by decide +kernel
theorem dX5_readColour_77 : decode cX5_readColour 77 = .ok (.iastore, 1) := by decide +kernel
theorem dX5_readColour_78 : decode cX5_readColour 78 = .ok (.aload_n 0, 1) := by decide +kernel
theorem dX5_readColour_79 : decode cX5_readColour 79 = .ok (.ldc 156, 2) := by decide +kernel
theorem dX5_readColour_81 : decode cX5_readColour 81 = .ok (.invokevirtual 199, 3) := by decide +kernel
theorem dX5_readColour_84 : decode cX5_readColour 84 = .ok (.ifCond .eq 13, 3) := by decide +kernel
theorem dX5_readColour_87 : decode cX5_readColour 87 = .ok (.aload_n 0, 1) := by decide +kernel
theorem dX5_readColour_88 : decode cX5_readColour 88 = .ok (.iconst 0, 1) := by decide +kernel
theorem dX5_readColour_89 : decode cX5_readColour 89 = .ok (.bipush 9, 2) := by decide +kernel
theorem dX5_readColour_91 : decode cX5_readColour 91 = .ok (.invokevirtual 202, 3) := by decide +kernel
theorem dX5_readColour_94 : decode cX5_readColour 94 = .ok (.ifCond .ne 5, 3) := by decide +kernel
theorem dX5_readColour_97 : decode cX5_readColour 97 = .ok (.iconst 0, 1) := by decide +kernel
theorem dX5_readColour_98 : decode cX5_readColour 98 = .ok (.ireturn, 1) := by decide +kernel
theorem dX5_readColour_99 : decode cX5_readColour 99 = .ok (.aload_n 0, 1) := by decide +kernel
theorem dX5_readColour_100 : decode cX5_readColour 100 = .ok (.getfield 48, 3) := by decide +kernel
theorem dX5_readColour_103 : decode cX5_readColour 103 = .ok (.getfield 225, 3) := by decide +kernel
theorem dX5_readColour_106 : decode cX5_readColour 106 = .ok (.iconst 2, 1) := by decide +kernel
theorem dX5_readColour_107 : decode cX5_readColour 107 = .ok (.aload_n 0, 1) := by decide +kernel
theorem dX5_readColour_108 : decode cX5_readColour 108 = .ok (.getfield 41, 3) := by decide +kernel
theorem dX5_readColour_111 : decode cX5_readColour 111 = .ok (.getfield 219, 3) := by decide +kernel
theorem dX5_readColour_114 : decode cX5_readColour 114 = .ok (.iadd, 1) := by decide +kernel
theorem dX5_readColour_115 : decode cX5_readColour 115 = .ok (.aload_n 0, 1) := by decide +kernel
theorem dX5_readColour_116 : decode cX5_readColour 116 = .ok (.getfield 35, 3) := by decide +kernel
theorem dX5_readColour_119 : decode cX5_readColour 119 = .ok (.iastore, 1) := by decide +kernel
theorem dX5_readColour_120 : decode cX5_readColour 120 = .ok (.aload_n 0, 1) := by decide +kernel
theorem dX5_readColour_121 : decode cX5_readColour 121 = .ok (.getfield 41, 3) := by decide +kernel
theorem dX5_readColour_124 : decode cX5_readColour 124 = .ok (.dup, 1) := by decide +kernel
theorem dX5_readColour_125 : decode cX5_readColour 125 = .ok (.getfield 219, 3) := by decide +kernel
theorem dX5_readColour_128 : decode cX5_readColour 128 = .ok (.iconst 1, 1) := by decide +kernel
theorem dX5_readColour_129 : decode cX5_readColour 129 = .ok (.iadd, 1) := by decide +kernel
theorem dX5_readColour_130 : decode cX5_readColour 130 = .ok (.putfield 219, 3) := by decide +kernel
theorem dX5_readColour_133 : decode cX5_readColour 133 = .ok (.iconst 1, 1) := by decide +kernel
theorem dX5_readColour_134 : decode cX5_readColour 134 = .ok (.ireturn, 1) := by decide +kernel
theorem dX5_readKind_0 : decode cX5_readKind 0 = .ok (.aload_n 0, 1) := by decide +kernel
theorem dX5_readKind_1 : decode cX5_readKind 1 = .ok (.getfield 41, 3) := by decide +kernel
theorem dX5_readKind_4 : decode cX5_readKind 4 = .ok (.getfield 102, 3) := by decide +kernel
theorem dX5_readKind_7 : decode cX5_readKind 7 = .ok (.bipush 8, 2) := by decide +kernel
theorem dX5_readKind_9 : decode cX5_readKind 9 = .ok (.if_icmp .lt 9, 3) := by decide +kernel
theorem dX5_readKind_12 : decode cX5_readKind 12 = .ok (.aload_n 0, 1) := by decide +kernel
theorem dX5_readKind_13 : decode cX5_readKind 13 = .ok (.iconst 5, 1) := by decide +kernel
theorem dX5_readKind_14 : decode cX5_readKind 14 = .ok (.invokevirtual 105, 3) := by decide +kernel
theorem dX5_readKind_17 : decode cX5_readKind 17 = .ok (.ireturn, 1) := by decide +kernel
theorem dX5_readKind_18 : decode cX5_readKind 18 = .ok (.aload_n 0, 1) := by decide +kernel
theorem dX5_readKind_19 : decode cX5_readKind 19 = .ok (.invokevirtual 95, 3) := by decide +kernel
theorem dX5_readKind_22 : decode cX5_readKind 22 = .ok (.aload_n 0, 1) := by decide +kernel
theorem dX5_readKind_23 : decode cX5_readKind 23 = .ok (.iconst 1, 1) := by decide +kernel
theorem dX5_readKind_24 : decode cX5_readKind 24 = .ok (.aload_n 0, 1) := by decide +kernel
theorem dX5_readKind_25 : decode cX5_readKind 25 = .ok (.getfield 41, 3) := by decide +kernel
theorem dX5_readKind_28 : decode cX5_readKind 28 = .ok (.getfield 102, 3) := by decide +kernel
theorem dX5_readKind_31 : decode cX5_readKind 31 = .ok (.invokevirtual 222, 3) := by decide +kernel
theorem dX5_readKind_34 : decode cX5_readKind 34 = .ok (.ifCond .eq 20, 3) := by decide +kernel
theorem dX5_readKind_37 : decode cX5_readKind 37 = .ok (.aload_n 0, 1) := by decide +kernel
theorem dX5_readKind_38 : decode cX5_readKind 38 = .ok (.ldc 228, 2) := by decide +kernel
theorem dX5_readKind_40 : decode cX5_readKind 40 = .ok (.invokevirtual 199, 3) := by decide +kernel
theorem dX5_readKind_43 : decode cX5_readKind 43 = .ok (.ifCond .eq 11, 3) := by decide +kernel
theorem dX5_readKind_46 : decode cX5_readKind 46 = .ok (.aload_n 0, 1) := by decide +kernel
theorem dX5_readKind_47 : decode cX5_readKind 47 = .ok (.iconst 0, 1) := by decide +kernel
theorem dX5_readKind_48 : decode cX5_readKind 48 = .ok (.invokevirtual 230, 3) := by decide +kernel
theorem dX5_readKind_51 : decode cX5_readKind 51 = .ok (.ifCond .ne 5, 3) := by decide +kernel
theorem dX5_readKind_54 : decode cX5_readKind 54 = .ok (.iconst 0, 1) := by decide +kernel
theorem dX5_readKind_55 : decode cX5_readKind 55 = .ok (.ireturn, 1) := by decide +kernel
theorem dX5_readKind_56 : decode cX5_readKind 56 = .ok (.aload_n 0, 1) := by decide +kernel
theorem dX5_readKind_57 : decode cX5_readKind 57 = .ok (.getfield 35, 3) := by decide +kernel
theorem dX5_readKind_60 : decode cX5_readKind 60 = .ok (.istore_n 1, 1) := by decide +kernel
theorem dX5_readKind_61 : decode cX5_readKind 61 = .ok (.aload_n 0, 1) := by decide +kernel
theorem dX5_readKind_62 : decode cX5_readKind 62 = .ok (.invokevirtual 95, 3) := by decide +kernel
theorem dX5_readKind_65 : decode cX5_readKind 65 = .ok (.aload_n 0, 1) := by decide +kernel
theorem dX5_readKind_66 : decode cX5_readKind 66 = .ok (.iconst 0, 1) := by decide +kernel
theorem dX5_readKind_67 : decode cX5_readKind 67 = .ok (.iconst 3, 1) := by decide +kernel
theorem dX5_readKind_68 : decode cX5_readKind 68 = .ok (.invokevirtual 202, 3) := by decide +kernel
theorem dX5_readKind_71 : decode cX5_readKind 71 = .ok (.ifCond .ne 5, 3) := by decide +kernel
theorem dX5_readKind_74 : decode cX5_readKind 74 = .ok (.iconst 0, 1) := by decide +kernel
theorem dX5_readKind_75 : decode cX5_readKind 75 = .ok (.ireturn, 1) := by decide +kernel
theorem dX5_readKind_76 : decode cX5_readKind 76 = .ok (.aload_n 0, 1) := by decide +kernel
theorem dX5_readKind_77 : decode cX5_readKind 77 = .ok (.ldc 162, 2) := by decide +kernel
theorem dX5_readKind_79 : decode cX5_readKind 79 = .ok (.invokevirtual 142, 3) := by decide +kernel
theorem dX5_readKind_82 : decode cX5_readKind 82 = .ok (.ifCond .eq 28, 3) := by decide +kernel
theorem dX5_readKind_85 : decode cX5_readKind 85 = .ok (.aload_n 0, 1) := by decide +kernel
theorem dX5_readKind_86 : decode cX5_readKind 86 = .ok (.getfield 41, 3) := by decide +kernel
theorem dX5_readKind_89 : decode cX5_readKind 89 = .ok (.dup, 1) := by decide +kernel
theorem dX5_readKind_90 : decode cX5_readKind 90 = .ok (.getfield 233, 3) := by decide +kernel
theorem dX5_readKind_93 : decode cX5_readKind 93 = .ok (.iconst 1, 1) := by decide +kernel
theorem dX5_readKind_94 : decode cX5_readKind 94 = .ok (.aload_n 0, 1) := by decide +kernel
theorem dX5_readKind_95 : decode cX5_readKind 95 = .ok (.getfield 41, 3) := by decide +kernel
theorem dX5_readKind_98 : decode cX5_readKind 98 = .ok (.getfield 102, 3) := by decide +kernel
theorem dX5_readKind_101 : decode cX5_readKind 101 = .ok (.ishl, 1) := by decide +kernel
theorem dX5_readKind_102 : decode cX5_readKind 102 = .ok (.ior, 1) := by decide +kernel
theorem dX5_readKind_103 : decode cX5_readKind 103 = .ok (.putfield 233, 3) := by decide +kernel
theorem dX5_readKind_106 : decode cX5_readKind 106 = .ok (.aload_n 0, 1) := by decide +kernel
theorem dX5_readKind_107 : decode cX5_readKind 107 = .ok (.invokevirtual 95, 3) := by decide +kernel
theorem dX5_readKind_110 : decode cX5_readKind 110 = .ok (.aload_n 0, 1) := by decide +kernel
theorem dX5_readKind_111 : decode cX5_readKind 111 = .ok (.getfield 41, 3) := by decide +kernel
theorem dX5_readKind_114 : decode cX5_readKind 114 = .ok (.iload_n 1, 1) := by decide +kernel
theorem dX5_readKind_115 : decode cX5_readKind 115 = .ok (.aload_n 0, 1) := by decide +kernel
theorem dX5_readKind_116 : decode cX5_readKind 116 = .ok (.getfield 35, 3) := by decide +kernel
theorem dX5_readKind_119 : decode cX5_readKind 119 = .ok (.invokevirtual 236, 3) := by decide +kernel
theorem dX5_readKind_122 : decode cX5_readKind 122 = .ok (.iconst 1, 1) := by decide +kernel
theorem dX5_readKind_123 : decode cX5_readKind 123 = .ok (.ireturn, 1) := by decide +kernel
theorem dX5_readNext_0 : decode cX5_readNext 0 = .ok (.aload_n 0, 1) := by decide +kernel
theorem dX5_readNext_1 : decode cX5_readNext 1 = .ok (.invokevirtual 95, 3) := by decide +kernel
theorem dX5_readNext_4 : decode cX5_readNext 4 = .ok (.aload_n 0, 1) := by decide +kernel
theorem dX5_readNext_5 : decode cX5_readNext 5 = .ok (.iconst 1, 1) := by decide +kernel
theorem dX5_readNext_6 : decode cX5_readNext 6 = .ok (.invokevirtual 230, 3) := by decide +kernel
theorem dX5_readNext_9 : decode cX5_readNext 9 = .ok (.ifCond .ne 5, 3) := by decide +kernel
theorem dX5_readNext_12 : decode cX5_readNext 12 = .ok (.iconst 0, 1) := by decide +kernel
theorem dX5_readNext_13 : decode cX5_readNext 13 = .ok (.ireturn, 1) := by decide +kernel
theorem dX5_readNext_14 : decode cX5_readNext 14 = .ok (.aload_n 0, 1) := by decide +kernel
theorem dX5_readNext_15 : decode cX5_readNext 15 = .ok (.getfield 35, 3) := by decide +kernel
theorem dX5_readNext_18 : decode cX5_readNext 18 = .ok (.istore_n 1, 1) := by decide +kernel
theorem dX5_readNext_19 : decode cX5_readNext 19 = .ok (.aload_n 0, 1) := by decide +kernel
theorem dX5_readNext_20 : decode cX5_readNext 20 = .ok (.getfield 73, 3) := by decide +kernel
theorem dX5_readNext_23 : decode cX5_readNext 23 = .ok (.iload_n 1, 1) := by decide +kernel
theorem dX5_readNext_24 : decode cX5_readNext 24 = .ok (.invokestatic 240, 3) := by decide +kernel
theorem dX5_readNext_27 : decode cX5_readNext 27 = .ok (.ifCond .eq 9, 3) := by decide +kernel
theorem dX5_readNext_30 : decode cX5_readNext 30 = .ok (.aload_n 0, 1) := by decide +kernel
theorem dX5_readNext_31 : decode cX5_readNext 31 = .ok (.iconst 3, 1) := by decide +kernel
theorem dX5_readNext_32 : decode cX5_readNext 32 = .ok (.invokevirtual 105, 3) := by decide +kernel
theorem dX5_readNext_35 : decode cX5_readNext 35 = .ok (.ireturn, 1) := by decide +kernel
theorem dX5_readNext_36 : decode cX5_readNext 36 = .ok (.aload_n 0, 1) := by decide +kernel
theorem dX5_readNext_37 : decode cX5_readNext 37 = .ok (.dup, 1) := by decide +kernel
theorem dX5_readNext_38 : decode cX5_readNext 38 = .ok (.getfield 73, 3) := by decide +kernel
theorem dX5_readNext_41 : decode cX5_readNext 41 = .ok (.iconst 1, 1) := by decide +kernel
theorem dX5_readNext_42 : decode cX5_readNext 42 = .ok (.iload_n 1, 1) := by decide +kernel
theorem dX5_readNext_43 : decode cX5_readNext 43 = .ok (.ishl, 1) := by decide +kernel
theorem dX5_readNext_44 : decode cX5_readNext 44 = .ok (.ior, 1) := by decide +kernel
theorem dX5_readNext_45 : decode cX5_readNext 45 = .ok (.putfield 73, 3) := by decide +kernel
theorem dX5_readNext_48 : decode cX5_readNext 48 = .ok (.aload_n 0, 1) := by decide +kernel
theorem dX5_readNext_49 : decode cX5_readNext 49 = .ok (.invokevirtual 95, 3) := by decide +kernel
theorem dX5_readNext_52 : decode cX5_readNext 52 = .ok (.aload_n 0, 1) := by decide +kernel
theorem dX5_readNext_53 : decode cX5_readNext 53 = .ok (.ldc 164, 2) := by decide +kernel
theorem dX5_readNext_55 : decode cX5_readNext 55 = .ok (.invokevirtual 199, 3) := by decide +kernel
theorem dX5_readNext_58 : decode cX5_readNext 58 = .ok (.ifCond .ne 5, 3) := by decide +kernel
theorem dX5_readNext_61 : decode cX5_readNext 61 = .ok (.iconst 0, 1) := by decide +kernel
theorem dX5_readNext_62 : decode cX5_readNext 62 = .ok (.ireturn, 1) := by decide +kernel
theorem dX5_readNext_63 : decode cX5_readNext 63 = .ok (.iconst 0, 1) := by decide +kernel
theorem dX5_readNext_64 : decode cX5_readNext 64 = .ok (.istore_n 2, 1) := by decide +kernel
theorem dX5_readNext_65 : decode cX5_readNext 65 = .ok (.iconst 0, 1) := by decide +kernel
theorem dX5_readNext_66 : decode cX5_readNext 66 = .ok (.istore_n 3, 1) := by decide +kernel
theorem dX5_readNext_67 : decode cX5_readNext 67 = .ok (.iload_n 3, 1) := by decide +kernel
theorem dX5_readNext_68 : decode cX5_readNext 68 = .ok (.bipush 8, 2) := by decide +kernel
theorem dX5_readNext_70 : decode cX5_readNext 70 = .ok (.if_icmp .gt 75, 3) := by decide +kernel
theorem dX5_readNext_73 : decode cX5_readNext 73 = .ok (.aload_n 0, 1) := by decide +kernel
theorem dX5_readNext_74 : decode cX5_readNext 74 = .ok (.iconst 1, 1) := by decide +kernel
theorem dX5_readNext_75 : decode cX5_readNext 75 = .ok (.invokevirtual 230, 3) := by decide +kernel
theorem dX5_readNext_78 : decode cX5_readNext 78 = .ok (.ifCond .ne 5, 3) := by decide +kernel
theorem dX5_readNext_81 : decode cX5_readNext 81 = .ok (.iconst 0, 1) := by decide +kernel
theorem dX5_readNext_82 : decode cX5_readNext 82 = .ok (.ireturn, 1) := by decide +kernel
theorem dX5_readNext_83 : decode cX5_readNext 83 = .ok (.iload_n 2, 1) := by decide +kernel
theorem dX5_readNext_84 : decode cX5_readNext 84 = .ok (.aload_n 0, 1) := by decide +kernel
theorem dX5_readNext_85 : decode cX5_readNext 85 = .ok (.getfield 35, 3) := by decide +kernel
theorem dX5_readNext_88 : decode cX5_readNext 88 = .ok (.invokestatic 240, 3) := by decide +kernel
