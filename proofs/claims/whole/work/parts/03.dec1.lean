theorem dX5_readNext_91 : decode cX5_readNext 91 = .ok (.ifCond .eq 9, 3) := by decide +kernel
theorem dX5_readNext_94 : decode cX5_readNext 94 = .ok (.aload_n 0, 1) := by decide +kernel
theorem dX5_readNext_95 : decode cX5_readNext 95 = .ok (.iconst 3, 1) := by decide +kernel
theorem dX5_readNext_96 : decode cX5_readNext 96 = .ok (.invokevirtual 105, 3) := by decide +kernel
theorem dX5_readNext_99 : decode cX5_readNext 99 = .ok (.ireturn, 1) := by decide +kernel
theorem dX5_readNext_100 : decode cX5_readNext 100 = .ok (.iload_n 2, 1) := by decide +kernel
theorem dX5_readNext_101 : decode cX5_readNext 101 = .ok (.iconst 1, 1) := by decide +kernel
theorem dX5_readNext_102 : decode cX5_readNext 102 = .ok (.aload_n 0, 1) := by decide +kernel
theorem dX5_readNext_103 : decode cX5_readNext 103 = .ok (.getfield 35, 3) := by decide +kernel
theorem dX5_readNext_106 : decode cX5_readNext 106 = .ok (.ishl, 1) := by decide +kernel
theorem dX5_readNext_107 : decode cX5_readNext 107 = .ok (.ior, 1) := by decide +kernel
theorem dX5_readNext_108 : decode cX5_readNext 108 = .ok (.istore_n 2, 1) := by decide +kernel
theorem dX5_readNext_109 : decode cX5_readNext 109 = .ok (.aload_n 0, 1) := by decide +kernel
theorem dX5_readNext_110 : decode cX5_readNext 110 = .ok (.getfield 41, 3) := by decide +kernel
theorem dX5_readNext_113 : decode cX5_readNext 113 = .ok (.iload_n 1, 1) := by decide +kernel
theorem dX5_readNext_114 : decode cX5_readNext 114 = .ok (.aload_n 0, 1) := by decide +kernel
theorem dX5_readNext_115 : decode cX5_readNext 115 = .ok (.getfield 35, 3) := by decide +kernel
theorem dX5_readNext_118 : decode cX5_readNext 118 = .ok (.invokevirtual 243, 3) := by decide +kernel
theorem dX5_readNext_121 : decode cX5_readNext 121 = .ok (.aload_n 0, 1) := by decide +kernel
theorem dX5_readNext_122 : decode cX5_readNext 122 = .ok (.invokevirtual 95, 3) := by decide +kernel
theorem dX5_readNext_125 : decode cX5_readNext 125 = .ok (.aload_n 0, 1) := by decide +kernel
theorem dX5_readNext_126 : decode cX5_readNext 126 = .ok (.getfield 25, 3) := by decide +kernel
theorem dX5_readNext_129 : decode cX5_readNext 129 = .ok (.iconst 4, 1) := by decide +kernel
theorem dX5_readNext_130 : decode cX5_readNext 130 = .ok (.if_icmp .eq 5, 3) := by decide +kernel
theorem dX5_readNext_133 : decode cX5_readNext 133 = .ok (.iconst 1, 1) := by decide +kernel
theorem dX5_readNext_134 : decode cX5_readNext 134 = .ok (.ireturn, 1) := by decide +kernel
theorem dX5_readNext_135 : decode cX5_readNext 135 = .ok (.aload_n 0, 1) := by decide +kernel
theorem dX5_readNext_136 : decode cX5_readNext 136 = .ok (.invokevirtual 95, 3) := by decide +kernel
theorem dX5_readNext_139 : decode cX5_readNext 139 = .ok (.iinc 3 1, 3) := by decide +kernel
theorem dX5_readNext_142 : decode cX5_readNext 142 = .ok (.goto (-75), 3) := by decide +kernel
theorem dX5_readNext_145 : decode cX5_readNext 145 = .ok (.aload_n 0, 1) := by decide +kernel
theorem dX5_readNext_146 : decode cX5_readNext 146 = .ok (.iconst 1, 1) := by decide +kernel
theorem dX5_readNext_147 : decode cX5_readNext 147 = .ok (.invokevirtual 105, 3) := by decide +kernel
theorem dX5_readNext_150 : decode cX5_readNext 150 = .ok (.ireturn, 1) := by decide +kernel
theorem dX5_readAnswers_0 : decode cX5_readAnswers 0 = .ok (.aload_n 0, 1) := by decide +kernel
theorem dX5_readAnswers_1 : decode cX5_readAnswers 1 = .ok (.invokevirtual 95, 3) := by decide +kernel
theorem dX5_readAnswers_4 : decode cX5_readAnswers 4 = .ok (.aload_n 0, 1) := by decide +kernel
theorem dX5_readAnswers_5 : decode cX5_readAnswers 5 = .ok (.iconst 1, 1) := by decide +kernel
theorem dX5_readAnswers_6 : decode cX5_readAnswers 6 = .ok (.invokevirtual 230, 3) := by decide +kernel
theorem dX5_readAnswers_9 : decode cX5_readAnswers 9 = .ok (.ifCond .ne 5, 3) := by decide +kernel
theorem dX5_readAnswers_12 : decode cX5_readAnswers 12 = .ok (.iconst 0, 1) := by decide +kernel
theorem dX5_readAnswers_13 : decode cX5_readAnswers 13 = .ok (.ireturn, 1) := by decide +kernel
theorem dX5_readAnswers_14 : decode cX5_readAnswers 14 = .ok (.aload_n 0, 1) := by decide +kernel
theorem dX5_readAnswers_15 : decode cX5_readAnswers 15 = .ok (.getfield 76, 3) := by decide +kernel
theorem dX5_readAnswers_18 : decode cX5_readAnswers 18 = .ok (.aload_n 0, 1) := by decide +kernel
theorem dX5_readAnswers_19 : decode cX5_readAnswers 19 = .ok (.getfield 35, 3) := by decide +kernel
theorem dX5_readAnswers_22 : decode cX5_readAnswers 22 = .ok (.invokestatic 240, 3) := by decide +kernel
theorem dX5_readAnswers_25 : decode cX5_readAnswers 25 = .ok (.ifCond .eq 9, 3) := by decide +kernel
theorem dX5_readAnswers_28 : decode cX5_readAnswers 28 = .ok (.aload_n 0, 1) := by decide +kernel
theorem dX5_readAnswers_29 : decode cX5_readAnswers 29 = .ok (.iconst 3, 1) := by decide +kernel
theorem dX5_readAnswers_30 : decode cX5_readAnswers 30 = .ok (.invokevirtual 105, 3) := by decide +kernel
theorem dX5_readAnswers_33 : decode cX5_readAnswers 33 = .ok (.ireturn, 1) := by decide +kernel
theorem dX5_readAnswers_34 : decode cX5_readAnswers 34 = .ok (.aload_n 0, 1) := by decide +kernel
theorem dX5_readAnswers_35 : decode cX5_readAnswers 35 = .ok (.getfield 35, 3) := by decide +kernel
theorem dX5_readAnswers_38 : decode cX5_readAnswers 38 = .ok (.istore_n 1, 1) := by decide +kernel
theorem dX5_readAnswers_39 : decode cX5_readAnswers 39 = .ok (.aload_n 0, 1) := by decide +kernel
theorem dX5_readAnswers_40 : decode cX5_readAnswers 40 = .ok (.invokevirtual 95, 3) := by decide +kernel
theorem dX5_readAnswers_43 : decode cX5_readAnswers 43 = .ok (.aload_n 0, 1) := by decide +kernel
theorem dX5_readAnswers_44 : decode cX5_readAnswers 44 = .ok (.iconst 1, 1) := by decide +kernel
theorem dX5_readAnswers_45 : decode cX5_readAnswers 45 = .ok (.invokevirtual 230, 3) := by decide +kernel
theorem dX5_readAnswers_48 : decode cX5_readAnswers 48 = .ok (.ifCond .ne 5, 3) := by decide +kernel
theorem dX5_readAnswers_51 : decode cX5_readAnswers 51 = .ok (.iconst 0, 1) := by decide +kernel
theorem dX5_readAnswers_52 : decode cX5_readAnswers 52 = .ok (.ireturn, 1) := by decide +kernel
theorem dX5_readAnswers_53 : decode cX5_readAnswers 53 = .ok (.aload_n 0, 1) := by decide +kernel
theorem dX5_readAnswers_54 : decode cX5_readAnswers 54 = .ok (.getfield 76, 3) := by decide +kernel
theorem dX5_readAnswers_57 : decode cX5_readAnswers 57 = .ok (.aload_n 0, 1) := by decide +kernel
theorem dX5_readAnswers_58 : decode cX5_readAnswers 58 = .ok (.getfield 35, 3) := by decide +kernel
theorem dX5_readAnswers_61 : decode cX5_readAnswers 61 = .ok (.invokestatic 240, 3) := by decide +kernel
theorem dX5_readAnswers_64 : decode cX5_readAnswers 64 = .ok (.ifCond .eq 9, 3) := by decide +kernel
theorem dX5_readAnswers_67 : decode cX5_readAnswers 67 = .ok (.aload_n 0, 1) := by decide +kernel
theorem dX5_readAnswers_68 : decode cX5_readAnswers 68 = .ok (.iconst 3, 1) := by decide +kernel
theorem dX5_readAnswers_69 : decode cX5_readAnswers 69 = .ok (.invokevirtual 105, 3) := by decide +kernel
theorem dX5_readAnswers_72 : decode cX5_readAnswers 72 = .ok (.ireturn, 1) := by decide +kernel
theorem dX5_readAnswers_73 : decode cX5_readAnswers 73 = .ok (.aload_n 0, 1) := by decide +kernel
theorem dX5_readAnswers_74 : decode cX5_readAnswers 74 = .ok (.dup, 1) := by decide +kernel
theorem dX5_readAnswers_75 : decode cX5_readAnswers 75 = .ok (.getfield 76, 3) := by decide +kernel
theorem dX5_readAnswers_78 : decode cX5_readAnswers 78 = .ok (.iconst 1, 1) := by decide +kernel
theorem dX5_readAnswers_79 : decode cX5_readAnswers 79 = .ok (.iload_n 1, 1) := by decide +kernel
theorem dX5_readAnswers_80 : decode cX5_readAnswers 80 = .ok (.ishl, 1) := by decide +kernel
theorem dX5_readAnswers_81 : decode cX5_readAnswers 81 = .ok (.iconst 1, 1) := by decide +kernel
theorem dX5_readAnswers_82 : decode cX5_readAnswers 82 = .ok (.aload_n 0, 1) := by decide +kernel
theorem dX5_readAnswers_83 : decode cX5_readAnswers 83 = .ok (.getfield 35, 3) := by decide +kernel
theorem dX5_readAnswers_86 : decode cX5_readAnswers 86 = .ok (.ishl, 1) := by decide +kernel
theorem dX5_readAnswers_87 : decode cX5_readAnswers 87 = .ok (.ior, 1) := by decide +kernel
theorem dX5_readAnswers_88 : decode cX5_readAnswers 88 = .ok (.ior, 1) := by decide +kernel
theorem dX5_readAnswers_89 : decode cX5_readAnswers 89 = .ok (.putfield 76, 3) := by decide +kernel
theorem dX5_readAnswers_92 : decode cX5_readAnswers 92 = .ok (.aload_n 0, 1) := by decide +kernel
theorem dX5_readAnswers_93 : decode cX5_readAnswers 93 = .ok (.getfield 41, 3) := by decide +kernel
theorem dX5_readAnswers_96 : decode cX5_readAnswers 96 = .ok (.getfield 246, 3) := by decide +kernel
theorem dX5_readAnswers_99 : decode cX5_readAnswers 99 = .ok (.iload_n 1, 1) := by decide +kernel
theorem dX5_readAnswers_100 : decode cX5_readAnswers 100 = .ok (.aload_n 0, 1) := by decide +kernel
theorem dX5_readAnswers_101 : decode cX5_readAnswers 101 = .ok (.getfield 35, 3) := by decide +kernel
theorem dX5_readAnswers_104 : decode cX5_readAnswers 104 = .ok (.iastore, 1) := by decide +kernel
theorem dX5_readAnswers_105 : decode cX5_readAnswers 105 = .ok (.aload_n 0, 1) := by decide +kernel
theorem dX5_readAnswers_106 : decode cX5_readAnswers 106 = .ok (.getfield 41, 3) := by decide +kernel
theorem dX5_readAnswers_109 : decode cX5_readAnswers 109 = .ok (.getfield 246, 3) := by decide +kernel
theorem dX5_readAnswers_112 : decode cX5_readAnswers 112 = .ok (.aload_n 0, 1) := by decide +kernel
theorem dX5_readAnswers_113 : decode cX5_readAnswers 113 = .ok (.getfield 35, 3) := by decide +kernel
theorem dX5_readAnswers_116 : decode cX5_readAnswers 116 = .ok (.iload_n 1, 1) := by decide +kernel
theorem dX5_readAnswers_117 : decode cX5_readAnswers 117 = .ok (.iastore, 1) := by decide +kernel
theorem dX5_readAnswers_118 : decode cX5_readAnswers 118 = .ok (.aload_n 0, 1) := by decide +kernel
theorem dX5_readAnswers_119 : decode cX5_readAnswers 119 = .ok (.invokevirtual 95, 3) := by decide +kernel
theorem dX5_readAnswers_122 : decode cX5_readAnswers 122 = .ok (.iconst 1, 1) := by decide +kernel
theorem dX5_readAnswers_123 : decode cX5_readAnswers 123 = .ok (.ireturn, 1) := by decide +kernel
theorem dX5_readSide_0 : decode cX5_readSide 0 = .ok (.aload_n 0, 1) := by decide +kernel
theorem dX5_readSide_1 : decode cX5_readSide 1 = .ok (.getfield 70, 3) := by decide +kernel
theorem dX5_readSide_4 : decode cX5_readSide 4 = .ok (.iload_n 1, 1) := by decide +kernel
theorem dX5_readSide_5 : decode cX5_readSide 5 = .ok (.invokestatic 240, 3) := by decide +kernel
theorem dX5_readSide_8 : decode cX5_readSide 8 = .ok (.ifCond .eq 9, 3) := by decide +kernel
theorem dX5_readSide_11 : decode cX5_readSide 11 = .ok (.aload_n 0, 1) := by decide +kernel
theorem dX5_readSide_12 : decode cX5_readSide 12 = .ok (.iconst 3, 1) := by decide +kernel
theorem dX5_readSide_13 : decode cX5_readSide 13 = .ok (.invokevirtual 105, 3) := by decide +kernel
theorem dX5_readSide_16 : decode cX5_readSide 16 = .ok (.ireturn, 1) := by decide +kernel
theorem dX5_readSide_17 : decode cX5_readSide 17 = .ok (.aload_n 0, 1) := by decide +kernel
theorem dX5_readSide_18 : decode cX5_readSide 18 = .ok (.dup, 1) := by decide +kernel
theorem dX5_readSide_19 : decode cX5_readSide 19 = .ok (.getfield 70, 3) := by decide +kernel
theorem dX5_readSide_22 : decode cX5_readSide 22 = .ok (.iconst 1, 1) := by decide +kernel
theorem dX5_readSide_23 : decode cX5_readSide 23 = .ok (.iload_n 1, 1) := by decide +kernel
theorem dX5_readSide_24 : decode cX5_readSide 24 = .ok (.ishl, 1) := by decide +kernel
theorem dX5_readSide_25 : decode cX5_readSide 25 = .ok (.ior, 1) := by decide +kernel
theorem dX5_readSide_26 : decode cX5_readSide 26 = .ok (.putfield 70, 3) := by decide +kernel
theorem dX5_readSide_29 : decode cX5_readSide 29 = .ok (.aload_n 0, 1) := by decide +kernel
theorem dX5_readSide_30 : decode cX5_readSide 30 = .ok (.invokevirtual 95, 3) := by decide +kernel
theorem dX5_readSide_33 : decode cX5_readSide 33 = .ok (.iconst 0, 1) := by decide +kernel
theorem dX5_readSide_34 : decode cX5_readSide 34 = .ok (.istore_n 2, 1) := by decide +kernel
theorem dX5_readSide_35 : decode cX5_readSide 35 = .ok (.iload_n 2, 1) := by decide +kernel
theorem dX5_readSide_36 : decode cX5_readSide 36 = .ok (.bipush 12, 2) := by decide +kernel
theorem dX5_readSide_38 : decode cX5_readSide 38 = .ok (.if_icmp .gt 91, 3) := by decide +kernel
theorem dX5_readSide_41 : decode cX5_readSide 41 = .ok (.aload_n 0, 1) := by decide +kernel
theorem dX5_readSide_42 : decode cX5_readSide 42 = .ok (.iconst 1, 1) := by decide +kernel
theorem dX5_readSide_43 : decode cX5_readSide 43 = .ok (.invokevirtual 230, 3) := by decide +kernel
theorem dX5_readSide_46 : decode cX5_readSide 46 = .ok (.ifCond .ne 5, 3) := by decide +kernel
theorem dX5_readSide_49 : decode cX5_readSide 49 = .ok (.iconst 0, 1) := by decide +kernel
theorem dX5_readSide_50 : decode cX5_readSide 50 = .ok (.ireturn, 1) := by decide +kernel
theorem dX5_readSide_51 : decode cX5_readSide 51 = .ok (.iload_n 2, 1) := by decide +kernel
theorem dX5_readSide_52 : decode cX5_readSide 52 = .ok (.bipush 12, 2) := by decide +kernel
theorem dX5_readSide_54 : decode cX5_readSide 54 = .ok (.if_icmp .ne 9, 3) := by decide +kernel
theorem dX5_readSide_57 : decode cX5_readSide 57 = .ok (.aload_n 0, 1) := by decide +kernel
theorem dX5_readSide_58 : decode cX5_readSide 58 = .ok (.iconst 5, 1) := by decide +kernel
theorem dX5_readSide_59 : decode cX5_readSide 59 = .ok (.invokevirtual 105, 3) := by decide +kernel
theorem dX5_readSide_62 : decode cX5_readSide 62 = .ok (.ireturn, 1) := by decide +kernel
theorem dX5_readSide_63 : decode cX5_readSide 63 = .ok (.aload_n 0, 1) := by decide +kernel
theorem dX5_readSide_64 : decode cX5_readSide 64 = .ok (.getfield 48, 3) := by decide +kernel
theorem dX5_readSide_67 : decode cX5_readSide 67 = .ok (.aload_n 0, 1) := by decide +kernel
theorem dX5_readSide_68 : decode cX5_readSide 68 = .ok (.getfield 41, 3) := by decide +kernel
theorem dX5_readSide_71 : decode cX5_readSide 71 = .ok (.iload_n 1, 1) := by decide +kernel
theorem dX5_readSide_72 : decode cX5_readSide 72 = .ok (.aload_n 0, 1) := by decide +kernel
theorem dX5_readSide_73 : decode cX5_readSide 73 = .ok (.getfield 35, 3) := by decide +kernel
theorem dX5_readSide_76 : decode cX5_readSide 76 = .ok (.invokevirtual 249, 3) := by decide +kernel
theorem dX5_readSide_79 : decode cX5_readSide 79 = .ok (.ifCond .eq 10, 3) := by decide +kernel
theorem dX5_readSide_82 : decode cX5_readSide 82 = .ok (.aload_n 0, 1) := by decide +kernel
theorem dX5_readSide_83 : decode cX5_readSide 83 = .ok (.bipush 7, 2) := by decide +kernel
theorem dX5_readSide_85 : decode cX5_readSide 85 = .ok (.invokevirtual 105, 3) := by decide +kernel
theorem dX5_readSide_88 : decode cX5_readSide 88 = .ok (.ireturn, 1) := by decide +kernel
theorem dX5_readSide_89 : decode cX5_readSide 89 = .ok (.aload_n 0, 1) := by decide +kernel
theorem dX5_readSide_90 : decode cX5_readSide 90 = .ok (.getfield 48, 3) := by decide +kernel
theorem dX5_readSide_93 : decode cX5_readSide 93 = .ok (.aload_n 0, 1) := by decide +kernel
theorem dX5_readSide_94 : decode cX5_readSide 94 = .ok (.getfield 41, 3) := by decide +kernel
theorem dX5_readSide_97 : decode cX5_readSide 97 = .ok (.iload_n 1, 1) := by decide +kernel
theorem dX5_readSide_98 : decode cX5_readSide 98 = .ok (.aload_n 0, 1) := by decide +kernel
theorem dX5_readSide_99 : decode cX5_readSide 99 = .ok (.getfield 35, 3) := by decide +kernel
theorem dX5_readSide_102 : decode cX5_readSide 102 = .ok (.invokevirtual 253, 3) := by decide +kernel
theorem dX5_readSide_105 : decode cX5_readSide 105 = .ok (.aload_n 0, 1) := by decide +kernel
theorem dX5_readSide_106 : decode cX5_readSide 106 = .ok (.invokevirtual 95, 3) := by decide +kernel
theorem dX5_readSide_109 : decode cX5_readSide 109 = .ok (.aload_n 0, 1) := by decide +kernel
theorem dX5_readSide_110 : decode cX5_readSide 110 = .ok (.getfield 25, 3) := by decide +kernel
theorem dX5_readSide_113 : decode cX5_readSide 113 = .ok (.iconst 4, 1) := by decide +kernel
theorem dX5_readSide_114 : decode cX5_readSide 114 = .ok (.if_icmp .eq 5, 3) := by decide +kernel
theorem dX5_readSide_117 : decode cX5_readSide 117 = .ok (.iconst 1, 1) := by decide +kernel
theorem dX5_readSide_118 : decode cX5_readSide 118 = .ok (.ireturn, 1) := by decide +kernel
theorem dX5_readSide_119 : decode cX5_readSide 119 = .ok (.aload_n 0, 1) := by decide +kernel
theorem dX5_readSide_120 : decode cX5_readSide 120 = .ok (.invokevirtual 95, 3) := by decide +kernel
theorem dX5_readSide_123 : decode cX5_readSide 123 = .ok (.iinc 2 1, 3) := by decide +kernel
theorem dX5_readSide_126 : decode cX5_readSide 126 = .ok (.goto (-91), 3) := by decide +kernel
theorem dX5_readSide_129 : decode cX5_readSide 129 = .ok (.aload_n 0, 1) := by decide +kernel
theorem dX5_readSide_130 : decode cX5_readSide 130 = .ok (.iconst 1, 1) := by decide +kernel
theorem dX5_readSide_131 : decode cX5_readSide 131 = .ok (.invokevirtual 105, 3) := by decide +kernel
theorem dX5_readSide_134 : decode cX5_readSide 134 = .ok (.ireturn, 1) := by decide +kernel
theorem dX5_readMotif_0 : decode cX5_readMotif 0 = .ok (.aload_n 0, 1) := by decide +kernel
theorem dX5_readMotif_1 : decode cX5_readMotif 1 = .ok (.getfield 41, 3) := by decide +kernel
theorem dX5_readMotif_4 : decode cX5_readMotif 4 = .ok (.getfield 257, 3) := by decide +kernel
theorem dX5_readMotif_7 : decode cX5_readMotif 7 = .ok (.iconst 4, 1) := by decide +kernel
theorem dX5_readMotif_8 : decode cX5_readMotif 8 = .ok (.if_icmp .lt 9, 3) := by decide +kernel
theorem dX5_readMotif_11 : decode cX5_readMotif 11 = .ok (.aload_n 0, 1) := by decide +kernel
theorem dX5_readMotif_12 : decode cX5_readMotif 12 = .ok (.iconst 5, 1) := by decide +kernel
theorem dX5_readMotif_13 : decode cX5_readMotif 13 = .ok (.invokevirtual 105, 3) := by decide +kernel
theorem dX5_readMotif_16 : decode cX5_readMotif 16 = .ok (.ireturn, 1) := by decide +kernel
theorem dX5_readMotif_17 : decode cX5_readMotif 17 = .ok (.aload_n 0, 1) := by decide +kernel
theorem dX5_readMotif_18 : decode cX5_readMotif 18 = .ok (.getfield 41, 3) := by decide +kernel
theorem dX5_readMotif_21 : decode cX5_readMotif 21 = .ok (.getfield 257, 3) := by decide +kernel
theorem dX5_readMotif_24 : decode cX5_readMotif 24 = .ok (.istore_n 1, 1) := by decide +kernel
theorem dX5_readMotif_25 : decode cX5_readMotif 25 = .ok (.aload_n 0, 1) := by decide +kernel
theorem dX5_readMotif_26 : decode cX5_readMotif 26 = .ok (.invokevirtual 95, 3) := by decide +kernel
theorem dX5_readMotif_29 : decode cX5_readMotif 29 = .ok (.aload_n 0, 1) := by decide +kernel
theorem dX5_readMotif_30 : decode cX5_readMotif 30 = .ok (.iconst 2, 1) := by decide +kernel
theorem dX5_readMotif_31 : decode cX5_readMotif 31 = .ok (.iload_n 1, 1) := by decide +kernel
theorem dX5_readMotif_32 : decode cX5_readMotif 32 = .ok (.invokevirtual 222, 3) := by decide +kernel
theorem dX5_readMotif_35 : decode cX5_readMotif 35 = .ok (.ifCond .ne 5, 3) := by decide +kernel
theorem dX5_readMotif_38 : decode cX5_readMotif 38 = .ok (.iconst 0, 1) := by decide +kernel
theorem dX5_readMotif_39 : decode cX5_readMotif 39 = .ok (.ireturn, 1) := by decide +kernel
theorem dX5_readMotif_40 : decode cX5_readMotif 40 = .ok (.aload_n 0, 1) := by decide +kernel
theorem dX5_readMotif_41 : decode cX5_readMotif 41 = .ok (.invokevirtual 260, 3) := by decide +kernel
theorem dX5_readMotif_44 : decode cX5_readMotif 44 = .ok (.istore_n 2, 1) := by decide +kernel
theorem dX5_readMotif_45 : decode cX5_readMotif 45 = .ok (.iload_n 2, 1) := by decide +kernel
theorem dX5_readMotif_46 : decode cX5_readMotif 46 = .ok (.ifCond .ge 9, 3) := by decide +kernel
theorem dX5_readMotif_49 : decode cX5_readMotif 49 = .ok (.aload_n 0, 1) := by decide +kernel
theorem dX5_readMotif_50 : decode cX5_readMotif 50 = .ok (.iconst 1, 1) := by decide +kernel
theorem dX5_readMotif_51 : decode cX5_readMotif 51 = .ok (.invokevirtual 105, 3) := by decide +kernel
theorem dX5_readMotif_54 : decode cX5_readMotif 54 = .ok (.ireturn, 1) := by decide +kernel
theorem dX5_readMotif_55 : decode cX5_readMotif 55 = .ok (.aload_n 0, 1) := by decide +kernel
theorem dX5_readMotif_56 : decode cX5_readMotif 56 = .ok (.getfield 41, 3) := by decide +kernel
theorem dX5_readMotif_59 : decode cX5_readMotif 59 = .ok (.getfield 263, 3) := by decide +kernel
theorem dX5_readMotif_62 : decode cX5_readMotif 62 = .ok (.iload_n 1, 1) := by decide +kernel
theorem dX5_readMotif_63 : decode cX5_readMotif 63 = .ok (.iload_n 2, 1) := by decide +kernel
theorem dX5_readMotif_64 : decode cX5_readMotif 64 = .ok (.iastore, 1) := by decide +kernel
theorem dX5_readMotif_65 : decode cX5_readMotif 65 = .ok (.aload_n 0, 1) := by decide +kernel
theorem dX5_readMotif_66 : decode cX5_readMotif 66 = .ok (.getfield 41, 3) := by decide +kernel
theorem dX5_readMotif_69 : decode cX5_readMotif 69 = .ok (.dup, 1) := by decide +kernel
theorem dX5_readMotif_70 : decode cX5_readMotif 70 = .ok (.getfield 257, 3) := by decide +kernel
theorem dX5_readMotif_73 : decode cX5_readMotif 73 = .ok (.iconst 1, 1) := by decide +kernel
theorem dX5_readMotif_74 : decode cX5_readMotif 74 = .ok (.iadd, 1) := by decide +kernel
theorem dX5_readMotif_75 : decode cX5_readMotif 75 = .ok (.putfield 257, 3) := by decide +kernel
theorem dX5_readMotif_78 : decode cX5_readMotif 78 = .ok (.aload_n 0, 1) := by decide +kernel
theorem dX5_readMotif_79 : decode cX5_readMotif 79 = .ok (.invokevirtual 95, 3) := by decide +kernel
theorem dX5_readMotif_82 : decode cX5_readMotif 82 = .ok (.iconst 0, 1) := by decide +kernel
theorem dX5_readMotif_83 : decode cX5_readMotif 83 = .ok (.istore_n 3, 1) := by decide +kernel
theorem dX5_readMotif_84 : decode cX5_readMotif 84 = .ok (.iload_n 3, 1) := by decide +kernel
theorem dX5_readMotif_85 : decode cX5_readMotif 85 = .ok (.iconst 4, 1) := by decide +kernel
theorem dX5_readMotif_86 : decode cX5_readMotif 86 = .ok (.if_icmp .gt 77, 3) := by decide +kernel
theorem dX5_readMotif_89 : decode cX5_readMotif 89 = .ok (.aload_n 0, 1) := by decide +kernel
theorem dX5_readMotif_90 : decode cX5_readMotif 90 = .ok (.iconst 1, 1) := by decide +kernel
theorem dX5_readMotif_91 : decode cX5_readMotif 91 = .ok (.invokevirtual 230, 3) := by decide +kernel
theorem dX5_readMotif_94 : decode cX5_readMotif 94 = .ok (.ifCond .ne 5, 3) := by decide +kernel
theorem dX5_readMotif_97 : decode cX5_readMotif 97 = .ok (.iconst 0, 1) := by decide +kernel
theorem dX5_readMotif_98 : decode cX5_readMotif 98 = .ok (.ireturn, 1) := by decide +kernel
theorem dX5_readMotif_99 : decode cX5_readMotif 99 = .ok (.iload_n 3, 1) := by decide +kernel
theorem dX5_readMotif_100 : decode cX5_readMotif 100 = .ok (.iconst 4, 1) := by decide +kernel
theorem dX5_readMotif_101 : decode cX5_readMotif 101 = .ok (.if_icmp .ne 9, 3) := by decide +kernel
theorem dX5_readMotif_104 : decode cX5_readMotif 104 = .ok (.aload_n 0, 1) := by decide +kernel
theorem dX5_readMotif_105 : decode cX5_readMotif 105 = .ok (.iconst 5, 1) := by decide +kernel
theorem dX5_readMotif_106 : decode cX5_readMotif 106 = .ok (.invokevirtual 105, 3) := by decide +kernel
theorem dX5_readMotif_109 : decode cX5_readMotif 109 = .ok (.ireturn, 1) := by decide +kernel
theorem dX5_readMotif_110 : decode cX5_readMotif 110 = .ok (.aload_n 0, 1) := by decide +kernel
theorem dX5_readMotif_111 : decode cX5_readMotif 111 = .ok (.getfield 41, 3) := by decide +kernel
theorem dX5_readMotif_114 : decode cX5_readMotif 114 = .ok (.getfield 266, 3) := by decide +kernel
theorem dX5_readMotif_117 : decode cX5_readMotif 117 = .ok (.iload_n 1, 1) := by decide +kernel
theorem dX5_readMotif_118 : decode cX5_readMotif 118 = .ok (.iconst 4, 1) := by decide +kernel
theorem dX5_readMotif_119 : decode cX5_readMotif 119 = .ok (.imul, 1) := by decide +kernel
theorem dX5_readMotif_120 : decode cX5_readMotif 120 = .ok (.iload_n 3, 1) := by decide +kernel
theorem dX5_readMotif_121 : decode cX5_readMotif 121 = .ok (.iadd, 1) := by decide +kernel
theorem dX5_readMotif_122 : decode cX5_readMotif 122 = .ok (.aload_n 0, 1) := by decide +kernel
theorem dX5_readMotif_123 : decode cX5_readMotif 123 = .ok (.getfield 35, 3) := by decide +kernel
theorem dX5_readMotif_126 : decode cX5_readMotif 126 = .ok (.iastore, 1) := by decide +kernel
theorem dX5_readMotif_127 : decode cX5_readMotif 127 = .ok (.aload_n 0, 1) := by decide +kernel
theorem dX5_readMotif_128 : decode cX5_readMotif 128 = .ok (.getfield 41, 3) := by decide +kernel
theorem dX5_readMotif_131 : decode cX5_readMotif 131 = .ok (.getfield 269, 3) := by decide +kernel
theorem dX5_readMotif_134 : decode cX5_readMotif 134 = .ok (.iload_n 1, 1) := by decide +kernel
theorem dX5_readMotif_135 : decode cX5_readMotif 135 = .ok (.iload_n 3, 1) := by decide +kernel
theorem dX5_readMotif_136 : decode cX5_readMotif 136 = .ok (.iconst 1, 1) := by decide +kernel
theorem dX5_readMotif_137 : decode cX5_readMotif 137 = .ok (.iadd, 1) := by decide +kernel
theorem dX5_readMotif_138 : decode cX5_readMotif 138 = .ok (.iastore, 1) := by decide +kernel
theorem dX5_readMotif_139 : decode cX5_readMotif 139 = .ok (.aload_n 0, 1) := by decide +kernel
theorem dX5_readMotif_140 : decode cX5_readMotif 140 = .ok (.invokevirtual 95, 3) := by decide +kernel
theorem dX5_readMotif_143 : decode cX5_readMotif 143 = .ok (.aload_n 0, 1) := by decide +kernel
theorem dX5_readMotif_144 : decode cX5_readMotif 144 = .ok (.getfield 25, 3) := by decide +kernel
theorem dX5_readMotif_147 : decode cX5_readMotif 147 = .ok (.iconst 4, 1) := by decide +kernel
theorem dX5_readMotif_148 : decode cX5_readMotif 148 = .ok (.if_icmp .eq 5, 3) := by decide +kernel
theorem dX5_readMotif_151 : decode cX5_readMotif 151 = .ok (.iconst 1, 1) := by decide +kernel
theorem dX5_readMotif_152 : decode cX5_readMotif 152 = .ok (.ireturn, 1) := by decide +kernel
theorem dX5_readMotif_153 : decode cX5_readMotif 153 = .ok (.aload_n 0, 1) := by decide +kernel
theorem dX5_readMotif_154 : decode cX5_readMotif 154 = .ok (.invokevirtual 95, 3) := by decide +kernel
theorem dX5_readMotif_157 : decode cX5_readMotif 157 = .ok (.iinc 3 1, 3) := by decide +kernel
theorem dX5_readMotif_160 : decode cX5_readMotif 160 = .ok (.goto (-76), 3) := by decide +kernel
theorem dX5_readMotif_163 : decode cX5_readMotif 163 = .ok (.aload_n 0, 1) := by decide +kernel
theorem dX5_readMotif_164 : decode cX5_readMotif 164 = .ok (.iconst 1, 1) := by decide +kernel
theorem dX5_readMotif_165 : decode cX5_readMotif 165 = .ok (.invokevirtual 105, 3) := by decide +kernel
theorem dX5_readMotif_168 : decode cX5_readMotif 168 = .ok (.ireturn, 1) := by decide +kernel
theorem dX5_motifKindHere_0 : decode cX5_motifKindHere 0 = .ok (.aload_n 0, 1) := by decide +kernel
theorem dX5_motifKindHere_1 : decode cX5_motifKindHere 1 = .ok (.ldc_w 272, 3) := by decide +kernel
theorem dX5_motifKindHere_4 : decode cX5_motifKindHere 4 = .ok (.invokevirtual 142, 3) := by decide +kernel
theorem dX5_motifKindHere_7 : decode cX5_motifKindHere 7 = .ok (.ifCond .eq 5, 3) := by decide +kernel
theorem dX5_motifKindHere_10 : decode cX5_motifKindHere 10 = .ok (.iconst 0, 1) := by decide +kernel
theorem dX5_motifKindHere_11 : decode cX5_motifKindHere 11 = .ok (.ireturn, 1) := by decide +kernel
theorem dX5_motifKindHere_12 : decode cX5_motifKindHere 12 = .ok (.aload_n 0, 1) := by decide +kernel
theorem dX5_motifKindHere_13 : decode cX5_motifKindHere 13 = .ok (.ldc_w 274, 3) := by decide +kernel
theorem dX5_motifKindHere_16 : decode cX5_motifKindHere 16 = .ok (.invokevirtual 142, 3) := by decide +kernel
theorem dX5_motifKindHere_19 : decode cX5_motifKindHere 19 = .ok (.ifCond .eq 5, 3) := by decide +kernel
theorem dX5_motifKindHere_22 : decode cX5_motifKindHere 22 = .ok (.iconst 1, 1) := by decide +kernel
theorem dX5_motifKindHere_23 : decode cX5_motifKindHere 23 = .ok (.ireturn, 1) := by decide +kernel
theorem dX5_motifKindHere_24 : decode cX5_motifKindHere 24 = .ok (.aload_n 0, 1) := by decide +kernel
theorem dX5_motifKindHere_25 : decode cX5_motifKindHere 25 = .ok (.ldc_w 276, 3) := by decide +kernel
theorem dX5_motifKindHere_28 : decode cX5_motifKindHere 28 = .ok (.invokevirtual 142, 3) := by decide +kernel
theorem dX5_motifKindHere_31 : decode cX5_motifKindHere 31 = .ok (.ifCond .eq 5, 3) := by decide +kernel
theorem dX5_motifKindHere_34 : decode cX5_motifKindHere 34 = .ok (.iconst 2, 1) := by decide +kernel
theorem dX5_motifKindHere_35 : decode cX5_motifKindHere 35 = .ok (.ireturn, 1) := by decide +kernel
theorem dX5_motifKindHere_36 : decode cX5_motifKindHere 36 = .ok (.aload_n 0, 1) := by decide +kernel
theorem dX5_motifKindHere_37 : decode cX5_motifKindHere 37 = .ok (.ldc_w 278, 3) := by decide +kernel
theorem dX5_motifKindHere_40 : decode cX5_motifKindHere 40 = .ok (.invokevirtual 142, 3) := by decide +kernel
theorem dX5_motifKindHere_43 : decode cX5_motifKindHere 43 = .ok (.ifCond .eq 7, 3) := by decide +kernel
theorem dX5_motifKindHere_46 : decode cX5_motifKindHere 46 = .ok (.iconst 3, 1) := by decide +kernel
theorem dX5_motifKindHere_47 : decode cX5_motifKindHere 47 = .ok (.goto 4, 3) := by decide +kernel
theorem dX5_motifKindHere_50 : decode cX5_motifKindHere 50 = .ok (.iconst (-1), 1) := by decide +kernel
theorem dX5_motifKindHere_51 : decode cX5_motifKindHere 51 = .ok (.ireturn, 1) := by decide +kernel
theorem dX5_readNote_0 : decode cX5_readNote 0 = .ok (.aload_n 0, 1) := by decide +kernel
theorem dX5_readNote_1 : decode cX5_readNote 1 = .ok (.getfield 41, 3) := by decide +kernel
theorem dX5_readNote_4 : decode cX5_readNote 4 = .ok (.getfield 280, 3) := by decide +kernel
theorem dX5_readNote_7 : decode cX5_readNote 7 = .ok (.bipush 6, 2) := by decide +kernel
theorem dX5_readNote_9 : decode cX5_readNote 9 = .ok (.if_icmp .lt 9, 3) := by decide +kernel
theorem dX5_readNote_12 : decode cX5_readNote 12 = .ok (.aload_n 0, 1) := by decide +kernel
theorem dX5_readNote_13 : decode cX5_readNote 13 = .ok (.iconst 5, 1) := by decide +kernel
theorem dX5_readNote_14 : decode cX5_readNote 14 = .ok (.invokevirtual 105, 3) := by decide +kernel
theorem dX5_readNote_17 : decode cX5_readNote 17 = .ok (.ireturn, 1) := by decide +kernel
theorem dX5_readNote_18 : decode cX5_readNote 18 = .ok (.aload_n 0, 1) := by decide +kernel
theorem dX5_readNote_19 : decode cX5_readNote 19 = .ok (.invokevirtual 95, 3) := by decide +kernel
theorem dX5_readNote_22 : decode cX5_readNote 22 = .ok (.aload_n 0, 1) := by decide +kernel
theorem dX5_readNote_23 : decode cX5_readNote 23 = .ok (.ldc 154, 2) := by decide +kernel
theorem dX5_readNote_25 : decode cX5_readNote 25 = .ok (.invokevirtual 142, 3) := by decide +kernel
theorem dX5_readNote_28 : decode cX5_readNote 28 = .ok (.ifCond .ne 18, 3) := by decide +kernel
theorem dX5_readNote_31 : decode cX5_readNote 31 = .ok (.aload_n 0, 1) := by decide +kernel
theorem dX5_readNote_32 : decode cX5_readNote 32 = .ok (.ldc 156, 2) := by decide +kernel
theorem dX5_readNote_34 : decode cX5_readNote 34 = .ok (.invokevirtual 142, 3) := by decide +kernel
theorem dX5_readNote_37 : decode cX5_readNote 37 = .ok (.ifCond .ne 9, 3) := by decide +kernel
theorem dX5_readNote_40 : decode cX5_readNote 40 = .ok (.aload_n 0, 1) := by decide +kernel
theorem dX5_readNote_41 : decode cX5_readNote 41 = .ok (.iconst 1, 1) := by decide +kernel
theorem dX5_readNote_42 : decode cX5_readNote 42 = .ok (.invokevirtual 105, 3) := by decide +kernel
theorem dX5_readNote_45 : decode cX5_readNote 45 = .ok (.ireturn, 1) := by decide +kernel
theorem dX5_readNote_46 : decode cX5_readNote 46 = .ok (.aload_n 0, 1) := by decide +kernel
theorem dX5_readNote_47 : decode cX5_readNote 47 = .ok (.ldc 154, 2) := by decide +kernel
theorem dX5_readNote_49 : decode cX5_readNote 49 = .ok (.invokevirtual 142, 3) := by decide +kernel
theorem dX5_readNote_52 : decode cX5_readNote 52 = .ok (.ifCond .eq 7, 3) := by decide +kernel
theorem dX5_readNote_55 : decode cX5_readNote 55 = .ok (.iconst 0, 1) := by decide +kernel
theorem dX5_readNote_56 : decode cX5_readNote 56 = .ok (.goto 4, 3) := by decide +kernel
theorem dX5_readNote_59 : decode cX5_readNote 59 = .ok (.iconst 1, 1) := by decide +kernel
theorem dX5_readNote_60 : decode cX5_readNote 60 = .ok (.istore_n 1, 1) := by decide +kernel
theorem dX5_readNote_61 : decode cX5_readNote 61 = .ok (.aload_n 0, 1) := by decide +kernel
theorem dX5_readNote_62 : decode cX5_readNote 62 = .ok (.invokevirtual 95, 3) := by decide +kernel
theorem dX5_readNote_65 : decode cX5_readNote 65 = .ok (.aload_n 0, 1) := by decide +kernel
theorem dX5_readNote_66 : decode cX5_readNote 66 = .ok (.iconst 0, 1) := by decide +kernel
theorem dX5_readNote_67 : decode cX5_readNote 67 = .ok (.bipush 23, 2) := by decide +kernel
theorem dX5_readNote_69 : decode cX5_readNote 69 = .ok (.invokevirtual 202, 3) := by decide +kernel
theorem dX5_readNote_72 : decode cX5_readNote 72 = .ok (.ifCond .ne 5, 3) := by decide +kernel
theorem dX5_readNote_75 : decode cX5_readNote 75 = .ok (.iconst 0, 1) := by decide +kernel
theorem dX5_readNote_76 : decode cX5_readNote 76 = .ok (.ireturn, 1) := by decide +kernel
theorem dX5_readNote_77 : decode cX5_readNote 77 = .ok (.aload_n 0, 1) := by decide +kernel
theorem dX5_readNote_78 : decode cX5_readNote 78 = .ok (.getfield 35, 3) := by decide +kernel
theorem dX5_readNote_81 : decode cX5_readNote 81 = .ok (.istore_n 2, 1) := by decide +kernel
theorem dX5_readNote_82 : decode cX5_readNote 82 = .ok (.aload_n 0, 1) := by decide +kernel
theorem dX5_readNote_83 : decode cX5_readNote 83 = .ok (.ldc 166, 2) := by decide +kernel
theorem dX5_readNote_85 : decode cX5_readNote 85 = .ok (.invokevirtual 199, 3) := by decide +kernel
theorem dX5_readNote_88 : decode cX5_readNote 88 = .ok (.ifCond .eq 31, 3) := by decide +kernel
theorem dX5_readNote_91 : decode cX5_readNote 91 = .ok (.aload_n 0, 1) := by decide +kernel
theorem dX5_readNote_92 : decode cX5_readNote 92 = .ok (.iload_n 1, 1) := by decide +kernel
theorem dX5_readNote_93 : decode cX5_readNote 93 = .ok (.ifCond .ne 8, 3) := by decide +kernel
theorem dX5_readNote_96 : decode cX5_readNote 96 = .ok (.ldc 156, 2) := by decide +kernel
theorem dX5_readNote_98 : decode cX5_readNote 98 = .ok (.goto 5, 3) := by decide +kernel
theorem dX5_readNote_101 : decode cX5_readNote 101 = .ok (.ldc 154, 2) := by decide +kernel
theorem dX5_readNote_103 : decode cX5_readNote 103 = .ok (.invokevirtual 199, 3) := by decide +kernel
theorem dX5_readNote_106 : decode cX5_readNote 106 = .ok (.ifCond .eq 13, 3) := by decide +kernel
theorem dX5_readNote_109 : decode cX5_readNote 109 = .ok (.aload_n 0, 1) := by decide +kernel
theorem dX5_readNote_110 : decode cX5_readNote 110 = .ok (.iconst 0, 1) := by decide +kernel
theorem dX5_readNote_111 : decode cX5_readNote 111 = .ok (.bipush 23, 2) := by decide +kernel
theorem dX5_readNote_113 : decode cX5_readNote 113 = .ok (.invokevirtual 202, 3) := by decide +kernel
theorem dX5_readNote_116 : decode cX5_readNote 116 = .ok (.ifCond .ne 5, 3) := by decide +kernel
theorem dX5_readNote_119 : decode cX5_readNote 119 = .ok (.iconst 0, 1) := by decide +kernel
theorem dX5_readNote_120 : decode cX5_readNote 120 = .ok (.ireturn, 1) := by decide +kernel
theorem dX5_readNote_121 : decode cX5_readNote 121 = .ok (.aload_n 0, 1) := by decide +kernel
theorem dX5_readNote_122 : decode cX5_readNote 122 = .ok (.getfield 41, 3) := by decide +kernel
theorem dX5_readNote_125 : decode cX5_readNote 125 = .ok (.getfield 283, 3) := by decide +kernel
theorem dX5_readNote_128 : decode cX5_readNote 128 = .ok (.aload_n 0, 1) := by decide +kernel
theorem dX5_readNote_129 : decode cX5_readNote 129 = .ok (.getfield 41, 3) := by decide +kernel
theorem dX5_readNote_132 : decode cX5_readNote 132 = .ok (.getfield 280, 3) := by decide +kernel
theorem dX5_readNote_135 : decode cX5_readNote 135 = .ok (.iload_n 1, 1) := by decide +kernel
theorem dX5_readNote_136 : decode cX5_readNote 136 = .ok (.iastore, 1) := by decide +kernel
theorem dX5_readNote_137 : decode cX5_readNote 137 = .ok (.aload_n 0, 1) := by decide +kernel
theorem dX5_readNote_138 : decode cX5_readNote 138 = .ok (.getfield 41, 3) := by decide +kernel
theorem dX5_readNote_141 : decode cX5_readNote 141 = .ok (.getfield 286, 3) := by decide +kernel
theorem dX5_readNote_144 : decode cX5_readNote 144 = .ok (.aload_n 0, 1) := by decide +kernel
theorem dX5_readNote_145 : decode cX5_readNote 145 = .ok (.getfield 41, 3) := by decide +kernel
theorem dX5_readNote_148 : decode cX5_readNote 148 = .ok (.getfield 280, 3) := by decide +kernel
theorem dX5_readNote_151 : decode cX5_readNote 151 = .ok (.iload_n 2, 1) := by decide +kernel
theorem dX5_readNote_152 : decode cX5_readNote 152 = .ok (.iastore, 1) := by decide +kernel
theorem dX5_readNote_153 : decode cX5_readNote 153 = .ok (.aload_n 0, 1) := by decide +kernel
theorem dX5_readNote_154 : decode cX5_readNote 154 = .ok (.getfield 41, 3) := by decide +kernel
theorem dX5_readNote_157 : decode cX5_readNote 157 = .ok (.getfield 289, 3) := by decide +kernel
theorem dX5_readNote_160 : decode cX5_readNote 160 = .ok (.aload_n 0, 1) := by decide +kernel
theorem dX5_readNote_161 : decode cX5_readNote 161 = .ok (.getfield 41, 3) := by decide +kernel
theorem dX5_readNote_164 : decode cX5_readNote 164 = .ok (.getfield 280, 3) := by decide +kernel
theorem dX5_readNote_167 : decode cX5_readNote 167 = .ok (.aload_n 0, 1) := by decide +kernel
theorem dX5_readNote_168 : decode cX5_readNote 168 = .ok (.getfield 35, 3) := by decide +kernel
theorem dX5_readNote_171 : decode cX5_readNote 171 = .ok (.iastore, 1) := by decide +kernel
theorem dX5_readNote_172 : decode cX5_readNote 172 = .ok (.aload_n 0, 1) := by decide +kernel
theorem dX5_readNote_173 : decode cX5_readNote 173 = .ok (.getfield 41, 3) := by decide +kernel
theorem dX5_readNote_176 : decode cX5_readNote 176 = .ok (.dup, 1) := by decide +kernel
theorem dX5_readNote_177 : decode cX5_readNote 177 = .ok (.getfield 280, 3) := by decide +kernel
theorem dX5_readNote_180 : decode cX5_readNote 180 = .ok (.iconst 1, 1) := by decide +kernel
theorem dX5_readNote_181 : decode cX5_readNote 181 = .ok (.iadd, 1) := by decide +kernel
theorem dX5_readNote_182 : decode cX5_readNote 182 = .ok (.putfield 280, 3) := by decide +kernel
theorem dX5_readNote_185 : decode cX5_readNote 185 = .ok (.iconst 1, 1) := by decide +kernel
theorem dX5_readNote_186 : decode cX5_readNote 186 = .ok (.ireturn, 1) := by decide +kernel
theorem dX6_init_0 : decode cX6_init 0 = .ok (.aload_n 0, 1) := by decide +kernel
theorem dX6_init_1 : decode cX6_init 1 = .ok (.invokespecial 3, 3) := by decide +kernel
theorem dX6_init_4 : decode cX6_init 4 = .ok (.aload_n 0, 1) := by decide +kernel
theorem dX6_init_5 : decode cX6_init 5 = .ok (.sipush 800, 3) := by decide +kernel
theorem dX6_init_8 : decode cX6_init 8 = .ok (.newarray .long, 2) := by decide +kernel
theorem dX6_init_10 : decode cX6_init 10 = .ok (.putfield 9, 3) := by decide +kernel
theorem dX6_init_13 : decode cX6_init 13 = .ok (.aload_n 0, 1) := by decide +kernel
theorem dX6_init_14 : decode cX6_init 14 = .ok (.sipush 800, 3) := by decide +kernel
theorem dX6_init_17 : decode cX6_init 17 = .ok (.newarray .long, 2) := by decide +kernel
theorem dX6_init_19 : decode cX6_init 19 = .ok (.putfield 15, 3) := by decide +kernel
theorem dX6_init_22 : decode cX6_init 22 = .ok (.aload_n 0, 1) := by decide +kernel
theorem dX6_init_23 : decode cX6_init 23 = .ok (.sipush 400, 3) := by decide +kernel
theorem dX6_init_26 : decode cX6_init 26 = .ok (.newarray .long, 2) := by decide +kernel
theorem dX6_init_28 : decode cX6_init 28 = .ok (.putfield 18, 3) := by decide +kernel
theorem dX6_init_31 : decode cX6_init 31 = .ok (.return_, 1) := by decide +kernel
theorem dX6_countMeetings_0 : decode cX6_countMeetings 0 = .ok (.aload_n 0, 1) := by decide +kernel
theorem dX6_countMeetings_1 : decode cX6_countMeetings 1 = .ok (.getfield 18, 3) := by decide +kernel
theorem dX6_countMeetings_4 : decode cX6_countMeetings 4 = .ok (.lconst 0, 1) := by decide +kernel
theorem dX6_countMeetings_5 : decode cX6_countMeetings 5 = .ok (.invokestatic 21, 3) := by decide +kernel
theorem dX6_countMeetings_8 : decode cX6_countMeetings 8 = .ok (.aload_n 0, 1) := by decide +kernel
theorem dX6_countMeetings_9 : decode cX6_countMeetings 9 = .ok (.aload_n 1, 1) := by decide +kernel
theorem dX6_countMeetings_10 : decode cX6_countMeetings 10 = .ok (.aload_n 2, 1) := by decide +kernel
theorem dX6_countMeetings_11 : decode cX6_countMeetings 11 = .ok (.iconst 0, 1) := by decide +kernel
theorem dX6_countMeetings_12 : decode cX6_countMeetings 12 = .ok (.invokevirtual 27, 3) := by decide +kernel
theorem dX6_countMeetings_15 : decode cX6_countMeetings 15 = .ok (.aload_n 0, 1) := by decide +kernel
theorem dX6_countMeetings_16 : decode cX6_countMeetings 16 = .ok (.aload_n 1, 1) := by decide +kernel
theorem dX6_countMeetings_17 : decode cX6_countMeetings 17 = .ok (.aload_n 2, 1) := by decide +kernel
theorem dX6_countMeetings_18 : decode cX6_countMeetings 18 = .ok (.iconst 1, 1) := by decide +kernel
theorem dX6_countMeetings_19 : decode cX6_countMeetings 19 = .ok (.invokevirtual 27, 3) := by decide +kernel
theorem dX6_countMeetings_22 : decode cX6_countMeetings 22 = .ok (.lconst 0, 1) := by decide +kernel
theorem dX6_countMeetings_23 : decode cX6_countMeetings 23 = .ok (.lstore_n 3, 1) := by decide +kernel
theorem dX6_countMeetings_24 : decode cX6_countMeetings 24 = .ok (.iconst 0, 1) := by decide +kernel
theorem dX6_countMeetings_25 : decode cX6_countMeetings 25 = .ok (.istore 5, 2) := by decide +kernel
theorem dX6_countMeetings_27 : decode cX6_countMeetings 27 = .ok (.iload 5, 2) := by decide +kernel
theorem dX6_countMeetings_29 : decode cX6_countMeetings 29 = .ok (.bipush 24, 2) := by decide +kernel
theorem dX6_countMeetings_31 : decode cX6_countMeetings 31 = .ok (.aload_n 2, 1) := by decide +kernel
theorem dX6_countMeetings_32 : decode cX6_countMeetings 32 = .ok (.getfield 31, 3) := by decide +kernel
theorem dX6_countMeetings_35 : decode cX6_countMeetings 35 = .ok (.iconst 0, 1) := by decide +kernel
theorem dX6_countMeetings_36 : decode cX6_countMeetings 36 = .ok (.iaload, 1) := by decide +kernel
theorem dX6_countMeetings_37 : decode cX6_countMeetings 37 = .ok (.isub, 1) := by decide +kernel
theorem dX6_countMeetings_38 : decode cX6_countMeetings 38 = .ok (.if_icmp .gt 75, 3) := by decide +kernel
theorem dX6_countMeetings_41 : decode cX6_countMeetings 41 = .ok (.iconst 0, 1) := by decide +kernel
theorem dX6_countMeetings_42 : decode cX6_countMeetings 42 = .ok (.istore 6, 2) := by decide +kernel
theorem dX6_countMeetings_44 : decode cX6_countMeetings 44 = .ok (.iload 6, 2) := by decide +kernel
theorem dX6_countMeetings_46 : decode cX6_countMeetings 46 = .ok (.bipush 24, 2) := by decide +kernel
theorem dX6_countMeetings_48 : decode cX6_countMeetings 48 = .ok (.aload_n 2, 1) := by decide +kernel
theorem dX6_countMeetings_49 : decode cX6_countMeetings 49 = .ok (.getfield 31, 3) := by decide +kernel
theorem dX6_countMeetings_52 : decode cX6_countMeetings 52 = .ok (.iconst 1, 1) := by decide +kernel
theorem dX6_countMeetings_53 : decode cX6_countMeetings 53 = .ok (.iaload, 1) := by decide +kernel
theorem dX6_countMeetings_54 : decode cX6_countMeetings 54 = .ok (.isub, 1) := by decide +kernel
theorem dX6_countMeetings_55 : decode cX6_countMeetings 55 = .ok (.if_icmp .gt 52, 3) := by decide +kernel
theorem dX6_countMeetings_58 : decode cX6_countMeetings 58 = .ok (.aload_n 1, 1) := by decide +kernel
theorem dX6_countMeetings_59 : decode cX6_countMeetings 59 = .ok (.aload_n 1, 1) := by decide +kernel
theorem dX6_countMeetings_60 : decode cX6_countMeetings 60 = .ok (.aload_n 2, 1) := by decide +kernel
theorem dX6_countMeetings_61 : decode cX6_countMeetings 61 = .ok (.getfield 31, 3) := by decide +kernel
theorem dX6_countMeetings_64 : decode cX6_countMeetings 64 = .ok (.iconst 0, 1) := by decide +kernel
theorem dX6_countMeetings_65 : decode cX6_countMeetings 65 = .ok (.iaload, 1) := by decide +kernel
theorem dX6_countMeetings_66 : decode cX6_countMeetings 66 = .ok (.iload 5, 2) := by decide +kernel
theorem dX6_countMeetings_68 : decode cX6_countMeetings 68 = .ok (.iadd, 1) := by decide +kernel
theorem dX6_countMeetings_69 : decode cX6_countMeetings 69 = .ok (.aload_n 2, 1) := by decide +kernel
theorem dX6_countMeetings_70 : decode cX6_countMeetings 70 = .ok (.getfield 31, 3) := by decide +kernel
theorem dX6_countMeetings_73 : decode cX6_countMeetings 73 = .ok (.iconst 1, 1) := by decide +kernel
theorem dX6_countMeetings_74 : decode cX6_countMeetings 74 = .ok (.iaload, 1) := by decide +kernel
theorem dX6_countMeetings_75 : decode cX6_countMeetings 75 = .ok (.iload 6, 2) := by decide +kernel
theorem dX6_countMeetings_77 : decode cX6_countMeetings 77 = .ok (.iadd, 1) := by decide +kernel
theorem dX6_countMeetings_78 : decode cX6_countMeetings 78 = .ok (.invokevirtual 37, 3) := by decide +kernel
theorem dX6_countMeetings_81 : decode cX6_countMeetings 81 = .ok (.invokevirtual 43, 3) := by decide +kernel
theorem dX6_countMeetings_84 : decode cX6_countMeetings 84 = .ok (.ifCond .eq 17, 3) := by decide +kernel
theorem dX6_countMeetings_87 : decode cX6_countMeetings 87 = .ok (.lload_n 3, 1) := by decide +kernel
theorem dX6_countMeetings_88 : decode cX6_countMeetings 88 = .ok (.aload_n 0, 1) := by decide +kernel
theorem dX6_countMeetings_89 : decode cX6_countMeetings 89 = .ok (.aload_n 1, 1) := by decide +kernel
theorem dX6_countMeetings_90 : decode cX6_countMeetings 90 = .ok (.iload 5, 2) := by decide +kernel
theorem dX6_countMeetings_92 : decode cX6_countMeetings 92 = .ok (.iload 6, 2) := by decide +kernel
theorem dX6_countMeetings_94 : decode cX6_countMeetings 94 = .ok (.invokevirtual 47, 3) := by decide +kernel
theorem dX6_countMeetings_97 : decode cX6_countMeetings 97 = .ok (.invokestatic 51, 3) := by decide +kernel
theorem dX6_countMeetings_100 : decode cX6_countMeetings 100 = .ok (.lstore_n 3, 1) := by decide +kernel
theorem dX6_countMeetings_101 : decode cX6_countMeetings 101 = .ok (.iinc 6 1, 3) := by decide +kernel
theorem dX6_countMeetings_104 : decode cX6_countMeetings 104 = .ok (.goto (-60), 3) := by decide +kernel
theorem dX6_countMeetings_107 : decode cX6_countMeetings 107 = .ok (.iinc 5 1, 3) := by decide +kernel
theorem dX6_countMeetings_110 : decode cX6_countMeetings 110 = .ok (.goto (-83), 3) := by decide +kernel
theorem dX6_countMeetings_113 : decode cX6_countMeetings 113 = .ok (.lload_n 3, 1) := by decide +kernel
theorem dX6_countMeetings_114 : decode cX6_countMeetings 114 = .ok (.lreturn, 1) := by decide +kernel
theorem dX6_countJoined_0 : decode cX6_countJoined 0 = .ok (.lconst 0, 1) := by decide +kernel
theorem dX6_countJoined_1 : decode cX6_countJoined 1 = .ok (.lstore 4, 2) := by decide +kernel
theorem dX6_countJoined_3 : decode cX6_countJoined 3 = .ok (.iconst 0, 1) := by decide +kernel
theorem dX6_countJoined_4 : decode cX6_countJoined 4 = .ok (.istore 6, 2) := by decide +kernel
theorem dX6_countJoined_6 : decode cX6_countJoined 6 = .ok (.iload 6, 2) := by decide +kernel
theorem dX6_countJoined_8 : decode cX6_countJoined 8 = .ok (.aload_n 1, 1) := by decide +kernel
theorem dX6_countJoined_9 : decode cX6_countJoined 9 = .ok (.getfield 55, 3) := by decide +kernel
theorem dX6_countJoined_12 : decode cX6_countJoined 12 = .ok (.if_icmp .ge 87, 3) := by decide +kernel
theorem dX6_countJoined_15 : decode cX6_countJoined 15 = .ok (.aload_n 0, 1) := by decide +kernel
theorem dX6_countJoined_16 : decode cX6_countJoined 16 = .ok (.getfield 18, 3) := by decide +kernel
theorem dX6_countJoined_19 : decode cX6_countJoined 19 = .ok (.iconst 0, 1) := by decide +kernel
theorem dX6_countJoined_20 : decode cX6_countJoined 20 = .ok (.iload_n 2, 1) := by decide +kernel
theorem dX6_countJoined_21 : decode cX6_countJoined 21 = .ok (.iload 6, 2) := by decide +kernel
theorem dX6_countJoined_23 : decode cX6_countJoined 23 = .ok (.invokestatic 59, 3) := by decide +kernel
theorem dX6_countJoined_26 : decode cX6_countJoined 26 = .ok (.laload, 1) := by decide +kernel
theorem dX6_countJoined_27 : decode cX6_countJoined 27 = .ok (.lstore 7, 2) := by decide +kernel
theorem dX6_countJoined_29 : decode cX6_countJoined 29 = .ok (.iconst 0, 1) := by decide +kernel
theorem dX6_countJoined_30 : decode cX6_countJoined 30 = .ok (.istore 9, 2) := by decide +kernel
theorem dX6_countJoined_32 : decode cX6_countJoined 32 = .ok (.iload 9, 2) := by decide +kernel
theorem dX6_countJoined_34 : decode cX6_countJoined 34 = .ok (.aload_n 1, 1) := by decide +kernel
theorem dX6_countJoined_35 : decode cX6_countJoined 35 = .ok (.getfield 55, 3) := by decide +kernel
theorem dX6_countJoined_38 : decode cX6_countJoined 38 = .ok (.if_icmp .ge 55, 3) := by decide +kernel
theorem dX6_countJoined_41 : decode cX6_countJoined 41 = .ok (.lload 7, 2) := by decide +kernel
theorem dX6_countJoined_43 : decode cX6_countJoined 43 = .ok (.lconst 0, 1) := by decide +kernel
theorem dX6_countJoined_44 : decode cX6_countJoined 44 = .ok (.lcmp, 1) := by decide +kernel
theorem dX6_countJoined_45 : decode cX6_countJoined 45 = .ok (.ifCond .le 48, 3) := by decide +kernel
theorem dX6_countJoined_48 : decode cX6_countJoined 48 = .ok (.aload_n 1, 1) := by decide +kernel
theorem dX6_countJoined_49 : decode cX6_countJoined 49 = .ok (.getfield 63, 3) := by decide +kernel
theorem dX6_countJoined_52 : decode cX6_countJoined 52 = .ok (.iload 6, 2) := by decide +kernel
theorem dX6_countJoined_54 : decode cX6_countJoined 54 = .ok (.iaload, 1) := by decide +kernel
theorem dX6_countJoined_55 : decode cX6_countJoined 55 = .ok (.iload 9, 2) := by decide +kernel
theorem dX6_countJoined_57 : decode cX6_countJoined 57 = .ok (.invokestatic 66, 3) := by decide +kernel
theorem dX6_countJoined_60 : decode cX6_countJoined 60 = .ok (.ifCond .eq 27, 3) := by decide +kernel
theorem dX6_countJoined_63 : decode cX6_countJoined 63 = .ok (.lload 4, 2) := by decide +kernel
theorem dX6_countJoined_65 : decode cX6_countJoined 65 = .ok (.lload 7, 2) := by decide +kernel
theorem dX6_countJoined_67 : decode cX6_countJoined 67 = .ok (.aload_n 0, 1) := by decide +kernel
theorem dX6_countJoined_68 : decode cX6_countJoined 68 = .ok (.getfield 18, 3) := by decide +kernel
theorem dX6_countJoined_71 : decode cX6_countJoined 71 = .ok (.iconst 1, 1) := by decide +kernel
theorem dX6_countJoined_72 : decode cX6_countJoined 72 = .ok (.iload_n 3, 1) := by decide +kernel
theorem dX6_countJoined_73 : decode cX6_countJoined 73 = .ok (.iload 9, 2) := by decide +kernel
theorem dX6_countJoined_75 : decode cX6_countJoined 75 = .ok (.invokestatic 59, 3) := by decide +kernel
theorem dX6_countJoined_78 : decode cX6_countJoined 78 = .ok (.laload, 1) := by decide +kernel
theorem dX6_countJoined_79 : decode cX6_countJoined 79 = .ok (.invokestatic 70, 3) := by decide +kernel
theorem dX6_countJoined_82 : decode cX6_countJoined 82 = .ok (.invokestatic 51, 3) := by decide +kernel
theorem dX6_countJoined_85 : decode cX6_countJoined 85 = .ok (.lstore 4, 2) := by decide +kernel
theorem dX6_countJoined_87 : decode cX6_countJoined 87 = .ok (.iinc 9 1, 3) := by decide +kernel
theorem dX6_countJoined_90 : decode cX6_countJoined 90 = .ok (.goto (-58), 3) := by decide +kernel
theorem dX6_countJoined_93 : decode cX6_countJoined 93 = .ok (.iinc 6 1, 3) := by decide +kernel
theorem dX6_countJoined_96 : decode cX6_countJoined 96 = .ok (.goto (-90), 3) := by decide +kernel
theorem dX6_countJoined_99 : decode cX6_countJoined 99 = .ok (.lload 4, 2) := by decide +kernel
theorem dX6_countJoined_101 : decode cX6_countJoined 101 = .ok (.lreturn, 1) := by decide +kernel
theorem dX6_slot_0 : decode cX6_slot 0 = .ok (.iload_n 0, 1) := by decide +kernel
theorem dX6_slot_1 : decode cX6_slot 1 = .ok (.bipush 25, 2) := by decide +kernel
theorem dX6_slot_3 : decode cX6_slot 3 = .ok (.imul, 1) := by decide +kernel
theorem dX6_slot_4 : decode cX6_slot 4 = .ok (.iload_n 1, 1) := by decide +kernel
theorem dX6_slot_5 : decode cX6_slot 5 = .ok (.iadd, 1) := by decide +kernel
theorem dX6_slot_6 : decode cX6_slot 6 = .ok (.bipush 8, 2) := by decide +kernel
theorem dX6_slot_8 : decode cX6_slot 8 = .ok (.imul, 1) := by decide +kernel
theorem dX6_slot_9 : decode cX6_slot 9 = .ok (.iload_n 2, 1) := by decide +kernel
theorem dX6_slot_10 : decode cX6_slot 10 = .ok (.iadd, 1) := by decide +kernel
theorem dX6_slot_11 : decode cX6_slot 11 = .ok (.ireturn, 1) := by decide +kernel
theorem dX6_plus_0 : decode cX6_plus 0 = .ok (.ldc2_w 73, 3) := by decide +kernel
theorem dX6_plus_3 : decode cX6_plus 3 = .ok (.lload_n 0, 1) := by decide +kernel
theorem dX6_plus_4 : decode cX6_plus 4 = .ok (.lload_n 2, 1) := by decide +kernel
theorem dX6_plus_5 : decode cX6_plus 5 = .ok (.ladd, 1) := by decide +kernel
theorem dX6_plus_6 : decode cX6_plus 6 = .ok (.invokestatic 75, 3) := by decide +kernel
theorem dX6_plus_9 : decode cX6_plus 9 = .ok (.lreturn, 1) := by decide +kernel
theorem dX6_times_0 : decode cX6_times 0 = .ok (.lload_n 0, 1) := by decide +kernel
theorem dX6_times_1 : decode cX6_times 1 = .ok (.lconst 0, 1) := by decide +kernel
theorem dX6_times_2 : decode cX6_times 2 = .ok (.lcmp, 1) := by decide +kernel
theorem dX6_times_3 : decode cX6_times 3 = .ok (.ifCond .le 9, 3) := by decide +kernel
theorem dX6_times_6 : decode cX6_times 6 = .ok (.lload_n 2, 1) := by decide +kernel
theorem dX6_times_7 : decode cX6_times 7 = .ok (.lconst 0, 1) := by decide +kernel
theorem dX6_times_8 : decode cX6_times 8 = .ok (.lcmp, 1) := by decide +kernel
theorem dX6_times_9 : decode cX6_times 9 = .ok (.ifCond .gt 5, 3) := by decide +kernel
theorem dX6_times_12 : decode cX6_times 12 = .ok (.lconst 0, 1) := by decide +kernel
theorem dX6_times_13 : decode cX6_times 13 = .ok (.lreturn, 1) := by decide +kernel
theorem dX6_times_14 : decode cX6_times 14 = .ok (.lload_n 2, 1) := by decide +kernel
theorem dX6_times_15 : decode cX6_times 15 = .ok (.ldc2_w 73, 3) := by decide +kernel
theorem dX6_times_18 : decode cX6_times 18 = .ok (.lload_n 0, 1) := by decide +kernel
theorem dX6_times_19 : decode cX6_times 19 = .ok (.ldiv, 1) := by decide +kernel
theorem dX6_times_20 : decode cX6_times 20 = .ok (.lcmp, 1) := by decide +kernel
theorem dX6_times_21 : decode cX6_times 21 = .ok (.ifCond .le 9, 3) := by decide +kernel
theorem dX6_times_24 : decode cX6_times 24 = .ok (.ldc2_w 73, 3) := by decide +kernel
theorem dX6_times_27 : decode cX6_times 27 = .ok (.goto 6, 3) := by decide +kernel
theorem dX6_times_30 : decode cX6_times 30 = .ok (.lload_n 0, 1) := by decide +kernel
theorem dX6_times_31 : decode cX6_times 31 = .ok (.lload_n 2, 1) := by decide +kernel
theorem dX6_times_32 : decode cX6_times 32 = .ok (.lmul, 1) := by decide +kernel
theorem dX6_times_33 : decode cX6_times 33 = .ok (.lreturn, 1) := by decide +kernel
theorem dX6_countSide_0 : decode cX6_countSide 0 = .ok (.aload_n 2, 1) := by decide +kernel
theorem dX6_countSide_1 : decode cX6_countSide 1 = .ok (.iload_n 3, 1) := by decide +kernel
theorem dX6_countSide_2 : decode cX6_countSide 2 = .ok (.invokevirtual 80, 3) := by decide +kernel
theorem dX6_countSide_5 : decode cX6_countSide 5 = .ok (.istore 4, 2) := by decide +kernel
theorem dX6_countSide_7 : decode cX6_countSide 7 = .ok (.iload 4, 2) := by decide +kernel
theorem dX6_countSide_9 : decode cX6_countSide 9 = .ok (.ifCond .lt 16, 3) := by decide +kernel
theorem dX6_countSide_12 : decode cX6_countSide 12 = .ok (.aload_n 0, 1) := by decide +kernel
theorem dX6_countSide_13 : decode cX6_countSide 13 = .ok (.getfield 18, 3) := by decide +kernel
theorem dX6_countSide_16 : decode cX6_countSide 16 = .ok (.iload_n 3, 1) := by decide +kernel
theorem dX6_countSide_17 : decode cX6_countSide 17 = .ok (.iconst 0, 1) := by decide +kernel
theorem dX6_countSide_18 : decode cX6_countSide 18 = .ok (.iload 4, 2) := by decide +kernel
theorem dX6_countSide_20 : decode cX6_countSide 20 = .ok (.invokestatic 59, 3) := by decide +kernel
theorem dX6_countSide_23 : decode cX6_countSide 23 = .ok (.lconst 1, 1) := by decide +kernel
theorem dX6_countSide_24 : decode cX6_countSide 24 = .ok (.lastore, 1) := by decide +kernel
theorem dX6_countSide_25 : decode cX6_countSide 25 = .ok (.bipush 24, 2) := by decide +kernel
theorem dX6_countSide_27 : decode cX6_countSide 27 = .ok (.aload_n 1, 1) := by decide +kernel
theorem dX6_countSide_28 : decode cX6_countSide 28 = .ok (.iload_n 3, 1) := by decide +kernel
theorem dX6_countSide_29 : decode cX6_countSide 29 = .ok (.invokevirtual 84, 3) := by decide +kernel
theorem dX6_countSide_32 : decode cX6_countSide 32 = .ok (.invokestatic 87, 3) := by decide +kernel
theorem dX6_countSide_35 : decode cX6_countSide 35 = .ok (.aload_n 2, 1) := by decide +kernel
theorem dX6_countSide_36 : decode cX6_countSide 36 = .ok (.getfield 31, 3) := by decide +kernel
theorem dX6_countSide_39 : decode cX6_countSide 39 = .ok (.iload_n 3, 1) := by decide +kernel
theorem dX6_countSide_40 : decode cX6_countSide 40 = .ok (.iaload, 1) := by decide +kernel
theorem dX6_countSide_41 : decode cX6_countSide 41 = .ok (.isub, 1) := by decide +kernel
theorem dX6_countSide_42 : decode cX6_countSide 42 = .ok (.istore 5, 2) := by decide +kernel
theorem dX6_countSide_44 : decode cX6_countSide 44 = .ok (.aload_n 0, 1) := by decide +kernel
theorem dX6_countSide_45 : decode cX6_countSide 45 = .ok (.getfield 15, 3) := by decide +kernel
theorem dX6_countSide_48 : decode cX6_countSide 48 = .ok (.lconst 0, 1) := by decide +kernel
theorem dX6_countSide_49 : decode cX6_countSide 49 = .ok (.invokestatic 21, 3) := by decide +kernel
theorem dX6_countSide_52 : decode cX6_countSide 52 = .ok (.aload_n 0, 1) := by decide +kernel
theorem dX6_countSide_53 : decode cX6_countSide 53 = .ok (.aload_n 1, 1) := by decide +kernel
theorem dX6_countSide_54 : decode cX6_countSide 54 = .ok (.aload_n 2, 1) := by decide +kernel
theorem dX6_countSide_55 : decode cX6_countSide 55 = .ok (.iload_n 3, 1) := by decide +kernel
theorem dX6_countSide_56 : decode cX6_countSide 56 = .ok (.iconst 0, 1) := by decide +kernel
theorem dX6_countSide_57 : decode cX6_countSide 57 = .ok (.aload_n 1, 1) := by decide +kernel
theorem dX6_countSide_58 : decode cX6_countSide 58 = .ok (.iload_n 3, 1) := by decide +kernel
theorem dX6_countSide_59 : decode cX6_countSide 59 = .ok (.iload 4, 2) := by decide +kernel
theorem dX6_countSide_61 : decode cX6_countSide 61 = .ok (.invokevirtual 89, 3) := by decide +kernel
theorem dX6_countSide_64 : decode cX6_countSide 64 = .ok (.lconst 1, 1) := by decide +kernel
theorem dX6_countSide_65 : decode cX6_countSide 65 = .ok (.invokevirtual 92, 3) := by decide +kernel
theorem dX6_countSide_68 : decode cX6_countSide 68 = .ok (.iconst 1, 1) := by decide +kernel
theorem dX6_countSide_69 : decode cX6_countSide 69 = .ok (.istore 6, 2) := by decide +kernel
theorem dX6_countSide_71 : decode cX6_countSide 71 = .ok (.iload 6, 2) := by decide +kernel
theorem dX6_countSide_73 : decode cX6_countSide 73 = .ok (.iload 5, 2) := by decide +kernel
theorem dX6_countSide_75 : decode cX6_countSide 75 = .ok (.if_icmp .gt 50, 3) := by decide +kernel
theorem dX6_countSide_78 : decode cX6_countSide 78 = .ok (.aload_n 0, 1) := by decide +kernel
theorem dX6_countSide_79 : decode cX6_countSide 79 = .ok (.getfield 9, 3) := by decide +kernel
theorem dX6_countSide_82 : decode cX6_countSide 82 = .ok (.astore 7, 2) := by decide +kernel
theorem dX6_countSide_84 : decode cX6_countSide 84 = .ok (.aload_n 0, 1) := by decide +kernel
theorem dX6_countSide_85 : decode cX6_countSide 85 = .ok (.aload_n 0, 1) := by decide +kernel
theorem dX6_countSide_86 : decode cX6_countSide 86 = .ok (.getfield 15, 3) := by decide +kernel
theorem dX6_countSide_89 : decode cX6_countSide 89 = .ok (.putfield 9, 3) := by decide +kernel
theorem dX6_countSide_92 : decode cX6_countSide 92 = .ok (.aload_n 0, 1) := by decide +kernel
theorem dX6_countSide_93 : decode cX6_countSide 93 = .ok (.aload 7, 2) := by decide +kernel
theorem dX6_countSide_95 : decode cX6_countSide 95 = .ok (.putfield 15, 3) := by decide +kernel
theorem dX6_countSide_98 : decode cX6_countSide 98 = .ok (.aload_n 0, 1) := by decide +kernel
theorem dX6_countSide_99 : decode cX6_countSide 99 = .ok (.getfield 15, 3) := by decide +kernel
theorem dX6_countSide_102 : decode cX6_countSide 102 = .ok (.lconst 0, 1) := by decide +kernel
theorem dX6_countSide_103 : decode cX6_countSide 103 = .ok (.invokestatic 21, 3) := by decide +kernel
theorem dX6_countSide_106 : decode cX6_countSide 106 = .ok (.aload_n 0, 1) := by decide +kernel
theorem dX6_countSide_107 : decode cX6_countSide 107 = .ok (.aload_n 1, 1) := by decide +kernel
theorem dX6_countSide_108 : decode cX6_countSide 108 = .ok (.aload_n 2, 1) := by decide +kernel
theorem dX6_countSide_109 : decode cX6_countSide 109 = .ok (.iload_n 3, 1) := by decide +kernel
theorem dX6_countSide_110 : decode cX6_countSide 110 = .ok (.iload 6, 2) := by decide +kernel
theorem dX6_countSide_112 : decode cX6_countSide 112 = .ok (.invokevirtual 96, 3) := by decide +kernel
theorem dX6_countSide_115 : decode cX6_countSide 115 = .ok (.ifCond .ne 4, 3) := by decide +kernel
theorem dX6_countSide_118 : decode cX6_countSide 118 = .ok (.return_, 1) := by decide +kernel
theorem dX6_countSide_119 : decode cX6_countSide 119 = .ok (.iinc 6 1, 3) := by decide +kernel
theorem dX6_countSide_122 : decode cX6_countSide 122 = .ok (.goto (-51), 3) := by decide +kernel
theorem dX6_countSide_125 : decode cX6_countSide 125 = .ok (.return_, 1) := by decide +kernel
theorem dX6_countChains_0 : decode cX6_countChains 0 = .ok (.iconst 0, 1) := by decide +kernel
theorem dX6_countChains_1 : decode cX6_countChains 1 = .ok (.istore 5, 2) := by decide +kernel
theorem dX6_countChains_3 : decode cX6_countChains 3 = .ok (.iconst 0, 1) := by decide +kernel
theorem dX6_countChains_4 : decode cX6_countChains 4 = .ok (.istore 6, 2) := by decide +kernel
theorem dX6_countChains_6 : decode cX6_countChains 6 = .ok (.iload 6, 2) := by decide +kernel
theorem dX6_countChains_8 : decode cX6_countChains 8 = .ok (.bipush 100, 2) := by decide +kernel
theorem dX6_countChains_10 : decode cX6_countChains 10 = .ok (.if_icmp .ge 99, 3) := by decide +kernel
theorem dX6_countChains_13 : decode cX6_countChains 13 = .ok (.iconst 0, 1) := by decide +kernel
theorem dX6_countChains_14 : decode cX6_countChains 14 = .ok (.istore 7, 2) := by decide +kernel
theorem dX6_countChains_16 : decode cX6_countChains 16 = .ok (.iload 7, 2) := by decide +kernel
theorem dX6_countChains_18 : decode cX6_countChains 18 = .ok (.aload_n 1, 1) := by decide +kernel
theorem dX6_countChains_19 : decode cX6_countChains 19 = .ok (.getfield 55, 3) := by decide +kernel
theorem dX6_countChains_22 : decode cX6_countChains 22 = .ok (.if_icmp .ge 81, 3) := by decide +kernel
theorem dX6_countChains_25 : decode cX6_countChains 25 = .ok (.aload_n 0, 1) := by decide +kernel
theorem dX6_countChains_26 : decode cX6_countChains 26 = .ok (.getfield 9, 3) := by decide +kernel
theorem dX6_countChains_29 : decode cX6_countChains 29 = .ok (.iload 6, 2) := by decide +kernel
theorem dX6_countChains_31 : decode cX6_countChains 31 = .ok (.bipush 8, 2) := by decide +kernel
theorem dX6_countChains_33 : decode cX6_countChains 33 = .ok (.imul, 1) := by decide +kernel
theorem dX6_countChains_34 : decode cX6_countChains 34 = .ok (.iload 7, 2) := by decide +kernel
theorem dX6_countChains_36 : decode cX6_countChains 36 = .ok (.iadd, 1) := by decide +kernel
theorem dX6_countChains_37 : decode cX6_countChains 37 = .ok (.laload, 1) := by decide +kernel
theorem dX6_countChains_38 : decode cX6_countChains 38 = .ok (.lstore 8, 2) := by decide +kernel
theorem dX6_countChains_40 : decode cX6_countChains 40 = .ok (.lload 8, 2) := by decide +kernel
theorem dX6_countChains_42 : decode cX6_countChains 42 = .ok (.lconst 0, 1) := by decide +kernel
theorem dX6_countChains_43 : decode cX6_countChains 43 = .ok (.lcmp, 1) := by decide +kernel
theorem dX6_countChains_44 : decode cX6_countChains 44 = .ok (.ifCond .le 53, 3) := by decide +kernel
theorem dX6_countChains_47 : decode cX6_countChains 47 = .ok (.iconst 1, 1) := by decide +kernel
theorem dX6_countChains_48 : decode cX6_countChains 48 = .ok (.istore 5, 2) := by decide +kernel
theorem dX6_countChains_50 : decode cX6_countChains 50 = .ok (.iload_n 3, 1) := by decide +kernel
theorem dX6_countChains_51 : decode cX6_countChains 51 = .ok (.iload 4, 2) := by decide +kernel
theorem dX6_countChains_53 : decode cX6_countChains 53 = .ok (.iload 7, 2) := by decide +kernel
theorem dX6_countChains_55 : decode cX6_countChains 55 = .ok (.invokestatic 59, 3) := by decide +kernel
theorem dX6_countChains_58 : decode cX6_countChains 58 = .ok (.istore 10, 2) := by decide +kernel
theorem dX6_countChains_60 : decode cX6_countChains 60 = .ok (.aload_n 0, 1) := by decide +kernel
theorem dX6_countChains_61 : decode cX6_countChains 61 = .ok (.getfield 18, 3) := by decide +kernel
theorem dX6_countChains_64 : decode cX6_countChains 64 = .ok (.iload 10, 2) := by decide +kernel
theorem dX6_countChains_66 : decode cX6_countChains 66 = .ok (.aload_n 0, 1) := by decide +kernel
theorem dX6_countChains_67 : decode cX6_countChains 67 = .ok (.getfield 18, 3) := by decide +kernel
theorem dX6_countChains_70 : decode cX6_countChains 70 = .ok (.iload 10, 2) := by decide +kernel
theorem dX6_countChains_72 : decode cX6_countChains 72 = .ok (.laload, 1) := by decide +kernel
theorem dX6_countChains_73 : decode cX6_countChains 73 = .ok (.lload 8, 2) := by decide +kernel
theorem dX6_countChains_75 : decode cX6_countChains 75 = .ok (.invokestatic 51, 3) := by decide +kernel
theorem dX6_countChains_78 : decode cX6_countChains 78 = .ok (.lastore, 1) := by decide +kernel
theorem dX6_countChains_79 : decode cX6_countChains 79 = .ok (.aload_n 0, 1) := by decide +kernel
theorem dX6_countChains_80 : decode cX6_countChains 80 = .ok (.aload_n 1, 1) := by decide +kernel
theorem dX6_countChains_81 : decode cX6_countChains 81 = .ok (.aload_n 2, 1) := by decide +kernel
theorem dX6_countChains_82 : decode cX6_countChains 82 = .ok (.iload_n 3, 1) := by decide +kernel
theorem dX6_countChains_83 : decode cX6_countChains 83 = .ok (.iload 6, 2) := by decide +kernel
theorem dX6_countChains_85 : decode cX6_countChains 85 = .ok (.aload_n 1, 1) := by decide +kernel
theorem dX6_countChains_86 : decode cX6_countChains 86 = .ok (.iload_n 3, 1) := by decide +kernel
theorem dX6_countChains_87 : decode cX6_countChains 87 = .ok (.iload 7, 2) := by decide +kernel
theorem dX6_countChains_89 : decode cX6_countChains 89 = .ok (.invokevirtual 89, 3) := by decide +kernel
theorem dX6_countChains_92 : decode cX6_countChains 92 = .ok (.lload 8, 2) := by decide +kernel
theorem dX6_countChains_94 : decode cX6_countChains 94 = .ok (.invokevirtual 92, 3) := by decide +kernel
theorem dX6_countChains_97 : decode cX6_countChains 97 = .ok (.iinc 7 1, 3) := by decide +kernel
theorem dX6_countChains_100 : decode cX6_countChains 100 = .ok (.goto (-84), 3) := by decide +kernel
theorem dX6_countChains_103 : decode cX6_countChains 103 = .ok (.iinc 6 1, 3) := by decide +kernel
theorem dX6_countChains_106 : decode cX6_countChains 106 = .ok (.goto (-100), 3) := by decide +kernel
theorem dX6_countChains_109 : decode cX6_countChains 109 = .ok (.iload 5, 2) := by decide +kernel
theorem dX6_countChains_111 : decode cX6_countChains 111 = .ok (.ireturn, 1) := by decide +kernel
theorem dX6_lengthen_0 : decode cX6_lengthen 0 = .ok (.iconst 0, 1) := by decide +kernel
theorem dX6_lengthen_1 : decode cX6_lengthen 1 = .ok (.istore 8, 2) := by decide +kernel
theorem dX6_lengthen_3 : decode cX6_lengthen 3 = .ok (.iload 8, 2) := by decide +kernel
theorem dX6_lengthen_5 : decode cX6_lengthen 5 = .ok (.aload_n 1, 1) := by decide +kernel
theorem dX6_lengthen_6 : decode cX6_lengthen 6 = .ok (.getfield 55, 3) := by decide +kernel
theorem dX6_lengthen_9 : decode cX6_lengthen 9 = .ok (.if_icmp .ge 109, 3) := by decide +kernel
theorem dX6_lengthen_12 : decode cX6_lengthen 12 = .ok (.iload 5, 2) := by decide +kernel
theorem dX6_lengthen_14 : decode cX6_lengthen 14 = .ok (.iload 8, 2) := by decide +kernel
theorem dX6_lengthen_16 : decode cX6_lengthen 16 = .ok (.invokestatic 66, 3) := by decide +kernel
theorem dX6_lengthen_19 : decode cX6_lengthen 19 = .ok (.ifCond .ne 6, 3) := by decide +kernel
theorem dX6_lengthen_22 : decode cX6_lengthen 22 = .ok (.goto 90, 3) := by decide +kernel
theorem dX6_lengthen_25 : decode cX6_lengthen 25 = .ok (.iload 4, 2) := by decide +kernel
theorem dX6_lengthen_27 : decode cX6_lengthen 27 = .ok (.bipush 10, 2) := by decide +kernel
theorem dX6_lengthen_29 : decode cX6_lengthen 29 = .ok (.idiv, 1) := by decide +kernel
theorem dX6_lengthen_30 : decode cX6_lengthen 30 = .ok (.aload_n 1, 1) := by decide +kernel
theorem dX6_lengthen_31 : decode cX6_lengthen 31 = .ok (.iload 8, 2) := by decide +kernel
theorem dX6_lengthen_33 : decode cX6_lengthen 33 = .ok (.iconst 0, 1) := by decide +kernel
theorem dX6_lengthen_34 : decode cX6_lengthen 34 = .ok (.invokevirtual 100, 3) := by decide +kernel
theorem dX6_lengthen_37 : decode cX6_lengthen 37 = .ok (.iadd, 1) := by decide +kernel
theorem dX6_lengthen_38 : decode cX6_lengthen 38 = .ok (.istore 9, 2) := by decide +kernel
theorem dX6_lengthen_40 : decode cX6_lengthen 40 = .ok (.iload 4, 2) := by decide +kernel
theorem dX6_lengthen_42 : decode cX6_lengthen 42 = .ok (.bipush 10, 2) := by decide +kernel
theorem dX6_lengthen_44 : decode cX6_lengthen 44 = .ok (.irem, 1) := by decide +kernel
theorem dX6_lengthen_45 : decode cX6_lengthen 45 = .ok (.aload_n 1, 1) := by decide +kernel
theorem dX6_lengthen_46 : decode cX6_lengthen 46 = .ok (.iload 8, 2) := by decide +kernel
theorem dX6_lengthen_48 : decode cX6_lengthen 48 = .ok (.iconst 1, 1) := by decide +kernel
theorem dX6_lengthen_49 : decode cX6_lengthen 49 = .ok (.invokevirtual 100, 3) := by decide +kernel
theorem dX6_lengthen_52 : decode cX6_lengthen 52 = .ok (.iadd, 1) := by decide +kernel
theorem dX6_lengthen_53 : decode cX6_lengthen 53 = .ok (.istore 10, 2) := by decide +kernel
theorem dX6_lengthen_55 : decode cX6_lengthen 55 = .ok (.iload 9, 2) := by decide +kernel
theorem dX6_lengthen_57 : decode cX6_lengthen 57 = .ok (.aload_n 2, 1) := by decide +kernel
theorem dX6_lengthen_58 : decode cX6_lengthen 58 = .ok (.iload_n 3, 1) := by decide +kernel
theorem dX6_lengthen_59 : decode cX6_lengthen 59 = .ok (.iconst 0, 1) := by decide +kernel
theorem dX6_lengthen_60 : decode cX6_lengthen 60 = .ok (.invokevirtual 103, 3) := by decide +kernel
theorem dX6_lengthen_63 : decode cX6_lengthen 63 = .ok (.if_icmp .gt 49, 3) := by decide +kernel
theorem dX6_lengthen_66 : decode cX6_lengthen 66 = .ok (.iload 10, 2) := by decide +kernel
theorem dX6_lengthen_68 : decode cX6_lengthen 68 = .ok (.aload_n 2, 1) := by decide +kernel
theorem dX6_lengthen_69 : decode cX6_lengthen 69 = .ok (.iload_n 3, 1) := by decide +kernel
theorem dX6_lengthen_70 : decode cX6_lengthen 70 = .ok (.iconst 1, 1) := by decide +kernel
theorem dX6_lengthen_71 : decode cX6_lengthen 71 = .ok (.invokevirtual 103, 3) := by decide +kernel
theorem dX6_lengthen_74 : decode cX6_lengthen 74 = .ok (.if_icmp .gt 38, 3) := by decide +kernel
theorem dX6_lengthen_77 : decode cX6_lengthen 77 = .ok (.iload 9, 2) := by decide +kernel
theorem dX6_lengthen_79 : decode cX6_lengthen 79 = .ok (.bipush 10, 2) := by decide +kernel
theorem dX6_lengthen_81 : decode cX6_lengthen 81 = .ok (.imul, 1) := by decide +kernel
theorem dX6_lengthen_82 : decode cX6_lengthen 82 = .ok (.iload 10, 2) := by decide +kernel
theorem dX6_lengthen_84 : decode cX6_lengthen 84 = .ok (.iadd, 1) := by decide +kernel
theorem dX6_lengthen_85 : decode cX6_lengthen 85 = .ok (.bipush 8, 2) := by decide +kernel
theorem dX6_lengthen_87 : decode cX6_lengthen 87 = .ok (.imul, 1) := by decide +kernel
theorem dX6_lengthen_88 : decode cX6_lengthen 88 = .ok (.iload 8, 2) := by decide +kernel
theorem dX6_lengthen_90 : decode cX6_lengthen 90 = .ok (.iadd, 1) := by decide +kernel
theorem dX6_lengthen_91 : decode cX6_lengthen 91 = .ok (.istore 11, 2) := by decide +kernel
theorem dX6_lengthen_93 : decode cX6_lengthen 93 = .ok (.aload_n 0, 1) := by decide +kernel
theorem dX6_lengthen_94 : decode cX6_lengthen 94 = .ok (.getfield 15, 3) := by decide +kernel
theorem dX6_lengthen_97 : decode cX6_lengthen 97 = .ok (.iload 11, 2) := by decide +kernel
theorem dX6_lengthen_99 : decode cX6_lengthen 99 = .ok (.aload_n 0, 1) := by decide +kernel
theorem dX6_lengthen_100 : decode cX6_lengthen 100 = .ok (.getfield 15, 3) := by decide +kernel
theorem dX6_lengthen_103 : decode cX6_lengthen 103 = .ok (.iload 11, 2) := by decide +kernel
theorem dX6_lengthen_105 : decode cX6_lengthen 105 = .ok (.laload, 1) := by decide +kernel
theorem dX6_lengthen_106 : decode cX6_lengthen 106 = .ok (.lload 6, 2) := by decide +kernel
theorem dX6_lengthen_108 : decode cX6_lengthen 108 = .ok (.invokestatic 51, 3) := by decide +kernel
theorem dX6_lengthen_111 : decode cX6_lengthen 111 = .ok (.lastore, 1) := by decide +kernel
theorem dX6_lengthen_112 : decode cX6_lengthen 112 = .ok (.iinc 8 1, 3) := by decide +kernel
theorem dX6_lengthen_115 : decode cX6_lengthen 115 = .ok (.goto (-112), 3) := by decide +kernel
theorem dX6_lengthen_118 : decode cX6_lengthen 118 = .ok (.return_, 1) := by decide +kernel
theorem dX7_init_0 : decode cX7_init 0 = .ok (.aload_n 0, 1) := by decide +kernel
theorem dX7_init_1 : decode cX7_init 1 = .ok (.invokespecial 3, 3) := by decide +kernel
theorem dX7_init_4 : decode cX7_init 4 = .ok (.aload_n 0, 1) := by decide +kernel
theorem dX7_init_5 : decode cX7_init 5 = .ok (.bipush 8, 2) := by decide +kernel
theorem dX7_init_7 : decode cX7_init 7 = .ok (.newarray .int, 2) := by decide +kernel
theorem dX7_init_9 : decode cX7_init 9 = .ok (.putfield 9, 3) := by decide +kernel
theorem dX7_init_12 : decode cX7_init 12 = .ok (.aload_n 0, 1) := by decide +kernel
theorem dX7_init_13 : decode cX7_init 13 = .ok (.iconst 2, 1) := by decide +kernel
theorem dX7_init_14 : decode cX7_init 14 = .ok (.newarray .int, 2) := by decide +kernel
theorem dX7_init_16 : decode cX7_init 16 = .ok (.putfield 15, 3) := by decide +kernel
theorem dX7_init_19 : decode cX7_init 19 = .ok (.aload_n 0, 1) := by decide +kernel
theorem dX7_init_20 : decode cX7_init 20 = .ok (.sipush 2500, 3) := by decide +kernel
theorem dX7_init_23 : decode cX7_init 23 = .ok (.newarray .int, 2) := by decide +kernel
theorem dX7_init_25 : decode cX7_init 25 = .ok (.putfield 18, 3) := by decide +kernel
theorem dX7_init_28 : decode cX7_init 28 = .ok (.aload_n 0, 1) := by decide +kernel
theorem dX7_init_29 : decode cX7_init 29 = .ok (.bipush 25, 2) := by decide +kernel
theorem dX7_init_31 : decode cX7_init 31 = .ok (.newarray .int, 2) := by decide +kernel
theorem dX7_init_33 : decode cX7_init 33 = .ok (.putfield 21, 3) := by decide +kernel
theorem dX7_init_36 : decode cX7_init 36 = .ok (.aload_n 0, 1) := by decide +kernel
theorem dX7_init_37 : decode cX7_init 37 = .ok (.iconst 0, 1) := by decide +kernel
theorem dX7_init_38 : decode cX7_init 38 = .ok (.putfield 24, 3) := by decide +kernel
theorem dX7_init_41 : decode cX7_init 41 = .ok (.return_, 1) := by decide +kernel
theorem dX7_headInward_0 : decode cX7_headInward 0 = .ok (.iconst 0, 1) := by decide +kernel
theorem dX7_headInward_1 : decode cX7_headInward 1 = .ok (.istore_n 3, 1) := by decide +kernel
theorem dX7_headInward_2 : decode cX7_headInward 2 = .ok (.iload_n 3, 1) := by decide +kernel
theorem dX7_headInward_3 : decode cX7_headInward 3 = .ok (.aload_n 1, 1) := by decide +kernel
theorem dX7_headInward_4 : decode cX7_headInward 4 = .ok (.getfield 28, 3) := by decide +kernel
theorem dX7_headInward_7 : decode cX7_headInward 7 = .ok (.if_icmp .ge 21, 3) := by decide +kernel
theorem dX7_headInward_10 : decode cX7_headInward 10 = .ok (.aload_n 0, 1) := by decide +kernel
theorem dX7_headInward_11 : decode cX7_headInward 11 = .ok (.getfield 9, 3) := by decide +kernel
theorem dX7_headInward_14 : decode cX7_headInward 14 = .ok (.iload_n 3, 1) := by decide +kernel
theorem dX7_headInward_15 : decode cX7_headInward 15 = .ok (.aload_n 1, 1) := by decide +kernel
theorem dX7_headInward_16 : decode cX7_headInward 16 = .ok (.iload_n 2, 1) := by decide +kernel
theorem dX7_headInward_17 : decode cX7_headInward 17 = .ok (.iload_n 3, 1) := by decide +kernel
theorem dX7_headInward_18 : decode cX7_headInward 18 = .ok (.invokevirtual 33, 3) := by decide +kernel
theorem dX7_headInward_21 : decode cX7_headInward 21 = .ok (.iastore, 1) := by decide +kernel
theorem dX7_headInward_22 : decode cX7_headInward 22 = .ok (.iinc 3 1, 3) := by decide +kernel
theorem dX7_headInward_25 : decode cX7_headInward 25 = .ok (.goto (-23), 3) := by decide +kernel
theorem dX7_headInward_28 : decode cX7_headInward 28 = .ok (.return_, 1) := by decide +kernel
theorem dX7_headBack_0 : decode cX7_headBack 0 = .ok (.iconst 0, 1) := by decide +kernel
theorem dX7_headBack_1 : decode cX7_headBack 1 = .ok (.istore_n 2, 1) := by decide +kernel
theorem dX7_headBack_2 : decode cX7_headBack 2 = .ok (.iload_n 2, 1) := by decide +kernel
theorem dX7_headBack_3 : decode cX7_headBack 3 = .ok (.aload_n 1, 1) := by decide +kernel
theorem dX7_headBack_4 : decode cX7_headBack 4 = .ok (.getfield 28, 3) := by decide +kernel
theorem dX7_headBack_7 : decode cX7_headBack 7 = .ok (.if_icmp .ge 28, 3) := by decide +kernel
theorem dX7_headBack_10 : decode cX7_headBack 10 = .ok (.aload_n 0, 1) := by decide +kernel
theorem dX7_headBack_11 : decode cX7_headBack 11 = .ok (.getfield 9, 3) := by decide +kernel
theorem dX7_headBack_14 : decode cX7_headBack 14 = .ok (.iload_n 2, 1) := by decide +kernel
theorem dX7_headBack_15 : decode cX7_headBack 15 = .ok (.aload_n 1, 1) := by decide +kernel
theorem dX7_headBack_16 : decode cX7_headBack 16 = .ok (.getfield 37, 3) := by decide +kernel
theorem dX7_headBack_19 : decode cX7_headBack 19 = .ok (.iload_n 2, 1) := by decide +kernel
theorem dX7_headBack_20 : decode cX7_headBack 20 = .ok (.iaload, 1) := by decide +kernel
theorem dX7_headBack_21 : decode cX7_headBack 21 = .ok (.aload_n 1, 1) := by decide +kernel
theorem dX7_headBack_22 : decode cX7_headBack 22 = .ok (.getfield 40, 3) := by decide +kernel
theorem dX7_headBack_25 : decode cX7_headBack 25 = .ok (.iconst (-1), 1) := by decide +kernel
theorem dX7_headBack_26 : decode cX7_headBack 26 = .ok (.ixor, 1) := by decide +kernel
theorem dX7_headBack_27 : decode cX7_headBack 27 = .ok (.iand, 1) := by decide +kernel
theorem dX7_headBack_28 : decode cX7_headBack 28 = .ok (.iastore, 1) := by decide +kernel
theorem dX7_headBack_29 : decode cX7_headBack 29 = .ok (.iinc 2 1, 3) := by decide +kernel
theorem dX7_headBack_32 : decode cX7_headBack 32 = .ok (.goto (-30), 3) := by decide +kernel
theorem dX7_headBack_35 : decode cX7_headBack 35 = .ok (.return_, 1) := by decide +kernel
theorem dX7_spread_0 : decode cX7_spread 0 = .ok (.aload_n 0, 1) := by decide +kernel
theorem dX7_spread_1 : decode cX7_spread 1 = .ok (.getfield 18, 3) := by decide +kernel
theorem dX7_spread_4 : decode cX7_spread 4 = .ok (.iconst 0, 1) := by decide +kernel
theorem dX7_spread_5 : decode cX7_spread 5 = .ok (.invokestatic 43, 3) := by decide +kernel
theorem dX7_spread_8 : decode cX7_spread 8 = .ok (.aload_n 0, 1) := by decide +kernel
theorem dX7_spread_9 : decode cX7_spread 9 = .ok (.getfield 21, 3) := by decide +kernel
theorem dX7_spread_12 : decode cX7_spread 12 = .ok (.iconst 0, 1) := by decide +kernel
theorem dX7_spread_13 : decode cX7_spread 13 = .ok (.invokestatic 43, 3) := by decide +kernel
theorem dX7_spread_16 : decode cX7_spread 16 = .ok (.aload_n 0, 1) := by decide +kernel
theorem dX7_spread_17 : decode cX7_spread 17 = .ok (.iconst 0, 1) := by decide +kernel
theorem dX7_spread_18 : decode cX7_spread 18 = .ok (.putfield 24, 3) := by decide +kernel
theorem dX7_spread_21 : decode cX7_spread 21 = .ok (.aload_n 0, 1) := by decide +kernel
theorem dX7_spread_22 : decode cX7_spread 22 = .ok (.getfield 15, 3) := by decide +kernel
theorem dX7_spread_25 : decode cX7_spread 25 = .ok (.iconst 0, 1) := by decide +kernel
theorem dX7_spread_26 : decode cX7_spread 26 = .ok (.iload_n 3, 1) := by decide +kernel
theorem dX7_spread_27 : decode cX7_spread 27 = .ok (.bipush 9, 2) := by decide +kernel
theorem dX7_spread_29 : decode cX7_spread 29 = .ok (.invokestatic 49, 3) := by decide +kernel
theorem dX7_spread_32 : decode cX7_spread 32 = .ok (.iastore, 1) := by decide +kernel
theorem dX7_spread_33 : decode cX7_spread 33 = .ok (.aload_n 0, 1) := by decide +kernel
theorem dX7_spread_34 : decode cX7_spread 34 = .ok (.getfield 15, 3) := by decide +kernel
theorem dX7_spread_37 : decode cX7_spread 37 = .ok (.iconst 1, 1) := by decide +kernel
theorem dX7_spread_38 : decode cX7_spread 38 = .ok (.iload 4, 2) := by decide +kernel
theorem dX7_spread_40 : decode cX7_spread 40 = .ok (.bipush 9, 2) := by decide +kernel
theorem dX7_spread_42 : decode cX7_spread 42 = .ok (.invokestatic 49, 3) := by decide +kernel
theorem dX7_spread_45 : decode cX7_spread 45 = .ok (.iastore, 1) := by decide +kernel
theorem dX7_spread_46 : decode cX7_spread 46 = .ok (.iload 5, 2) := by decide +kernel
theorem dX7_spread_48 : decode cX7_spread 48 = .ok (.bipush 24, 2) := by decide +kernel
theorem dX7_spread_50 : decode cX7_spread 50 = .ok (.invokestatic 49, 3) := by decide +kernel
theorem dX7_spread_53 : decode cX7_spread 53 = .ok (.istore 6, 2) := by decide +kernel
theorem dX7_spread_55 : decode cX7_spread 55 = .ok (.iload 6, 2) := by decide +kernel
theorem dX7_spread_57 : decode cX7_spread 57 = .ok (.ifCond .le 12, 3) := by decide +kernel
theorem dX7_spread_60 : decode cX7_spread 60 = .ok (.aload_n 0, 1) := by decide +kernel
theorem dX7_spread_61 : decode cX7_spread 61 = .ok (.aload_n 1, 1) := by decide +kernel
theorem dX7_spread_62 : decode cX7_spread 62 = .ok (.iconst 1, 1) := by decide +kernel
theorem dX7_spread_63 : decode cX7_spread 63 = .ok (.iconst 0, 1) := by decide +kernel
theorem dX7_spread_64 : decode cX7_spread 64 = .ok (.iconst 0, 1) := by decide +kernel
theorem dX7_spread_65 : decode cX7_spread 65 = .ok (.iload_n 2, 1) := by decide +kernel
theorem dX7_spread_66 : decode cX7_spread 66 = .ok (.invokevirtual 54, 3) := by decide +kernel
theorem dX7_spread_69 : decode cX7_spread 69 = .ok (.iconst 1, 1) := by decide +kernel
theorem dX7_spread_70 : decode cX7_spread 70 = .ok (.istore 7, 2) := by decide +kernel
theorem dX7_spread_72 : decode cX7_spread 72 = .ok (.iload 7, 2) := by decide +kernel
theorem dX7_spread_74 : decode cX7_spread 74 = .ok (.iload 6, 2) := by decide +kernel
theorem dX7_spread_76 : decode cX7_spread 76 = .ok (.if_icmp .ge 105, 3) := by decide +kernel
theorem dX7_spread_79 : decode cX7_spread 79 = .ok (.aload_n 0, 1) := by decide +kernel
theorem dX7_spread_80 : decode cX7_spread 80 = .ok (.getfield 21, 3) := by decide +kernel
theorem dX7_spread_83 : decode cX7_spread 83 = .ok (.iload 7, 2) := by decide +kernel
theorem dX7_spread_85 : decode cX7_spread 85 = .ok (.iaload, 1) := by decide +kernel
theorem dX7_spread_86 : decode cX7_spread 86 = .ok (.ifCond .eq 95, 3) := by decide +kernel
theorem dX7_spread_89 : decode cX7_spread 89 = .ok (.iconst 0, 1) := by decide +kernel
theorem dX7_spread_90 : decode cX7_spread 90 = .ok (.istore 8, 2) := by decide +kernel
theorem dX7_spread_92 : decode cX7_spread 92 = .ok (.iload 8, 2) := by decide +kernel
theorem dX7_spread_94 : decode cX7_spread 94 = .ok (.aload_n 0, 1) := by decide +kernel
theorem dX7_spread_95 : decode cX7_spread 95 = .ok (.getfield 15, 3) := by decide +kernel
theorem dX7_spread_98 : decode cX7_spread 98 = .ok (.iconst 0, 1) := by decide +kernel
theorem dX7_spread_99 : decode cX7_spread 99 = .ok (.iaload, 1) := by decide +kernel
theorem dX7_spread_100 : decode cX7_spread 100 = .ok (.if_icmp .gt 75, 3) := by decide +kernel
theorem dX7_spread_103 : decode cX7_spread 103 = .ok (.iconst 0, 1) := by decide +kernel
theorem dX7_spread_104 : decode cX7_spread 104 = .ok (.istore 9, 2) := by decide +kernel
theorem dX7_spread_106 : decode cX7_spread 106 = .ok (.iload 9, 2) := by decide +kernel
theorem dX7_spread_108 : decode cX7_spread 108 = .ok (.aload_n 0, 1) := by decide +kernel
theorem dX7_spread_109 : decode cX7_spread 109 = .ok (.getfield 15, 3) := by decide +kernel
theorem dX7_spread_112 : decode cX7_spread 112 = .ok (.iconst 1, 1) := by decide +kernel
theorem dX7_spread_113 : decode cX7_spread 113 = .ok (.iaload, 1) := by decide +kernel
theorem dX7_spread_114 : decode cX7_spread 114 = .ok (.if_icmp .gt 55, 3) := by decide +kernel
theorem dX7_spread_117 : decode cX7_spread 117 = .ok (.aload_n 0, 1) := by decide +kernel
theorem dX7_spread_118 : decode cX7_spread 118 = .ok (.getfield 18, 3) := by decide +kernel
theorem dX7_spread_121 : decode cX7_spread 121 = .ok (.iload 7, 2) := by decide +kernel
theorem dX7_spread_123 : decode cX7_spread 123 = .ok (.bipush 100, 2) := by decide +kernel
theorem dX7_spread_125 : decode cX7_spread 125 = .ok (.imul, 1) := by decide +kernel
theorem dX7_spread_126 : decode cX7_spread 126 = .ok (.iload 8, 2) := by decide +kernel
theorem dX7_spread_128 : decode cX7_spread 128 = .ok (.bipush 10, 2) := by decide +kernel
theorem dX7_spread_130 : decode cX7_spread 130 = .ok (.imul, 1) := by decide +kernel
theorem dX7_spread_131 : decode cX7_spread 131 = .ok (.iadd, 1) := by decide +kernel
theorem dX7_spread_132 : decode cX7_spread 132 = .ok (.iload 9, 2) := by decide +kernel
theorem dX7_spread_134 : decode cX7_spread 134 = .ok (.iadd, 1) := by decide +kernel
theorem dX7_spread_135 : decode cX7_spread 135 = .ok (.iaload, 1) := by decide +kernel
theorem dX7_spread_136 : decode cX7_spread 136 = .ok (.istore 10, 2) := by decide +kernel
theorem dX7_spread_138 : decode cX7_spread 138 = .ok (.iload 10, 2) := by decide +kernel
theorem dX7_spread_140 : decode cX7_spread 140 = .ok (.ifCond .eq 23, 3) := by decide +kernel
theorem dX7_spread_143 : decode cX7_spread 143 = .ok (.aload_n 0, 1) := by decide +kernel
theorem dX7_spread_144 : decode cX7_spread 144 = .ok (.aload_n 1, 1) := by decide +kernel
theorem dX7_spread_145 : decode cX7_spread 145 = .ok (.iload 7, 2) := by decide +kernel
theorem dX7_spread_147 : decode cX7_spread 147 = .ok (.iconst 1, 1) := by decide +kernel
theorem dX7_spread_148 : decode cX7_spread 148 = .ok (.iadd, 1) := by decide +kernel
theorem dX7_spread_149 : decode cX7_spread 149 = .ok (.iload 8, 2) := by decide +kernel
theorem dX7_spread_151 : decode cX7_spread 151 = .ok (.iload 9, 2) := by decide +kernel
theorem dX7_spread_153 : decode cX7_spread 153 = .ok (.aload_n 0, 1) := by decide +kernel
theorem dX7_spread_154 : decode cX7_spread 154 = .ok (.aload_n 1, 1) := by decide +kernel
theorem dX7_spread_155 : decode cX7_spread 155 = .ok (.iload 10, 2) := by decide +kernel
theorem dX7_spread_157 : decode cX7_spread 157 = .ok (.invokevirtual 58, 3) := by decide +kernel
theorem dX7_spread_160 : decode cX7_spread 160 = .ok (.invokevirtual 54, 3) := by decide +kernel
theorem dX7_spread_163 : decode cX7_spread 163 = .ok (.iinc 9 1, 3) := by decide +kernel
theorem dX7_spread_166 : decode cX7_spread 166 = .ok (.goto (-60), 3) := by decide +kernel
theorem dX7_spread_169 : decode cX7_spread 169 = .ok (.iinc 8 1, 3) := by decide +kernel
theorem dX7_spread_172 : decode cX7_spread 172 = .ok (.goto (-80), 3) := by decide +kernel
theorem dX7_spread_175 : decode cX7_spread 175 = .ok (.iinc 7 1, 3) := by decide +kernel
theorem dX7_spread_178 : decode cX7_spread 178 = .ok (.goto (-106), 3) := by decide +kernel
theorem dX7_spread_181 : decode cX7_spread 181 = .ok (.return_, 1) := by decide +kernel
theorem dX7_followers_0 : decode cX7_followers 0 = .ok (.iconst 0, 1) := by decide +kernel
theorem dX7_followers_1 : decode cX7_followers 1 = .ok (.istore_n 3, 1) := by decide +kernel
theorem dX7_followers_2 : decode cX7_followers 2 = .ok (.iconst 0, 1) := by decide +kernel
theorem dX7_followers_3 : decode cX7_followers 3 = .ok (.istore 4, 2) := by decide +kernel
theorem dX7_followers_5 : decode cX7_followers 5 = .ok (.iload 4, 2) := by decide +kernel
theorem dX7_followers_7 : decode cX7_followers 7 = .ok (.aload_n 1, 1) := by decide +kernel
theorem dX7_followers_8 : decode cX7_followers 8 = .ok (.getfield 28, 3) := by decide +kernel
theorem dX7_followers_11 : decode cX7_followers 11 = .ok (.if_icmp .ge 28, 3) := by decide +kernel
theorem dX7_followers_14 : decode cX7_followers 14 = .ok (.iload_n 2, 1) := by decide +kernel
theorem dX7_followers_15 : decode cX7_followers 15 = .ok (.iload 4, 2) := by decide +kernel
theorem dX7_followers_17 : decode cX7_followers 17 = .ok (.invokestatic 62, 3) := by decide +kernel
theorem dX7_followers_20 : decode cX7_followers 20 = .ok (.ifCond .eq 13, 3) := by decide +kernel
theorem dX7_followers_23 : decode cX7_followers 23 = .ok (.iload_n 3, 1) := by decide +kernel
theorem dX7_followers_24 : decode cX7_followers 24 = .ok (.aload_n 0, 1) := by decide +kernel
theorem dX7_followers_25 : decode cX7_followers 25 = .ok (.getfield 9, 3) := by decide +kernel
theorem dX7_followers_28 : decode cX7_followers 28 = .ok (.iload 4, 2) := by decide +kernel
theorem dX7_followers_30 : decode cX7_followers 30 = .ok (.iaload, 1) := by decide +kernel
theorem dX7_followers_31 : decode cX7_followers 31 = .ok (.ior, 1) := by decide +kernel
theorem dX7_followers_32 : decode cX7_followers 32 = .ok (.istore_n 3, 1) := by decide +kernel
theorem dX7_followers_33 : decode cX7_followers 33 = .ok (.iinc 4 1, 3) := by decide +kernel
theorem dX7_followers_36 : decode cX7_followers 36 = .ok (.goto (-31), 3) := by decide +kernel
theorem dX7_followers_39 : decode cX7_followers 39 = .ok (.iload_n 3, 1) := by decide +kernel
theorem dX7_followers_40 : decode cX7_followers 40 = .ok (.ireturn, 1) := by decide +kernel
theorem dX7_lengthen_0 : decode cX7_lengthen 0 = .ok (.iconst 0, 1) := by decide +kernel
theorem dX7_lengthen_1 : decode cX7_lengthen 1 = .ok (.istore 6, 2) := by decide +kernel
theorem dX7_lengthen_3 : decode cX7_lengthen 3 = .ok (.iload 6, 2) := by decide +kernel
theorem dX7_lengthen_5 : decode cX7_lengthen 5 = .ok (.aload_n 1, 1) := by decide +kernel
theorem dX7_lengthen_6 : decode cX7_lengthen 6 = .ok (.getfield 28, 3) := by decide +kernel
theorem dX7_lengthen_9 : decode cX7_lengthen 9 = .ok (.if_icmp .ge 110, 3) := by decide +kernel
theorem dX7_lengthen_12 : decode cX7_lengthen 12 = .ok (.iload 5, 2) := by decide +kernel
theorem dX7_lengthen_14 : decode cX7_lengthen 14 = .ok (.iload 6, 2) := by decide +kernel
theorem dX7_lengthen_16 : decode cX7_lengthen 16 = .ok (.invokestatic 62, 3) := by decide +kernel
theorem dX7_lengthen_19 : decode cX7_lengthen 19 = .ok (.ifCond .ne 6, 3) := by decide +kernel
theorem dX7_lengthen_22 : decode cX7_lengthen 22 = .ok (.goto 91, 3) := by decide +kernel
theorem dX7_lengthen_25 : decode cX7_lengthen 25 = .ok (.iload_n 3, 1) := by decide +kernel
theorem dX7_lengthen_26 : decode cX7_lengthen 26 = .ok (.aload_n 1, 1) := by decide +kernel
theorem dX7_lengthen_27 : decode cX7_lengthen 27 = .ok (.iload 6, 2) := by decide +kernel
theorem dX7_lengthen_29 : decode cX7_lengthen 29 = .ok (.iconst 0, 1) := by decide +kernel
theorem dX7_lengthen_30 : decode cX7_lengthen 30 = .ok (.invokevirtual 66, 3) := by decide +kernel
theorem dX7_lengthen_33 : decode cX7_lengthen 33 = .ok (.iadd, 1) := by decide +kernel
theorem dX7_lengthen_34 : decode cX7_lengthen 34 = .ok (.istore 7, 2) := by decide +kernel
theorem dX7_lengthen_36 : decode cX7_lengthen 36 = .ok (.iload 4, 2) := by decide +kernel
theorem dX7_lengthen_38 : decode cX7_lengthen 38 = .ok (.aload_n 1, 1) := by decide +kernel
theorem dX7_lengthen_39 : decode cX7_lengthen 39 = .ok (.iload 6, 2) := by decide +kernel
theorem dX7_lengthen_41 : decode cX7_lengthen 41 = .ok (.iconst 1, 1) := by decide +kernel
theorem dX7_lengthen_42 : decode cX7_lengthen 42 = .ok (.invokevirtual 66, 3) := by decide +kernel
theorem dX7_lengthen_45 : decode cX7_lengthen 45 = .ok (.iadd, 1) := by decide +kernel
theorem dX7_lengthen_46 : decode cX7_lengthen 46 = .ok (.istore 8, 2) := by decide +kernel
theorem dX7_lengthen_48 : decode cX7_lengthen 48 = .ok (.iload 7, 2) := by decide +kernel
theorem dX7_lengthen_50 : decode cX7_lengthen 50 = .ok (.aload_n 0, 1) := by decide +kernel
theorem dX7_lengthen_51 : decode cX7_lengthen 51 = .ok (.getfield 15, 3) := by decide +kernel
theorem dX7_lengthen_54 : decode cX7_lengthen 54 = .ok (.iconst 0, 1) := by decide +kernel
theorem dX7_lengthen_55 : decode cX7_lengthen 55 = .ok (.iaload, 1) := by decide +kernel
theorem dX7_lengthen_56 : decode cX7_lengthen 56 = .ok (.if_icmp .gt 57, 3) := by decide +kernel
theorem dX7_lengthen_59 : decode cX7_lengthen 59 = .ok (.iload 8, 2) := by decide +kernel
theorem dX7_lengthen_61 : decode cX7_lengthen 61 = .ok (.aload_n 0, 1) := by decide +kernel
theorem dX7_lengthen_62 : decode cX7_lengthen 62 = .ok (.getfield 15, 3) := by decide +kernel
theorem dX7_lengthen_65 : decode cX7_lengthen 65 = .ok (.iconst 1, 1) := by decide +kernel
theorem dX7_lengthen_66 : decode cX7_lengthen 66 = .ok (.iaload, 1) := by decide +kernel
theorem dX7_lengthen_67 : decode cX7_lengthen 67 = .ok (.if_icmp .gt 46, 3) := by decide +kernel
theorem dX7_lengthen_70 : decode cX7_lengthen 70 = .ok (.aload_n 0, 1) := by decide +kernel
theorem dX7_lengthen_71 : decode cX7_lengthen 71 = .ok (.getfield 18, 3) := by decide +kernel
theorem dX7_lengthen_74 : decode cX7_lengthen 74 = .ok (.iload_n 2, 1) := by decide +kernel
theorem dX7_lengthen_75 : decode cX7_lengthen 75 = .ok (.bipush 100, 2) := by decide +kernel
theorem dX7_lengthen_77 : decode cX7_lengthen 77 = .ok (.imul, 1) := by decide +kernel
theorem dX7_lengthen_78 : decode cX7_lengthen 78 = .ok (.iload 7, 2) := by decide +kernel
theorem dX7_lengthen_80 : decode cX7_lengthen 80 = .ok (.bipush 10, 2) := by decide +kernel
theorem dX7_lengthen_82 : decode cX7_lengthen 82 = .ok (.imul, 1) := by decide +kernel
theorem dX7_lengthen_83 : decode cX7_lengthen 83 = .ok (.iadd, 1) := by decide +kernel
theorem dX7_lengthen_84 : decode cX7_lengthen 84 = .ok (.iload 8, 2) := by decide +kernel
theorem dX7_lengthen_86 : decode cX7_lengthen 86 = .ok (.iadd, 1) := by decide +kernel
theorem dX7_lengthen_87 : decode cX7_lengthen 87 = .ok (.dup2, 1) := by decide +kernel
theorem dX7_lengthen_88 : decode cX7_lengthen 88 = .ok (.iaload, 1) := by decide +kernel
theorem dX7_lengthen_89 : decode cX7_lengthen 89 = .ok (.iconst 1, 1) := by decide +kernel
theorem dX7_lengthen_90 : decode cX7_lengthen 90 = .ok (.iload 6, 2) := by decide +kernel
theorem dX7_lengthen_92 : decode cX7_lengthen 92 = .ok (.ishl, 1) := by decide +kernel
theorem dX7_lengthen_93 : decode cX7_lengthen 93 = .ok (.ior, 1) := by decide +kernel
theorem dX7_lengthen_94 : decode cX7_lengthen 94 = .ok (.iastore, 1) := by decide +kernel
theorem dX7_lengthen_95 : decode cX7_lengthen 95 = .ok (.aload_n 0, 1) := by decide +kernel
theorem dX7_lengthen_96 : decode cX7_lengthen 96 = .ok (.getfield 21, 3) := by decide +kernel
theorem dX7_lengthen_99 : decode cX7_lengthen 99 = .ok (.iload_n 2, 1) := by decide +kernel
theorem dX7_lengthen_100 : decode cX7_lengthen 100 = .ok (.dup2, 1) := by decide +kernel
theorem dX7_lengthen_101 : decode cX7_lengthen 101 = .ok (.iaload, 1) := by decide +kernel
theorem dX7_lengthen_102 : decode cX7_lengthen 102 = .ok (.iconst 1, 1) := by decide +kernel
theorem dX7_lengthen_103 : decode cX7_lengthen 103 = .ok (.iload 6, 2) := by decide +kernel
theorem dX7_lengthen_105 : decode cX7_lengthen 105 = .ok (.ishl, 1) := by decide +kernel
theorem dX7_lengthen_106 : decode cX7_lengthen 106 = .ok (.ior, 1) := by decide +kernel
theorem dX7_lengthen_107 : decode cX7_lengthen 107 = .ok (.iastore, 1) := by decide +kernel
theorem dX7_lengthen_108 : decode cX7_lengthen 108 = .ok (.aload_n 0, 1) := by decide +kernel
theorem dX7_lengthen_109 : decode cX7_lengthen 109 = .ok (.iload_n 2, 1) := by decide +kernel
theorem dX7_lengthen_110 : decode cX7_lengthen 110 = .ok (.putfield 24, 3) := by decide +kernel
theorem dX7_lengthen_113 : decode cX7_lengthen 113 = .ok (.iinc 6 1, 3) := by decide +kernel
theorem dX7_lengthen_116 : decode cX7_lengthen 116 = .ok (.goto (-113), 3) := by decide +kernel
theorem dX7_lengthen_119 : decode cX7_lengthen 119 = .ok (.return_, 1) := by decide +kernel
theorem dX7_firstEnd_0 : decode cX7_firstEnd 0 = .ok (.iconst 0, 1) := by decide +kernel
theorem dX7_firstEnd_1 : decode cX7_firstEnd 1 = .ok (.istore 5, 2) := by decide +kernel
theorem dX7_firstEnd_3 : decode cX7_firstEnd 3 = .ok (.iconst 0, 1) := by decide +kernel
theorem dX7_firstEnd_4 : decode cX7_firstEnd 4 = .ok (.istore 6, 2) := by decide +kernel
theorem dX7_firstEnd_6 : decode cX7_firstEnd 6 = .ok (.iload 6, 2) := by decide +kernel
theorem dX7_firstEnd_8 : decode cX7_firstEnd 8 = .ok (.aload_n 0, 1) := by decide +kernel
theorem dX7_firstEnd_9 : decode cX7_firstEnd 9 = .ok (.getfield 15, 3) := by decide +kernel
theorem dX7_firstEnd_12 : decode cX7_firstEnd 12 = .ok (.iconst 0, 1) := by decide +kernel
theorem dX7_firstEnd_13 : decode cX7_firstEnd 13 = .ok (.iaload, 1) := by decide +kernel
theorem dX7_firstEnd_14 : decode cX7_firstEnd 14 = .ok (.iload_n 3, 1) := by decide +kernel
theorem dX7_firstEnd_15 : decode cX7_firstEnd 15 = .ok (.isub, 1) := by decide +kernel
theorem dX7_firstEnd_16 : decode cX7_firstEnd 16 = .ok (.if_icmp .gt 55, 3) := by decide +kernel
theorem dX7_firstEnd_19 : decode cX7_firstEnd 19 = .ok (.iconst 0, 1) := by decide +kernel
theorem dX7_firstEnd_20 : decode cX7_firstEnd 20 = .ok (.istore 7, 2) := by decide +kernel
theorem dX7_firstEnd_22 : decode cX7_firstEnd 22 = .ok (.iload 7, 2) := by decide +kernel
theorem dX7_firstEnd_24 : decode cX7_firstEnd 24 = .ok (.aload_n 0, 1) := by decide +kernel
theorem dX7_firstEnd_25 : decode cX7_firstEnd 25 = .ok (.getfield 15, 3) := by decide +kernel
theorem dX7_firstEnd_28 : decode cX7_firstEnd 28 = .ok (.iconst 1, 1) := by decide +kernel
theorem dX7_firstEnd_29 : decode cX7_firstEnd 29 = .ok (.iaload, 1) := by decide +kernel
theorem dX7_firstEnd_30 : decode cX7_firstEnd 30 = .ok (.iload 4, 2) := by decide +kernel
theorem dX7_firstEnd_32 : decode cX7_firstEnd 32 = .ok (.isub, 1) := by decide +kernel
theorem dX7_firstEnd_33 : decode cX7_firstEnd 33 = .ok (.if_icmp .gt 32, 3) := by decide +kernel
theorem dX7_firstEnd_36 : decode cX7_firstEnd 36 = .ok (.iload 5, 2) := by decide +kernel
theorem dX7_firstEnd_38 : decode cX7_firstEnd 38 = .ok (.aload_n 0, 1) := by decide +kernel
theorem dX7_firstEnd_39 : decode cX7_firstEnd 39 = .ok (.getfield 18, 3) := by decide +kernel
theorem dX7_firstEnd_42 : decode cX7_firstEnd 42 = .ok (.iload_n 1, 1) := by decide +kernel
theorem dX7_firstEnd_43 : decode cX7_firstEnd 43 = .ok (.bipush 100, 2) := by decide +kernel
theorem dX7_firstEnd_45 : decode cX7_firstEnd 45 = .ok (.imul, 1) := by decide +kernel
theorem dX7_firstEnd_46 : decode cX7_firstEnd 46 = .ok (.iload 6, 2) := by decide +kernel
theorem dX7_firstEnd_48 : decode cX7_firstEnd 48 = .ok (.bipush 10, 2) := by decide +kernel
theorem dX7_firstEnd_50 : decode cX7_firstEnd 50 = .ok (.imul, 1) := by decide +kernel
theorem dX7_firstEnd_51 : decode cX7_firstEnd 51 = .ok (.iadd, 1) := by decide +kernel
theorem dX7_firstEnd_52 : decode cX7_firstEnd 52 = .ok (.iload 7, 2) := by decide +kernel
theorem dX7_firstEnd_54 : decode cX7_firstEnd 54 = .ok (.iadd, 1) := by decide +kernel
theorem dX7_firstEnd_55 : decode cX7_firstEnd 55 = .ok (.iaload, 1) := by decide +kernel
theorem dX7_firstEnd_56 : decode cX7_firstEnd 56 = .ok (.ior, 1) := by decide +kernel
theorem dX7_firstEnd_57 : decode cX7_firstEnd 57 = .ok (.istore 5, 2) := by decide +kernel
theorem dX7_firstEnd_59 : decode cX7_firstEnd 59 = .ok (.iinc 7 1, 3) := by decide +kernel
theorem dX7_firstEnd_62 : decode cX7_firstEnd 62 = .ok (.goto (-40), 3) := by decide +kernel
theorem dX7_firstEnd_65 : decode cX7_firstEnd 65 = .ok (.iinc 6 1, 3) := by decide +kernel
theorem dX7_firstEnd_68 : decode cX7_firstEnd 68 = .ok (.goto (-62), 3) := by decide +kernel
theorem dX7_firstEnd_71 : decode cX7_firstEnd 71 = .ok (.iconst 0, 1) := by decide +kernel
theorem dX7_firstEnd_72 : decode cX7_firstEnd 72 = .ok (.istore 6, 2) := by decide +kernel
theorem dX7_firstEnd_74 : decode cX7_firstEnd 74 = .ok (.iload 6, 2) := by decide +kernel
theorem dX7_firstEnd_76 : decode cX7_firstEnd 76 = .ok (.bipush 8, 2) := by decide +kernel
theorem dX7_firstEnd_78 : decode cX7_firstEnd 78 = .ok (.if_icmp .ge 24, 3) := by decide +kernel
theorem dX7_firstEnd_81 : decode cX7_firstEnd 81 = .ok (.iload 5, 2) := by decide +kernel
theorem dX7_firstEnd_83 : decode cX7_firstEnd 83 = .ok (.iload_n 2, 1) := by decide +kernel
theorem dX7_firstEnd_84 : decode cX7_firstEnd 84 = .ok (.iand, 1) := by decide +kernel
theorem dX7_firstEnd_85 : decode cX7_firstEnd 85 = .ok (.iload 6, 2) := by decide +kernel
theorem dX7_firstEnd_87 : decode cX7_firstEnd 87 = .ok (.invokestatic 62, 3) := by decide +kernel
theorem dX7_firstEnd_90 : decode cX7_firstEnd 90 = .ok (.ifCond .eq 6, 3) := by decide +kernel
theorem dX7_firstEnd_93 : decode cX7_firstEnd 93 = .ok (.iload 6, 2) := by decide +kernel
theorem dX7_firstEnd_95 : decode cX7_firstEnd 95 = .ok (.ireturn, 1) := by decide +kernel
theorem dX7_firstEnd_96 : decode cX7_firstEnd 96 = .ok (.iinc 6 1, 3) := by decide +kernel
theorem dX7_firstEnd_99 : decode cX7_firstEnd 99 = .ok (.goto (-25), 3) := by decide +kernel
theorem dX7_firstEnd_102 : decode cX7_firstEnd 102 = .ok (.iconst (-1), 1) := by decide +kernel
theorem dX7_firstEnd_103 : decode cX7_firstEnd 103 = .ok (.ireturn, 1) := by decide +kernel
theorem dX8_init_0 : decode cX8_init 0 = .ok (.aload_n 0, 1) := by decide +kernel
theorem dX8_init_1 : decode cX8_init 1 = .ok (.invokespecial 3, 3) := by decide +kernel
theorem dX8_init_4 : decode cX8_init 4 = .ok (.aload_n 0, 1) := by decide +kernel
theorem dX8_init_5 : decode cX8_init 5 = .ok (.sipush 900, 3) := by decide +kernel
theorem dX8_init_8 : decode cX8_init 8 = .ok (.newarray .byte, 2) := by decide +kernel
theorem dX8_init_10 : decode cX8_init 10 = .ok (.putfield 9, 3) := by decide +kernel
theorem dX8_init_13 : decode cX8_init 13 = .ok (.aload_n 0, 1) := by decide +kernel
theorem dX8_init_14 : decode cX8_init 14 = .ok (.iconst 0, 1) := by decide +kernel
theorem dX8_init_15 : decode cX8_init 15 = .ok (.putfield 13, 3) := by decide +kernel
theorem dX8_init_18 : decode cX8_init 18 = .ok (.aload_n 0, 1) := by decide +kernel
theorem dX8_init_19 : decode cX8_init 19 = .ok (.new 17, 3) := by decide +kernel
theorem dX8_init_22 : decode cX8_init 22 = .ok (.dup, 1) := by decide +kernel
theorem dX8_init_23 : decode cX8_init 23 = .ok (.invokespecial 19, 3) := by decide +kernel
theorem dX8_init_26 : decode cX8_init 26 = .ok (.putfield 20, 3) := by decide +kernel
theorem dX8_init_29 : decode cX8_init 29 = .ok (.aload_n 0, 1) := by decide +kernel
theorem dX8_init_30 : decode cX8_init 30 = .ok (.new 24, 3) := by decide +kernel
theorem dX8_init_33 : decode cX8_init 33 = .ok (.dup, 1) := by decide +kernel
theorem dX8_init_34 : decode cX8_init 34 = .ok (.invokespecial 26, 3) := by decide +kernel
theorem dX8_init_37 : decode cX8_init 37 = .ok (.putfield 27, 3) := by decide +kernel
theorem dX8_init_40 : decode cX8_init 40 = .ok (.aload_n 0, 1) := by decide +kernel
theorem dX8_init_41 : decode cX8_init 41 = .ok (.new 31, 3) := by decide +kernel
theorem dX8_init_44 : decode cX8_init 44 = .ok (.dup, 1) := by decide +kernel
theorem dX8_init_45 : decode cX8_init 45 = .ok (.invokespecial 33, 3) := by decide +kernel
theorem dX8_init_48 : decode cX8_init 48 = .ok (.putfield 34, 3) := by decide +kernel
theorem dX8_init_51 : decode cX8_init 51 = .ok (.aload_n 0, 1) := by decide +kernel
theorem dX8_init_52 : decode cX8_init 52 = .ok (.iconst 0, 1) := by decide +kernel
theorem dX8_init_53 : decode cX8_init 53 = .ok (.putfield 38, 3) := by decide +kernel
theorem dX8_init_56 : decode cX8_init 56 = .ok (.aload_n 0, 1) := by decide +kernel
theorem dX8_init_57 : decode cX8_init 57 = .ok (.iconst 0, 1) := by decide +kernel
theorem dX8_init_58 : decode cX8_init 58 = .ok (.putfield 42, 3) := by decide +kernel
theorem dX8_init_61 : decode cX8_init 61 = .ok (.aload_n 0, 1) := by decide +kernel
theorem dX8_init_62 : decode cX8_init 62 = .ok (.bipush 12, 2) := by decide +kernel
theorem dX8_init_64 : decode cX8_init 64 = .ok (.anewarray 31, 3) := by decide +kernel
theorem dX8_init_67 : decode cX8_init 67 = .ok (.putfield 45, 3) := by decide +kernel
theorem dX8_init_70 : decode cX8_init 70 = .ok (.aload_n 0, 1) := by decide +kernel
theorem dX8_init_71 : decode cX8_init 71 = .ok (.iconst 0, 1) := by decide +kernel
theorem dX8_init_72 : decode cX8_init 72 = .ok (.putfield 49, 3) := by decide +kernel
theorem dX8_init_75 : decode cX8_init 75 = .ok (.aload_n 0, 1) := by decide +kernel
theorem dX8_init_76 : decode cX8_init 76 = .ok (.iconst 3, 1) := by decide +kernel
theorem dX8_init_77 : decode cX8_init 77 = .ok (.anewarray 31, 3) := by decide +kernel
theorem dX8_init_80 : decode cX8_init 80 = .ok (.putfield 52, 3) := by decide +kernel
theorem dX8_init_83 : decode cX8_init 83 = .ok (.aload_n 0, 1) := by decide +kernel
theorem dX8_init_84 : decode cX8_init 84 = .ok (.iconst 0, 1) := by decide +kernel
theorem dX8_init_85 : decode cX8_init 85 = .ok (.putfield 55, 3) := by decide +kernel
theorem dX8_init_88 : decode cX8_init 88 = .ok (.aload_n 0, 1) := by decide +kernel
theorem dX8_init_89 : decode cX8_init 89 = .ok (.new 58, 3) := by decide +kernel
theorem dX8_init_92 : decode cX8_init 92 = .ok (.dup, 1) := by decide +kernel
theorem dX8_init_93 : decode cX8_init 93 = .ok (.invokespecial 60, 3) := by decide +kernel
theorem dX8_init_96 : decode cX8_init 96 = .ok (.putfield 61, 3) := by decide +kernel
theorem dX8_init_99 : decode cX8_init 99 = .ok (.aload_n 0, 1) := by decide +kernel
theorem dX8_init_100 : decode cX8_init 100 = .ok (.new 65, 3) := by decide +kernel
theorem dX8_init_103 : decode cX8_init 103 = .ok (.dup, 1) := by decide +kernel
theorem dX8_init_104 : decode cX8_init 104 = .ok (.invokespecial 67, 3) := by decide +kernel
theorem dX8_init_107 : decode cX8_init 107 = .ok (.putfield 68, 3) := by decide +kernel
theorem dX8_init_110 : decode cX8_init 110 = .ok (.aload_n 0, 1) := by decide +kernel
theorem dX8_init_111 : decode cX8_init 111 = .ok (.new 72, 3) := by decide +kernel
theorem dX8_init_114 : decode cX8_init 114 = .ok (.dup, 1) := by decide +kernel
theorem dX8_init_115 : decode cX8_init 115 = .ok (.invokespecial 74, 3) := by decide +kernel
theorem dX8_init_118 : decode cX8_init 118 = .ok (.putfield 75, 3) := by decide +kernel
theorem dX8_init_121 : decode cX8_init 121 = .ok (.aload_n 0, 1) := by decide +kernel
theorem dX8_init_122 : decode cX8_init 122 = .ok (.new 79, 3) := by decide +kernel
theorem dX8_init_125 : decode cX8_init 125 = .ok (.dup, 1) := by decide +kernel
theorem dX8_init_126 : decode cX8_init 126 = .ok (.invokespecial 81, 3) := by decide +kernel
theorem dX8_init_129 : decode cX8_init 129 = .ok (.putfield 82, 3) := by decide +kernel
theorem dX8_init_132 : decode cX8_init 132 = .ok (.iconst 0, 1) := by decide +kernel
theorem dX8_init_133 : decode cX8_init 133 = .ok (.istore_n 1, 1) := by decide +kernel
theorem dX8_init_134 : decode cX8_init 134 = .ok (.iload_n 1, 1) := by decide +kernel
theorem dX8_init_135 : decode cX8_init 135 = .ok (.bipush 12, 2) := by decide +kernel
theorem dX8_init_137 : decode cX8_init 137 = .ok (.if_icmp .ge 22, 3) := by decide +kernel
theorem dX8_init_140 : decode cX8_init 140 = .ok (.aload_n 0, 1) := by decide +kernel
theorem dX8_init_141 : decode cX8_init 141 = .ok (.getfield 45, 3) := by decide +kernel
theorem dX8_init_144 : decode cX8_init 144 = .ok (.iload_n 1, 1) := by decide +kernel
theorem dX8_init_145 : decode cX8_init 145 = .ok (.new 31, 3) := by decide +kernel
theorem dX8_init_148 : decode cX8_init 148 = .ok (.dup, 1) := by decide +kernel
theorem dX8_init_149 : decode cX8_init 149 = .ok (.invokespecial 33, 3) := by decide +kernel
theorem dX8_init_152 : decode cX8_init 152 = .ok (.aastore, 1) := by decide +kernel
theorem dX8_init_153 : decode cX8_init 153 = .ok (.iinc 1 1, 3) := by decide +kernel
theorem dX8_init_156 : decode cX8_init 156 = .ok (.goto (-22), 3) := by decide +kernel
theorem dX8_init_159 : decode cX8_init 159 = .ok (.iconst 0, 1) := by decide +kernel
theorem dX8_init_160 : decode cX8_init 160 = .ok (.istore_n 1, 1) := by decide +kernel
theorem dX8_init_161 : decode cX8_init 161 = .ok (.iload_n 1, 1) := by decide +kernel
theorem dX8_init_162 : decode cX8_init 162 = .ok (.iconst 3, 1) := by decide +kernel
theorem dX8_init_163 : decode cX8_init 163 = .ok (.if_icmp .ge 22, 3) := by decide +kernel
theorem dX8_init_166 : decode cX8_init 166 = .ok (.aload_n 0, 1) := by decide +kernel
theorem dX8_init_167 : decode cX8_init 167 = .ok (.getfield 52, 3) := by decide +kernel
theorem dX8_init_170 : decode cX8_init 170 = .ok (.iload_n 1, 1) := by decide +kernel
theorem dX8_init_171 : decode cX8_init 171 = .ok (.new 31, 3) := by decide +kernel
theorem dX8_init_174 : decode cX8_init 174 = .ok (.dup, 1) := by decide +kernel
theorem dX8_init_175 : decode cX8_init 175 = .ok (.invokespecial 33, 3) := by decide +kernel
theorem dX8_init_178 : decode cX8_init 178 = .ok (.aastore, 1) := by decide +kernel
theorem dX8_init_179 : decode cX8_init 179 = .ok (.iinc 1 1, 3) := by decide +kernel
theorem dX8_init_182 : decode cX8_init 182 = .ok (.goto (-21), 3) := by decide +kernel
theorem dX8_init_185 : decode cX8_init 185 = .ok (.return_, 1) := by decide +kernel
theorem dX8_feed_0 : decode cX8_feed 0 = .ok (.aload_n 0, 1) := by decide +kernel
theorem dX8_feed_1 : decode cX8_feed 1 = .ok (.getfield 13, 3) := by decide +kernel
theorem dX8_feed_4 : decode cX8_feed 4 = .ok (.bipush 20, 2) := by decide +kernel
theorem dX8_feed_6 : decode cX8_feed 6 = .ok (.iadd, 1) := by decide +kernel
theorem dX8_feed_7 : decode cX8_feed 7 = .ok (.sipush 900, 3) := by decide +kernel
theorem dX8_feed_10 : decode cX8_feed 10 = .ok (.if_icmp .le 5, 3) := by decide +kernel
theorem dX8_feed_13 : decode cX8_feed 13 = .ok (.iconst (-1), 1) := by decide +kernel
theorem dX8_feed_14 : decode cX8_feed 14 = .ok (.ireturn, 1) := by decide +kernel
theorem dX8_feed_15 : decode cX8_feed 15 = .ok (.aload_n 0, 1) := by decide +kernel
theorem dX8_feed_16 : decode cX8_feed 16 = .ok (.iload_n 1, 1) := by decide +kernel
theorem dX8_feed_17 : decode cX8_feed 17 = .ok (.invokevirtual 86, 3) := by decide +kernel
theorem dX8_feed_20 : decode cX8_feed 20 = .ok (.aload_n 0, 1) := by decide +kernel
theorem dX8_feed_21 : decode cX8_feed 21 = .ok (.iload_n 2, 1) := by decide +kernel
theorem dX8_feed_22 : decode cX8_feed 22 = .ok (.invokevirtual 86, 3) := by decide +kernel
theorem dX8_feed_25 : decode cX8_feed 25 = .ok (.aload_n 0, 1) := by decide +kernel
theorem dX8_feed_26 : decode cX8_feed 26 = .ok (.iload_n 3, 1) := by decide +kernel
theorem dX8_feed_27 : decode cX8_feed 27 = .ok (.invokevirtual 86, 3) := by decide +kernel
theorem dX8_feed_30 : decode cX8_feed 30 = .ok (.aload_n 0, 1) := by decide +kernel
theorem dX8_feed_31 : decode cX8_feed 31 = .ok (.iload 4, 2) := by decide +kernel
theorem dX8_feed_33 : decode cX8_feed 33 = .ok (.invokevirtual 86, 3) := by decide +kernel
theorem dX8_feed_36 : decode cX8_feed 36 = .ok (.aload_n 0, 1) := by decide +kernel
theorem dX8_feed_37 : decode cX8_feed 37 = .ok (.iload 5, 2) := by decide +kernel
theorem dX8_feed_39 : decode cX8_feed 39 = .ok (.invokevirtual 86, 3) := by decide +kernel
theorem dX8_feed_42 : decode cX8_feed 42 = .ok (.aload_n 0, 1) := by decide +kernel
theorem dX8_feed_43 : decode cX8_feed 43 = .ok (.getfield 13, 3) := by decide +kernel
theorem dX8_feed_46 : decode cX8_feed 46 = .ok (.ireturn, 1) := by decide +kernel
theorem dX8_cloth_0 : decode cX8_cloth 0 = .ok (.iload_n 1, 1) := by decide +kernel
theorem dX8_cloth_1 : decode cX8_cloth 1 = .ok (.ifCond .lt 11, 3) := by decide +kernel
theorem dX8_cloth_4 : decode cX8_cloth 4 = .ok (.iload_n 1, 1) := by decide +kernel
theorem dX8_cloth_5 : decode cX8_cloth 5 = .ok (.aload_n 0, 1) := by decide +kernel
theorem dX8_cloth_6 : decode cX8_cloth 6 = .ok (.getfield 13, 3) := by decide +kernel
theorem dX8_cloth_9 : decode cX8_cloth 9 = .ok (.if_icmp .le 9, 3) := by decide +kernel
theorem dX8_cloth_12 : decode cX8_cloth 12 = .ok (.aload_n 0, 1) := by decide +kernel
theorem dX8_cloth_13 : decode cX8_cloth 13 = .ok (.iconst 2, 1) := by decide +kernel
theorem dX8_cloth_14 : decode cX8_cloth 14 = .ok (.invokevirtual 90, 3) := by decide +kernel
theorem dX8_cloth_17 : decode cX8_cloth 17 = .ok (.ireturn, 1) := by decide +kernel
theorem dX8_cloth_18 : decode cX8_cloth 18 = .ok (.aload_n 0, 1) := by decide +kernel
theorem dX8_cloth_19 : decode cX8_cloth 19 = .ok (.getfield 20, 3) := by decide +kernel
theorem dX8_cloth_22 : decode cX8_cloth 22 = .ok (.aload_n 0, 1) := by decide +kernel
theorem dX8_cloth_23 : decode cX8_cloth 23 = .ok (.getfield 9, 3) := by decide +kernel
theorem dX8_cloth_26 : decode cX8_cloth 26 = .ok (.iload_n 1, 1) := by decide +kernel
theorem dX8_cloth_27 : decode cX8_cloth 27 = .ok (.invokevirtual 94, 3) := by decide +kernel
theorem dX8_cloth_30 : decode cX8_cloth 30 = .ok (.istore_n 2, 1) := by decide +kernel
theorem dX8_cloth_31 : decode cX8_cloth 31 = .ok (.aload_n 0, 1) := by decide +kernel
theorem dX8_cloth_32 : decode cX8_cloth 32 = .ok (.iconst 0, 1) := by decide +kernel
theorem dX8_cloth_33 : decode cX8_cloth 33 = .ok (.putfield 13, 3) := by decide +kernel
theorem dX8_cloth_36 : decode cX8_cloth 36 = .ok (.iload_n 2, 1) := by decide +kernel
theorem dX8_cloth_37 : decode cX8_cloth 37 = .ok (.ifCond .ne 9, 3) := by decide +kernel
theorem dX8_cloth_40 : decode cX8_cloth 40 = .ok (.aload_n 0, 1) := by decide +kernel
theorem dX8_cloth_41 : decode cX8_cloth 41 = .ok (.iconst 4, 1) := by decide +kernel
theorem dX8_cloth_42 : decode cX8_cloth 42 = .ok (.invokevirtual 90, 3) := by decide +kernel
theorem dX8_cloth_45 : decode cX8_cloth 45 = .ok (.ireturn, 1) := by decide +kernel
theorem dX8_cloth_46 : decode cX8_cloth 46 = .ok (.aload_n 0, 1) := by decide +kernel
theorem dX8_cloth_47 : decode cX8_cloth 47 = .ok (.invokevirtual 98, 3) := by decide +kernel
theorem dX8_cloth_50 : decode cX8_cloth 50 = .ok (.aload_n 0, 1) := by decide +kernel
theorem dX8_cloth_51 : decode cX8_cloth 51 = .ok (.aload_n 0, 1) := by decide +kernel
theorem dX8_cloth_52 : decode cX8_cloth 52 = .ok (.getfield 27, 3) := by decide +kernel
theorem dX8_cloth_55 : decode cX8_cloth 55 = .ok (.getfield 101, 3) := by decide +kernel
theorem dX8_cloth_58 : decode cX8_cloth 58 = .ok (.invokevirtual 104, 3) := by decide +kernel
theorem dX8_cloth_61 : decode cX8_cloth 61 = .ok (.ireturn, 1) := by decide +kernel
theorem dX8_fault_0 : decode cX8_fault 0 = .ok (.aload_n 0, 1) := by decide +kernel
theorem dX8_fault_1 : decode cX8_fault 1 = .ok (.getfield 20, 3) := by decide +kernel
theorem dX8_fault_4 : decode cX8_fault 4 = .ok (.getfield 107, 3) := by decide +kernel
theorem dX8_fault_7 : decode cX8_fault 7 = .ok (.ireturn, 1) := by decide +kernel
theorem dX8_where_0 : decode cX8_where 0 = .ok (.aload_n 0, 1) := by decide +kernel
theorem dX8_where_1 : decode cX8_where 1 = .ok (.getfield 42, 3) := by decide +kernel
theorem dX8_where_4 : decode cX8_where 4 = .ok (.iconst 4, 1) := by decide +kernel
theorem dX8_where_5 : decode cX8_where 5 = .ok (.if_icmp .ne 13, 3) := by decide +kernel
theorem dX8_where_8 : decode cX8_where 8 = .ok (.aload_n 0, 1) := by decide +kernel
theorem dX8_where_9 : decode cX8_where 9 = .ok (.getfield 20, 3) := by decide +kernel
theorem dX8_where_12 : decode cX8_where 12 = .ok (.getfield 110, 3) := by decide +kernel
theorem dX8_where_15 : decode cX8_where 15 = .ok (.goto 4, 3) := by decide +kernel
theorem dX8_where_18 : decode cX8_where 18 = .ok (.iconst (-1), 1) := by decide +kernel
theorem dX8_where_19 : decode cX8_where 19 = .ok (.ireturn, 1) := by decide +kernel
theorem dX8_row_0 : decode cX8_row 0 = .ok (.aload_n 0, 1) := by decide +kernel
theorem dX8_row_1 : decode cX8_row 1 = .ok (.iload_n 1, 1) := by decide +kernel
theorem dX8_row_2 : decode cX8_row 2 = .ok (.invokevirtual 113, 3) := by decide +kernel
theorem dX8_row_5 : decode cX8_row 5 = .ok (.ifCond .ne 9, 3) := by decide +kernel
theorem dX8_row_8 : decode cX8_row 8 = .ok (.aload_n 0, 1) := by decide +kernel
theorem dX8_row_9 : decode cX8_row 9 = .ok (.iconst 1, 1) := by decide +kernel
theorem dX8_row_10 : decode cX8_row 10 = .ok (.invokevirtual 90, 3) := by decide +kernel
theorem dX8_row_13 : decode cX8_row 13 = .ok (.ireturn, 1) := by decide +kernel
theorem dX8_row_14 : decode cX8_row 14 = .ok (.iload_n 2, 1) := by decide +kernel
theorem dX8_row_15 : decode cX8_row 15 = .ok (.tableswitch 92 0 3 #[29, 43, 57, 78], 29) := by decide +kernel
theorem dX8_row_44 : decode cX8_row 44 = .ok (.aload_n 0, 1) := by decide +kernel
theorem dX8_row_45 : decode cX8_row 45 = .ok (.aload_n 0, 1) := by decide +kernel
theorem dX8_row_46 : decode cX8_row 46 = .ok (.getfield 27, 3) := by decide +kernel
theorem dX8_row_49 : decode cX8_row 49 = .ok (.getfield 117, 3) := by decide +kernel
theorem dX8_row_52 : decode cX8_row 52 = .ok (.iload_n 1, 1) := by decide +kernel
theorem dX8_row_53 : decode cX8_row 53 = .ok (.iaload, 1) := by decide +kernel
theorem dX8_row_54 : decode cX8_row 54 = .ok (.invokevirtual 104, 3) := by decide +kernel
theorem dX8_row_57 : decode cX8_row 57 = .ok (.ireturn, 1) := by decide +kernel
theorem dX8_row_58 : decode cX8_row 58 = .ok (.aload_n 0, 1) := by decide +kernel
theorem dX8_row_59 : decode cX8_row 59 = .ok (.aload_n 0, 1) := by decide +kernel
theorem dX8_row_60 : decode cX8_row 60 = .ok (.getfield 27, 3) := by decide +kernel
theorem dX8_row_63 : decode cX8_row 63 = .ok (.getfield 121, 3) := by decide +kernel
theorem dX8_row_66 : decode cX8_row 66 = .ok (.iload_n 1, 1) := by decide +kernel
theorem dX8_row_67 : decode cX8_row 67 = .ok (.iaload, 1) := by decide +kernel
theorem dX8_row_68 : decode cX8_row 68 = .ok (.invokevirtual 104, 3) := by decide +kernel
theorem dX8_row_71 : decode cX8_row 71 = .ok (.ireturn, 1) := by decide +kernel
theorem dX8_row_72 : decode cX8_row 72 = .ok (.aload_n 0, 1) := by decide +kernel
theorem dX8_row_73 : decode cX8_row 73 = .ok (.aload_n 0, 1) := by decide +kernel
theorem dX8_row_74 : decode cX8_row 74 = .ok (.getfield 27, 3) := by decide +kernel
theorem dX8_row_77 : decode cX8_row 77 = .ok (.iload_n 1, 1) := by decide +kernel
theorem dX8_row_78 : decode cX8_row 78 = .ok (.invokevirtual 124, 3) := by decide +kernel
theorem dX8_row_81 : decode cX8_row 81 = .ok (.ifCond .eq 7, 3) := by decide +kernel
theorem dX8_row_84 : decode cX8_row 84 = .ok (.iconst 1, 1) := by decide +kernel
theorem dX8_row_85 : decode cX8_row 85 = .ok (.goto 4, 3) := by decide +kernel
theorem dX8_row_88 : decode cX8_row 88 = .ok (.iconst 0, 1) := by decide +kernel
theorem dX8_row_89 : decode cX8_row 89 = .ok (.invokevirtual 104, 3) := by decide +kernel
theorem dX8_row_92 : decode cX8_row 92 = .ok (.ireturn, 1) := by decide +kernel
theorem dX8_row_93 : decode cX8_row 93 = .ok (.aload_n 0, 1) := by decide +kernel
theorem dX8_row_94 : decode cX8_row 94 = .ok (.aload_n 0, 1) := by decide +kernel
theorem dX8_row_95 : decode cX8_row 95 = .ok (.getfield 27, 3) := by decide +kernel
theorem dX8_row_98 : decode cX8_row 98 = .ok (.getfield 127, 3) := by decide +kernel
theorem dX8_row_101 : decode cX8_row 101 = .ok (.iload_n 1, 1) := by decide +kernel
theorem dX8_row_102 : decode cX8_row 102 = .ok (.iaload, 1) := by decide +kernel
theorem dX8_row_103 : decode cX8_row 103 = .ok (.invokevirtual 104, 3) := by decide +kernel
theorem dX8_row_106 : decode cX8_row 106 = .ok (.ireturn, 1) := by decide +kernel
theorem dX8_row_107 : decode cX8_row 107 = .ok (.aload_n 0, 1) := by decide +kernel
theorem dX8_row_108 : decode cX8_row 108 = .ok (.iconst 1, 1) := by decide +kernel
theorem dX8_row_109 : decode cX8_row 109 = .ok (.invokevirtual 90, 3) := by decide +kernel
theorem dX8_row_112 : decode cX8_row 112 = .ok (.ireturn, 1) := by decide +kernel
theorem dX8_next_0 : decode cX8_next 0 = .ok (.aload_n 0, 1) := by decide +kernel
theorem dX8_next_1 : decode cX8_next 1 = .ok (.iload_n 1, 1) := by decide +kernel
theorem dX8_next_2 : decode cX8_next 2 = .ok (.invokevirtual 113, 3) := by decide +kernel
theorem dX8_next_5 : decode cX8_next 5 = .ok (.ifCond .eq 11, 3) := by decide +kernel
theorem dX8_next_8 : decode cX8_next 8 = .ok (.aload_n 0, 1) := by decide +kernel
theorem dX8_next_9 : decode cX8_next 9 = .ok (.iload_n 2, 1) := by decide +kernel
theorem dX8_next_10 : decode cX8_next 10 = .ok (.invokevirtual 113, 3) := by decide +kernel
theorem dX8_next_13 : decode cX8_next 13 = .ok (.ifCond .ne 9, 3) := by decide +kernel
theorem dX8_next_16 : decode cX8_next 16 = .ok (.aload_n 0, 1) := by decide +kernel
theorem dX8_next_17 : decode cX8_next 17 = .ok (.iconst 1, 1) := by decide +kernel
theorem dX8_next_18 : decode cX8_next 18 = .ok (.invokevirtual 90, 3) := by decide +kernel
theorem dX8_next_21 : decode cX8_next 21 = .ok (.ireturn, 1) := by decide +kernel
theorem dX8_next_22 : decode cX8_next 22 = .ok (.aload_n 0, 1) := by decide +kernel
theorem dX8_next_23 : decode cX8_next 23 = .ok (.aload_n 0, 1) := by decide +kernel
theorem dX8_next_24 : decode cX8_next 24 = .ok (.getfield 27, 3) := by decide +kernel
theorem dX8_next_27 : decode cX8_next 27 = .ok (.getfield 130, 3) := by decide +kernel
theorem dX8_next_30 : decode cX8_next 30 = .ok (.iload_n 1, 1) := by decide +kernel
theorem dX8_next_31 : decode cX8_next 31 = .ok (.iaload, 1) := by decide +kernel
theorem dX8_next_32 : decode cX8_next 32 = .ok (.iload_n 2, 1) := by decide +kernel
theorem dX8_next_33 : decode cX8_next 33 = .ok (.invokestatic 133, 3) := by decide +kernel
theorem dX8_next_36 : decode cX8_next 36 = .ok (.ifCond .eq 7, 3) := by decide +kernel
theorem dX8_next_39 : decode cX8_next 39 = .ok (.iconst 1, 1) := by decide +kernel
theorem dX8_next_40 : decode cX8_next 40 = .ok (.goto 4, 3) := by decide +kernel
theorem dX8_next_43 : decode cX8_next 43 = .ok (.iconst 0, 1) := by decide +kernel
theorem dX8_next_44 : decode cX8_next 44 = .ok (.invokevirtual 104, 3) := by decide +kernel
theorem dX8_next_47 : decode cX8_next 47 = .ok (.ireturn, 1) := by decide +kernel
theorem dX8_instead_0 : decode cX8_instead 0 = .ok (.aload_n 0, 1) := by decide +kernel
theorem dX8_instead_1 : decode cX8_instead 1 = .ok (.iload_n 1, 1) := by decide +kernel
theorem dX8_instead_2 : decode cX8_instead 2 = .ok (.invokevirtual 113, 3) := by decide +kernel
theorem dX8_instead_5 : decode cX8_instead 5 = .ok (.ifCond .eq 16, 3) := by decide +kernel
theorem dX8_instead_8 : decode cX8_instead 8 = .ok (.aload_n 0, 1) := by decide +kernel
theorem dX8_instead_9 : decode cX8_instead 9 = .ok (.iload_n 2, 1) := by decide +kernel
theorem dX8_instead_10 : decode cX8_instead 10 = .ok (.invokevirtual 113, 3) := by decide +kernel
theorem dX8_instead_13 : decode cX8_instead 13 = .ok (.ifCond .eq 8, 3) := by decide +kernel
theorem dX8_instead_16 : decode cX8_instead 16 = .ok (.iload_n 1, 1) := by decide +kernel
theorem dX8_instead_17 : decode cX8_instead 17 = .ok (.iload_n 2, 1) := by decide +kernel
theorem dX8_instead_18 : decode cX8_instead 18 = .ok (.if_icmp .ne 9, 3) := by decide +kernel
theorem dX8_instead_21 : decode cX8_instead 21 = .ok (.aload_n 0, 1) := by decide +kernel
theorem dX8_instead_22 : decode cX8_instead 22 = .ok (.iconst 1, 1) := by decide +kernel
theorem dX8_instead_23 : decode cX8_instead 23 = .ok (.invokevirtual 90, 3) := by decide +kernel
theorem dX8_instead_26 : decode cX8_instead 26 = .ok (.ireturn, 1) := by decide +kernel
theorem dX8_instead_27 : decode cX8_instead 27 = .ok (.aload_n 0, 1) := by decide +kernel
theorem dX8_instead_28 : decode cX8_instead 28 = .ok (.aload_n 0, 1) := by decide +kernel
theorem dX8_instead_29 : decode cX8_instead 29 = .ok (.getfield 27, 3) := by decide +kernel
theorem dX8_instead_32 : decode cX8_instead 32 = .ok (.iload_n 1, 1) := by decide +kernel
theorem dX8_instead_33 : decode cX8_instead 33 = .ok (.iload_n 2, 1) := by decide +kernel
theorem dX8_instead_34 : decode cX8_instead 34 = .ok (.invokevirtual 137, 3) := by decide +kernel
theorem dX8_instead_37 : decode cX8_instead 37 = .ok (.ifCond .eq 7, 3) := by decide +kernel
theorem dX8_instead_40 : decode cX8_instead 40 = .ok (.iconst 1, 1) := by decide +kernel
theorem dX8_instead_41 : decode cX8_instead 41 = .ok (.goto 4, 3) := by decide +kernel
theorem dX8_instead_44 : decode cX8_instead 44 = .ok (.iconst 0, 1) := by decide +kernel
theorem dX8_instead_45 : decode cX8_instead 45 = .ok (.invokevirtual 104, 3) := by decide +kernel
theorem dX8_instead_48 : decode cX8_instead 48 = .ok (.ireturn, 1) := by decide +kernel
theorem dX8_spare_0 : decode cX8_spare 0 = .ok (.aload_n 0, 1) := by decide +kernel
theorem dX8_spare_1 : decode cX8_spare 1 = .ok (.iload_n 1, 1) := by decide +kernel
theorem dX8_spare_2 : decode cX8_spare 2 = .ok (.invokevirtual 113, 3) := by decide +kernel
theorem dX8_spare_5 : decode cX8_spare 5 = .ok (.ifCond .ne 9, 3) := by decide +kernel
theorem dX8_spare_8 : decode cX8_spare 8 = .ok (.aload_n 0, 1) := by decide +kernel
theorem dX8_spare_9 : decode cX8_spare 9 = .ok (.iconst 1, 1) := by decide +kernel
theorem dX8_spare_10 : decode cX8_spare 10 = .ok (.invokevirtual 90, 3) := by decide +kernel
theorem dX8_spare_13 : decode cX8_spare 13 = .ok (.ireturn, 1) := by decide +kernel
theorem dX8_spare_14 : decode cX8_spare 14 = .ok (.iconst 0, 1) := by decide +kernel
theorem dX8_spare_15 : decode cX8_spare 15 = .ok (.istore_n 2, 1) := by decide +kernel
theorem dX8_spare_16 : decode cX8_spare 16 = .ok (.iload_n 2, 1) := by decide +kernel
theorem dX8_spare_17 : decode cX8_spare 17 = .ok (.aload_n 0, 1) := by decide +kernel
theorem dX8_spare_18 : decode cX8_spare 18 = .ok (.getfield 27, 3) := by decide +kernel
theorem dX8_spare_21 : decode cX8_spare 21 = .ok (.getfield 101, 3) := by decide +kernel
theorem dX8_spare_24 : decode cX8_spare 24 = .ok (.if_icmp .ge 48, 3) := by decide +kernel
theorem dX8_spare_27 : decode cX8_spare 27 = .ok (.aload_n 0, 1) := by decide +kernel
theorem dX8_spare_28 : decode cX8_spare 28 = .ok (.getfield 27, 3) := by decide +kernel
theorem dX8_spare_31 : decode cX8_spare 31 = .ok (.getfield 117, 3) := by decide +kernel
theorem dX8_spare_34 : decode cX8_spare 34 = .ok (.iload_n 2, 1) := by decide +kernel
theorem dX8_spare_35 : decode cX8_spare 35 = .ok (.iaload, 1) := by decide +kernel
theorem dX8_spare_36 : decode cX8_spare 36 = .ok (.aload_n 0, 1) := by decide +kernel
theorem dX8_spare_37 : decode cX8_spare 37 = .ok (.getfield 27, 3) := by decide +kernel
theorem dX8_spare_40 : decode cX8_spare 40 = .ok (.getfield 117, 3) := by decide +kernel
theorem dX8_spare_43 : decode cX8_spare 43 = .ok (.iload_n 1, 1) := by decide +kernel
theorem dX8_spare_44 : decode cX8_spare 44 = .ok (.iaload, 1) := by decide +kernel
theorem dX8_spare_45 : decode cX8_spare 45 = .ok (.if_icmp .eq 21, 3) := by decide +kernel
theorem dX8_spare_48 : decode cX8_spare 48 = .ok (.aload_n 0, 1) := by decide +kernel
theorem dX8_spare_49 : decode cX8_spare 49 = .ok (.getfield 27, 3) := by decide +kernel
theorem dX8_spare_52 : decode cX8_spare 52 = .ok (.iload_n 2, 1) := by decide +kernel
theorem dX8_spare_53 : decode cX8_spare 53 = .ok (.iload_n 1, 1) := by decide +kernel
theorem dX8_spare_54 : decode cX8_spare 54 = .ok (.invokevirtual 137, 3) := by decide +kernel
theorem dX8_spare_57 : decode cX8_spare 57 = .ok (.ifCond .eq 9, 3) := by decide +kernel
theorem dX8_spare_60 : decode cX8_spare 60 = .ok (.aload_n 0, 1) := by decide +kernel
theorem dX8_spare_61 : decode cX8_spare 61 = .ok (.iload_n 2, 1) := by decide +kernel
theorem dX8_spare_62 : decode cX8_spare 62 = .ok (.invokevirtual 104, 3) := by decide +kernel
theorem dX8_spare_65 : decode cX8_spare 65 = .ok (.ireturn, 1) := by decide +kernel
theorem dX8_spare_66 : decode cX8_spare 66 = .ok (.iinc 2 1, 3) := by decide +kernel
theorem dX8_spare_69 : decode cX8_spare 69 = .ok (.goto (-53), 3) := by decide +kernel
theorem dX8_spare_72 : decode cX8_spare 72 = .ok (.aload_n 0, 1) := by decide +kernel
theorem dX8_spare_73 : decode cX8_spare 73 = .ok (.bipush (-2), 2) := by decide +kernel
theorem dX8_spare_75 : decode cX8_spare 75 = .ok (.invokevirtual 104, 3) := by decide +kernel
theorem dX8_spare_78 : decode cX8_spare 78 = .ok (.ireturn, 1) := by decide +kernel
theorem dX8_rows_0 : decode cX8_rows 0 = .ok (.aload_n 0, 1) := by decide +kernel
theorem dX8_rows_1 : decode cX8_rows 1 = .ok (.iload_n 1, 1) := by decide +kernel
theorem dX8_rows_2 : decode cX8_rows 2 = .ok (.invokevirtual 140, 3) := by decide +kernel
theorem dX8_rows_5 : decode cX8_rows 5 = .ok (.ifCond .eq 19, 3) := by decide +kernel
theorem dX8_rows_8 : decode cX8_rows 8 = .ok (.aload_n 0, 1) := by decide +kernel
theorem dX8_rows_9 : decode cX8_rows 9 = .ok (.aload_n 0, 1) := by decide +kernel
theorem dX8_rows_10 : decode cX8_rows 10 = .ok (.getfield 34, 3) := by decide +kernel
theorem dX8_rows_13 : decode cX8_rows 13 = .ok (.getfield 143, 3) := by decide +kernel
theorem dX8_rows_16 : decode cX8_rows 16 = .ok (.iload_n 1, 1) := by decide +kernel
theorem dX8_rows_17 : decode cX8_rows 17 = .ok (.iaload, 1) := by decide +kernel
theorem dX8_rows_18 : decode cX8_rows 18 = .ok (.invokevirtual 104, 3) := by decide +kernel
theorem dX8_rows_21 : decode cX8_rows 21 = .ok (.goto 8, 3) := by decide +kernel
theorem dX8_rows_24 : decode cX8_rows 24 = .ok (.aload_n 0, 1) := by decide +kernel
theorem dX8_rows_25 : decode cX8_rows 25 = .ok (.iconst 1, 1) := by decide +kernel
theorem dX8_rows_26 : decode cX8_rows 26 = .ok (.invokevirtual 90, 3) := by decide +kernel
theorem dX8_rows_29 : decode cX8_rows 29 = .ok (.ireturn, 1) := by decide +kernel
theorem dX8_at_0 : decode cX8_at 0 = .ok (.aload_n 0, 1) := by decide +kernel
theorem dX8_at_1 : decode cX8_at 1 = .ok (.iload_n 1, 1) := by decide +kernel
theorem dX8_at_2 : decode cX8_at 2 = .ok (.iload_n 2, 1) := by decide +kernel
theorem dX8_at_3 : decode cX8_at 3 = .ok (.invokevirtual 146, 3) := by decide +kernel
theorem dX8_at_6 : decode cX8_at 6 = .ok (.ifCond .eq 19, 3) := by decide +kernel
theorem dX8_at_9 : decode cX8_at 9 = .ok (.aload_n 0, 1) := by decide +kernel
theorem dX8_at_10 : decode cX8_at 10 = .ok (.aload_n 0, 1) := by decide +kernel
theorem dX8_at_11 : decode cX8_at 11 = .ok (.getfield 34, 3) := by decide +kernel
theorem dX8_at_14 : decode cX8_at 14 = .ok (.iload_n 1, 1) := by decide +kernel
theorem dX8_at_15 : decode cX8_at 15 = .ok (.iload_n 2, 1) := by decide +kernel
theorem dX8_at_16 : decode cX8_at 16 = .ok (.invokevirtual 149, 3) := by decide +kernel
theorem dX8_at_19 : decode cX8_at 19 = .ok (.invokevirtual 104, 3) := by decide +kernel
theorem dX8_at_22 : decode cX8_at 22 = .ok (.goto 8, 3) := by decide +kernel
theorem dX8_at_25 : decode cX8_at 25 = .ok (.aload_n 0, 1) := by decide +kernel
theorem dX8_at_26 : decode cX8_at 26 = .ok (.iconst 1, 1) := by decide +kernel
theorem dX8_at_27 : decode cX8_at 27 = .ok (.invokevirtual 90, 3) := by decide +kernel
theorem dX8_at_30 : decode cX8_at 30 = .ok (.ireturn, 1) := by decide +kernel
theorem dX8_colour_0 : decode cX8_colour 0 = .ok (.aload_n 0, 1) := by decide +kernel
theorem dX8_colour_1 : decode cX8_colour 1 = .ok (.iload_n 1, 1) := by decide +kernel
theorem dX8_colour_2 : decode cX8_colour 2 = .ok (.invokevirtual 140, 3) := by decide +kernel
theorem dX8_colour_5 : decode cX8_colour 5 = .ok (.ifCond .eq 11, 3) := by decide +kernel
theorem dX8_colour_8 : decode cX8_colour 8 = .ok (.aload_n 0, 1) := by decide +kernel
theorem dX8_colour_9 : decode cX8_colour 9 = .ok (.iload_n 2, 1) := by decide +kernel
theorem dX8_colour_10 : decode cX8_colour 10 = .ok (.invokevirtual 153, 3) := by decide +kernel
theorem dX8_colour_13 : decode cX8_colour 13 = .ok (.ifCond .ne 9, 3) := by decide +kernel
theorem dX8_colour_16 : decode cX8_colour 16 = .ok (.aload_n 0, 1) := by decide +kernel
theorem dX8_colour_17 : decode cX8_colour 17 = .ok (.iconst 1, 1) := by decide +kernel
theorem dX8_colour_18 : decode cX8_colour 18 = .ok (.invokevirtual 90, 3) := by decide +kernel
theorem dX8_colour_21 : decode cX8_colour 21 = .ok (.ireturn, 1) := by decide +kernel
theorem dX8_colour_22 : decode cX8_colour 22 = .ok (.iload_n 3, 1) := by decide +kernel
theorem dX8_colour_23 : decode cX8_colour 23 = .ok (.tableswitch 75 0 2 #[25, 39, 57], 25) := by decide +kernel
theorem dX8_colour_48 : decode cX8_colour 48 = .ok (.aload_n 0, 1) := by decide +kernel
theorem dX8_colour_49 : decode cX8_colour 49 = .ok (.aload_n 0, 1) := by decide +kernel
theorem dX8_colour_50 : decode cX8_colour 50 = .ok (.getfield 34, 3) := by decide +kernel
theorem dX8_colour_53 : decode cX8_colour 53 = .ok (.iload_n 1, 1) := by decide +kernel
theorem dX8_colour_54 : decode cX8_colour 54 = .ok (.iload_n 2, 1) := by decide +kernel
theorem dX8_colour_55 : decode cX8_colour 55 = .ok (.invokevirtual 156, 3) := by decide +kernel
theorem dX8_colour_58 : decode cX8_colour 58 = .ok (.invokevirtual 104, 3) := by decide +kernel
theorem dX8_colour_61 : decode cX8_colour 61 = .ok (.ireturn, 1) := by decide +kernel
theorem dX8_colour_62 : decode cX8_colour 62 = .ok (.aload_n 0, 1) := by decide +kernel
theorem dX8_colour_63 : decode cX8_colour 63 = .ok (.aload_n 0, 1) := by decide +kernel
theorem dX8_colour_64 : decode cX8_colour 64 = .ok (.getfield 34, 3) := by decide +kernel
theorem dX8_colour_67 : decode cX8_colour 67 = .ok (.aload_n 0, 1) := by decide +kernel
theorem dX8_colour_68 : decode cX8_colour 68 = .ok (.getfield 27, 3) := by decide +kernel
theorem dX8_colour_71 : decode cX8_colour 71 = .ok (.iload_n 1, 1) := by decide +kernel
theorem dX8_colour_72 : decode cX8_colour 72 = .ok (.iload_n 2, 1) := by decide +kernel
theorem dX8_colour_73 : decode cX8_colour 73 = .ok (.invokevirtual 159, 3) := by decide +kernel
theorem dX8_colour_76 : decode cX8_colour 76 = .ok (.invokevirtual 104, 3) := by decide +kernel
theorem dX8_colour_79 : decode cX8_colour 79 = .ok (.ireturn, 1) := by decide +kernel
theorem dX8_colour_80 : decode cX8_colour 80 = .ok (.aload_n 0, 1) := by decide +kernel
theorem dX8_colour_81 : decode cX8_colour 81 = .ok (.aload_n 0, 1) := by decide +kernel
theorem dX8_colour_82 : decode cX8_colour 82 = .ok (.getfield 34, 3) := by decide +kernel
theorem dX8_colour_85 : decode cX8_colour 85 = .ok (.getfield 163, 3) := by decide +kernel
theorem dX8_colour_88 : decode cX8_colour 88 = .ok (.iload_n 1, 1) := by decide +kernel
theorem dX8_colour_89 : decode cX8_colour 89 = .ok (.iconst 2, 1) := by decide +kernel
theorem dX8_colour_90 : decode cX8_colour 90 = .ok (.imul, 1) := by decide +kernel
theorem dX8_colour_91 : decode cX8_colour 91 = .ok (.iload_n 2, 1) := by decide +kernel
theorem dX8_colour_92 : decode cX8_colour 92 = .ok (.iadd, 1) := by decide +kernel
theorem dX8_colour_93 : decode cX8_colour 93 = .ok (.iaload, 1) := by decide +kernel
theorem dX8_colour_94 : decode cX8_colour 94 = .ok (.invokevirtual 104, 3) := by decide +kernel
theorem dX8_colour_97 : decode cX8_colour 97 = .ok (.ireturn, 1) := by decide +kernel
theorem dX8_colour_98 : decode cX8_colour 98 = .ok (.aload_n 0, 1) := by decide +kernel
theorem dX8_colour_99 : decode cX8_colour 99 = .ok (.iconst 1, 1) := by decide +kernel
theorem dX8_colour_100 : decode cX8_colour 100 = .ok (.invokevirtual 90, 3) := by decide +kernel
theorem dX8_colour_103 : decode cX8_colour 103 = .ok (.ireturn, 1) := by decide +kernel
theorem dX8_units_0 : decode cX8_units 0 = .ok (.aload_n 0, 1) := by decide +kernel
theorem dX8_units_1 : decode cX8_units 1 = .ok (.getfield 38, 3) := by decide +kernel
theorem dX8_units_4 : decode cX8_units 4 = .ok (.ifCond .ne 9, 3) := by decide +kernel
theorem dX8_units_7 : decode cX8_units 7 = .ok (.aload_n 0, 1) := by decide +kernel
theorem dX8_units_8 : decode cX8_units 8 = .ok (.iconst 1, 1) := by decide +kernel
theorem dX8_units_9 : decode cX8_units 9 = .ok (.invokevirtual 90, 3) := by decide +kernel
theorem dX8_units_12 : decode cX8_units 12 = .ok (.ireturn, 1) := by decide +kernel
theorem dX8_units_13 : decode cX8_units 13 = .ok (.aload_n 0, 1) := by decide +kernel
theorem dX8_units_14 : decode cX8_units 14 = .ok (.aload_n 0, 1) := by decide +kernel
theorem dX8_units_15 : decode cX8_units 15 = .ok (.getfield 27, 3) := by decide +kernel
theorem dX8_units_18 : decode cX8_units 18 = .ok (.aload_n 0, 1) := by decide +kernel
theorem dX8_units_19 : decode cX8_units 19 = .ok (.getfield 34, 3) := by decide +kernel
theorem dX8_units_22 : decode cX8_units 22 = .ok (.getfield 143, 3) := by decide +kernel
theorem dX8_units_25 : decode cX8_units 25 = .ok (.iconst 0, 1) := by decide +kernel
theorem dX8_units_26 : decode cX8_units 26 = .ok (.iaload, 1) := by decide +kernel
theorem dX8_units_27 : decode cX8_units 27 = .ok (.aload_n 0, 1) := by decide +kernel
theorem dX8_units_28 : decode cX8_units 28 = .ok (.getfield 34, 3) := by decide +kernel
theorem dX8_units_31 : decode cX8_units 31 = .ok (.getfield 143, 3) := by decide +kernel
theorem dX8_units_34 : decode cX8_units 34 = .ok (.iconst 1, 1) := by decide +kernel
theorem dX8_units_35 : decode cX8_units 35 = .ok (.iaload, 1) := by decide +kernel
theorem dX8_units_36 : decode cX8_units 36 = .ok (.invokevirtual 166, 3) := by decide +kernel
theorem dX8_units_39 : decode cX8_units 39 = .ok (.invokevirtual 104, 3) := by decide +kernel
theorem dX8_units_42 : decode cX8_units 42 = .ok (.ireturn, 1) := by decide +kernel
theorem dX8_may_0 : decode cX8_may 0 = .ok (.aload_n 0, 1) := by decide +kernel
theorem dX8_may_1 : decode cX8_may 1 = .ok (.iload_n 1, 1) := by decide +kernel
theorem dX8_may_2 : decode cX8_may 2 = .ok (.invokevirtual 140, 3) := by decide +kernel
theorem dX8_may_5 : decode cX8_may 5 = .ok (.ifCond .eq 22, 3) := by decide +kernel
theorem dX8_may_8 : decode cX8_may 8 = .ok (.aload_n 0, 1) := by decide +kernel
theorem dX8_may_9 : decode cX8_may 9 = .ok (.aload_n 0, 1) := by decide +kernel
theorem dX8_may_10 : decode cX8_may 10 = .ok (.getfield 34, 3) := by decide +kernel
theorem dX8_may_13 : decode cX8_may 13 = .ok (.aload_n 0, 1) := by decide +kernel
theorem dX8_may_14 : decode cX8_may 14 = .ok (.getfield 27, 3) := by decide +kernel
theorem dX8_may_17 : decode cX8_may 17 = .ok (.iload_n 1, 1) := by decide +kernel
theorem dX8_may_18 : decode cX8_may 18 = .ok (.invokevirtual 169, 3) := by decide +kernel
theorem dX8_may_21 : decode cX8_may 21 = .ok (.invokevirtual 104, 3) := by decide +kernel
theorem dX8_may_24 : decode cX8_may 24 = .ok (.goto 8, 3) := by decide +kernel
theorem dX8_may_27 : decode cX8_may 27 = .ok (.aload_n 0, 1) := by decide +kernel
theorem dX8_may_28 : decode cX8_may 28 = .ok (.iconst 1, 1) := by decide +kernel
theorem dX8_may_29 : decode cX8_may 29 = .ok (.invokevirtual 90, 3) := by decide +kernel
theorem dX8_may_32 : decode cX8_may 32 = .ok (.ireturn, 1) := by decide +kernel
theorem dX8_weave_0 : decode cX8_weave 0 = .ok (.aload_n 0, 1) := by decide +kernel
theorem dX8_weave_1 : decode cX8_weave 1 = .ok (.iload_n 1, 1) := by decide +kernel
theorem dX8_weave_2 : decode cX8_weave 2 = .ok (.invokevirtual 140, 3) := by decide +kernel
theorem dX8_weave_5 : decode cX8_weave 5 = .ok (.ifCond .eq 11, 3) := by decide +kernel
theorem dX8_weave_8 : decode cX8_weave 8 = .ok (.aload_n 0, 1) := by decide +kernel
theorem dX8_weave_9 : decode cX8_weave 9 = .ok (.iload_n 2, 1) := by decide +kernel
theorem dX8_weave_10 : decode cX8_weave 10 = .ok (.invokevirtual 113, 3) := by decide +kernel
theorem dX8_weave_13 : decode cX8_weave 13 = .ok (.ifCond .ne 9, 3) := by decide +kernel
theorem dX8_weave_16 : decode cX8_weave 16 = .ok (.aload_n 0, 1) := by decide +kernel
theorem dX8_weave_17 : decode cX8_weave 17 = .ok (.iconst 1, 1) := by decide +kernel
theorem dX8_weave_18 : decode cX8_weave 18 = .ok (.invokevirtual 173, 3) := by decide +kernel
theorem dX8_weave_21 : decode cX8_weave 21 = .ok (.ireturn, 1) := by decide +kernel
theorem dX8_weave_22 : decode cX8_weave 22 = .ok (.aload_n 0, 1) := by decide +kernel
theorem dX8_weave_23 : decode cX8_weave 23 = .ok (.getfield 34, 3) := by decide +kernel
theorem dX8_weave_26 : decode cX8_weave 26 = .ok (.aload_n 0, 1) := by decide +kernel
theorem dX8_weave_27 : decode cX8_weave 27 = .ok (.getfield 27, 3) := by decide +kernel
theorem dX8_weave_30 : decode cX8_weave 30 = .ok (.iload_n 1, 1) := by decide +kernel
theorem dX8_weave_31 : decode cX8_weave 31 = .ok (.iload_n 2, 1) := by decide +kernel
theorem dX8_weave_32 : decode cX8_weave 32 = .ok (.invokevirtual 176, 3) := by decide +kernel
theorem dX8_weave_35 : decode cX8_weave 35 = .ok (.istore_n 3, 1) := by decide +kernel
theorem dX8_weave_36 : decode cX8_weave 36 = .ok (.iload_n 3, 1) := by decide +kernel
theorem dX8_weave_37 : decode cX8_weave 37 = .ok (.ifCond .eq 9, 3) := by decide +kernel
theorem dX8_weave_40 : decode cX8_weave 40 = .ok (.aload_n 0, 1) := by decide +kernel
theorem dX8_weave_41 : decode cX8_weave 41 = .ok (.iload_n 3, 1) := by decide +kernel
theorem dX8_weave_42 : decode cX8_weave 42 = .ok (.invokevirtual 173, 3) := by decide +kernel
theorem dX8_weave_45 : decode cX8_weave 45 = .ok (.ireturn, 1) := by decide +kernel
theorem dX8_weave_46 : decode cX8_weave 46 = .ok (.aload_n 0, 1) := by decide +kernel
theorem dX8_weave_47 : decode cX8_weave 47 = .ok (.invokevirtual 179, 3) := by decide +kernel
theorem dX8_weave_50 : decode cX8_weave 50 = .ok (.aload_n 0, 1) := by decide +kernel
theorem dX8_weave_51 : decode cX8_weave 51 = .ok (.getfield 34, 3) := by decide +kernel
theorem dX8_weave_54 : decode cX8_weave 54 = .ok (.aload_n 0, 1) := by decide +kernel
theorem dX8_weave_55 : decode cX8_weave 55 = .ok (.getfield 27, 3) := by decide +kernel
theorem dX8_weave_58 : decode cX8_weave 58 = .ok (.iload_n 1, 1) := by decide +kernel
theorem dX8_weave_59 : decode cX8_weave 59 = .ok (.iload_n 2, 1) := by decide +kernel
theorem dX8_weave_60 : decode cX8_weave 60 = .ok (.invokevirtual 182, 3) := by decide +kernel
theorem dX8_weave_63 : decode cX8_weave 63 = .ok (.aload_n 0, 1) := by decide +kernel
theorem dX8_weave_64 : decode cX8_weave 64 = .ok (.invokevirtual 186, 3) := by decide +kernel
theorem dX8_weave_67 : decode cX8_weave 67 = .ok (.ireturn, 1) := by decide +kernel
theorem dX8_rip_0 : decode cX8_rip 0 = .ok (.aload_n 0, 1) := by decide +kernel
theorem dX8_rip_1 : decode cX8_rip 1 = .ok (.iload_n 1, 1) := by decide +kernel
theorem dX8_rip_2 : decode cX8_rip 2 = .ok (.invokevirtual 140, 3) := by decide +kernel
theorem dX8_rip_5 : decode cX8_rip 5 = .ok (.ifCond .ne 9, 3) := by decide +kernel
theorem dX8_rip_8 : decode cX8_rip 8 = .ok (.aload_n 0, 1) := by decide +kernel
theorem dX8_rip_9 : decode cX8_rip 9 = .ok (.iconst 1, 1) := by decide +kernel
theorem dX8_rip_10 : decode cX8_rip 10 = .ok (.invokevirtual 173, 3) := by decide +kernel
theorem dX8_rip_13 : decode cX8_rip 13 = .ok (.ireturn, 1) := by decide +kernel
theorem dX8_rip_14 : decode cX8_rip 14 = .ok (.aload_n 0, 1) := by decide +kernel
theorem dX8_rip_15 : decode cX8_rip 15 = .ok (.getfield 34, 3) := by decide +kernel
theorem dX8_rip_18 : decode cX8_rip 18 = .ok (.getfield 143, 3) := by decide +kernel
theorem dX8_rip_21 : decode cX8_rip 21 = .ok (.iload_n 1, 1) := by decide +kernel
theorem dX8_rip_22 : decode cX8_rip 22 = .ok (.iaload, 1) := by decide +kernel
theorem dX8_rip_23 : decode cX8_rip 23 = .ok (.ifCond .ne 10, 3) := by decide +kernel
theorem dX8_rip_26 : decode cX8_rip 26 = .ok (.aload_n 0, 1) := by decide +kernel
theorem dX8_rip_27 : decode cX8_rip 27 = .ok (.bipush 6, 2) := by decide +kernel
theorem dX8_rip_29 : decode cX8_rip 29 = .ok (.invokevirtual 173, 3) := by decide +kernel
theorem dX8_rip_32 : decode cX8_rip 32 = .ok (.ireturn, 1) := by decide +kernel
theorem dX8_rip_33 : decode cX8_rip 33 = .ok (.aload_n 0, 1) := by decide +kernel
theorem dX8_rip_34 : decode cX8_rip 34 = .ok (.invokevirtual 179, 3) := by decide +kernel
theorem dX8_rip_37 : decode cX8_rip 37 = .ok (.aload_n 0, 1) := by decide +kernel
theorem dX8_rip_38 : decode cX8_rip 38 = .ok (.getfield 34, 3) := by decide +kernel
theorem dX8_rip_41 : decode cX8_rip 41 = .ok (.aload_n 0, 1) := by decide +kernel
theorem dX8_rip_42 : decode cX8_rip 42 = .ok (.getfield 27, 3) := by decide +kernel
theorem dX8_rip_45 : decode cX8_rip 45 = .ok (.iload_n 1, 1) := by decide +kernel
theorem dX8_rip_46 : decode cX8_rip 46 = .ok (.invokevirtual 190, 3) := by decide +kernel
theorem dX8_rip_49 : decode cX8_rip 49 = .ok (.aload_n 0, 1) := by decide +kernel
theorem dX8_rip_50 : decode cX8_rip 50 = .ok (.invokevirtual 186, 3) := by decide +kernel
theorem dX8_rip_53 : decode cX8_rip 53 = .ok (.ireturn, 1) := by decide +kernel
theorem dX8_weeks_0 : decode cX8_weeks 0 = .ok (.aload_n 0, 1) := by decide +kernel
theorem dX8_weeks_1 : decode cX8_weeks 1 = .ok (.getfield 38, 3) := by decide +kernel
theorem dX8_weeks_4 : decode cX8_weeks 4 = .ok (.ifCond .ne 9, 3) := by decide +kernel
theorem dX8_weeks_7 : decode cX8_weeks 7 = .ok (.aload_n 0, 1) := by decide +kernel
theorem dX8_weeks_8 : decode cX8_weeks 8 = .ok (.iconst 1, 1) := by decide +kernel
theorem dX8_weeks_9 : decode cX8_weeks 9 = .ok (.invokevirtual 90, 3) := by decide +kernel
theorem dX8_weeks_12 : decode cX8_weeks 12 = .ok (.ireturn, 1) := by decide +kernel
theorem dX8_weeks_13 : decode cX8_weeks 13 = .ok (.iload_n 1, 1) := by decide +kernel
theorem dX8_weeks_14 : decode cX8_weeks 14 = .ok (.iconst 1, 1) := by decide +kernel
theorem dX8_weeks_15 : decode cX8_weeks 15 = .ok (.if_icmp .lt 9, 3) := by decide +kernel
theorem dX8_weeks_18 : decode cX8_weeks 18 = .ok (.iload_n 1, 1) := by decide +kernel
theorem dX8_weeks_19 : decode cX8_weeks 19 = .ok (.bipush 9, 2) := by decide +kernel
theorem dX8_weeks_21 : decode cX8_weeks 21 = .ok (.if_icmp .le 9, 3) := by decide +kernel
theorem dX8_weeks_24 : decode cX8_weeks 24 = .ok (.aload_n 0, 1) := by decide +kernel
theorem dX8_weeks_25 : decode cX8_weeks 25 = .ok (.iconst 2, 1) := by decide +kernel
theorem dX8_weeks_26 : decode cX8_weeks 26 = .ok (.invokevirtual 90, 3) := by decide +kernel
theorem dX8_weeks_29 : decode cX8_weeks 29 = .ok (.ireturn, 1) := by decide +kernel
theorem dX8_weeks_30 : decode cX8_weeks 30 = .ok (.aload_n 0, 1) := by decide +kernel
theorem dX8_weeks_31 : decode cX8_weeks 31 = .ok (.getfield 68, 3) := by decide +kernel
theorem dX8_weeks_34 : decode cX8_weeks 34 = .ok (.aload_n 0, 1) := by decide +kernel
theorem dX8_weeks_35 : decode cX8_weeks 35 = .ok (.getfield 27, 3) := by decide +kernel
theorem dX8_weeks_38 : decode cX8_weeks 38 = .ok (.aload_n 0, 1) := by decide +kernel
theorem dX8_weeks_39 : decode cX8_weeks 39 = .ok (.getfield 34, 3) := by decide +kernel
theorem dX8_weeks_42 : decode cX8_weeks 42 = .ok (.aload_n 0, 1) := by decide +kernel
theorem dX8_weeks_43 : decode cX8_weeks 43 = .ok (.getfield 61, 3) := by decide +kernel
theorem dX8_weeks_46 : decode cX8_weeks 46 = .ok (.invokevirtual 194, 3) := by decide +kernel
theorem dX8_weeks_49 : decode cX8_weeks 49 = .ok (.aload_n 0, 1) := by decide +kernel
theorem dX8_weeks_50 : decode cX8_weeks 50 = .ok (.invokevirtual 179, 3) := by decide +kernel
theorem dX8_weeks_53 : decode cX8_weeks 53 = .ok (.aload_n 0, 1) := by decide +kernel
theorem dX8_weeks_54 : decode cX8_weeks 54 = .ok (.getfield 34, 3) := by decide +kernel
theorem dX8_weeks_57 : decode cX8_weeks 57 = .ok (.dup, 1) := by decide +kernel
theorem dX8_weeks_58 : decode cX8_weeks 58 = .ok (.getfield 198, 3) := by decide +kernel
theorem dX8_weeks_61 : decode cX8_weeks 61 = .ok (.iload_n 1, 1) := by decide +kernel
theorem dX8_weeks_62 : decode cX8_weeks 62 = .ok (.iadd, 1) := by decide +kernel
theorem dX8_weeks_63 : decode cX8_weeks 63 = .ok (.putfield 198, 3) := by decide +kernel
theorem dX8_weeks_66 : decode cX8_weeks 66 = .ok (.aload_n 0, 1) := by decide +kernel
theorem dX8_weeks_67 : decode cX8_weeks 67 = .ok (.aload_n 0, 1) := by decide +kernel
theorem dX8_weeks_68 : decode cX8_weeks 68 = .ok (.iload_n 1, 1) := by decide +kernel
theorem dX8_weeks_69 : decode cX8_weeks 69 = .ok (.aload_n 0, 1) := by decide +kernel
theorem dX8_weeks_70 : decode cX8_weeks 70 = .ok (.getfield 27, 3) := by decide +kernel
theorem dX8_weeks_73 : decode cX8_weeks 73 = .ok (.getfield 201, 3) := by decide +kernel
theorem dX8_weeks_76 : decode cX8_weeks 76 = .ok (.imul, 1) := by decide +kernel
theorem dX8_weeks_77 : decode cX8_weeks 77 = .ok (.invokevirtual 204, 3) := by decide +kernel
theorem dX8_weeks_80 : decode cX8_weeks 80 = .ok (.invokevirtual 104, 3) := by decide +kernel
theorem dX8_weeks_83 : decode cX8_weeks 83 = .ok (.ireturn, 1) := by decide +kernel
theorem dX8_undo_0 : decode cX8_undo 0 = .ok (.aload_n 0, 1) := by decide +kernel
theorem dX8_undo_1 : decode cX8_undo 1 = .ok (.getfield 49, 3) := by decide +kernel
theorem dX8_undo_4 : decode cX8_undo 4 = .ok (.ifCond .ne 10, 3) := by decide +kernel
theorem dX8_undo_7 : decode cX8_undo 7 = .ok (.aload_n 0, 1) := by decide +kernel
theorem dX8_undo_8 : decode cX8_undo 8 = .ok (.bipush 6, 2) := by decide +kernel
theorem dX8_undo_10 : decode cX8_undo 10 = .ok (.invokevirtual 173, 3) := by decide +kernel
theorem dX8_undo_13 : decode cX8_undo 13 = .ok (.ireturn, 1) := by decide +kernel
theorem dX8_undo_14 : decode cX8_undo 14 = .ok (.aload_n 0, 1) := by decide +kernel
theorem dX8_undo_15 : decode cX8_undo 15 = .ok (.dup, 1) := by decide +kernel
theorem dX8_undo_16 : decode cX8_undo 16 = .ok (.getfield 49, 3) := by decide +kernel
theorem dX8_undo_19 : decode cX8_undo 19 = .ok (.iconst 1, 1) := by decide +kernel
theorem dX8_undo_20 : decode cX8_undo 20 = .ok (.isub, 1) := by decide +kernel
theorem dX8_undo_21 : decode cX8_undo 21 = .ok (.putfield 49, 3) := by decide +kernel
theorem dX8_undo_24 : decode cX8_undo 24 = .ok (.aload_n 0, 1) := by decide +kernel
theorem dX8_undo_25 : decode cX8_undo 25 = .ok (.getfield 34, 3) := by decide +kernel
theorem dX8_undo_28 : decode cX8_undo 28 = .ok (.aload_n 0, 1) := by decide +kernel
theorem dX8_undo_29 : decode cX8_undo 29 = .ok (.getfield 45, 3) := by decide +kernel
theorem dX8_undo_32 : decode cX8_undo 32 = .ok (.aload_n 0, 1) := by decide +kernel
theorem dX8_undo_33 : decode cX8_undo 33 = .ok (.getfield 49, 3) := by decide +kernel
theorem dX8_undo_36 : decode cX8_undo 36 = .ok (.aaload, 1) := by decide +kernel
theorem dX8_undo_37 : decode cX8_undo 37 = .ok (.invokevirtual 207, 3) := by decide +kernel
theorem dX8_undo_40 : decode cX8_undo 40 = .ok (.aload_n 0, 1) := by decide +kernel
theorem dX8_undo_41 : decode cX8_undo 41 = .ok (.getfield 68, 3) := by decide +kernel
theorem dX8_undo_44 : decode cX8_undo 44 = .ok (.invokevirtual 211, 3) := by decide +kernel
theorem dX8_undo_47 : decode cX8_undo 47 = .ok (.aload_n 0, 1) := by decide +kernel
theorem dX8_undo_48 : decode cX8_undo 48 = .ok (.invokevirtual 186, 3) := by decide +kernel
theorem dX8_undo_51 : decode cX8_undo 51 = .ok (.ireturn, 1) := by decide +kernel
theorem dX8_meets_0 : decode cX8_meets 0 = .ok (.aload_n 0, 1) := by decide +kernel
theorem dX8_meets_1 : decode cX8_meets 1 = .ok (.getfield 38, 3) := by decide +kernel
theorem dX8_meets_4 : decode cX8_meets 4 = .ok (.ifCond .ne 9, 3) := by decide +kernel
theorem dX8_meets_7 : decode cX8_meets 7 = .ok (.aload_n 0, 1) := by decide +kernel
theorem dX8_meets_8 : decode cX8_meets 8 = .ok (.iconst 1, 1) := by decide +kernel
theorem dX8_meets_9 : decode cX8_meets 9 = .ok (.invokevirtual 90, 3) := by decide +kernel
theorem dX8_meets_12 : decode cX8_meets 12 = .ok (.ireturn, 1) := by decide +kernel
theorem dX8_meets_13 : decode cX8_meets 13 = .ok (.aload_n 0, 1) := by decide +kernel
theorem dX8_meets_14 : decode cX8_meets 14 = .ok (.aload_n 0, 1) := by decide +kernel
theorem dX8_meets_15 : decode cX8_meets 15 = .ok (.getfield 34, 3) := by decide +kernel
theorem dX8_meets_18 : decode cX8_meets 18 = .ok (.aload_n 0, 1) := by decide +kernel
theorem dX8_meets_19 : decode cX8_meets 19 = .ok (.getfield 27, 3) := by decide +kernel
theorem dX8_meets_22 : decode cX8_meets 22 = .ok (.invokevirtual 214, 3) := by decide +kernel
theorem dX8_meets_25 : decode cX8_meets 25 = .ok (.ifCond .eq 7, 3) := by decide +kernel
theorem dX8_meets_28 : decode cX8_meets 28 = .ok (.iconst 1, 1) := by decide +kernel
theorem dX8_meets_29 : decode cX8_meets 29 = .ok (.goto 4, 3) := by decide +kernel
theorem dX8_meets_32 : decode cX8_meets 32 = .ok (.iconst 0, 1) := by decide +kernel
theorem dX8_meets_33 : decode cX8_meets 33 = .ok (.invokevirtual 104, 3) := by decide +kernel
theorem dX8_meets_36 : decode cX8_meets 36 = .ok (.ireturn, 1) := by decide +kernel
theorem dX8_meeting_0 : decode cX8_meeting 0 = .ok (.aload_n 0, 1) := by decide +kernel
theorem dX8_meeting_1 : decode cX8_meeting 1 = .ok (.getfield 38, 3) := by decide +kernel
theorem dX8_meeting_4 : decode cX8_meeting 4 = .ok (.ifCond .eq 12, 3) := by decide +kernel
theorem dX8_meeting_7 : decode cX8_meeting 7 = .ok (.iload_n 1, 1) := by decide +kernel
theorem dX8_meeting_8 : decode cX8_meeting 8 = .ok (.ifCond .lt 8, 3) := by decide +kernel
theorem dX8_meeting_11 : decode cX8_meeting 11 = .ok (.iload_n 1, 1) := by decide +kernel
theorem dX8_meeting_12 : decode cX8_meeting 12 = .ok (.iconst 3, 1) := by decide +kernel
theorem dX8_meeting_13 : decode cX8_meeting 13 = .ok (.if_icmp .le 9, 3) := by decide +kernel
theorem dX8_meeting_16 : decode cX8_meeting 16 = .ok (.aload_n 0, 1) := by decide +kernel
theorem dX8_meeting_17 : decode cX8_meeting 17 = .ok (.iconst 1, 1) := by decide +kernel
theorem dX8_meeting_18 : decode cX8_meeting 18 = .ok (.invokevirtual 90, 3) := by decide +kernel
theorem dX8_meeting_21 : decode cX8_meeting 21 = .ok (.ireturn, 1) := by decide +kernel
theorem dX8_meeting_22 : decode cX8_meeting 22 = .ok (.aload_n 0, 1) := by decide +kernel
theorem dX8_meeting_23 : decode cX8_meeting 23 = .ok (.getfield 68, 3) := by decide +kernel
theorem dX8_meeting_26 : decode cX8_meeting 26 = .ok (.aload_n 0, 1) := by decide +kernel
theorem dX8_meeting_27 : decode cX8_meeting 27 = .ok (.getfield 27, 3) := by decide +kernel
theorem dX8_meeting_30 : decode cX8_meeting 30 = .ok (.aload_n 0, 1) := by decide +kernel
theorem dX8_meeting_31 : decode cX8_meeting 31 = .ok (.getfield 34, 3) := by decide +kernel
theorem dX8_meeting_34 : decode cX8_meeting 34 = .ok (.aload_n 0, 1) := by decide +kernel
theorem dX8_meeting_35 : decode cX8_meeting 35 = .ok (.getfield 61, 3) := by decide +kernel
theorem dX8_meeting_38 : decode cX8_meeting 38 = .ok (.invokevirtual 194, 3) := by decide +kernel
theorem dX8_meeting_41 : decode cX8_meeting 41 = .ok (.aload_n 0, 1) := by decide +kernel
theorem dX8_meeting_42 : decode cX8_meeting 42 = .ok (.getfield 68, 3) := by decide +kernel
theorem dX8_meeting_45 : decode cX8_meeting 45 = .ok (.getfield 218, 3) := by decide +kernel
theorem dX8_meeting_48 : decode cX8_meeting 48 = .ok (.ifCond .ne 10, 3) := by decide +kernel
theorem dX8_meeting_51 : decode cX8_meeting 51 = .ok (.aload_n 0, 1) := by decide +kernel
theorem dX8_meeting_52 : decode cX8_meeting 52 = .ok (.bipush (-2), 2) := by decide +kernel
theorem dX8_meeting_54 : decode cX8_meeting 54 = .ok (.invokevirtual 104, 3) := by decide +kernel
theorem dX8_meeting_57 : decode cX8_meeting 57 = .ok (.ireturn, 1) := by decide +kernel
theorem dX8_meeting_58 : decode cX8_meeting 58 = .ok (.iload_n 1, 1) := by decide +kernel
theorem dX8_meeting_59 : decode cX8_meeting 59 = .ok (.tableswitch 77 0 2 #[25, 45, 65], 25) := by decide +kernel
theorem dX8_meeting_84 : decode cX8_meeting 84 = .ok (.aload_n 0, 1) := by decide +kernel
theorem dX8_meeting_85 : decode cX8_meeting 85 = .ok (.aload_n 0, 1) := by decide +kernel
theorem dX8_meeting_86 : decode cX8_meeting 86 = .ok (.getfield 68, 3) := by decide +kernel
theorem dX8_meeting_89 : decode cX8_meeting 89 = .ok (.getfield 221, 3) := by decide +kernel
theorem dX8_meeting_92 : decode cX8_meeting 92 = .ok (.aload_n 0, 1) := by decide +kernel
theorem dX8_meeting_93 : decode cX8_meeting 93 = .ok (.getfield 68, 3) := by decide +kernel
theorem dX8_meeting_96 : decode cX8_meeting 96 = .ok (.getfield 224, 3) := by decide +kernel
theorem dX8_meeting_99 : decode cX8_meeting 99 = .ok (.iadd, 1) := by decide +kernel
theorem dX8_meeting_100 : decode cX8_meeting 100 = .ok (.invokevirtual 104, 3) := by decide +kernel
theorem dX8_meeting_103 : decode cX8_meeting 103 = .ok (.ireturn, 1) := by decide +kernel
theorem dX8_meeting_104 : decode cX8_meeting 104 = .ok (.aload_n 0, 1) := by decide +kernel
theorem dX8_meeting_105 : decode cX8_meeting 105 = .ok (.aload_n 0, 1) := by decide +kernel
theorem dX8_meeting_106 : decode cX8_meeting 106 = .ok (.getfield 68, 3) := by decide +kernel
theorem dX8_meeting_109 : decode cX8_meeting 109 = .ok (.getfield 227, 3) := by decide +kernel
theorem dX8_meeting_112 : decode cX8_meeting 112 = .ok (.aload_n 0, 1) := by decide +kernel
theorem dX8_meeting_113 : decode cX8_meeting 113 = .ok (.getfield 68, 3) := by decide +kernel
theorem dX8_meeting_116 : decode cX8_meeting 116 = .ok (.getfield 230, 3) := by decide +kernel
theorem dX8_meeting_119 : decode cX8_meeting 119 = .ok (.iadd, 1) := by decide +kernel
theorem dX8_meeting_120 : decode cX8_meeting 120 = .ok (.invokevirtual 104, 3) := by decide +kernel
theorem dX8_meeting_123 : decode cX8_meeting 123 = .ok (.ireturn, 1) := by decide +kernel
theorem dX8_meeting_124 : decode cX8_meeting 124 = .ok (.aload_n 0, 1) := by decide +kernel
theorem dX8_meeting_125 : decode cX8_meeting 125 = .ok (.aload_n 0, 1) := by decide +kernel
theorem dX8_meeting_126 : decode cX8_meeting 126 = .ok (.getfield 68, 3) := by decide +kernel
theorem dX8_meeting_129 : decode cX8_meeting 129 = .ok (.getfield 221, 3) := by decide +kernel
theorem dX8_meeting_132 : decode cX8_meeting 132 = .ok (.invokevirtual 104, 3) := by decide +kernel
theorem dX8_meeting_135 : decode cX8_meeting 135 = .ok (.ireturn, 1) := by decide +kernel
theorem dX8_meeting_136 : decode cX8_meeting 136 = .ok (.aload_n 0, 1) := by decide +kernel
theorem dX8_meeting_137 : decode cX8_meeting 137 = .ok (.aload_n 0, 1) := by decide +kernel
theorem dX8_meeting_138 : decode cX8_meeting 138 = .ok (.getfield 68, 3) := by decide +kernel
theorem dX8_meeting_141 : decode cX8_meeting 141 = .ok (.getfield 227, 3) := by decide +kernel
theorem dX8_meeting_144 : decode cX8_meeting 144 = .ok (.invokevirtual 104, 3) := by decide +kernel
theorem dX8_meeting_147 : decode cX8_meeting 147 = .ok (.ireturn, 1) := by decide +kernel
theorem dX8_woven_0 : decode cX8_woven 0 = .ok (.aload_n 0, 1) := by decide +kernel
theorem dX8_woven_1 : decode cX8_woven 1 = .ok (.getfield 38, 3) := by decide +kernel
theorem dX8_woven_4 : decode cX8_woven 4 = .ok (.ifCond .eq 7, 3) := by decide +kernel
theorem dX8_woven_7 : decode cX8_woven 7 = .ok (.iload_n 1, 1) := by decide +kernel
theorem dX8_woven_8 : decode cX8_woven 8 = .ok (.ifCond .ge 9, 3) := by decide +kernel
theorem dX8_woven_11 : decode cX8_woven 11 = .ok (.aload_n 0, 1) := by decide +kernel
theorem dX8_woven_12 : decode cX8_woven 12 = .ok (.iconst 1, 1) := by decide +kernel
theorem dX8_woven_13 : decode cX8_woven 13 = .ok (.invokevirtual 90, 3) := by decide +kernel
theorem dX8_woven_16 : decode cX8_woven 16 = .ok (.ireturn, 1) := by decide +kernel
theorem dX8_woven_17 : decode cX8_woven 17 = .ok (.aload_n 0, 1) := by decide +kernel
theorem dX8_woven_18 : decode cX8_woven 18 = .ok (.getfield 68, 3) := by decide +kernel
theorem dX8_woven_21 : decode cX8_woven 21 = .ok (.aload_n 0, 1) := by decide +kernel
theorem dX8_woven_22 : decode cX8_woven 22 = .ok (.getfield 27, 3) := by decide +kernel
theorem dX8_woven_25 : decode cX8_woven 25 = .ok (.aload_n 0, 1) := by decide +kernel
theorem dX8_woven_26 : decode cX8_woven 26 = .ok (.getfield 34, 3) := by decide +kernel
theorem dX8_woven_29 : decode cX8_woven 29 = .ok (.aload_n 0, 1) := by decide +kernel
theorem dX8_woven_30 : decode cX8_woven 30 = .ok (.getfield 61, 3) := by decide +kernel
theorem dX8_woven_33 : decode cX8_woven 33 = .ok (.invokevirtual 194, 3) := by decide +kernel
theorem dX8_woven_36 : decode cX8_woven 36 = .ok (.aload_n 0, 1) := by decide +kernel
theorem dX8_woven_37 : decode cX8_woven 37 = .ok (.getfield 68, 3) := by decide +kernel
theorem dX8_woven_40 : decode cX8_woven 40 = .ok (.getfield 218, 3) := by decide +kernel
theorem dX8_woven_43 : decode cX8_woven 43 = .ok (.ifCond .ne 10, 3) := by decide +kernel
theorem dX8_woven_46 : decode cX8_woven 46 = .ok (.aload_n 0, 1) := by decide +kernel
theorem dX8_woven_47 : decode cX8_woven 47 = .ok (.bipush 6, 2) := by decide +kernel
theorem dX8_woven_49 : decode cX8_woven 49 = .ok (.invokevirtual 90, 3) := by decide +kernel
theorem dX8_woven_52 : decode cX8_woven 52 = .ok (.ireturn, 1) := by decide +kernel
theorem dX8_woven_53 : decode cX8_woven 53 = .ok (.iload_n 1, 1) := by decide +kernel
theorem dX8_woven_54 : decode cX8_woven 54 = .ok (.aload_n 0, 1) := by decide +kernel
theorem dX8_woven_55 : decode cX8_woven 55 = .ok (.getfield 68, 3) := by decide +kernel
theorem dX8_woven_58 : decode cX8_woven 58 = .ok (.getfield 227, 3) := by decide +kernel
theorem dX8_woven_61 : decode cX8_woven 61 = .ok (.aload_n 0, 1) := by decide +kernel
theorem dX8_woven_62 : decode cX8_woven 62 = .ok (.getfield 68, 3) := by decide +kernel
theorem dX8_woven_65 : decode cX8_woven 65 = .ok (.getfield 230, 3) := by decide +kernel
theorem dX8_woven_68 : decode cX8_woven 68 = .ok (.iadd, 1) := by decide +kernel
theorem dX8_woven_69 : decode cX8_woven 69 = .ok (.if_icmp .lt 9, 3) := by decide +kernel
theorem dX8_woven_72 : decode cX8_woven 72 = .ok (.aload_n 0, 1) := by decide +kernel
theorem dX8_woven_73 : decode cX8_woven 73 = .ok (.iconst 1, 1) := by decide +kernel
theorem dX8_woven_74 : decode cX8_woven 74 = .ok (.invokevirtual 90, 3) := by decide +kernel
theorem dX8_woven_77 : decode cX8_woven 77 = .ok (.ireturn, 1) := by decide +kernel
theorem dX8_woven_78 : decode cX8_woven 78 = .ok (.aload_n 0, 1) := by decide +kernel
theorem dX8_woven_79 : decode cX8_woven 79 = .ok (.aload_n 0, 1) := by decide +kernel
theorem dX8_woven_80 : decode cX8_woven 80 = .ok (.getfield 68, 3) := by decide +kernel
theorem dX8_woven_83 : decode cX8_woven 83 = .ok (.getfield 233, 3) := by decide +kernel
theorem dX8_woven_86 : decode cX8_woven 86 = .ok (.iload_n 1, 1) := by decide +kernel
theorem dX8_woven_87 : decode cX8_woven 87 = .ok (.iaload, 1) := by decide +kernel
theorem dX8_woven_88 : decode cX8_woven 88 = .ok (.invokevirtual 104, 3) := by decide +kernel
theorem dX8_woven_91 : decode cX8_woven 91 = .ok (.ireturn, 1) := by decide +kernel
theorem dX8_takes_0 : decode cX8_takes 0 = .ok (.aload_n 0, 1) := by decide +kernel
theorem dX8_takes_1 : decode cX8_takes 1 = .ok (.iload_n 1, 1) := by decide +kernel
theorem dX8_takes_2 : decode cX8_takes 2 = .ok (.invokevirtual 140, 3) := by decide +kernel
theorem dX8_takes_5 : decode cX8_takes 5 = .ok (.ifCond .eq 11, 3) := by decide +kernel
theorem dX8_takes_8 : decode cX8_takes 8 = .ok (.aload_n 0, 1) := by decide +kernel
theorem dX8_takes_9 : decode cX8_takes 9 = .ok (.iload_n 2, 1) := by decide +kernel
theorem dX8_takes_10 : decode cX8_takes 10 = .ok (.invokevirtual 153, 3) := by decide +kernel
theorem dX8_takes_13 : decode cX8_takes 13 = .ok (.ifCond .ne 9, 3) := by decide +kernel
theorem dX8_takes_16 : decode cX8_takes 16 = .ok (.aload_n 0, 1) := by decide +kernel
theorem dX8_takes_17 : decode cX8_takes 17 = .ok (.iconst 1, 1) := by decide +kernel
theorem dX8_takes_18 : decode cX8_takes 18 = .ok (.invokevirtual 90, 3) := by decide +kernel
theorem dX8_takes_21 : decode cX8_takes 21 = .ok (.ireturn, 1) := by decide +kernel
theorem dX8_takes_22 : decode cX8_takes 22 = .ok (.aload_n 0, 1) := by decide +kernel
theorem dX8_takes_23 : decode cX8_takes 23 = .ok (.getfield 68, 3) := by decide +kernel
theorem dX8_takes_26 : decode cX8_takes 26 = .ok (.aload_n 0, 1) := by decide +kernel
theorem dX8_takes_27 : decode cX8_takes 27 = .ok (.getfield 27, 3) := by decide +kernel
theorem dX8_takes_30 : decode cX8_takes 30 = .ok (.aload_n 0, 1) := by decide +kernel
theorem dX8_takes_31 : decode cX8_takes 31 = .ok (.getfield 34, 3) := by decide +kernel
theorem dX8_takes_34 : decode cX8_takes 34 = .ok (.aload_n 0, 1) := by decide +kernel
theorem dX8_takes_35 : decode cX8_takes 35 = .ok (.getfield 61, 3) := by decide +kernel
theorem dX8_takes_38 : decode cX8_takes 38 = .ok (.invokevirtual 194, 3) := by decide +kernel
theorem dX8_takes_41 : decode cX8_takes 41 = .ok (.aload_n 0, 1) := by decide +kernel
theorem dX8_takes_42 : decode cX8_takes 42 = .ok (.getfield 68, 3) := by decide +kernel
theorem dX8_takes_45 : decode cX8_takes 45 = .ok (.getfield 218, 3) := by decide +kernel
theorem dX8_takes_48 : decode cX8_takes 48 = .ok (.ifCond .ne 10, 3) := by decide +kernel
theorem dX8_takes_51 : decode cX8_takes 51 = .ok (.aload_n 0, 1) := by decide +kernel
theorem dX8_takes_52 : decode cX8_takes 52 = .ok (.bipush 6, 2) := by decide +kernel
theorem dX8_takes_54 : decode cX8_takes 54 = .ok (.invokevirtual 90, 3) := by decide +kernel
theorem dX8_takes_57 : decode cX8_takes 57 = .ok (.ireturn, 1) := by decide +kernel
theorem dX8_takes_58 : decode cX8_takes 58 = .ok (.aload_n 0, 1) := by decide +kernel
theorem dX8_takes_59 : decode cX8_takes 59 = .ok (.aload_n 0, 1) := by decide +kernel
theorem dX8_takes_60 : decode cX8_takes 60 = .ok (.getfield 68, 3) := by decide +kernel
theorem dX8_takes_63 : decode cX8_takes 63 = .ok (.getfield 236, 3) := by decide +kernel
theorem dX8_takes_66 : decode cX8_takes 66 = .ok (.iload_n 1, 1) := by decide +kernel
theorem dX8_takes_67 : decode cX8_takes 67 = .ok (.iconst 2, 1) := by decide +kernel
theorem dX8_takes_68 : decode cX8_takes 68 = .ok (.imul, 1) := by decide +kernel
theorem dX8_takes_69 : decode cX8_takes 69 = .ok (.iload_n 2, 1) := by decide +kernel
theorem dX8_takes_70 : decode cX8_takes 70 = .ok (.iadd, 1) := by decide +kernel
theorem dX8_takes_71 : decode cX8_takes 71 = .ok (.iaload, 1) := by decide +kernel
theorem dX8_takes_72 : decode cX8_takes 72 = .ok (.invokevirtual 104, 3) := by decide +kernel
theorem dX8_takes_75 : decode cX8_takes 75 = .ok (.ireturn, 1) := by decide +kernel
theorem dX8_far_0 : decode cX8_far 0 = .ok (.aload_n 0, 1) := by decide +kernel
theorem dX8_far_1 : decode cX8_far 1 = .ok (.iload_n 1, 1) := by decide +kernel
theorem dX8_far_2 : decode cX8_far 2 = .ok (.invokevirtual 140, 3) := by decide +kernel
theorem dX8_far_5 : decode cX8_far 5 = .ok (.ifCond .ne 9, 3) := by decide +kernel
theorem dX8_far_8 : decode cX8_far 8 = .ok (.aload_n 0, 1) := by decide +kernel
theorem dX8_far_9 : decode cX8_far 9 = .ok (.iconst 1, 1) := by decide +kernel
theorem dX8_far_10 : decode cX8_far 10 = .ok (.invokevirtual 90, 3) := by decide +kernel
theorem dX8_far_13 : decode cX8_far 13 = .ok (.ireturn, 1) := by decide +kernel
theorem dX8_far_14 : decode cX8_far 14 = .ok (.aload_n 0, 1) := by decide +kernel
theorem dX8_far_15 : decode cX8_far 15 = .ok (.aload_n 0, 1) := by decide +kernel
theorem dX8_far_16 : decode cX8_far 16 = .ok (.getfield 61, 3) := by decide +kernel
theorem dX8_far_19 : decode cX8_far 19 = .ok (.aload_n 0, 1) := by decide +kernel
theorem dX8_far_20 : decode cX8_far 20 = .ok (.getfield 27, 3) := by decide +kernel
theorem dX8_far_23 : decode cX8_far 23 = .ok (.aload_n 0, 1) := by decide +kernel
theorem dX8_far_24 : decode cX8_far 24 = .ok (.getfield 34, 3) := by decide +kernel
theorem dX8_far_27 : decode cX8_far 27 = .ok (.iload_n 1, 1) := by decide +kernel
theorem dX8_far_28 : decode cX8_far 28 = .ok (.invokevirtual 239, 3) := by decide +kernel
theorem dX8_far_31 : decode cX8_far 31 = .ok (.invokevirtual 104, 3) := by decide +kernel
theorem dX8_far_34 : decode cX8_far 34 = .ok (.ireturn, 1) := by decide +kernel
theorem dX8_ways_0 : decode cX8_ways 0 = .ok (.aload_n 0, 1) := by decide +kernel
theorem dX8_ways_1 : decode cX8_ways 1 = .ok (.getfield 38, 3) := by decide +kernel
theorem dX8_ways_4 : decode cX8_ways 4 = .ok (.ifCond .ne 10, 3) := by decide +kernel
theorem dX8_ways_7 : decode cX8_ways 7 = .ok (.aload_n 0, 1) := by decide +kernel
theorem dX8_ways_8 : decode cX8_ways 8 = .ok (.iconst 1, 1) := by decide +kernel
theorem dX8_ways_9 : decode cX8_ways 9 = .ok (.invokevirtual 90, 3) := by decide +kernel
theorem dX8_ways_12 : decode cX8_ways 12 = .ok (.i2l, 1) := by decide +kernel
theorem dX8_ways_13 : decode cX8_ways 13 = .ok (.lreturn, 1) := by decide +kernel
theorem dX8_ways_14 : decode cX8_ways 14 = .ok (.aload_n 0, 1) := by decide +kernel
theorem dX8_ways_15 : decode cX8_ways 15 = .ok (.iconst 0, 1) := by decide +kernel
theorem dX8_ways_16 : decode cX8_ways 16 = .ok (.putfield 42, 3) := by decide +kernel
theorem dX8_ways_19 : decode cX8_ways 19 = .ok (.aload_n 0, 1) := by decide +kernel
theorem dX8_ways_20 : decode cX8_ways 20 = .ok (.getfield 75, 3) := by decide +kernel
theorem dX8_ways_23 : decode cX8_ways 23 = .ok (.aload_n 0, 1) := by decide +kernel
theorem dX8_ways_24 : decode cX8_ways 24 = .ok (.getfield 27, 3) := by decide +kernel
theorem dX8_ways_27 : decode cX8_ways 27 = .ok (.aload_n 0, 1) := by decide +kernel
theorem dX8_ways_28 : decode cX8_ways 28 = .ok (.getfield 34, 3) := by decide +kernel
theorem dX8_ways_31 : decode cX8_ways 31 = .ok (.invokevirtual 243, 3) := by decide +kernel
theorem dX8_ways_34 : decode cX8_ways 34 = .ok (.lreturn, 1) := by decide +kernel
theorem dX8_sure_0 : decode cX8_sure 0 = .ok (.aload_n 0, 1) := by decide +kernel
theorem dX8_sure_1 : decode cX8_sure 1 = .ok (.iload_n 1, 1) := by decide +kernel
theorem dX8_sure_2 : decode cX8_sure 2 = .ok (.invokevirtual 140, 3) := by decide +kernel
theorem dX8_sure_5 : decode cX8_sure 5 = .ok (.ifCond .eq 11, 3) := by decide +kernel
theorem dX8_sure_8 : decode cX8_sure 8 = .ok (.aload_n 0, 1) := by decide +kernel
theorem dX8_sure_9 : decode cX8_sure 9 = .ok (.iload_n 2, 1) := by decide +kernel
theorem dX8_sure_10 : decode cX8_sure 10 = .ok (.invokevirtual 113, 3) := by decide +kernel
theorem dX8_sure_13 : decode cX8_sure 13 = .ok (.ifCond .ne 9, 3) := by decide +kernel
theorem dX8_sure_16 : decode cX8_sure 16 = .ok (.aload_n 0, 1) := by decide +kernel
theorem dX8_sure_17 : decode cX8_sure 17 = .ok (.iconst 1, 1) := by decide +kernel
theorem dX8_sure_18 : decode cX8_sure 18 = .ok (.invokevirtual 90, 3) := by decide +kernel
theorem dX8_sure_21 : decode cX8_sure 21 = .ok (.ireturn, 1) := by decide +kernel
theorem dX8_sure_22 : decode cX8_sure 22 = .ok (.aload_n 0, 1) := by decide +kernel
theorem dX8_sure_23 : decode cX8_sure 23 = .ok (.getfield 34, 3) := by decide +kernel
theorem dX8_sure_26 : decode cX8_sure 26 = .ok (.aload_n 0, 1) := by decide +kernel
theorem dX8_sure_27 : decode cX8_sure 27 = .ok (.getfield 27, 3) := by decide +kernel
theorem dX8_sure_30 : decode cX8_sure 30 = .ok (.iload_n 1, 1) := by decide +kernel
theorem dX8_sure_31 : decode cX8_sure 31 = .ok (.invokevirtual 169, 3) := by decide +kernel
theorem dX8_sure_34 : decode cX8_sure 34 = .ok (.iload_n 2, 1) := by decide +kernel
theorem dX8_sure_35 : decode cX8_sure 35 = .ok (.invokestatic 133, 3) := by decide +kernel
theorem dX8_sure_38 : decode cX8_sure 38 = .ok (.ifCond .ne 9, 3) := by decide +kernel
theorem dX8_sure_41 : decode cX8_sure 41 = .ok (.aload_n 0, 1) := by decide +kernel
theorem dX8_sure_42 : decode cX8_sure 42 = .ok (.iconst 5, 1) := by decide +kernel
theorem dX8_sure_43 : decode cX8_sure 43 = .ok (.invokevirtual 90, 3) := by decide +kernel
theorem dX8_sure_46 : decode cX8_sure 46 = .ok (.ireturn, 1) := by decide +kernel
theorem dX8_sure_47 : decode cX8_sure 47 = .ok (.aload_n 0, 1) := by decide +kernel
theorem dX8_sure_48 : decode cX8_sure 48 = .ok (.aload_n 0, 1) := by decide +kernel
theorem dX8_sure_49 : decode cX8_sure 49 = .ok (.getfield 61, 3) := by decide +kernel
theorem dX8_sure_52 : decode cX8_sure 52 = .ok (.aload_n 0, 1) := by decide +kernel
theorem dX8_sure_53 : decode cX8_sure 53 = .ok (.getfield 27, 3) := by decide +kernel
theorem dX8_sure_56 : decode cX8_sure 56 = .ok (.aload_n 0, 1) := by decide +kernel
theorem dX8_sure_57 : decode cX8_sure 57 = .ok (.getfield 34, 3) := by decide +kernel
theorem dX8_sure_60 : decode cX8_sure 60 = .ok (.iload_n 1, 1) := by decide +kernel
theorem dX8_sure_61 : decode cX8_sure 61 = .ok (.iconst 1, 1) := by decide +kernel
theorem dX8_sure_62 : decode cX8_sure 62 = .ok (.iload_n 2, 1) := by decide +kernel
theorem dX8_sure_63 : decode cX8_sure 63 = .ok (.ishl, 1) := by decide +kernel
theorem dX8_sure_64 : decode cX8_sure 64 = .ok (.invokevirtual 247, 3) := by decide +kernel
theorem dX8_sure_67 : decode cX8_sure 67 = .ok (.ifCond .eq 7, 3) := by decide +kernel
theorem dX8_sure_70 : decode cX8_sure 70 = .ok (.iconst 1, 1) := by decide +kernel
theorem dX8_sure_71 : decode cX8_sure 71 = .ok (.goto 4, 3) := by decide +kernel
theorem dX8_sure_74 : decode cX8_sure 74 = .ok (.iconst 0, 1) := by decide +kernel
theorem dX8_sure_75 : decode cX8_sure 75 = .ok (.invokevirtual 104, 3) := by decide +kernel
theorem dX8_sure_78 : decode cX8_sure 78 = .ok (.ireturn, 1) := by decide +kernel
theorem dX8_sureRows_0 : decode cX8_sureRows 0 = .ok (.aload_n 0, 1) := by decide +kernel
theorem dX8_sureRows_1 : decode cX8_sureRows 1 = .ok (.iload_n 1, 1) := by decide +kernel
theorem dX8_sureRows_2 : decode cX8_sureRows 2 = .ok (.invokevirtual 140, 3) := by decide +kernel
theorem dX8_sureRows_5 : decode cX8_sureRows 5 = .ok (.ifCond .ne 9, 3) := by decide +kernel
theorem dX8_sureRows_8 : decode cX8_sureRows 8 = .ok (.aload_n 0, 1) := by decide +kernel
theorem dX8_sureRows_9 : decode cX8_sureRows 9 = .ok (.iconst 1, 1) := by decide +kernel
theorem dX8_sureRows_10 : decode cX8_sureRows 10 = .ok (.invokevirtual 90, 3) := by decide +kernel
theorem dX8_sureRows_13 : decode cX8_sureRows 13 = .ok (.ireturn, 1) := by decide +kernel
theorem dX8_sureRows_14 : decode cX8_sureRows 14 = .ok (.aload_n 0, 1) := by decide +kernel
theorem dX8_sureRows_15 : decode cX8_sureRows 15 = .ok (.aload_n 0, 1) := by decide +kernel
theorem dX8_sureRows_16 : decode cX8_sureRows 16 = .ok (.getfield 61, 3) := by decide +kernel
theorem dX8_sureRows_19 : decode cX8_sureRows 19 = .ok (.aload_n 0, 1) := by decide +kernel
theorem dX8_sureRows_20 : decode cX8_sureRows 20 = .ok (.getfield 27, 3) := by decide +kernel
theorem dX8_sureRows_23 : decode cX8_sureRows 23 = .ok (.aload_n 0, 1) := by decide +kernel
theorem dX8_sureRows_24 : decode cX8_sureRows 24 = .ok (.getfield 34, 3) := by decide +kernel
theorem dX8_sureRows_27 : decode cX8_sureRows 27 = .ok (.iload_n 1, 1) := by decide +kernel
theorem dX8_sureRows_28 : decode cX8_sureRows 28 = .ok (.aload_n 0, 1) := by decide +kernel
theorem dX8_sureRows_29 : decode cX8_sureRows 29 = .ok (.getfield 34, 3) := by decide +kernel
theorem dX8_sureRows_32 : decode cX8_sureRows 32 = .ok (.aload_n 0, 1) := by decide +kernel
theorem dX8_sureRows_33 : decode cX8_sureRows 33 = .ok (.getfield 27, 3) := by decide +kernel
theorem dX8_sureRows_36 : decode cX8_sureRows 36 = .ok (.iload_n 1, 1) := by decide +kernel
theorem dX8_sureRows_37 : decode cX8_sureRows 37 = .ok (.invokevirtual 169, 3) := by decide +kernel
theorem dX8_sureRows_40 : decode cX8_sureRows 40 = .ok (.invokevirtual 247, 3) := by decide +kernel
theorem dX8_sureRows_43 : decode cX8_sureRows 43 = .ok (.invokevirtual 104, 3) := by decide +kernel
theorem dX8_sureRows_46 : decode cX8_sureRows 46 = .ok (.ireturn, 1) := by decide +kernel
theorem dX8_third_0 : decode cX8_third 0 = .ok (.aload_n 0, 1) := by decide +kernel
theorem dX8_third_1 : decode cX8_third 1 = .ok (.getfield 38, 3) := by decide +kernel
theorem dX8_third_4 : decode cX8_third 4 = .ok (.ifCond .ne 9, 3) := by decide +kernel
theorem dX8_third_7 : decode cX8_third 7 = .ok (.aload_n 0, 1) := by decide +kernel
theorem dX8_third_8 : decode cX8_third 8 = .ok (.iconst 1, 1) := by decide +kernel
theorem dX8_third_9 : decode cX8_third 9 = .ok (.invokevirtual 90, 3) := by decide +kernel
theorem dX8_third_12 : decode cX8_third 12 = .ok (.ireturn, 1) := by decide +kernel
theorem dX8_third_13 : decode cX8_third 13 = .ok (.aload_n 0, 1) := by decide +kernel
theorem dX8_third_14 : decode cX8_third 14 = .ok (.getfield 34, 3) := by decide +kernel
theorem dX8_third_17 : decode cX8_third 17 = .ok (.iconst 0, 1) := by decide +kernel
theorem dX8_third_18 : decode cX8_third 18 = .ok (.invokevirtual 251, 3) := by decide +kernel
theorem dX8_third_21 : decode cX8_third 21 = .ok (.istore_n 1, 1) := by decide +kernel
theorem dX8_third_22 : decode cX8_third 22 = .ok (.aload_n 0, 1) := by decide +kernel
theorem dX8_third_23 : decode cX8_third 23 = .ok (.getfield 34, 3) := by decide +kernel
theorem dX8_third_26 : decode cX8_third 26 = .ok (.iconst 1, 1) := by decide +kernel
theorem dX8_third_27 : decode cX8_third 27 = .ok (.invokevirtual 251, 3) := by decide +kernel
theorem dX8_third_30 : decode cX8_third 30 = .ok (.istore_n 2, 1) := by decide +kernel
theorem dX8_third_31 : decode cX8_third 31 = .ok (.iload_n 1, 1) := by decide +kernel
theorem dX8_third_32 : decode cX8_third 32 = .ok (.ifCond .lt 7, 3) := by decide +kernel
theorem dX8_third_35 : decode cX8_third 35 = .ok (.iload_n 2, 1) := by decide +kernel
theorem dX8_third_36 : decode cX8_third 36 = .ok (.ifCond .ge 10, 3) := by decide +kernel
theorem dX8_third_39 : decode cX8_third 39 = .ok (.aload_n 0, 1) := by decide +kernel
theorem dX8_third_40 : decode cX8_third 40 = .ok (.bipush 6, 2) := by decide +kernel
theorem dX8_third_42 : decode cX8_third 42 = .ok (.invokevirtual 90, 3) := by decide +kernel
theorem dX8_third_45 : decode cX8_third 45 = .ok (.ireturn, 1) := by decide +kernel
theorem dX8_third_46 : decode cX8_third 46 = .ok (.aload_n 0, 1) := by decide +kernel
theorem dX8_third_47 : decode cX8_third 47 = .ok (.aload_n 0, 1) := by decide +kernel
theorem dX8_third_48 : decode cX8_third 48 = .ok (.getfield 27, 3) := by decide +kernel
theorem dX8_third_51 : decode cX8_third 51 = .ok (.getfield 130, 3) := by decide +kernel
theorem dX8_third_54 : decode cX8_third 54 = .ok (.iload_n 1, 1) := by decide +kernel
theorem dX8_third_55 : decode cX8_third 55 = .ok (.iaload, 1) := by decide +kernel
theorem dX8_third_56 : decode cX8_third 56 = .ok (.aload_n 0, 1) := by decide +kernel
theorem dX8_third_57 : decode cX8_third 57 = .ok (.getfield 27, 3) := by decide +kernel
theorem dX8_third_60 : decode cX8_third 60 = .ok (.getfield 254, 3) := by decide +kernel
theorem dX8_third_63 : decode cX8_third 63 = .ok (.iload_n 2, 1) := by decide +kernel
theorem dX8_third_64 : decode cX8_third 64 = .ok (.iaload, 1) := by decide +kernel
theorem dX8_third_65 : decode cX8_third 65 = .ok (.iand, 1) := by decide +kernel
theorem dX8_third_66 : decode cX8_third 66 = .ok (.invokevirtual 104, 3) := by decide +kernel
theorem dX8_third_69 : decode cX8_third 69 = .ok (.ireturn, 1) := by decide +kernel
theorem dX8_answered_0 : decode cX8_answered 0 = .ok (.aload_n 0, 1) := by decide +kernel
theorem dX8_answered_1 : decode cX8_answered 1 = .ok (.getfield 38, 3) := by decide +kernel
theorem dX8_answered_4 : decode cX8_answered 4 = .ok (.ifCond .eq 13, 3) := by decide +kernel
theorem dX8_answered_7 : decode cX8_answered 7 = .ok (.iload_n 1, 1) := by decide +kernel
theorem dX8_answered_8 : decode cX8_answered 8 = .ok (.ifCond .lt 9, 3) := by decide +kernel
theorem dX8_answered_11 : decode cX8_answered 11 = .ok (.iload_n 1, 1) := by decide +kernel
theorem dX8_answered_12 : decode cX8_answered 12 = .ok (.bipush 24, 2) := by decide +kernel
theorem dX8_answered_14 : decode cX8_answered 14 = .ok (.if_icmp .lt 9, 3) := by decide +kernel
theorem dX8_answered_17 : decode cX8_answered 17 = .ok (.aload_n 0, 1) := by decide +kernel
theorem dX8_answered_18 : decode cX8_answered 18 = .ok (.iconst 1, 1) := by decide +kernel
theorem dX8_answered_19 : decode cX8_answered 19 = .ok (.invokevirtual 90, 3) := by decide +kernel
theorem dX8_answered_22 : decode cX8_answered 22 = .ok (.ireturn, 1) := by decide +kernel
theorem dX8_answered_23 : decode cX8_answered 23 = .ok (.iload_n 1, 1) := by decide +kernel
theorem dX8_answered_24 : decode cX8_answered 24 = .ok (.aload_n 0, 1) := by decide +kernel
theorem dX8_answered_25 : decode cX8_answered 25 = .ok (.getfield 34, 3) := by decide +kernel
theorem dX8_answered_28 : decode cX8_answered 28 = .ok (.invokevirtual 257, 3) := by decide +kernel
theorem dX8_answered_31 : decode cX8_answered 31 = .ok (.if_icmp .lt 10, 3) := by decide +kernel
theorem dX8_answered_34 : decode cX8_answered 34 = .ok (.aload_n 0, 1) := by decide +kernel
theorem dX8_answered_35 : decode cX8_answered 35 = .ok (.bipush 6, 2) := by decide +kernel
theorem dX8_answered_37 : decode cX8_answered 37 = .ok (.invokevirtual 90, 3) := by decide +kernel
theorem dX8_answered_40 : decode cX8_answered 40 = .ok (.ireturn, 1) := by decide +kernel
theorem dX8_answered_41 : decode cX8_answered 41 = .ok (.aload_n 0, 1) := by decide +kernel
theorem dX8_answered_42 : decode cX8_answered 42 = .ok (.aload_n 0, 1) := by decide +kernel
theorem dX8_answered_43 : decode cX8_answered 43 = .ok (.getfield 34, 3) := by decide +kernel
theorem dX8_answered_46 : decode cX8_answered 46 = .ok (.aload_n 0, 1) := by decide +kernel
theorem dX8_answered_47 : decode cX8_answered 47 = .ok (.getfield 27, 3) := by decide +kernel
theorem dX8_answered_50 : decode cX8_answered 50 = .ok (.iload_n 1, 1) := by decide +kernel
theorem dX8_answered_51 : decode cX8_answered 51 = .ok (.invokevirtual 261, 3) := by decide +kernel
theorem dX8_answered_54 : decode cX8_answered 54 = .ok (.ifCond .eq 7, 3) := by decide +kernel
theorem dX8_answered_57 : decode cX8_answered 57 = .ok (.iconst 1, 1) := by decide +kernel
theorem dX8_answered_58 : decode cX8_answered 58 = .ok (.goto 4, 3) := by decide +kernel
theorem dX8_answered_61 : decode cX8_answered 61 = .ok (.iconst 0, 1) := by decide +kernel
theorem dX8_answered_62 : decode cX8_answered 62 = .ok (.invokevirtual 104, 3) := by decide +kernel
theorem dX8_answered_65 : decode cX8_answered 65 = .ok (.ireturn, 1) := by decide +kernel
theorem dX8_wrongs_0 : decode cX8_wrongs 0 = .ok (.aload_n 0, 1) := by decide +kernel
theorem dX8_wrongs_1 : decode cX8_wrongs 1 = .ok (.getfield 38, 3) := by decide +kernel
theorem dX8_wrongs_4 : decode cX8_wrongs 4 = .ok (.ifCond .ne 9, 3) := by decide +kernel
theorem dX8_wrongs_7 : decode cX8_wrongs 7 = .ok (.aload_n 0, 1) := by decide +kernel
theorem dX8_wrongs_8 : decode cX8_wrongs 8 = .ok (.iconst 1, 1) := by decide +kernel
theorem dX8_wrongs_9 : decode cX8_wrongs 9 = .ok (.invokevirtual 90, 3) := by decide +kernel
theorem dX8_wrongs_12 : decode cX8_wrongs 12 = .ok (.ireturn, 1) := by decide +kernel
theorem dX8_wrongs_13 : decode cX8_wrongs 13 = .ok (.iconst 0, 1) := by decide +kernel
theorem dX8_wrongs_14 : decode cX8_wrongs 14 = .ok (.istore_n 1, 1) := by decide +kernel
theorem dX8_wrongs_15 : decode cX8_wrongs 15 = .ok (.iconst 0, 1) := by decide +kernel
theorem dX8_wrongs_16 : decode cX8_wrongs 16 = .ok (.istore_n 2, 1) := by decide +kernel
theorem dX8_wrongs_17 : decode cX8_wrongs 17 = .ok (.iload_n 2, 1) := by decide +kernel
theorem dX8_wrongs_18 : decode cX8_wrongs 18 = .ok (.aload_n 0, 1) := by decide +kernel
theorem dX8_wrongs_19 : decode cX8_wrongs 19 = .ok (.getfield 34, 3) := by decide +kernel
theorem dX8_wrongs_22 : decode cX8_wrongs 22 = .ok (.invokevirtual 257, 3) := by decide +kernel
theorem dX8_wrongs_25 : decode cX8_wrongs 25 = .ok (.if_icmp .ge 27, 3) := by decide +kernel
theorem dX8_wrongs_28 : decode cX8_wrongs 28 = .ok (.aload_n 0, 1) := by decide +kernel
theorem dX8_wrongs_29 : decode cX8_wrongs 29 = .ok (.getfield 34, 3) := by decide +kernel
theorem dX8_wrongs_32 : decode cX8_wrongs 32 = .ok (.aload_n 0, 1) := by decide +kernel
theorem dX8_wrongs_33 : decode cX8_wrongs 33 = .ok (.getfield 27, 3) := by decide +kernel
theorem dX8_wrongs_36 : decode cX8_wrongs 36 = .ok (.iload_n 2, 1) := by decide +kernel
theorem dX8_wrongs_37 : decode cX8_wrongs 37 = .ok (.invokevirtual 261, 3) := by decide +kernel
theorem dX8_wrongs_40 : decode cX8_wrongs 40 = .ok (.ifCond .ne 6, 3) := by decide +kernel
theorem dX8_wrongs_43 : decode cX8_wrongs 43 = .ok (.iinc 1 1, 3) := by decide +kernel
theorem dX8_wrongs_46 : decode cX8_wrongs 46 = .ok (.iinc 2 1, 3) := by decide +kernel
theorem dX8_wrongs_49 : decode cX8_wrongs 49 = .ok (.goto (-32), 3) := by decide +kernel
theorem dX8_wrongs_52 : decode cX8_wrongs 52 = .ok (.aload_n 0, 1) := by decide +kernel
theorem dX8_wrongs_53 : decode cX8_wrongs 53 = .ok (.iload_n 1, 1) := by decide +kernel
theorem dX8_wrongs_54 : decode cX8_wrongs 54 = .ok (.invokevirtual 104, 3) := by decide +kernel
theorem dX8_wrongs_57 : decode cX8_wrongs 57 = .ok (.ireturn, 1) := by decide +kernel
theorem dX8_mend_0 : decode cX8_mend 0 = .ok (.aload_n 0, 1) := by decide +kernel
theorem dX8_mend_1 : decode cX8_mend 1 = .ok (.getfield 38, 3) := by decide +kernel
theorem dX8_mend_4 : decode cX8_mend 4 = .ok (.ifCond .ne 9, 3) := by decide +kernel
theorem dX8_mend_7 : decode cX8_mend 7 = .ok (.aload_n 0, 1) := by decide +kernel
theorem dX8_mend_8 : decode cX8_mend 8 = .ok (.iconst 1, 1) := by decide +kernel
theorem dX8_mend_9 : decode cX8_mend 9 = .ok (.invokevirtual 90, 3) := by decide +kernel
theorem dX8_mend_12 : decode cX8_mend 12 = .ok (.ireturn, 1) := by decide +kernel
theorem dX8_mend_13 : decode cX8_mend 13 = .ok (.aload_n 0, 1) := by decide +kernel
theorem dX8_mend_14 : decode cX8_mend 14 = .ok (.getfield 34, 3) := by decide +kernel
theorem dX8_mend_17 : decode cX8_mend 17 = .ok (.aload_n 0, 1) := by decide +kernel
theorem dX8_mend_18 : decode cX8_mend 18 = .ok (.getfield 27, 3) := by decide +kernel
theorem dX8_mend_21 : decode cX8_mend 21 = .ok (.invokevirtual 265, 3) := by decide +kernel
theorem dX8_mend_24 : decode cX8_mend 24 = .ok (.istore_n 1, 1) := by decide +kernel
theorem dX8_mend_25 : decode cX8_mend 25 = .ok (.aload_n 0, 1) := by decide +kernel
theorem dX8_mend_26 : decode cX8_mend 26 = .ok (.iload_n 1, 1) := by decide +kernel
theorem dX8_mend_27 : decode cX8_mend 27 = .ok (.ifCond .ge 7, 3) := by decide +kernel
theorem dX8_mend_30 : decode cX8_mend 30 = .ok (.iconst 0, 1) := by decide +kernel
theorem dX8_mend_31 : decode cX8_mend 31 = .ok (.goto 12, 3) := by decide +kernel
theorem dX8_mend_34 : decode cX8_mend 34 = .ok (.aload_n 0, 1) := by decide +kernel
theorem dX8_mend_35 : decode cX8_mend 35 = .ok (.getfield 34, 3) := by decide +kernel
theorem dX8_mend_38 : decode cX8_mend 38 = .ok (.invokevirtual 257, 3) := by decide +kernel
theorem dX8_mend_41 : decode cX8_mend 41 = .ok (.iload_n 1, 1) := by decide +kernel
theorem dX8_mend_42 : decode cX8_mend 42 = .ok (.isub, 1) := by decide +kernel
theorem dX8_mend_43 : decode cX8_mend 43 = .ok (.invokevirtual 104, 3) := by decide +kernel
theorem dX8_mend_46 : decode cX8_mend 46 = .ok (.ireturn, 1) := by decide +kernel
theorem dX8_mendBy_0 : decode cX8_mendBy 0 = .ok (.aload_n 0, 1) := by decide +kernel
theorem dX8_mendBy_1 : decode cX8_mendBy 1 = .ok (.getfield 38, 3) := by decide +kernel
theorem dX8_mendBy_4 : decode cX8_mendBy 4 = .ok (.ifCond .ne 9, 3) := by decide +kernel
theorem dX8_mendBy_7 : decode cX8_mendBy 7 = .ok (.aload_n 0, 1) := by decide +kernel
theorem dX8_mendBy_8 : decode cX8_mendBy 8 = .ok (.iconst 1, 1) := by decide +kernel
theorem dX8_mendBy_9 : decode cX8_mendBy 9 = .ok (.invokevirtual 90, 3) := by decide +kernel
theorem dX8_mendBy_12 : decode cX8_mendBy 12 = .ok (.ireturn, 1) := by decide +kernel
theorem dX8_mendBy_13 : decode cX8_mendBy 13 = .ok (.aload_n 0, 1) := by decide +kernel
theorem dX8_mendBy_14 : decode cX8_mendBy 14 = .ok (.getfield 34, 3) := by decide +kernel
theorem dX8_mendBy_17 : decode cX8_mendBy 17 = .ok (.aload_n 0, 1) := by decide +kernel
theorem dX8_mendBy_18 : decode cX8_mendBy 18 = .ok (.getfield 27, 3) := by decide +kernel
theorem dX8_mendBy_21 : decode cX8_mendBy 21 = .ok (.invokevirtual 265, 3) := by decide +kernel
theorem dX8_mendBy_24 : decode cX8_mendBy 24 = .ok (.ifCond .ge 10, 3) := by decide +kernel
theorem dX8_mendBy_27 : decode cX8_mendBy 27 = .ok (.aload_n 0, 1) := by decide +kernel
theorem dX8_mendBy_28 : decode cX8_mendBy 28 = .ok (.bipush (-2), 2) := by decide +kernel
theorem dX8_mendBy_30 : decode cX8_mendBy 30 = .ok (.invokevirtual 104, 3) := by decide +kernel
theorem dX8_mendBy_33 : decode cX8_mendBy 33 = .ok (.ireturn, 1) := by decide +kernel
theorem dX8_mendBy_34 : decode cX8_mendBy 34 = .ok (.aload_n 0, 1) := by decide +kernel
theorem dX8_mendBy_35 : decode cX8_mendBy 35 = .ok (.aload_n 0, 1) := by decide +kernel
theorem dX8_mendBy_36 : decode cX8_mendBy 36 = .ok (.getfield 34, 3) := by decide +kernel
theorem dX8_mendBy_39 : decode cX8_mendBy 39 = .ok (.getfield 143, 3) := by decide +kernel
theorem dX8_mendBy_42 : decode cX8_mendBy 42 = .ok (.iconst 0, 1) := by decide +kernel
theorem dX8_mendBy_43 : decode cX8_mendBy 43 = .ok (.iaload, 1) := by decide +kernel
theorem dX8_mendBy_44 : decode cX8_mendBy 44 = .ok (.aload_n 0, 1) := by decide +kernel
theorem dX8_mendBy_45 : decode cX8_mendBy 45 = .ok (.getfield 34, 3) := by decide +kernel
theorem dX8_mendBy_48 : decode cX8_mendBy 48 = .ok (.getfield 143, 3) := by decide +kernel
theorem dX8_mendBy_51 : decode cX8_mendBy 51 = .ok (.iconst 1, 1) := by decide +kernel
theorem dX8_mendBy_52 : decode cX8_mendBy 52 = .ok (.iaload, 1) := by decide +kernel
theorem dX8_mendBy_53 : decode cX8_mendBy 53 = .ok (.if_icmp .gt 7, 3) := by decide +kernel
theorem dX8_mendBy_56 : decode cX8_mendBy 56 = .ok (.iconst 0, 1) := by decide +kernel
theorem dX8_mendBy_57 : decode cX8_mendBy 57 = .ok (.goto 4, 3) := by decide +kernel
theorem dX8_mendBy_60 : decode cX8_mendBy 60 = .ok (.iconst 1, 1) := by decide +kernel
theorem dX8_mendBy_61 : decode cX8_mendBy 61 = .ok (.invokevirtual 104, 3) := by decide +kernel
theorem dX8_mendBy_64 : decode cX8_mendBy 64 = .ok (.ireturn, 1) := by decide +kernel
theorem dX8_seen_0 : decode cX8_seen 0 = .ok (.aload_n 0, 1) := by decide +kernel
theorem dX8_seen_1 : decode cX8_seen 1 = .ok (.iload_n 1, 1) := by decide +kernel
theorem dX8_seen_2 : decode cX8_seen 2 = .ok (.invokevirtual 269, 3) := by decide +kernel
theorem dX8_seen_5 : decode cX8_seen 5 = .ok (.ifCond .eq 11, 3) := by decide +kernel
theorem dX8_seen_8 : decode cX8_seen 8 = .ok (.aload_n 0, 1) := by decide +kernel
theorem dX8_seen_9 : decode cX8_seen 9 = .ok (.iload_n 2, 1) := by decide +kernel
theorem dX8_seen_10 : decode cX8_seen 10 = .ok (.invokevirtual 140, 3) := by decide +kernel
theorem dX8_seen_13 : decode cX8_seen 13 = .ok (.ifCond .ne 9, 3) := by decide +kernel
theorem dX8_seen_16 : decode cX8_seen 16 = .ok (.aload_n 0, 1) := by decide +kernel
theorem dX8_seen_17 : decode cX8_seen 17 = .ok (.iconst 1, 1) := by decide +kernel
theorem dX8_seen_18 : decode cX8_seen 18 = .ok (.invokevirtual 90, 3) := by decide +kernel
theorem dX8_seen_21 : decode cX8_seen 21 = .ok (.ireturn, 1) := by decide +kernel
theorem dX8_seen_22 : decode cX8_seen 22 = .ok (.iconst 0, 1) := by decide +kernel
theorem dX8_seen_23 : decode cX8_seen 23 = .ok (.istore_n 3, 1) := by decide +kernel
theorem dX8_seen_24 : decode cX8_seen 24 = .ok (.iconst 0, 1) := by decide +kernel
theorem dX8_seen_25 : decode cX8_seen 25 = .ok (.istore 4, 2) := by decide +kernel
theorem dX8_seen_27 : decode cX8_seen 27 = .ok (.iload 4, 2) := by decide +kernel
theorem dX8_seen_29 : decode cX8_seen 29 = .ok (.aload_n 0, 1) := by decide +kernel
theorem dX8_seen_30 : decode cX8_seen 30 = .ok (.getfield 34, 3) := by decide +kernel
theorem dX8_seen_33 : decode cX8_seen 33 = .ok (.getfield 143, 3) := by decide +kernel
theorem dX8_seen_36 : decode cX8_seen 36 = .ok (.iload_n 2, 1) := by decide +kernel
theorem dX8_seen_37 : decode cX8_seen 37 = .ok (.iaload, 1) := by decide +kernel
theorem dX8_seen_38 : decode cX8_seen 38 = .ok (.if_icmp .ge 30, 3) := by decide +kernel
theorem dX8_seen_41 : decode cX8_seen 41 = .ok (.aload_n 0, 1) := by decide +kernel
theorem dX8_seen_42 : decode cX8_seen 42 = .ok (.getfield 34, 3) := by decide +kernel
theorem dX8_seen_45 : decode cX8_seen 45 = .ok (.aload_n 0, 1) := by decide +kernel
theorem dX8_seen_46 : decode cX8_seen 46 = .ok (.getfield 27, 3) := by decide +kernel
theorem dX8_seen_49 : decode cX8_seen 49 = .ok (.iload_n 1, 1) := by decide +kernel
theorem dX8_seen_50 : decode cX8_seen 50 = .ok (.iload_n 2, 1) := by decide +kernel
theorem dX8_seen_51 : decode cX8_seen 51 = .ok (.iload 4, 2) := by decide +kernel
theorem dX8_seen_53 : decode cX8_seen 53 = .ok (.invokevirtual 272, 3) := by decide +kernel
theorem dX8_seen_56 : decode cX8_seen 56 = .ok (.ifCond .eq 6, 3) := by decide +kernel
theorem dX8_seen_59 : decode cX8_seen 59 = .ok (.iinc 3 1, 3) := by decide +kernel
theorem dX8_seen_62 : decode cX8_seen 62 = .ok (.iinc 4 1, 3) := by decide +kernel
theorem dX8_seen_65 : decode cX8_seen 65 = .ok (.goto (-38), 3) := by decide +kernel
theorem dX8_seen_68 : decode cX8_seen 68 = .ok (.aload_n 0, 1) := by decide +kernel
theorem dX8_seen_69 : decode cX8_seen 69 = .ok (.iload_n 3, 1) := by decide +kernel
theorem dX8_seen_70 : decode cX8_seen 70 = .ok (.invokevirtual 104, 3) := by decide +kernel
theorem dX8_seen_73 : decode cX8_seen 73 = .ok (.ireturn, 1) := by decide +kernel
theorem dX8_seenAt_0 : decode cX8_seenAt 0 = .ok (.aload_n 0, 1) := by decide +kernel
theorem dX8_seenAt_1 : decode cX8_seenAt 1 = .ok (.iload_n 1, 1) := by decide +kernel
theorem dX8_seenAt_2 : decode cX8_seenAt 2 = .ok (.invokevirtual 269, 3) := by decide +kernel
theorem dX8_seenAt_5 : decode cX8_seenAt 5 = .ok (.ifCond .eq 11, 3) := by decide +kernel
theorem dX8_seenAt_8 : decode cX8_seenAt 8 = .ok (.aload_n 0, 1) := by decide +kernel
theorem dX8_seenAt_9 : decode cX8_seenAt 9 = .ok (.iload_n 2, 1) := by decide +kernel
theorem dX8_seenAt_10 : decode cX8_seenAt 10 = .ok (.invokevirtual 140, 3) := by decide +kernel
theorem dX8_seenAt_13 : decode cX8_seenAt 13 = .ok (.ifCond .ne 9, 3) := by decide +kernel
theorem dX8_seenAt_16 : decode cX8_seenAt 16 = .ok (.aload_n 0, 1) := by decide +kernel
theorem dX8_seenAt_17 : decode cX8_seenAt 17 = .ok (.iconst 1, 1) := by decide +kernel
theorem dX8_seenAt_18 : decode cX8_seenAt 18 = .ok (.invokevirtual 90, 3) := by decide +kernel
theorem dX8_seenAt_21 : decode cX8_seenAt 21 = .ok (.ireturn, 1) := by decide +kernel
theorem dX8_seenAt_22 : decode cX8_seenAt 22 = .ok (.iconst 0, 1) := by decide +kernel
theorem dX8_seenAt_23 : decode cX8_seenAt 23 = .ok (.istore_n 3, 1) := by decide +kernel
theorem dX8_seenAt_24 : decode cX8_seenAt 24 = .ok (.iload_n 3, 1) := by decide +kernel
theorem dX8_seenAt_25 : decode cX8_seenAt 25 = .ok (.aload_n 0, 1) := by decide +kernel
theorem dX8_seenAt_26 : decode cX8_seenAt 26 = .ok (.getfield 34, 3) := by decide +kernel
theorem dX8_seenAt_29 : decode cX8_seenAt 29 = .ok (.getfield 143, 3) := by decide +kernel
theorem dX8_seenAt_32 : decode cX8_seenAt 32 = .ok (.iload_n 2, 1) := by decide +kernel
theorem dX8_seenAt_33 : decode cX8_seenAt 33 = .ok (.iaload, 1) := by decide +kernel
theorem dX8_seenAt_34 : decode cX8_seenAt 34 = .ok (.if_icmp .ge 32, 3) := by decide +kernel
theorem dX8_seenAt_37 : decode cX8_seenAt 37 = .ok (.aload_n 0, 1) := by decide +kernel
theorem dX8_seenAt_38 : decode cX8_seenAt 38 = .ok (.getfield 34, 3) := by decide +kernel
theorem dX8_seenAt_41 : decode cX8_seenAt 41 = .ok (.aload_n 0, 1) := by decide +kernel
theorem dX8_seenAt_42 : decode cX8_seenAt 42 = .ok (.getfield 27, 3) := by decide +kernel
theorem dX8_seenAt_45 : decode cX8_seenAt 45 = .ok (.iload_n 1, 1) := by decide +kernel
theorem dX8_seenAt_46 : decode cX8_seenAt 46 = .ok (.iload_n 2, 1) := by decide +kernel
theorem dX8_seenAt_47 : decode cX8_seenAt 47 = .ok (.iload_n 3, 1) := by decide +kernel
theorem dX8_seenAt_48 : decode cX8_seenAt 48 = .ok (.invokevirtual 272, 3) := by decide +kernel
theorem dX8_seenAt_51 : decode cX8_seenAt 51 = .ok (.ifCond .eq 9, 3) := by decide +kernel
theorem dX8_seenAt_54 : decode cX8_seenAt 54 = .ok (.aload_n 0, 1) := by decide +kernel
theorem dX8_seenAt_55 : decode cX8_seenAt 55 = .ok (.iload_n 3, 1) := by decide +kernel
theorem dX8_seenAt_56 : decode cX8_seenAt 56 = .ok (.invokevirtual 104, 3) := by decide +kernel
theorem dX8_seenAt_59 : decode cX8_seenAt 59 = .ok (.ireturn, 1) := by decide +kernel
theorem dX8_seenAt_60 : decode cX8_seenAt 60 = .ok (.iinc 3 1, 3) := by decide +kernel
theorem dX8_seenAt_63 : decode cX8_seenAt 63 = .ok (.goto (-39), 3) := by decide +kernel
theorem dX8_seenAt_66 : decode cX8_seenAt 66 = .ok (.aload_n 0, 1) := by decide +kernel
theorem dX8_seenAt_67 : decode cX8_seenAt 67 = .ok (.bipush (-2), 2) := by decide +kernel
theorem dX8_seenAt_69 : decode cX8_seenAt 69 = .ok (.invokevirtual 104, 3) := by decide +kernel
theorem dX8_seenAt_72 : decode cX8_seenAt 72 = .ok (.ireturn, 1) := by decide +kernel
theorem dX8_orders_0 : decode cX8_orders 0 = .ok (.aload_n 0, 1) := by decide +kernel
theorem dX8_orders_1 : decode cX8_orders 1 = .ok (.getfield 38, 3) := by decide +kernel
theorem dX8_orders_4 : decode cX8_orders 4 = .ok (.ifCond .ne 10, 3) := by decide +kernel
theorem dX8_orders_7 : decode cX8_orders 7 = .ok (.aload_n 0, 1) := by decide +kernel
theorem dX8_orders_8 : decode cX8_orders 8 = .ok (.iconst 1, 1) := by decide +kernel
theorem dX8_orders_9 : decode cX8_orders 9 = .ok (.invokevirtual 90, 3) := by decide +kernel
theorem dX8_orders_12 : decode cX8_orders 12 = .ok (.i2l, 1) := by decide +kernel
theorem dX8_orders_13 : decode cX8_orders 13 = .ok (.lreturn, 1) := by decide +kernel
theorem dX8_orders_14 : decode cX8_orders 14 = .ok (.aload_n 0, 1) := by decide +kernel
theorem dX8_orders_15 : decode cX8_orders 15 = .ok (.iconst 0, 1) := by decide +kernel
theorem dX8_orders_16 : decode cX8_orders 16 = .ok (.putfield 42, 3) := by decide +kernel
theorem dX8_orders_19 : decode cX8_orders 19 = .ok (.aload_n 0, 1) := by decide +kernel
theorem dX8_orders_20 : decode cX8_orders 20 = .ok (.getfield 82, 3) := by decide +kernel
theorem dX8_orders_23 : decode cX8_orders 23 = .ok (.aload_n 0, 1) := by decide +kernel
theorem dX8_orders_24 : decode cX8_orders 24 = .ok (.getfield 27, 3) := by decide +kernel
theorem dX8_orders_27 : decode cX8_orders 27 = .ok (.invokevirtual 276, 3) := by decide +kernel
theorem dX8_orders_30 : decode cX8_orders 30 = .ok (.aload_n 0, 1) := by decide +kernel
theorem dX8_orders_31 : decode cX8_orders 31 = .ok (.getfield 82, 3) := by decide +kernel
theorem dX8_orders_34 : decode cX8_orders 34 = .ok (.aload_n 0, 1) := by decide +kernel
theorem dX8_orders_35 : decode cX8_orders 35 = .ok (.getfield 34, 3) := by decide +kernel
theorem dX8_orders_38 : decode cX8_orders 38 = .ok (.getfield 143, 3) := by decide +kernel
theorem dX8_orders_41 : decode cX8_orders 41 = .ok (.iconst 0, 1) := by decide +kernel
theorem dX8_orders_42 : decode cX8_orders 42 = .ok (.iaload, 1) := by decide +kernel
theorem dX8_orders_43 : decode cX8_orders 43 = .ok (.aload_n 0, 1) := by decide +kernel
theorem dX8_orders_44 : decode cX8_orders 44 = .ok (.getfield 34, 3) := by decide +kernel
theorem dX8_orders_47 : decode cX8_orders 47 = .ok (.getfield 143, 3) := by decide +kernel
theorem dX8_orders_50 : decode cX8_orders 50 = .ok (.iconst 1, 1) := by decide +kernel
theorem dX8_orders_51 : decode cX8_orders 51 = .ok (.iaload, 1) := by decide +kernel
theorem dX8_orders_52 : decode cX8_orders 52 = .ok (.invokevirtual 280, 3) := by decide +kernel
theorem dX8_orders_55 : decode cX8_orders 55 = .ok (.lreturn, 1) := by decide +kernel
theorem dX8_ahead_0 : decode cX8_ahead 0 = .ok (.aload_n 0, 1) := by decide +kernel
theorem dX8_ahead_1 : decode cX8_ahead 1 = .ok (.iconst 0, 1) := by decide +kernel
theorem dX8_ahead_2 : decode cX8_ahead 2 = .ok (.iload_n 1, 1) := by decide +kernel
theorem dX8_ahead_3 : decode cX8_ahead 3 = .ok (.invokevirtual 146, 3) := by decide +kernel
theorem dX8_ahead_6 : decode cX8_ahead 6 = .ok (.ifCond .eq 12, 3) := by decide +kernel
theorem dX8_ahead_9 : decode cX8_ahead 9 = .ok (.aload_n 0, 1) := by decide +kernel
theorem dX8_ahead_10 : decode cX8_ahead 10 = .ok (.iconst 1, 1) := by decide +kernel
theorem dX8_ahead_11 : decode cX8_ahead 11 = .ok (.iload_n 2, 1) := by decide +kernel
theorem dX8_ahead_12 : decode cX8_ahead 12 = .ok (.invokevirtual 146, 3) := by decide +kernel
theorem dX8_ahead_15 : decode cX8_ahead 15 = .ok (.ifCond .ne 10, 3) := by decide +kernel
theorem dX8_ahead_18 : decode cX8_ahead 18 = .ok (.aload_n 0, 1) := by decide +kernel
theorem dX8_ahead_19 : decode cX8_ahead 19 = .ok (.iconst 1, 1) := by decide +kernel
theorem dX8_ahead_20 : decode cX8_ahead 20 = .ok (.invokevirtual 90, 3) := by decide +kernel
theorem dX8_ahead_23 : decode cX8_ahead 23 = .ok (.i2l, 1) := by decide +kernel
theorem dX8_ahead_24 : decode cX8_ahead 24 = .ok (.lreturn, 1) := by decide +kernel
theorem dX8_ahead_25 : decode cX8_ahead 25 = .ok (.aload_n 0, 1) := by decide +kernel
theorem dX8_ahead_26 : decode cX8_ahead 26 = .ok (.iconst 0, 1) := by decide +kernel
theorem dX8_ahead_27 : decode cX8_ahead 27 = .ok (.putfield 42, 3) := by decide +kernel
theorem dX8_ahead_30 : decode cX8_ahead 30 = .ok (.aload_n 0, 1) := by decide +kernel
theorem dX8_ahead_31 : decode cX8_ahead 31 = .ok (.getfield 82, 3) := by decide +kernel
theorem dX8_ahead_34 : decode cX8_ahead 34 = .ok (.aload_n 0, 1) := by decide +kernel
theorem dX8_ahead_35 : decode cX8_ahead 35 = .ok (.getfield 27, 3) := by decide +kernel
theorem dX8_ahead_38 : decode cX8_ahead 38 = .ok (.invokevirtual 276, 3) := by decide +kernel
theorem dX8_ahead_41 : decode cX8_ahead 41 = .ok (.aload_n 0, 1) := by decide +kernel
theorem dX8_ahead_42 : decode cX8_ahead 42 = .ok (.getfield 82, 3) := by decide +kernel
theorem dX8_ahead_45 : decode cX8_ahead 45 = .ok (.iload_n 1, 1) := by decide +kernel
theorem dX8_ahead_46 : decode cX8_ahead 46 = .ok (.iload_n 2, 1) := by decide +kernel
theorem dX8_ahead_47 : decode cX8_ahead 47 = .ok (.invokevirtual 284, 3) := by decide +kernel
theorem dX8_ahead_50 : decode cX8_ahead 50 = .ok (.aload_n 0, 1) := by decide +kernel
theorem dX8_ahead_51 : decode cX8_ahead 51 = .ok (.getfield 82, 3) := by decide +kernel
theorem dX8_ahead_54 : decode cX8_ahead 54 = .ok (.aload_n 0, 1) := by decide +kernel
theorem dX8_ahead_55 : decode cX8_ahead 55 = .ok (.getfield 34, 3) := by decide +kernel
theorem dX8_ahead_58 : decode cX8_ahead 58 = .ok (.getfield 143, 3) := by decide +kernel
theorem dX8_ahead_61 : decode cX8_ahead 61 = .ok (.iconst 0, 1) := by decide +kernel
theorem dX8_ahead_62 : decode cX8_ahead 62 = .ok (.iaload, 1) := by decide +kernel
theorem dX8_ahead_63 : decode cX8_ahead 63 = .ok (.aload_n 0, 1) := by decide +kernel
theorem dX8_ahead_64 : decode cX8_ahead 64 = .ok (.getfield 34, 3) := by decide +kernel
theorem dX8_ahead_67 : decode cX8_ahead 67 = .ok (.getfield 143, 3) := by decide +kernel
theorem dX8_ahead_70 : decode cX8_ahead 70 = .ok (.iconst 1, 1) := by decide +kernel
theorem dX8_ahead_71 : decode cX8_ahead 71 = .ok (.iaload, 1) := by decide +kernel
theorem dX8_ahead_72 : decode cX8_ahead 72 = .ok (.invokevirtual 280, 3) := by decide +kernel
theorem dX8_ahead_75 : decode cX8_ahead 75 = .ok (.lreturn, 1) := by decide +kernel
theorem dX8_mark_0 : decode cX8_mark 0 = .ok (.aload_n 0, 1) := by decide +kernel
theorem dX8_mark_1 : decode cX8_mark 1 = .ok (.getfield 38, 3) := by decide +kernel
theorem dX8_mark_4 : decode cX8_mark 4 = .ok (.ifCond .ne 9, 3) := by decide +kernel
theorem dX8_mark_7 : decode cX8_mark 7 = .ok (.aload_n 0, 1) := by decide +kernel
theorem dX8_mark_8 : decode cX8_mark 8 = .ok (.iconst 1, 1) := by decide +kernel
theorem dX8_mark_9 : decode cX8_mark 9 = .ok (.invokevirtual 90, 3) := by decide +kernel
theorem dX8_mark_12 : decode cX8_mark 12 = .ok (.ireturn, 1) := by decide +kernel
theorem dX8_mark_13 : decode cX8_mark 13 = .ok (.aload_n 0, 1) := by decide +kernel
theorem dX8_mark_14 : decode cX8_mark 14 = .ok (.getfield 55, 3) := by decide +kernel
theorem dX8_mark_17 : decode cX8_mark 17 = .ok (.iconst 3, 1) := by decide +kernel
theorem dX8_mark_18 : decode cX8_mark 18 = .ok (.if_icmp .lt 9, 3) := by decide +kernel
theorem dX8_mark_21 : decode cX8_mark 21 = .ok (.aload_n 0, 1) := by decide +kernel
theorem dX8_mark_22 : decode cX8_mark 22 = .ok (.iconst 3, 1) := by decide +kernel
theorem dX8_mark_23 : decode cX8_mark 23 = .ok (.invokevirtual 90, 3) := by decide +kernel
theorem dX8_mark_26 : decode cX8_mark 26 = .ok (.ireturn, 1) := by decide +kernel
theorem dX8_mark_27 : decode cX8_mark 27 = .ok (.aload_n 0, 1) := by decide +kernel
theorem dX8_mark_28 : decode cX8_mark 28 = .ok (.getfield 52, 3) := by decide +kernel
theorem dX8_mark_31 : decode cX8_mark 31 = .ok (.aload_n 0, 1) := by decide +kernel
theorem dX8_mark_32 : decode cX8_mark 32 = .ok (.getfield 55, 3) := by decide +kernel
theorem dX8_mark_35 : decode cX8_mark 35 = .ok (.aaload, 1) := by decide +kernel
theorem dX8_mark_36 : decode cX8_mark 36 = .ok (.aload_n 0, 1) := by decide +kernel
theorem dX8_mark_37 : decode cX8_mark 37 = .ok (.getfield 34, 3) := by decide +kernel
theorem dX8_mark_40 : decode cX8_mark 40 = .ok (.invokevirtual 207, 3) := by decide +kernel
theorem dX8_mark_43 : decode cX8_mark 43 = .ok (.aload_n 0, 1) := by decide +kernel
theorem dX8_mark_44 : decode cX8_mark 44 = .ok (.dup, 1) := by decide +kernel
theorem dX8_mark_45 : decode cX8_mark 45 = .ok (.getfield 55, 3) := by decide +kernel
theorem dX8_mark_48 : decode cX8_mark 48 = .ok (.iconst 1, 1) := by decide +kernel
theorem dX8_mark_49 : decode cX8_mark 49 = .ok (.iadd, 1) := by decide +kernel
theorem dX8_mark_50 : decode cX8_mark 50 = .ok (.putfield 55, 3) := by decide +kernel
theorem dX8_mark_53 : decode cX8_mark 53 = .ok (.aload_n 0, 1) := by decide +kernel
theorem dX8_mark_54 : decode cX8_mark 54 = .ok (.aload_n 0, 1) := by decide +kernel
theorem dX8_mark_55 : decode cX8_mark 55 = .ok (.getfield 55, 3) := by decide +kernel
theorem dX8_mark_58 : decode cX8_mark 58 = .ok (.iconst 1, 1) := by decide +kernel
theorem dX8_mark_59 : decode cX8_mark 59 = .ok (.isub, 1) := by decide +kernel
theorem dX8_mark_60 : decode cX8_mark 60 = .ok (.invokevirtual 104, 3) := by decide +kernel
theorem dX8_mark_63 : decode cX8_mark 63 = .ok (.ireturn, 1) := by decide +kernel
theorem dX8_back_0 : decode cX8_back 0 = .ok (.iload_n 1, 1) := by decide +kernel
theorem dX8_back_1 : decode cX8_back 1 = .ok (.ifCond .lt 11, 3) := by decide +kernel
theorem dX8_back_4 : decode cX8_back 4 = .ok (.iload_n 1, 1) := by decide +kernel
theorem dX8_back_5 : decode cX8_back 5 = .ok (.aload_n 0, 1) := by decide +kernel
theorem dX8_back_6 : decode cX8_back 6 = .ok (.getfield 55, 3) := by decide +kernel
theorem dX8_back_9 : decode cX8_back 9 = .ok (.if_icmp .lt 9, 3) := by decide +kernel
theorem dX8_back_12 : decode cX8_back 12 = .ok (.aload_n 0, 1) := by decide +kernel
theorem dX8_back_13 : decode cX8_back 13 = .ok (.iconst 1, 1) := by decide +kernel
theorem dX8_back_14 : decode cX8_back 14 = .ok (.invokevirtual 173, 3) := by decide +kernel
theorem dX8_back_17 : decode cX8_back 17 = .ok (.ireturn, 1) := by decide +kernel
theorem dX8_back_18 : decode cX8_back 18 = .ok (.aload_n 0, 1) := by decide +kernel
theorem dX8_back_19 : decode cX8_back 19 = .ok (.getfield 34, 3) := by decide +kernel
theorem dX8_back_22 : decode cX8_back 22 = .ok (.aload_n 0, 1) := by decide +kernel
theorem dX8_back_23 : decode cX8_back 23 = .ok (.getfield 52, 3) := by decide +kernel
theorem dX8_back_26 : decode cX8_back 26 = .ok (.iload_n 1, 1) := by decide +kernel
theorem dX8_back_27 : decode cX8_back 27 = .ok (.aaload, 1) := by decide +kernel
theorem dX8_back_28 : decode cX8_back 28 = .ok (.invokevirtual 207, 3) := by decide +kernel
theorem dX8_back_31 : decode cX8_back 31 = .ok (.aload_n 0, 1) := by decide +kernel
theorem dX8_back_32 : decode cX8_back 32 = .ok (.iconst 0, 1) := by decide +kernel
theorem dX8_back_33 : decode cX8_back 33 = .ok (.putfield 49, 3) := by decide +kernel
theorem dX8_back_36 : decode cX8_back 36 = .ok (.aload_n 0, 1) := by decide +kernel
theorem dX8_back_37 : decode cX8_back 37 = .ok (.getfield 68, 3) := by decide +kernel
theorem dX8_back_40 : decode cX8_back 40 = .ok (.invokevirtual 211, 3) := by decide +kernel
theorem dX8_back_43 : decode cX8_back 43 = .ok (.aload_n 0, 1) := by decide +kernel
theorem dX8_back_44 : decode cX8_back 44 = .ok (.invokevirtual 186, 3) := by decide +kernel
theorem dX8_back_47 : decode cX8_back 47 = .ok (.ireturn, 1) := by decide +kernel
theorem dX8_led_0 : decode cX8_led 0 = .ok (.aload_n 0, 1) := by decide +kernel
theorem dX8_led_1 : decode cX8_led 1 = .ok (.getfield 38, 3) := by decide +kernel
theorem dX8_led_4 : decode cX8_led 4 = .ok (.ifCond .eq 43, 3) := by decide +kernel
theorem dX8_led_7 : decode cX8_led 7 = .ok (.aload_n 0, 1) := by decide +kernel
theorem dX8_led_8 : decode cX8_led 8 = .ok (.getfield 27, 3) := by decide +kernel
theorem dX8_led_11 : decode cX8_led 11 = .ok (.invokevirtual 288, 3) := by decide +kernel
theorem dX8_led_14 : decode cX8_led 14 = .ok (.aload_n 0, 1) := by decide +kernel
theorem dX8_led_15 : decode cX8_led 15 = .ok (.getfield 34, 3) := by decide +kernel
theorem dX8_led_18 : decode cX8_led 18 = .ok (.aload_n 0, 1) := by decide +kernel
theorem dX8_led_19 : decode cX8_led 19 = .ok (.getfield 27, 3) := by decide +kernel
theorem dX8_led_22 : decode cX8_led 22 = .ok (.iconst 0, 1) := by decide +kernel
theorem dX8_led_23 : decode cX8_led 23 = .ok (.invokevirtual 169, 3) := by decide +kernel
theorem dX8_led_26 : decode cX8_led 26 = .ok (.iconst (-1), 1) := by decide +kernel
theorem dX8_led_27 : decode cX8_led 27 = .ok (.ixor, 1) := by decide +kernel
theorem dX8_led_28 : decode cX8_led 28 = .ok (.iand, 1) := by decide +kernel
theorem dX8_led_29 : decode cX8_led 29 = .ok (.aload_n 0, 1) := by decide +kernel
theorem dX8_led_30 : decode cX8_led 30 = .ok (.getfield 34, 3) := by decide +kernel
theorem dX8_led_33 : decode cX8_led 33 = .ok (.aload_n 0, 1) := by decide +kernel
theorem dX8_led_34 : decode cX8_led 34 = .ok (.getfield 27, 3) := by decide +kernel
theorem dX8_led_37 : decode cX8_led 37 = .ok (.iconst 1, 1) := by decide +kernel
theorem dX8_led_38 : decode cX8_led 38 = .ok (.invokevirtual 169, 3) := by decide +kernel
theorem dX8_led_41 : decode cX8_led 41 = .ok (.iconst (-1), 1) := by decide +kernel
theorem dX8_led_42 : decode cX8_led 42 = .ok (.ixor, 1) := by decide +kernel
theorem dX8_led_43 : decode cX8_led 43 = .ok (.iand, 1) := by decide +kernel
theorem dX8_led_44 : decode cX8_led 44 = .ok (.goto 4, 3) := by decide +kernel
theorem dX8_led_47 : decode cX8_led 47 = .ok (.iconst 0, 1) := by decide +kernel
theorem dX8_led_48 : decode cX8_led 48 = .ok (.istore_n 2, 1) := by decide +kernel
theorem dX8_led_49 : decode cX8_led 49 = .ok (.iconst 0, 1) := by decide +kernel
theorem dX8_led_50 : decode cX8_led 50 = .ok (.istore_n 3, 1) := by decide +kernel
theorem dX8_led_51 : decode cX8_led 51 = .ok (.iconst 0, 1) := by decide +kernel
theorem dX8_led_52 : decode cX8_led 52 = .ok (.istore 4, 2) := by decide +kernel
theorem dX8_led_54 : decode cX8_led 54 = .ok (.iload 4, 2) := by decide +kernel
theorem dX8_led_56 : decode cX8_led 56 = .ok (.aload_n 0, 1) := by decide +kernel
theorem dX8_led_57 : decode cX8_led 57 = .ok (.getfield 27, 3) := by decide +kernel
theorem dX8_led_60 : decode cX8_led 60 = .ok (.getfield 101, 3) := by decide +kernel
theorem dX8_led_63 : decode cX8_led 63 = .ok (.if_icmp .ge 29, 3) := by decide +kernel
theorem dX8_led_66 : decode cX8_led 66 = .ok (.iload_n 2, 1) := by decide +kernel
theorem dX8_led_67 : decode cX8_led 67 = .ok (.iload 4, 2) := by decide +kernel
theorem dX8_led_69 : decode cX8_led 69 = .ok (.invokestatic 133, 3) := by decide +kernel
theorem dX8_led_72 : decode cX8_led 72 = .ok (.ifCond .eq 14, 3) := by decide +kernel
theorem dX8_led_75 : decode cX8_led 75 = .ok (.iload_n 3, 1) := by decide +kernel
theorem dX8_led_76 : decode cX8_led 76 = .ok (.iload_n 1, 1) := by decide +kernel
theorem dX8_led_77 : decode cX8_led 77 = .ok (.if_icmp .ne 6, 3) := by decide +kernel
theorem dX8_led_80 : decode cX8_led 80 = .ok (.iload 4, 2) := by decide +kernel
theorem dX8_led_82 : decode cX8_led 82 = .ok (.ireturn, 1) := by decide +kernel
theorem dX8_led_83 : decode cX8_led 83 = .ok (.iinc 3 1, 3) := by decide +kernel
theorem dX8_led_86 : decode cX8_led 86 = .ok (.iinc 4 1, 3) := by decide +kernel
theorem dX8_led_89 : decode cX8_led 89 = .ok (.goto (-35), 3) := by decide +kernel
theorem dX8_led_92 : decode cX8_led 92 = .ok (.new 291, 3) := by decide +kernel
theorem dX8_led_95 : decode cX8_led 95 = .ok (.dup, 1) := by decide +kernel
theorem dX8_led_96 : decode cX8_led 96 = .ok (.ldc_w 293, 3) := by decide +kernel
theorem dX8_led_99 : decode cX8_led 99 = .ok (.invokespecial 295, 3) := by decide +kernel
theorem dX8_led_102 : decode cX8_led 102 = .ok (.athrow, 1) := by decide +kernel
theorem dX8_size_0 : decode cX8_size 0 = .ok (.iload_n 1, 1) := by decide +kernel
theorem dX8_size_1 : decode cX8_size 1 = .ok (.tableswitch 166 0 12 #[67, 75, 83, 91, 99, 107, 115, 125, 135, 143, 151, 156, 161], 67) := by decide +kernel
theorem dX8_size_68 : decode cX8_size 68 = .ok (.aload_n 0, 1) := by decide +kernel
theorem dX8_size_69 : decode cX8_size 69 = .ok (.getfield 27, 3) := by decide +kernel
theorem dX8_size_72 : decode cX8_size 72 = .ok (.getfield 101, 3) := by decide +kernel
theorem dX8_size_75 : decode cX8_size 75 = .ok (.ireturn, 1) := by decide +kernel
theorem dX8_size_76 : decode cX8_size 76 = .ok (.aload_n 0, 1) := by decide +kernel
theorem dX8_size_77 : decode cX8_size 77 = .ok (.getfield 27, 3) := by decide +kernel
theorem dX8_size_80 : decode cX8_size 80 = .ok (.getfield 298, 3) := by decide +kernel
theorem dX8_size_83 : decode cX8_size 83 = .ok (.ireturn, 1) := by decide +kernel
theorem dX8_size_84 : decode cX8_size 84 = .ok (.aload_n 0, 1) := by decide +kernel
theorem dX8_size_85 : decode cX8_size 85 = .ok (.getfield 27, 3) := by decide +kernel
theorem dX8_size_88 : decode cX8_size 88 = .ok (.getfield 301, 3) := by decide +kernel
theorem dX8_size_91 : decode cX8_size 91 = .ok (.ireturn, 1) := by decide +kernel
theorem dX8_size_92 : decode cX8_size 92 = .ok (.aload_n 0, 1) := by decide +kernel
theorem dX8_size_93 : decode cX8_size 93 = .ok (.getfield 27, 3) := by decide +kernel
theorem dX8_size_96 : decode cX8_size 96 = .ok (.getfield 304, 3) := by decide +kernel
theorem dX8_size_99 : decode cX8_size 99 = .ok (.ireturn, 1) := by decide +kernel
theorem dX8_size_100 : decode cX8_size 100 = .ok (.aload_n 0, 1) := by decide +kernel
theorem dX8_size_101 : decode cX8_size 101 = .ok (.getfield 27, 3) := by decide +kernel
theorem dX8_size_104 : decode cX8_size 104 = .ok (.getfield 307, 3) := by decide +kernel
theorem dX8_size_107 : decode cX8_size 107 = .ok (.ireturn, 1) := by decide +kernel
theorem dX8_size_108 : decode cX8_size 108 = .ok (.aload_n 0, 1) := by decide +kernel
theorem dX8_size_109 : decode cX8_size 109 = .ok (.getfield 27, 3) := by decide +kernel
theorem dX8_size_112 : decode cX8_size 112 = .ok (.getfield 310, 3) := by decide +kernel
theorem dX8_size_115 : decode cX8_size 115 = .ok (.ireturn, 1) := by decide +kernel
theorem dX8_size_116 : decode cX8_size 116 = .ok (.aload_n 0, 1) := by decide +kernel
theorem dX8_size_117 : decode cX8_size 117 = .ok (.getfield 27, 3) := by decide +kernel
theorem dX8_size_120 : decode cX8_size 120 = .ok (.getfield 313, 3) := by decide +kernel
theorem dX8_size_123 : decode cX8_size 123 = .ok (.iconst 0, 1) := by decide +kernel
theorem dX8_size_124 : decode cX8_size 124 = .ok (.iaload, 1) := by decide +kernel
theorem dX8_size_125 : decode cX8_size 125 = .ok (.ireturn, 1) := by decide +kernel
theorem dX8_size_126 : decode cX8_size 126 = .ok (.aload_n 0, 1) := by decide +kernel
theorem dX8_size_127 : decode cX8_size 127 = .ok (.getfield 27, 3) := by decide +kernel
theorem dX8_size_130 : decode cX8_size 130 = .ok (.getfield 313, 3) := by decide +kernel
theorem dX8_size_133 : decode cX8_size 133 = .ok (.iconst 1, 1) := by decide +kernel
theorem dX8_size_134 : decode cX8_size 134 = .ok (.iaload, 1) := by decide +kernel
theorem dX8_size_135 : decode cX8_size 135 = .ok (.ireturn, 1) := by decide +kernel
theorem dX8_size_136 : decode cX8_size 136 = .ok (.aload_n 0, 1) := by decide +kernel
theorem dX8_size_137 : decode cX8_size 137 = .ok (.getfield 27, 3) := by decide +kernel
theorem dX8_size_140 : decode cX8_size 140 = .ok (.getfield 201, 3) := by decide +kernel
theorem dX8_size_143 : decode cX8_size 143 = .ok (.ireturn, 1) := by decide +kernel
theorem dX8_size_144 : decode cX8_size 144 = .ok (.aload_n 0, 1) := by decide +kernel
theorem dX8_size_145 : decode cX8_size 145 = .ok (.getfield 34, 3) := by decide +kernel
theorem dX8_size_148 : decode cX8_size 148 = .ok (.getfield 198, 3) := by decide +kernel
theorem dX8_size_151 : decode cX8_size 151 = .ok (.ireturn, 1) := by decide +kernel
theorem dX8_size_152 : decode cX8_size 152 = .ok (.aload_n 0, 1) := by decide +kernel
theorem dX8_size_153 : decode cX8_size 153 = .ok (.getfield 49, 3) := by decide +kernel
theorem dX8_size_156 : decode cX8_size 156 = .ok (.ireturn, 1) := by decide +kernel
theorem dX8_size_157 : decode cX8_size 157 = .ok (.aload_n 0, 1) := by decide +kernel
theorem dX8_size_158 : decode cX8_size 158 = .ok (.getfield 55, 3) := by decide +kernel
theorem dX8_size_161 : decode cX8_size 161 = .ok (.ireturn, 1) := by decide +kernel
theorem dX8_size_162 : decode cX8_size 162 = .ok (.aload_n 0, 1) := by decide +kernel
theorem dX8_size_163 : decode cX8_size 163 = .ok (.getfield 13, 3) := by decide +kernel
theorem dX8_size_166 : decode cX8_size 166 = .ok (.ireturn, 1) := by decide +kernel
theorem dX8_size_167 : decode cX8_size 167 = .ok (.iconst (-1), 1) := by decide +kernel
theorem dX8_size_168 : decode cX8_size 168 = .ok (.ireturn, 1) := by decide +kernel
theorem dX8_trouble_0 : decode cX8_trouble 0 = .ok (.aload_n 0, 1) := by decide +kernel
theorem dX8_trouble_1 : decode cX8_trouble 1 = .ok (.getfield 42, 3) := by decide +kernel
theorem dX8_trouble_4 : decode cX8_trouble 4 = .ok (.ireturn, 1) := by decide +kernel
theorem dX8_answer_0 : decode cX8_answer 0 = .ok (.aload_n 0, 1) := by decide +kernel
theorem dX8_answer_1 : decode cX8_answer 1 = .ok (.iconst 0, 1) := by decide +kernel
theorem dX8_answer_2 : decode cX8_answer 2 = .ok (.putfield 42, 3) := by decide +kernel
theorem dX8_answer_5 : decode cX8_answer 5 = .ok (.iload_n 1, 1) := by decide +kernel
theorem dX8_answer_6 : decode cX8_answer 6 = .ok (.ireturn, 1) := by decide +kernel
theorem dX8_refused_0 : decode cX8_refused 0 = .ok (.aload_n 0, 1) := by decide +kernel
theorem dX8_refused_1 : decode cX8_refused 1 = .ok (.iload_n 1, 1) := by decide +kernel
theorem dX8_refused_2 : decode cX8_refused 2 = .ok (.putfield 42, 3) := by decide +kernel
theorem dX8_refused_5 : decode cX8_refused 5 = .ok (.iconst (-1), 1) := by decide +kernel
theorem dX8_refused_6 : decode cX8_refused 6 = .ok (.ireturn, 1) := by decide +kernel
theorem dX8_granted_0 : decode cX8_granted 0 = .ok (.aload_n 0, 1) := by decide +kernel
theorem dX8_granted_1 : decode cX8_granted 1 = .ok (.iconst 0, 1) := by decide +kernel
theorem dX8_granted_2 : decode cX8_granted 2 = .ok (.putfield 42, 3) := by decide +kernel
theorem dX8_granted_5 : decode cX8_granted 5 = .ok (.iconst 1, 1) := by decide +kernel
theorem dX8_granted_6 : decode cX8_granted 6 = .ok (.ireturn, 1) := by decide +kernel
theorem dX8_denied_0 : decode cX8_denied 0 = .ok (.aload_n 0, 1) := by decide +kernel
theorem dX8_denied_1 : decode cX8_denied 1 = .ok (.iload_n 1, 1) := by decide +kernel
theorem dX8_denied_2 : decode cX8_denied 2 = .ok (.putfield 42, 3) := by decide +kernel
theorem dX8_denied_5 : decode cX8_denied 5 = .ok (.iconst 0, 1) := by decide +kernel
theorem dX8_denied_6 : decode cX8_denied 6 = .ok (.ireturn, 1) := by decide +kernel
theorem dX8_isKind_0 : decode cX8_isKind 0 = .ok (.aload_n 0, 1) := by decide +kernel
theorem dX8_isKind_1 : decode cX8_isKind 1 = .ok (.getfield 38, 3) := by decide +kernel
theorem dX8_isKind_4 : decode cX8_isKind 4 = .ok (.ifCond .eq 22, 3) := by decide +kernel
theorem dX8_isKind_7 : decode cX8_isKind 7 = .ok (.iload_n 1, 1) := by decide +kernel
theorem dX8_isKind_8 : decode cX8_isKind 8 = .ok (.ifCond .lt 18, 3) := by decide +kernel
theorem dX8_isKind_11 : decode cX8_isKind 11 = .ok (.iload_n 1, 1) := by decide +kernel
theorem dX8_isKind_12 : decode cX8_isKind 12 = .ok (.aload_n 0, 1) := by decide +kernel
theorem dX8_isKind_13 : decode cX8_isKind 13 = .ok (.getfield 27, 3) := by decide +kernel
theorem dX8_isKind_16 : decode cX8_isKind 16 = .ok (.getfield 101, 3) := by decide +kernel
theorem dX8_isKind_19 : decode cX8_isKind 19 = .ok (.if_icmp .ge 7, 3) := by decide +kernel
theorem dX8_isKind_22 : decode cX8_isKind 22 = .ok (.iconst 1, 1) := by decide +kernel
theorem dX8_isKind_23 : decode cX8_isKind 23 = .ok (.goto 4, 3) := by decide +kernel
theorem dX8_isKind_26 : decode cX8_isKind 26 = .ok (.iconst 0, 1) := by decide +kernel
theorem dX8_isKind_27 : decode cX8_isKind 27 = .ok (.ireturn, 1) := by decide +kernel
theorem dX8_isColour_0 : decode cX8_isColour 0 = .ok (.aload_n 0, 1) := by decide +kernel
theorem dX8_isColour_1 : decode cX8_isColour 1 = .ok (.getfield 38, 3) := by decide +kernel
theorem dX8_isColour_4 : decode cX8_isColour 4 = .ok (.ifCond .eq 22, 3) := by decide +kernel
theorem dX8_isColour_7 : decode cX8_isColour 7 = .ok (.iload_n 1, 1) := by decide +kernel
theorem dX8_isColour_8 : decode cX8_isColour 8 = .ok (.ifCond .lt 18, 3) := by decide +kernel
theorem dX8_isColour_11 : decode cX8_isColour 11 = .ok (.iload_n 1, 1) := by decide +kernel
theorem dX8_isColour_12 : decode cX8_isColour 12 = .ok (.aload_n 0, 1) := by decide +kernel
theorem dX8_isColour_13 : decode cX8_isColour 13 = .ok (.getfield 27, 3) := by decide +kernel
theorem dX8_isColour_16 : decode cX8_isColour 16 = .ok (.getfield 298, 3) := by decide +kernel
theorem dX8_isColour_19 : decode cX8_isColour 19 = .ok (.if_icmp .ge 7, 3) := by decide +kernel
theorem dX8_isColour_22 : decode cX8_isColour 22 = .ok (.iconst 1, 1) := by decide +kernel
theorem dX8_isColour_23 : decode cX8_isColour 23 = .ok (.goto 4, 3) := by decide +kernel
theorem dX8_isColour_26 : decode cX8_isColour 26 = .ok (.iconst 0, 1) := by decide +kernel
theorem dX8_isColour_27 : decode cX8_isColour 27 = .ok (.ireturn, 1) := by decide +kernel
theorem dX8_isMotif_0 : decode cX8_isMotif 0 = .ok (.aload_n 0, 1) := by decide +kernel
theorem dX8_isMotif_1 : decode cX8_isMotif 1 = .ok (.getfield 38, 3) := by decide +kernel
theorem dX8_isMotif_4 : decode cX8_isMotif 4 = .ok (.ifCond .eq 22, 3) := by decide +kernel
theorem dX8_isMotif_7 : decode cX8_isMotif 7 = .ok (.iload_n 1, 1) := by decide +kernel
theorem dX8_isMotif_8 : decode cX8_isMotif 8 = .ok (.ifCond .lt 18, 3) := by decide +kernel
theorem dX8_isMotif_11 : decode cX8_isMotif 11 = .ok (.iload_n 1, 1) := by decide +kernel
theorem dX8_isMotif_12 : decode cX8_isMotif 12 = .ok (.aload_n 0, 1) := by decide +kernel
theorem dX8_isMotif_13 : decode cX8_isMotif 13 = .ok (.getfield 27, 3) := by decide +kernel
theorem dX8_isMotif_16 : decode cX8_isMotif 16 = .ok (.getfield 301, 3) := by decide +kernel
theorem dX8_isMotif_19 : decode cX8_isMotif 19 = .ok (.if_icmp .ge 7, 3) := by decide +kernel
theorem dX8_isMotif_22 : decode cX8_isMotif 22 = .ok (.iconst 1, 1) := by decide +kernel
theorem dX8_isMotif_23 : decode cX8_isMotif 23 = .ok (.goto 4, 3) := by decide +kernel
theorem dX8_isMotif_26 : decode cX8_isMotif 26 = .ok (.iconst 0, 1) := by decide +kernel
theorem dX8_isMotif_27 : decode cX8_isMotif 27 = .ok (.ireturn, 1) := by decide +kernel
theorem dX8_isSide_0 : decode cX8_isSide 0 = .ok (.aload_n 0, 1) := by decide +kernel
theorem dX8_isSide_1 : decode cX8_isSide 1 = .ok (.getfield 38, 3) := by decide +kernel
theorem dX8_isSide_4 : decode cX8_isSide 4 = .ok (.ifCond .eq 16, 3) := by decide +kernel
theorem dX8_isSide_7 : decode cX8_isSide 7 = .ok (.iload_n 1, 1) := by decide +kernel
theorem dX8_isSide_8 : decode cX8_isSide 8 = .ok (.ifCond .eq 8, 3) := by decide +kernel
theorem dX8_isSide_11 : decode cX8_isSide 11 = .ok (.iload_n 1, 1) := by decide +kernel
theorem dX8_isSide_12 : decode cX8_isSide 12 = .ok (.iconst 1, 1) := by decide +kernel
theorem dX8_isSide_13 : decode cX8_isSide 13 = .ok (.if_icmp .ne 7, 3) := by decide +kernel
theorem dX8_isSide_16 : decode cX8_isSide 16 = .ok (.iconst 1, 1) := by decide +kernel
theorem dX8_isSide_17 : decode cX8_isSide 17 = .ok (.goto 4, 3) := by decide +kernel
theorem dX8_isSide_20 : decode cX8_isSide 20 = .ok (.iconst 0, 1) := by decide +kernel
theorem dX8_isSide_21 : decode cX8_isSide 21 = .ok (.ireturn, 1) := by decide +kernel
theorem dX8_isPlace_0 : decode cX8_isPlace 0 = .ok (.aload_n 0, 1) := by decide +kernel
theorem dX8_isPlace_1 : decode cX8_isPlace 1 = .ok (.iload_n 1, 1) := by decide +kernel
theorem dX8_isPlace_2 : decode cX8_isPlace 2 = .ok (.invokevirtual 140, 3) := by decide +kernel
theorem dX8_isPlace_5 : decode cX8_isPlace 5 = .ok (.ifCond .eq 24, 3) := by decide +kernel
theorem dX8_isPlace_8 : decode cX8_isPlace 8 = .ok (.iload_n 2, 1) := by decide +kernel
theorem dX8_isPlace_9 : decode cX8_isPlace 9 = .ok (.ifCond .lt 20, 3) := by decide +kernel
theorem dX8_isPlace_12 : decode cX8_isPlace 12 = .ok (.iload_n 2, 1) := by decide +kernel
theorem dX8_isPlace_13 : decode cX8_isPlace 13 = .ok (.aload_n 0, 1) := by decide +kernel
theorem dX8_isPlace_14 : decode cX8_isPlace 14 = .ok (.getfield 34, 3) := by decide +kernel
theorem dX8_isPlace_17 : decode cX8_isPlace 17 = .ok (.getfield 143, 3) := by decide +kernel
theorem dX8_isPlace_20 : decode cX8_isPlace 20 = .ok (.iload_n 1, 1) := by decide +kernel
theorem dX8_isPlace_21 : decode cX8_isPlace 21 = .ok (.iaload, 1) := by decide +kernel
theorem dX8_isPlace_22 : decode cX8_isPlace 22 = .ok (.if_icmp .ge 7, 3) := by decide +kernel
theorem dX8_isPlace_25 : decode cX8_isPlace 25 = .ok (.iconst 1, 1) := by decide +kernel
theorem dX8_isPlace_26 : decode cX8_isPlace 26 = .ok (.goto 4, 3) := by decide +kernel
theorem dX8_isPlace_29 : decode cX8_isPlace 29 = .ok (.iconst 0, 1) := by decide +kernel
theorem dX8_isPlace_30 : decode cX8_isPlace 30 = .ok (.ireturn, 1) := by decide +kernel
theorem dX8_hasBit_0 : decode cX8_hasBit 0 = .ok (.iload_n 0, 1) := by decide +kernel
theorem dX8_hasBit_1 : decode cX8_hasBit 1 = .ok (.iload_n 1, 1) := by decide +kernel
theorem dX8_hasBit_2 : decode cX8_hasBit 2 = .ok (.ishr, 1) := by decide +kernel
theorem dX8_hasBit_3 : decode cX8_hasBit 3 = .ok (.iconst 1, 1) := by decide +kernel
theorem dX8_hasBit_4 : decode cX8_hasBit 4 = .ok (.iand, 1) := by decide +kernel
theorem dX8_hasBit_5 : decode cX8_hasBit 5 = .ok (.ifCond .eq 7, 3) := by decide +kernel
theorem dX8_hasBit_8 : decode cX8_hasBit 8 = .ok (.iconst 1, 1) := by decide +kernel
theorem dX8_hasBit_9 : decode cX8_hasBit 9 = .ok (.goto 4, 3) := by decide +kernel
theorem dX8_hasBit_12 : decode cX8_hasBit 12 = .ok (.iconst 0, 1) := by decide +kernel
theorem dX8_hasBit_13 : decode cX8_hasBit 13 = .ok (.ireturn, 1) := by decide +kernel
theorem dX8_addBytes_0 : decode cX8_addBytes 0 = .ok (.bipush 24, 2) := by decide +kernel
theorem dX8_addBytes_2 : decode cX8_addBytes 2 = .ok (.istore_n 2, 1) := by decide +kernel
theorem dX8_addBytes_3 : decode cX8_addBytes 3 = .ok (.iload_n 2, 1) := by decide +kernel
theorem dX8_addBytes_4 : decode cX8_addBytes 4 = .ok (.ifCond .lt 42, 3) := by decide +kernel
theorem dX8_addBytes_7 : decode cX8_addBytes 7 = .ok (.aload_n 0, 1) := by decide +kernel
theorem dX8_addBytes_8 : decode cX8_addBytes 8 = .ok (.getfield 13, 3) := by decide +kernel
theorem dX8_addBytes_11 : decode cX8_addBytes 11 = .ok (.sipush 900, 3) := by decide +kernel
theorem dX8_addBytes_14 : decode cX8_addBytes 14 = .ok (.if_icmp .ge 32, 3) := by decide +kernel
theorem dX8_addBytes_17 : decode cX8_addBytes 17 = .ok (.aload_n 0, 1) := by decide +kernel
theorem dX8_addBytes_18 : decode cX8_addBytes 18 = .ok (.getfield 9, 3) := by decide +kernel
theorem dX8_addBytes_21 : decode cX8_addBytes 21 = .ok (.aload_n 0, 1) := by decide +kernel
theorem dX8_addBytes_22 : decode cX8_addBytes 22 = .ok (.getfield 13, 3) := by decide +kernel
theorem dX8_addBytes_25 : decode cX8_addBytes 25 = .ok (.iload_n 1, 1) := by decide +kernel
theorem dX8_addBytes_26 : decode cX8_addBytes 26 = .ok (.iload_n 2, 1) := by decide +kernel
theorem dX8_addBytes_27 : decode cX8_addBytes 27 = .ok (.ishr, 1) := by decide +kernel
theorem dX8_addBytes_28 : decode cX8_addBytes 28 = .ok (.i2b, 1) := by decide +kernel
theorem dX8_addBytes_29 : decode cX8_addBytes 29 = .ok (.bastore, 1) := by decide +kernel
theorem dX8_addBytes_30 : decode cX8_addBytes 30 = .ok (.aload_n 0, 1) := by decide +kernel
theorem dX8_addBytes_31 : decode cX8_addBytes 31 = .ok (.dup, 1) := by decide +kernel
theorem dX8_addBytes_32 : decode cX8_addBytes 32 = .ok (.getfield 13, 3) := by decide +kernel
theorem dX8_addBytes_35 : decode cX8_addBytes 35 = .ok (.iconst 1, 1) := by decide +kernel
theorem dX8_addBytes_36 : decode cX8_addBytes 36 = .ok (.iadd, 1) := by decide +kernel
theorem dX8_addBytes_37 : decode cX8_addBytes 37 = .ok (.putfield 13, 3) := by decide +kernel
theorem dX8_addBytes_40 : decode cX8_addBytes 40 = .ok (.iinc 2 (-8), 3) := by decide +kernel
theorem dX8_addBytes_43 : decode cX8_addBytes 43 = .ok (.goto (-40), 3) := by decide +kernel
theorem dX8_addBytes_46 : decode cX8_addBytes 46 = .ok (.return_, 1) := by decide +kernel
theorem dX8_takeWhatWasRead_0 : decode cX8_takeWhatWasRead 0 = .ok (.aload_n 0, 1) := by decide +kernel
theorem dX8_takeWhatWasRead_1 : decode cX8_takeWhatWasRead 1 = .ok (.getfield 27, 3) := by decide +kernel
theorem dX8_takeWhatWasRead_4 : decode cX8_takeWhatWasRead 4 = .ok (.astore_n 1, 1) := by decide +kernel
theorem dX8_takeWhatWasRead_5 : decode cX8_takeWhatWasRead 5 = .ok (.aload_n 0, 1) := by decide +kernel
theorem dX8_takeWhatWasRead_6 : decode cX8_takeWhatWasRead 6 = .ok (.getfield 34, 3) := by decide +kernel
theorem dX8_takeWhatWasRead_9 : decode cX8_takeWhatWasRead 9 = .ok (.astore_n 2, 1) := by decide +kernel
theorem dX8_takeWhatWasRead_10 : decode cX8_takeWhatWasRead 10 = .ok (.aload_n 0, 1) := by decide +kernel
theorem dX8_takeWhatWasRead_11 : decode cX8_takeWhatWasRead 11 = .ok (.aload_n 0, 1) := by decide +kernel
theorem dX8_takeWhatWasRead_12 : decode cX8_takeWhatWasRead 12 = .ok (.getfield 20, 3) := by decide +kernel
theorem dX8_takeWhatWasRead_15 : decode cX8_takeWhatWasRead 15 = .ok (.getfield 316, 3) := by decide +kernel
theorem dX8_takeWhatWasRead_18 : decode cX8_takeWhatWasRead 18 = .ok (.putfield 27, 3) := by decide +kernel
theorem dX8_takeWhatWasRead_21 : decode cX8_takeWhatWasRead 21 = .ok (.aload_n 0, 1) := by decide +kernel
theorem dX8_takeWhatWasRead_22 : decode cX8_takeWhatWasRead 22 = .ok (.aload_n 0, 1) := by decide +kernel
theorem dX8_takeWhatWasRead_23 : decode cX8_takeWhatWasRead 23 = .ok (.getfield 20, 3) := by decide +kernel
theorem dX8_takeWhatWasRead_26 : decode cX8_takeWhatWasRead 26 = .ok (.getfield 317, 3) := by decide +kernel
theorem dX8_takeWhatWasRead_29 : decode cX8_takeWhatWasRead 29 = .ok (.putfield 34, 3) := by decide +kernel
theorem dX8_takeWhatWasRead_32 : decode cX8_takeWhatWasRead 32 = .ok (.aload_n 0, 1) := by decide +kernel
theorem dX8_takeWhatWasRead_33 : decode cX8_takeWhatWasRead 33 = .ok (.getfield 20, 3) := by decide +kernel
theorem dX8_takeWhatWasRead_36 : decode cX8_takeWhatWasRead 36 = .ok (.aload_n 1, 1) := by decide +kernel
theorem dX8_takeWhatWasRead_37 : decode cX8_takeWhatWasRead 37 = .ok (.putfield 316, 3) := by decide +kernel
theorem dX8_takeWhatWasRead_40 : decode cX8_takeWhatWasRead 40 = .ok (.aload_n 0, 1) := by decide +kernel
theorem dX8_takeWhatWasRead_41 : decode cX8_takeWhatWasRead 41 = .ok (.getfield 20, 3) := by decide +kernel
theorem dX8_takeWhatWasRead_44 : decode cX8_takeWhatWasRead 44 = .ok (.aload_n 2, 1) := by decide +kernel
theorem dX8_takeWhatWasRead_45 : decode cX8_takeWhatWasRead 45 = .ok (.putfield 317, 3) := by decide +kernel
theorem dX8_takeWhatWasRead_48 : decode cX8_takeWhatWasRead 48 = .ok (.aload_n 0, 1) := by decide +kernel
theorem dX8_takeWhatWasRead_49 : decode cX8_takeWhatWasRead 49 = .ok (.iconst 1, 1) := by decide +kernel
theorem dX8_takeWhatWasRead_50 : decode cX8_takeWhatWasRead 50 = .ok (.putfield 38, 3) := by decide +kernel
theorem dX8_takeWhatWasRead_53 : decode cX8_takeWhatWasRead 53 = .ok (.aload_n 0, 1) := by decide +kernel
theorem dX8_takeWhatWasRead_54 : decode cX8_takeWhatWasRead 54 = .ok (.iconst 0, 1) := by decide +kernel
theorem dX8_takeWhatWasRead_55 : decode cX8_takeWhatWasRead 55 = .ok (.putfield 49, 3) := by decide +kernel
theorem dX8_takeWhatWasRead_58 : decode cX8_takeWhatWasRead 58 = .ok (.aload_n 0, 1) := by decide +kernel
theorem dX8_takeWhatWasRead_59 : decode cX8_takeWhatWasRead 59 = .ok (.iconst 0, 1) := by decide +kernel
theorem dX8_takeWhatWasRead_60 : decode cX8_takeWhatWasRead 60 = .ok (.putfield 55, 3) := by decide +kernel
theorem dX8_takeWhatWasRead_63 : decode cX8_takeWhatWasRead 63 = .ok (.aload_n 0, 1) := by decide +kernel
theorem dX8_takeWhatWasRead_64 : decode cX8_takeWhatWasRead 64 = .ok (.getfield 68, 3) := by decide +kernel
theorem dX8_takeWhatWasRead_67 : decode cX8_takeWhatWasRead 67 = .ok (.invokevirtual 211, 3) := by decide +kernel
theorem dX8_takeWhatWasRead_70 : decode cX8_takeWhatWasRead 70 = .ok (.return_, 1) := by decide +kernel
theorem dX8_keepAct_0 : decode cX8_keepAct 0 = .ok (.aload_n 0, 1) := by decide +kernel
theorem dX8_keepAct_1 : decode cX8_keepAct 1 = .ok (.getfield 49, 3) := by decide +kernel
theorem dX8_keepAct_4 : decode cX8_keepAct 4 = .ok (.bipush 12, 2) := by decide +kernel
theorem dX8_keepAct_6 : decode cX8_keepAct 6 = .ok (.if_icmp .lt 52, 3) := by decide +kernel
theorem dX8_keepAct_9 : decode cX8_keepAct 9 = .ok (.aload_n 0, 1) := by decide +kernel
theorem dX8_keepAct_10 : decode cX8_keepAct 10 = .ok (.getfield 45, 3) := by decide +kernel
theorem dX8_keepAct_13 : decode cX8_keepAct 13 = .ok (.iconst 0, 1) := by decide +kernel
theorem dX8_keepAct_14 : decode cX8_keepAct 14 = .ok (.aaload, 1) := by decide +kernel
theorem dX8_keepAct_15 : decode cX8_keepAct 15 = .ok (.astore_n 1, 1) := by decide +kernel
theorem dX8_keepAct_16 : decode cX8_keepAct 16 = .ok (.iconst 1, 1) := by decide +kernel
theorem dX8_keepAct_17 : decode cX8_keepAct 17 = .ok (.istore_n 2, 1) := by decide +kernel
theorem dX8_keepAct_18 : decode cX8_keepAct 18 = .ok (.iload_n 2, 1) := by decide +kernel
theorem dX8_keepAct_19 : decode cX8_keepAct 19 = .ok (.bipush 12, 2) := by decide +kernel
theorem dX8_keepAct_21 : decode cX8_keepAct 21 = .ok (.if_icmp .ge 23, 3) := by decide +kernel
theorem dX8_keepAct_24 : decode cX8_keepAct 24 = .ok (.aload_n 0, 1) := by decide +kernel
theorem dX8_keepAct_25 : decode cX8_keepAct 25 = .ok (.getfield 45, 3) := by decide +kernel
theorem dX8_keepAct_28 : decode cX8_keepAct 28 = .ok (.iload_n 2, 1) := by decide +kernel
theorem dX8_keepAct_29 : decode cX8_keepAct 29 = .ok (.iconst 1, 1) := by decide +kernel
theorem dX8_keepAct_30 : decode cX8_keepAct 30 = .ok (.isub, 1) := by decide +kernel
theorem dX8_keepAct_31 : decode cX8_keepAct 31 = .ok (.aload_n 0, 1) := by decide +kernel
theorem dX8_keepAct_32 : decode cX8_keepAct 32 = .ok (.getfield 45, 3) := by decide +kernel
theorem dX8_keepAct_35 : decode cX8_keepAct 35 = .ok (.iload_n 2, 1) := by decide +kernel
theorem dX8_keepAct_36 : decode cX8_keepAct 36 = .ok (.aaload, 1) := by decide +kernel
theorem dX8_keepAct_37 : decode cX8_keepAct 37 = .ok (.aastore, 1) := by decide +kernel
theorem dX8_keepAct_38 : decode cX8_keepAct 38 = .ok (.iinc 2 1, 3) := by decide +kernel
theorem dX8_keepAct_41 : decode cX8_keepAct 41 = .ok (.goto (-23), 3) := by decide +kernel
theorem dX8_keepAct_44 : decode cX8_keepAct 44 = .ok (.aload_n 0, 1) := by decide +kernel
theorem dX8_keepAct_45 : decode cX8_keepAct 45 = .ok (.getfield 45, 3) := by decide +kernel
theorem dX8_keepAct_48 : decode cX8_keepAct 48 = .ok (.bipush 11, 2) := by decide +kernel
theorem dX8_keepAct_50 : decode cX8_keepAct 50 = .ok (.aload_n 1, 1) := by decide +kernel
theorem dX8_keepAct_51 : decode cX8_keepAct 51 = .ok (.aastore, 1) := by decide +kernel
theorem dX8_keepAct_52 : decode cX8_keepAct 52 = .ok (.aload_n 0, 1) := by decide +kernel
theorem dX8_keepAct_53 : decode cX8_keepAct 53 = .ok (.bipush 11, 2) := by decide +kernel
theorem dX8_keepAct_55 : decode cX8_keepAct 55 = .ok (.putfield 49, 3) := by decide +kernel
theorem dX8_keepAct_58 : decode cX8_keepAct 58 = .ok (.aload_n 0, 1) := by decide +kernel
theorem dX8_keepAct_59 : decode cX8_keepAct 59 = .ok (.getfield 45, 3) := by decide +kernel
theorem dX8_keepAct_62 : decode cX8_keepAct 62 = .ok (.aload_n 0, 1) := by decide +kernel
theorem dX8_keepAct_63 : decode cX8_keepAct 63 = .ok (.getfield 49, 3) := by decide +kernel
theorem dX8_keepAct_66 : decode cX8_keepAct 66 = .ok (.aaload, 1) := by decide +kernel
theorem dX8_keepAct_67 : decode cX8_keepAct 67 = .ok (.aload_n 0, 1) := by decide +kernel
theorem dX8_keepAct_68 : decode cX8_keepAct 68 = .ok (.getfield 34, 3) := by decide +kernel
theorem dX8_keepAct_71 : decode cX8_keepAct 71 = .ok (.invokevirtual 207, 3) := by decide +kernel
theorem dX8_keepAct_74 : decode cX8_keepAct 74 = .ok (.aload_n 0, 1) := by decide +kernel
theorem dX8_keepAct_75 : decode cX8_keepAct 75 = .ok (.dup, 1) := by decide +kernel
theorem dX8_keepAct_76 : decode cX8_keepAct 76 = .ok (.getfield 49, 3) := by decide +kernel
theorem dX8_keepAct_79 : decode cX8_keepAct 79 = .ok (.iconst 1, 1) := by decide +kernel
theorem dX8_keepAct_80 : decode cX8_keepAct 80 = .ok (.iadd, 1) := by decide +kernel
theorem dX8_keepAct_81 : decode cX8_keepAct 81 = .ok (.putfield 49, 3) := by decide +kernel
theorem dX8_keepAct_84 : decode cX8_keepAct 84 = .ok (.aload_n 0, 1) := by decide +kernel
theorem dX8_keepAct_85 : decode cX8_keepAct 85 = .ok (.getfield 68, 3) := by decide +kernel
theorem dX8_keepAct_88 : decode cX8_keepAct 88 = .ok (.invokevirtual 211, 3) := by decide +kernel
theorem dX8_keepAct_91 : decode cX8_keepAct 91 = .ok (.return_, 1) := by decide +kernel
theorem dX8_weaveTowardBest_0 : decode cX8_weaveTowardBest 0 = .ok (.aload_n 0, 1) := by decide +kernel
theorem dX8_weaveTowardBest_1 : decode cX8_weaveTowardBest 1 = .ok (.getfield 68, 3) := by decide +kernel
theorem dX8_weaveTowardBest_4 : decode cX8_weaveTowardBest 4 = .ok (.getfield 218, 3) := by decide +kernel
theorem dX8_weaveTowardBest_7 : decode cX8_weaveTowardBest 7 = .ok (.ifCond .eq 21, 3) := by decide +kernel
theorem dX8_weaveTowardBest_10 : decode cX8_weaveTowardBest 10 = .ok (.aload_n 0, 1) := by decide +kernel
theorem dX8_weaveTowardBest_11 : decode cX8_weaveTowardBest 11 = .ok (.getfield 68, 3) := by decide +kernel
theorem dX8_weaveTowardBest_14 : decode cX8_weaveTowardBest 14 = .ok (.getfield 221, 3) := by decide +kernel
theorem dX8_weaveTowardBest_17 : decode cX8_weaveTowardBest 17 = .ok (.aload_n 0, 1) := by decide +kernel
theorem dX8_weaveTowardBest_18 : decode cX8_weaveTowardBest 18 = .ok (.getfield 68, 3) := by decide +kernel
theorem dX8_weaveTowardBest_21 : decode cX8_weaveTowardBest 21 = .ok (.getfield 224, 3) := by decide +kernel
theorem dX8_weaveTowardBest_24 : decode cX8_weaveTowardBest 24 = .ok (.iadd, 1) := by decide +kernel
theorem dX8_weaveTowardBest_25 : decode cX8_weaveTowardBest 25 = .ok (.ifCond .le 5, 3) := by decide +kernel
theorem dX8_weaveTowardBest_28 : decode cX8_weaveTowardBest 28 = .ok (.iconst 0, 1) := by decide +kernel
theorem dX8_weaveTowardBest_29 : decode cX8_weaveTowardBest 29 = .ok (.ireturn, 1) := by decide +kernel
theorem dX8_weaveTowardBest_30 : decode cX8_weaveTowardBest 30 = .ok (.aload_n 0, 1) := by decide +kernel
theorem dX8_weaveTowardBest_31 : decode cX8_weaveTowardBest 31 = .ok (.getfield 68, 3) := by decide +kernel
theorem dX8_weaveTowardBest_34 : decode cX8_weaveTowardBest 34 = .ok (.getfield 227, 3) := by decide +kernel
theorem dX8_weaveTowardBest_37 : decode cX8_weaveTowardBest 37 = .ok (.aload_n 0, 1) := by decide +kernel
theorem dX8_weaveTowardBest_38 : decode cX8_weaveTowardBest 38 = .ok (.getfield 68, 3) := by decide +kernel
theorem dX8_weaveTowardBest_41 : decode cX8_weaveTowardBest 41 = .ok (.getfield 230, 3) := by decide +kernel
theorem dX8_weaveTowardBest_44 : decode cX8_weaveTowardBest 44 = .ok (.iadd, 1) := by decide +kernel
theorem dX8_weaveTowardBest_45 : decode cX8_weaveTowardBest 45 = .ok (.istore_n 2, 1) := by decide +kernel
theorem dX8_weaveTowardBest_46 : decode cX8_weaveTowardBest 46 = .ok (.iload_n 1, 1) := by decide +kernel
theorem dX8_weaveTowardBest_47 : decode cX8_weaveTowardBest 47 = .ok (.aload_n 0, 1) := by decide +kernel
theorem dX8_weaveTowardBest_48 : decode cX8_weaveTowardBest 48 = .ok (.getfield 68, 3) := by decide +kernel
theorem dX8_weaveTowardBest_51 : decode cX8_weaveTowardBest 51 = .ok (.getfield 227, 3) := by decide +kernel
theorem dX8_weaveTowardBest_54 : decode cX8_weaveTowardBest 54 = .ok (.invokestatic 318, 3) := by decide +kernel
theorem dX8_weaveTowardBest_57 : decode cX8_weaveTowardBest 57 = .ok (.istore_n 3, 1) := by decide +kernel
theorem dX8_weaveTowardBest_58 : decode cX8_weaveTowardBest 58 = .ok (.iconst 0, 1) := by decide +kernel
theorem dX8_weaveTowardBest_59 : decode cX8_weaveTowardBest 59 = .ok (.istore 4, 2) := by decide +kernel
theorem dX8_weaveTowardBest_61 : decode cX8_weaveTowardBest 61 = .ok (.iload 4, 2) := by decide +kernel
theorem dX8_weaveTowardBest_63 : decode cX8_weaveTowardBest 63 = .ok (.iload_n 3, 1) := by decide +kernel
theorem dX8_weaveTowardBest_64 : decode cX8_weaveTowardBest 64 = .ok (.if_icmp .ge 31, 3) := by decide +kernel
theorem dX8_weaveTowardBest_67 : decode cX8_weaveTowardBest 67 = .ok (.aload_n 0, 1) := by decide +kernel
theorem dX8_weaveTowardBest_68 : decode cX8_weaveTowardBest 68 = .ok (.getfield 34, 3) := by decide +kernel
theorem dX8_weaveTowardBest_71 : decode cX8_weaveTowardBest 71 = .ok (.aload_n 0, 1) := by decide +kernel
theorem dX8_weaveTowardBest_72 : decode cX8_weaveTowardBest 72 = .ok (.getfield 27, 3) := by decide +kernel
theorem dX8_weaveTowardBest_75 : decode cX8_weaveTowardBest 75 = .ok (.iconst 0, 1) := by decide +kernel
theorem dX8_weaveTowardBest_76 : decode cX8_weaveTowardBest 76 = .ok (.aload_n 0, 1) := by decide +kernel
theorem dX8_weaveTowardBest_77 : decode cX8_weaveTowardBest 77 = .ok (.getfield 68, 3) := by decide +kernel
theorem dX8_weaveTowardBest_80 : decode cX8_weaveTowardBest 80 = .ok (.getfield 233, 3) := by decide +kernel
theorem dX8_weaveTowardBest_83 : decode cX8_weaveTowardBest 83 = .ok (.iload 4, 2) := by decide +kernel
theorem dX8_weaveTowardBest_85 : decode cX8_weaveTowardBest 85 = .ok (.iaload, 1) := by decide +kernel
theorem dX8_weaveTowardBest_86 : decode cX8_weaveTowardBest 86 = .ok (.invokevirtual 182, 3) := by decide +kernel
theorem dX8_weaveTowardBest_89 : decode cX8_weaveTowardBest 89 = .ok (.iinc 4 1, 3) := by decide +kernel
theorem dX8_weaveTowardBest_92 : decode cX8_weaveTowardBest 92 = .ok (.goto (-31), 3) := by decide +kernel
theorem dX8_weaveTowardBest_95 : decode cX8_weaveTowardBest 95 = .ok (.iload_n 1, 1) := by decide +kernel
theorem dX8_weaveTowardBest_96 : decode cX8_weaveTowardBest 96 = .ok (.aload_n 0, 1) := by decide +kernel
theorem dX8_weaveTowardBest_97 : decode cX8_weaveTowardBest 97 = .ok (.getfield 68, 3) := by decide +kernel
theorem dX8_weaveTowardBest_100 : decode cX8_weaveTowardBest 100 = .ok (.getfield 230, 3) := by decide +kernel
theorem dX8_weaveTowardBest_103 : decode cX8_weaveTowardBest 103 = .ok (.invokestatic 318, 3) := by decide +kernel
theorem dX8_weaveTowardBest_106 : decode cX8_weaveTowardBest 106 = .ok (.istore 4, 2) := by decide +kernel
theorem dX8_weaveTowardBest_108 : decode cX8_weaveTowardBest 108 = .ok (.iconst 0, 1) := by decide +kernel
theorem dX8_weaveTowardBest_109 : decode cX8_weaveTowardBest 109 = .ok (.istore 5, 2) := by decide +kernel
theorem dX8_weaveTowardBest_111 : decode cX8_weaveTowardBest 111 = .ok (.iload 5, 2) := by decide +kernel
theorem dX8_weaveTowardBest_113 : decode cX8_weaveTowardBest 113 = .ok (.iload 4, 2) := by decide +kernel
theorem dX8_weaveTowardBest_115 : decode cX8_weaveTowardBest 115 = .ok (.if_icmp .ge 35, 3) := by decide +kernel
theorem dX8_weaveTowardBest_118 : decode cX8_weaveTowardBest 118 = .ok (.aload_n 0, 1) := by decide +kernel
theorem dX8_weaveTowardBest_119 : decode cX8_weaveTowardBest 119 = .ok (.getfield 34, 3) := by decide +kernel
theorem dX8_weaveTowardBest_122 : decode cX8_weaveTowardBest 122 = .ok (.aload_n 0, 1) := by decide +kernel
theorem dX8_weaveTowardBest_123 : decode cX8_weaveTowardBest 123 = .ok (.getfield 27, 3) := by decide +kernel
theorem dX8_weaveTowardBest_126 : decode cX8_weaveTowardBest 126 = .ok (.iconst 1, 1) := by decide +kernel
theorem dX8_weaveTowardBest_127 : decode cX8_weaveTowardBest 127 = .ok (.aload_n 0, 1) := by decide +kernel
theorem dX8_weaveTowardBest_128 : decode cX8_weaveTowardBest 128 = .ok (.getfield 68, 3) := by decide +kernel
theorem dX8_weaveTowardBest_131 : decode cX8_weaveTowardBest 131 = .ok (.getfield 233, 3) := by decide +kernel
theorem dX8_weaveTowardBest_134 : decode cX8_weaveTowardBest 134 = .ok (.iload_n 2, 1) := by decide +kernel
theorem dX8_weaveTowardBest_135 : decode cX8_weaveTowardBest 135 = .ok (.iconst 1, 1) := by decide +kernel
theorem dX8_weaveTowardBest_136 : decode cX8_weaveTowardBest 136 = .ok (.isub, 1) := by decide +kernel
theorem dX8_weaveTowardBest_137 : decode cX8_weaveTowardBest 137 = .ok (.iload 5, 2) := by decide +kernel
theorem dX8_weaveTowardBest_139 : decode cX8_weaveTowardBest 139 = .ok (.isub, 1) := by decide +kernel
theorem dX8_weaveTowardBest_140 : decode cX8_weaveTowardBest 140 = .ok (.iaload, 1) := by decide +kernel
theorem dX8_weaveTowardBest_141 : decode cX8_weaveTowardBest 141 = .ok (.invokevirtual 182, 3) := by decide +kernel
theorem dX8_weaveTowardBest_144 : decode cX8_weaveTowardBest 144 = .ok (.iinc 5 1, 3) := by decide +kernel
theorem dX8_weaveTowardBest_147 : decode cX8_weaveTowardBest 147 = .ok (.goto (-36), 3) := by decide +kernel
theorem dX8_weaveTowardBest_150 : decode cX8_weaveTowardBest 150 = .ok (.iload_n 3, 1) := by decide +kernel
theorem dX8_weaveTowardBest_151 : decode cX8_weaveTowardBest 151 = .ok (.iload 4, 2) := by decide +kernel
theorem dX8_weaveTowardBest_153 : decode cX8_weaveTowardBest 153 = .ok (.iadd, 1) := by decide +kernel
theorem dX8_weaveTowardBest_154 : decode cX8_weaveTowardBest 154 = .ok (.ireturn, 1) := by decide +kernel
theorem dX9_init_0 : decode cX9_init 0 = .ok (.aload_n 0, 1) := by decide +kernel
theorem dX9_init_1 : decode cX9_init 1 = .ok (.invokespecial 3, 3) := by decide +kernel
theorem dX9_init_4 : decode cX9_init 4 = .ok (.aload_n 0, 1) := by decide +kernel
theorem dX9_init_5 : decode cX9_init 5 = .ok (.iconst 2, 1) := by decide +kernel
theorem dX9_init_6 : decode cX9_init 6 = .ok (.newarray .int, 2) := by decide +kernel
theorem dX9_init_8 : decode cX9_init 8 = .ok (.putfield 9, 3) := by decide +kernel
theorem dX9_init_11 : decode cX9_init 11 = .ok (.aload_n 0, 1) := by decide +kernel
theorem dX9_init_12 : decode cX9_init 12 = .ok (.iconst 4, 1) := by decide +kernel
theorem dX9_init_13 : decode cX9_init 13 = .ok (.newarray .int, 2) := by decide +kernel
theorem dX9_init_15 : decode cX9_init 15 = .ok (.putfield 15, 3) := by decide +kernel
theorem dX9_init_18 : decode cX9_init 18 = .ok (.aload_n 0, 1) := by decide +kernel
theorem dX9_init_19 : decode cX9_init 19 = .ok (.bipush 24, 2) := by decide +kernel
theorem dX9_init_21 : decode cX9_init 21 = .ok (.newarray .int, 2) := by decide +kernel
theorem dX9_init_23 : decode cX9_init 23 = .ok (.putfield 18, 3) := by decide +kernel
theorem dX9_init_26 : decode cX9_init 26 = .ok (.aload_n 0, 1) := by decide +kernel
theorem dX9_init_27 : decode cX9_init 27 = .ok (.iconst 2, 1) := by decide +kernel
theorem dX9_init_28 : decode cX9_init 28 = .ok (.newarray .int, 2) := by decide +kernel
theorem dX9_init_30 : decode cX9_init 30 = .ok (.putfield 21, 3) := by decide +kernel
theorem dX9_init_33 : decode cX9_init 33 = .ok (.aload_n 0, 1) := by decide +kernel
theorem dX9_init_34 : decode cX9_init 34 = .ok (.iconst 2, 1) := by decide +kernel
theorem dX9_init_35 : decode cX9_init 35 = .ok (.newarray .boolean, 2) := by decide +kernel
theorem dX9_init_37 : decode cX9_init 37 = .ok (.putfield 24, 3) := by decide +kernel
theorem dX9_init_40 : decode cX9_init 40 = .ok (.aload_n 0, 1) := by decide +kernel
theorem dX9_init_41 : decode cX9_init 41 = .ok (.bipush 8, 2) := by decide +kernel
theorem dX9_init_43 : decode cX9_init 43 = .ok (.newarray .boolean, 2) := by decide +kernel
theorem dX9_init_45 : decode cX9_init 45 = .ok (.putfield 28, 3) := by decide +kernel
theorem dX9_init_48 : decode cX9_init 48 = .ok (.aload_n 0, 1) := by decide +kernel
theorem dX9_init_49 : decode cX9_init 49 = .ok (.bipush 8, 2) := by decide +kernel
theorem dX9_init_51 : decode cX9_init 51 = .ok (.newarray .boolean, 2) := by decide +kernel
theorem dX9_init_53 : decode cX9_init 53 = .ok (.putfield 31, 3) := by decide +kernel
theorem dX9_init_56 : decode cX9_init 56 = .ok (.aload_n 0, 1) := by decide +kernel
theorem dX9_init_57 : decode cX9_init 57 = .ok (.bipush 8, 2) := by decide +kernel
theorem dX9_init_59 : decode cX9_init 59 = .ok (.newarray .boolean, 2) := by decide +kernel
theorem dX9_init_61 : decode cX9_init 61 = .ok (.putfield 34, 3) := by decide +kernel
theorem dX9_init_64 : decode cX9_init 64 = .ok (.aload_n 0, 1) := by decide +kernel
theorem dX9_init_65 : decode cX9_init 65 = .ok (.bipush 8, 2) := by decide +kernel
theorem dX9_init_67 : decode cX9_init 67 = .ok (.newarray .int, 2) := by decide +kernel
theorem dX9_init_69 : decode cX9_init 69 = .ok (.putfield 37, 3) := by decide +kernel
theorem dX9_init_72 : decode cX9_init 72 = .ok (.aload_n 0, 1) := by decide +kernel
theorem dX9_init_73 : decode cX9_init 73 = .ok (.bipush 8, 2) := by decide +kernel
theorem dX9_init_75 : decode cX9_init 75 = .ok (.newarray .int, 2) := by decide +kernel
theorem dX9_init_77 : decode cX9_init 77 = .ok (.putfield 40, 3) := by decide +kernel
theorem dX9_init_80 : decode cX9_init 80 = .ok (.aload_n 0, 1) := by decide +kernel
theorem dX9_init_81 : decode cX9_init 81 = .ok (.bipush 8, 2) := by decide +kernel
theorem dX9_init_83 : decode cX9_init 83 = .ok (.newarray .int, 2) := by decide +kernel
theorem dX9_init_85 : decode cX9_init 85 = .ok (.putfield 43, 3) := by decide +kernel
theorem dX9_init_88 : decode cX9_init 88 = .ok (.aload_n 0, 1) := by decide +kernel
theorem dX9_init_89 : decode cX9_init 89 = .ok (.bipush 8, 2) := by decide +kernel
theorem dX9_init_91 : decode cX9_init 91 = .ok (.newarray .int, 2) := by decide +kernel
theorem dX9_init_93 : decode cX9_init 93 = .ok (.putfield 46, 3) := by decide +kernel
theorem dX9_init_96 : decode cX9_init 96 = .ok (.aload_n 0, 1) := by decide +kernel
theorem dX9_init_97 : decode cX9_init 97 = .ok (.iconst 4, 1) := by decide +kernel
theorem dX9_init_98 : decode cX9_init 98 = .ok (.newarray .int, 2) := by decide +kernel
theorem dX9_init_100 : decode cX9_init 100 = .ok (.putfield 49, 3) := by decide +kernel
theorem dX9_init_103 : decode cX9_init 103 = .ok (.aload_n 0, 1) := by decide +kernel
theorem dX9_init_104 : decode cX9_init 104 = .ok (.iconst 4, 1) := by decide +kernel
theorem dX9_init_105 : decode cX9_init 105 = .ok (.newarray .int, 2) := by decide +kernel
theorem dX9_init_107 : decode cX9_init 107 = .ok (.putfield 52, 3) := by decide +kernel
theorem dX9_init_110 : decode cX9_init 110 = .ok (.aload_n 0, 1) := by decide +kernel
theorem dX9_init_111 : decode cX9_init 111 = .ok (.bipush 16, 2) := by decide +kernel
theorem dX9_init_113 : decode cX9_init 113 = .ok (.newarray .int, 2) := by decide +kernel
theorem dX9_init_115 : decode cX9_init 115 = .ok (.putfield 55, 3) := by decide +kernel
theorem dX9_init_118 : decode cX9_init 118 = .ok (.aload_n 0, 1) := by decide +kernel
theorem dX9_init_119 : decode cX9_init 119 = .ok (.bipush 6, 2) := by decide +kernel
theorem dX9_init_121 : decode cX9_init 121 = .ok (.newarray .int, 2) := by decide +kernel
theorem dX9_init_123 : decode cX9_init 123 = .ok (.putfield 58, 3) := by decide +kernel
theorem dX9_init_126 : decode cX9_init 126 = .ok (.aload_n 0, 1) := by decide +kernel
theorem dX9_init_127 : decode cX9_init 127 = .ok (.bipush 6, 2) := by decide +kernel
theorem dX9_init_129 : decode cX9_init 129 = .ok (.newarray .int, 2) := by decide +kernel
theorem dX9_init_131 : decode cX9_init 131 = .ok (.putfield 61, 3) := by decide +kernel
theorem dX9_init_134 : decode cX9_init 134 = .ok (.aload_n 0, 1) := by decide +kernel
theorem dX9_init_135 : decode cX9_init 135 = .ok (.bipush 6, 2) := by decide +kernel
theorem dX9_init_137 : decode cX9_init 137 = .ok (.newarray .int, 2) := by decide +kernel
theorem dX9_init_139 : decode cX9_init 139 = .ok (.putfield 64, 3) := by decide +kernel
theorem dX9_init_142 : decode cX9_init 142 = .ok (.aload_n 0, 1) := by decide +kernel
theorem dX9_init_143 : decode cX9_init 143 = .ok (.bipush 14, 2) := by decide +kernel
theorem dX9_init_145 : decode cX9_init 145 = .ok (.newarray .long, 2) := by decide +kernel
theorem dX9_init_147 : decode cX9_init 147 = .ok (.putfield 67, 3) := by decide +kernel
theorem dX9_init_150 : decode cX9_init 150 = .ok (.aload_n 0, 1) := by decide +kernel
theorem dX9_init_151 : decode cX9_init 151 = .ok (.bipush 14, 2) := by decide +kernel
theorem dX9_init_153 : decode cX9_init 153 = .ok (.newarray .int, 2) := by decide +kernel
theorem dX9_init_155 : decode cX9_init 155 = .ok (.putfield 71, 3) := by decide +kernel
theorem dX9_init_158 : decode cX9_init 158 = .ok (.aload_n 0, 1) := by decide +kernel
theorem dX9_init_159 : decode cX9_init 159 = .ok (.bipush 14, 2) := by decide +kernel
theorem dX9_init_161 : decode cX9_init 161 = .ok (.newarray .int, 2) := by decide +kernel
theorem dX9_init_163 : decode cX9_init 163 = .ok (.putfield 74, 3) := by decide +kernel
theorem dX9_init_166 : decode cX9_init 166 = .ok (.return_, 1) := by decide +kernel
theorem dX9_find_0 : decode cX9_find 0 = .ok (.iconst 0, 1) := by decide +kernel
theorem dX9_find_1 : decode cX9_find 1 = .ok (.istore_n 3, 1) := by decide +kernel
theorem dX9_find_2 : decode cX9_find 2 = .ok (.iload_n 3, 1) := by decide +kernel
theorem dX9_find_3 : decode cX9_find 3 = .ok (.aload_n 0, 1) := by decide +kernel
theorem dX9_find_4 : decode cX9_find 4 = .ok (.getfield 77, 3) := by decide +kernel
theorem dX9_find_7 : decode cX9_find 7 = .ok (.if_icmp .ge 22, 3) := by decide +kernel
theorem dX9_find_10 : decode cX9_find 10 = .ok (.aload_n 0, 1) := by decide +kernel
theorem dX9_find_11 : decode cX9_find 11 = .ok (.getfield 67, 3) := by decide +kernel
theorem dX9_find_14 : decode cX9_find 14 = .ok (.iload_n 3, 1) := by decide +kernel
theorem dX9_find_15 : decode cX9_find 15 = .ok (.laload, 1) := by decide +kernel
theorem dX9_find_16 : decode cX9_find 16 = .ok (.lload_n 1, 1) := by decide +kernel
theorem dX9_find_17 : decode cX9_find 17 = .ok (.lcmp, 1) := by decide +kernel
theorem dX9_find_18 : decode cX9_find 18 = .ok (.ifCond .ne 5, 3) := by decide +kernel
theorem dX9_find_21 : decode cX9_find 21 = .ok (.iload_n 3, 1) := by decide +kernel
theorem dX9_find_22 : decode cX9_find 22 = .ok (.ireturn, 1) := by decide +kernel
theorem dX9_find_23 : decode cX9_find 23 = .ok (.iinc 3 1, 3) := by decide +kernel
theorem dX9_find_26 : decode cX9_find 26 = .ok (.goto (-24), 3) := by decide +kernel
theorem dX9_find_29 : decode cX9_find 29 = .ok (.iconst (-1), 1) := by decide +kernel
theorem dX9_find_30 : decode cX9_find 30 = .ok (.ireturn, 1) := by decide +kernel
theorem dX9_mayFollow_0 : decode cX9_mayFollow 0 = .ok (.iload_n 2, 1) := by decide +kernel
theorem dX9_mayFollow_1 : decode cX9_mayFollow 1 = .ok (.bipush 8, 2) := by decide +kernel
theorem dX9_mayFollow_3 : decode cX9_mayFollow 3 = .ok (.if_icmp .ne 5, 3) := by decide +kernel
theorem dX9_mayFollow_6 : decode cX9_mayFollow 6 = .ok (.iconst 1, 1) := by decide +kernel
theorem dX9_mayFollow_7 : decode cX9_mayFollow 7 = .ok (.ireturn, 1) := by decide +kernel
theorem dX9_mayFollow_8 : decode cX9_mayFollow 8 = .ok (.aload_n 0, 1) := by decide +kernel
theorem dX9_mayFollow_9 : decode cX9_mayFollow 9 = .ok (.getfield 28, 3) := by decide +kernel
theorem dX9_mayFollow_12 : decode cX9_mayFollow 12 = .ok (.iload_n 2, 1) := by decide +kernel
theorem dX9_mayFollow_13 : decode cX9_mayFollow 13 = .ok (.baload, 1) := by decide +kernel
theorem dX9_mayFollow_14 : decode cX9_mayFollow 14 = .ok (.ifCond .ne 40, 3) := by decide +kernel
theorem dX9_mayFollow_17 : decode cX9_mayFollow 17 = .ok (.iload_n 1, 1) := by decide +kernel
theorem dX9_mayFollow_18 : decode cX9_mayFollow 18 = .ok (.ifCond .ne 19, 3) := by decide +kernel
theorem dX9_mayFollow_21 : decode cX9_mayFollow 21 = .ok (.aload_n 0, 1) := by decide +kernel
theorem dX9_mayFollow_22 : decode cX9_mayFollow 22 = .ok (.getfield 43, 3) := by decide +kernel
theorem dX9_mayFollow_25 : decode cX9_mayFollow 25 = .ok (.iload_n 2, 1) := by decide +kernel
theorem dX9_mayFollow_26 : decode cX9_mayFollow 26 = .ok (.iaload, 1) := by decide +kernel
theorem dX9_mayFollow_27 : decode cX9_mayFollow 27 = .ok (.iload_n 3, 1) := by decide +kernel
theorem dX9_mayFollow_28 : decode cX9_mayFollow 28 = .ok (.invokestatic 81, 3) := by decide +kernel
theorem dX9_mayFollow_31 : decode cX9_mayFollow 31 = .ok (.ifCond .eq 23, 3) := by decide +kernel
theorem dX9_mayFollow_34 : decode cX9_mayFollow 34 = .ok (.goto 16, 3) := by decide +kernel
theorem dX9_mayFollow_37 : decode cX9_mayFollow 37 = .ok (.aload_n 0, 1) := by decide +kernel
theorem dX9_mayFollow_38 : decode cX9_mayFollow 38 = .ok (.getfield 43, 3) := by decide +kernel
theorem dX9_mayFollow_41 : decode cX9_mayFollow 41 = .ok (.iload_n 3, 1) := by decide +kernel
theorem dX9_mayFollow_42 : decode cX9_mayFollow 42 = .ok (.iaload, 1) := by decide +kernel
theorem dX9_mayFollow_43 : decode cX9_mayFollow 43 = .ok (.iload_n 2, 1) := by decide +kernel
theorem dX9_mayFollow_44 : decode cX9_mayFollow 44 = .ok (.invokestatic 81, 3) := by decide +kernel
theorem dX9_mayFollow_47 : decode cX9_mayFollow 47 = .ok (.ifCond .eq 7, 3) := by decide +kernel
theorem dX9_mayFollow_50 : decode cX9_mayFollow 50 = .ok (.iconst 1, 1) := by decide +kernel
theorem dX9_mayFollow_51 : decode cX9_mayFollow 51 = .ok (.goto 4, 3) := by decide +kernel
theorem dX9_mayFollow_54 : decode cX9_mayFollow 54 = .ok (.iconst 0, 1) := by decide +kernel
theorem dX9_mayFollow_55 : decode cX9_mayFollow 55 = .ok (.ireturn, 1) := by decide +kernel
theorem dX10_init_0 : decode cX10_init 0 = .ok (.aload_n 0, 1) := by decide +kernel
theorem dX10_init_1 : decode cX10_init 1 = .ok (.invokespecial 3, 3) := by decide +kernel
theorem dX10_init_4 : decode cX10_init 4 = .ok (.aload_n 0, 1) := by decide +kernel
theorem dX10_init_5 : decode cX10_init 5 = .ok (.iconst (-1), 1) := by decide +kernel
theorem dX10_init_6 : decode cX10_init 6 = .ok (.putfield 9, 3) := by decide +kernel
theorem dX10_init_9 : decode cX10_init 9 = .ok (.aload_n 0, 1) := by decide +kernel
theorem dX10_init_10 : decode cX10_init 10 = .ok (.sipush 900, 3) := by decide +kernel
theorem dX10_init_13 : decode cX10_init 13 = .ok (.newarray .byte, 2) := by decide +kernel
theorem dX10_init_15 : decode cX10_init 15 = .ok (.putfield 13, 3) := by decide +kernel
theorem dX10_init_18 : decode cX10_init 18 = .ok (.aload_n 0, 1) := by decide +kernel
theorem dX10_init_19 : decode cX10_init 19 = .ok (.bipush 59, 2) := by decide +kernel
theorem dX10_init_21 : decode cX10_init 21 = .ok (.newarray .int, 2) := by decide +kernel
theorem dX10_init_23 : decode cX10_init 23 = .ok (.putfield 17, 3) := by decide +kernel
theorem dX10_init_26 : decode cX10_init 26 = .ok (.aload_n 0, 1) := by decide +kernel
theorem dX10_init_27 : decode cX10_init 27 = .ok (.sipush 708, 3) := by decide +kernel
theorem dX10_init_30 : decode cX10_init 30 = .ok (.newarray .int, 2) := by decide +kernel
theorem dX10_init_32 : decode cX10_init 32 = .ok (.putfield 21, 3) := by decide +kernel
theorem dX10_init_35 : decode cX10_init 35 = .ok (.aload_n 0, 1) := by decide +kernel
theorem dX10_init_36 : decode cX10_init 36 = .ok (.sipush 177, 3) := by decide +kernel
theorem dX10_init_39 : decode cX10_init 39 = .ok (.newarray .int, 2) := by decide +kernel
theorem dX10_init_41 : decode cX10_init 41 = .ok (.putfield 24, 3) := by decide +kernel
theorem dX10_init_44 : decode cX10_init 44 = .ok (.aload_n 0, 1) := by decide +kernel
theorem dX10_init_45 : decode cX10_init 45 = .ok (.ldc 27, 2) := by decide +kernel
theorem dX10_init_47 : decode cX10_init 47 = .ok (.newarray .int, 2) := by decide +kernel
theorem dX10_init_49 : decode cX10_init 49 = .ok (.putfield 28, 3) := by decide +kernel
theorem dX10_init_52 : decode cX10_init 52 = .ok (.aload_n 0, 1) := by decide +kernel
theorem dX10_init_53 : decode cX10_init 53 = .ok (.bipush 48, 2) := by decide +kernel
theorem dX10_init_55 : decode cX10_init 55 = .ok (.newarray .int, 2) := by decide +kernel
theorem dX10_init_57 : decode cX10_init 57 = .ok (.putfield 31, 3) := by decide +kernel
theorem dX10_init_60 : decode cX10_init 60 = .ok (.aload_n 0, 1) := by decide +kernel
theorem dX10_init_61 : decode cX10_init 61 = .ok (.sipush 22500, 3) := by decide +kernel
theorem dX10_init_64 : decode cX10_init 64 = .ok (.newarray .boolean, 2) := by decide +kernel
theorem dX10_init_66 : decode cX10_init 66 = .ok (.putfield 34, 3) := by decide +kernel
theorem dX10_init_69 : decode cX10_init 69 = .ok (.aload_n 0, 1) := by decide +kernel
theorem dX10_init_70 : decode cX10_init 70 = .ok (.bipush 100, 2) := by decide +kernel
theorem dX10_init_72 : decode cX10_init 72 = .ok (.newarray .boolean, 2) := by decide +kernel
theorem dX10_init_74 : decode cX10_init 74 = .ok (.putfield 38, 3) := by decide +kernel
theorem dX10_init_77 : decode cX10_init 77 = .ok (.aload_n 0, 1) := by decide +kernel
theorem dX10_init_78 : decode cX10_init 78 = .ok (.sipush 900, 3) := by decide +kernel
theorem dX10_init_81 : decode cX10_init 81 = .ok (.newarray .long, 2) := by decide +kernel
theorem dX10_init_83 : decode cX10_init 83 = .ok (.putfield 41, 3) := by decide +kernel
theorem dX10_init_86 : decode cX10_init 86 = .ok (.aload_n 0, 1) := by decide +kernel
theorem dX10_init_87 : decode cX10_init 87 = .ok (.sipush 900, 3) := by decide +kernel
theorem dX10_init_90 : decode cX10_init 90 = .ok (.newarray .long, 2) := by decide +kernel
theorem dX10_init_92 : decode cX10_init 92 = .ok (.putfield 45, 3) := by decide +kernel
theorem dX10_init_95 : decode cX10_init 95 = .ok (.aload_n 0, 1) := by decide +kernel
theorem dX10_init_96 : decode cX10_init 96 = .ok (.sipush 450, 3) := by decide +kernel
theorem dX10_init_99 : decode cX10_init 99 = .ok (.newarray .long, 2) := by decide +kernel
theorem dX10_init_101 : decode cX10_init 101 = .ok (.putfield 48, 3) := by decide +kernel
theorem dX10_init_104 : decode cX10_init 104 = .ok (.aload_n 0, 1) := by decide +kernel
theorem dX10_init_105 : decode cX10_init 105 = .ok (.sipush 625, 3) := by decide +kernel
theorem dX10_init_108 : decode cX10_init 108 = .ok (.newarray .long, 2) := by decide +kernel
theorem dX10_init_110 : decode cX10_init 110 = .ok (.putfield 51, 3) := by decide +kernel
theorem dX10_init_113 : decode cX10_init 113 = .ok (.return_, 1) := by decide +kernel
theorem dX10_thrown_0 : decode cX10_thrown 0 = .ok (.aload_n 0, 1) := by decide +kernel
theorem dX10_thrown_1 : decode cX10_thrown 1 = .ok (.getfield 54, 3) := by decide +kernel
theorem dX10_thrown_4 : decode cX10_thrown 4 = .ok (.ireturn, 1) := by decide +kernel
theorem dX10_refused_0 : decode cX10_refused 0 = .ok (.aload_n 0, 1) := by decide +kernel
theorem dX10_refused_1 : decode cX10_refused 1 = .ok (.iload_n 1, 1) := by decide +kernel
theorem dX10_refused_2 : decode cX10_refused 2 = .ok (.putfield 57, 3) := by decide +kernel
theorem dX10_refused_5 : decode cX10_refused 5 = .ok (.aload_n 0, 1) := by decide +kernel
theorem dX10_refused_6 : decode cX10_refused 6 = .ok (.iconst (-1), 1) := by decide +kernel
theorem dX10_refused_7 : decode cX10_refused 7 = .ok (.putfield 9, 3) := by decide +kernel
theorem dX10_refused_10 : decode cX10_refused 10 = .ok (.iconst (-1), 1) := by decide +kernel
theorem dX10_refused_11 : decode cX10_refused 11 = .ok (.ireturn, 1) := by decide +kernel
theorem dX10_denied_0 : decode cX10_denied 0 = .ok (.aload_n 0, 1) := by decide +kernel
theorem dX10_denied_1 : decode cX10_denied 1 = .ok (.iload_n 1, 1) := by decide +kernel
theorem dX10_denied_2 : decode cX10_denied 2 = .ok (.invokevirtual 60, 3) := by decide +kernel
theorem dX10_denied_5 : decode cX10_denied 5 = .ok (.pop, 1) := by decide +kernel
theorem dX10_denied_6 : decode cX10_denied 6 = .ok (.iconst 0, 1) := by decide +kernel
theorem dX10_denied_7 : decode cX10_denied 7 = .ok (.ireturn, 1) := by decide +kernel
theorem dX10_good_0 : decode cX10_good 0 = .ok (.aload_n 0, 1) := by decide +kernel
theorem dX10_good_1 : decode cX10_good 1 = .ok (.iconst 0, 1) := by decide +kernel
theorem dX10_good_2 : decode cX10_good 2 = .ok (.putfield 57, 3) := by decide +kernel
theorem dX10_good_5 : decode cX10_good 5 = .ok (.aload_n 0, 1) := by decide +kernel
theorem dX10_good_6 : decode cX10_good 6 = .ok (.iconst (-1), 1) := by decide +kernel
theorem dX10_good_7 : decode cX10_good 7 = .ok (.putfield 9, 3) := by decide +kernel
theorem dX10_good_10 : decode cX10_good 10 = .ok (.iload_n 1, 1) := by decide +kernel
theorem dX10_good_11 : decode cX10_good 11 = .ok (.ireturn, 1) := by decide +kernel
theorem dX10_granted_0 : decode cX10_granted 0 = .ok (.aload_n 0, 1) := by decide +kernel
theorem dX10_granted_1 : decode cX10_granted 1 = .ok (.iconst 0, 1) := by decide +kernel
theorem dX10_granted_2 : decode cX10_granted 2 = .ok (.invokevirtual 64, 3) := by decide +kernel
theorem dX10_granted_5 : decode cX10_granted 5 = .ok (.pop, 1) := by decide +kernel
theorem dX10_granted_6 : decode cX10_granted 6 = .ok (.iconst 1, 1) := by decide +kernel
theorem dX10_granted_7 : decode cX10_granted 7 = .ok (.ireturn, 1) := by decide +kernel
theorem dX10_in_0 : decode cX10_in 0 = .ok (.iload_n 0, 1) := by decide +kernel
theorem dX10_in_1 : decode cX10_in 1 = .ok (.iload_n 1, 1) := by decide +kernel
theorem dX10_in_2 : decode cX10_in 2 = .ok (.if_icmp .lt 12, 3) := by decide +kernel
theorem dX10_in_5 : decode cX10_in 5 = .ok (.iload_n 0, 1) := by decide +kernel
theorem dX10_in_6 : decode cX10_in 6 = .ok (.iload_n 2, 1) := by decide +kernel
theorem dX10_in_7 : decode cX10_in 7 = .ok (.if_icmp .gt 7, 3) := by decide +kernel
theorem dX10_in_10 : decode cX10_in 10 = .ok (.iconst 1, 1) := by decide +kernel
theorem dX10_in_11 : decode cX10_in 11 = .ok (.goto 4, 3) := by decide +kernel
theorem dX10_in_14 : decode cX10_in 14 = .ok (.iconst 0, 1) := by decide +kernel
theorem dX10_in_15 : decode cX10_in 15 = .ok (.ireturn, 1) := by decide +kernel
theorem dX10_has_0 : decode cX10_has 0 = .ok (.iload_n 0, 1) := by decide +kernel
theorem dX10_has_1 : decode cX10_has 1 = .ok (.iload_n 1, 1) := by decide +kernel
theorem dX10_has_2 : decode cX10_has 2 = .ok (.ishr, 1) := by decide +kernel
theorem dX10_has_3 : decode cX10_has 3 = .ok (.iconst 1, 1) := by decide +kernel
theorem dX10_has_4 : decode cX10_has 4 = .ok (.iand, 1) := by decide +kernel
theorem dX10_has_5 : decode cX10_has 5 = .ok (.iconst 1, 1) := by decide +kernel
theorem dX10_has_6 : decode cX10_has 6 = .ok (.if_icmp .ne 7, 3) := by decide +kernel
theorem dX10_has_9 : decode cX10_has 9 = .ok (.iconst 1, 1) := by decide +kernel
theorem dX10_has_10 : decode cX10_has 10 = .ok (.goto 4, 3) := by decide +kernel
theorem dX10_has_13 : decode cX10_has 13 = .ok (.iconst 0, 1) := by decide +kernel
theorem dX10_has_14 : decode cX10_has 14 = .ok (.ireturn, 1) := by decide +kernel
theorem dX10_together_0 : decode cX10_together 0 = .ok (.lload_n 0, 1) := by decide +kernel
theorem dX10_together_1 : decode cX10_together 1 = .ok (.ldc2_w 67, 3) := by decide +kernel
theorem dX10_together_4 : decode cX10_together 4 = .ok (.lload_n 2, 1) := by decide +kernel
theorem dX10_together_5 : decode cX10_together 5 = .ok (.lsub, 1) := by decide +kernel
theorem dX10_together_6 : decode cX10_together 6 = .ok (.lcmp, 1) := by decide +kernel
theorem dX10_together_7 : decode cX10_together 7 = .ok (.ifCond .le 9, 3) := by decide +kernel
theorem dX10_together_10 : decode cX10_together 10 = .ok (.ldc2_w 67, 3) := by decide +kernel
theorem dX10_together_13 : decode cX10_together 13 = .ok (.goto 6, 3) := by decide +kernel
theorem dX10_together_16 : decode cX10_together 16 = .ok (.lload_n 0, 1) := by decide +kernel
theorem dX10_together_17 : decode cX10_together 17 = .ok (.lload_n 2, 1) := by decide +kernel
theorem dX10_together_18 : decode cX10_together 18 = .ok (.ladd, 1) := by decide +kernel
theorem dX10_together_19 : decode cX10_together 19 = .ok (.lreturn, 1) := by decide +kernel
theorem dX10_times_0 : decode cX10_times 0 = .ok (.lload_n 0, 1) := by decide +kernel
theorem dX10_times_1 : decode cX10_times 1 = .ok (.lconst 0, 1) := by decide +kernel
theorem dX10_times_2 : decode cX10_times 2 = .ok (.lcmp, 1) := by decide +kernel
theorem dX10_times_3 : decode cX10_times 3 = .ok (.ifCond .eq 9, 3) := by decide +kernel
theorem dX10_times_6 : decode cX10_times 6 = .ok (.lload_n 2, 1) := by decide +kernel
theorem dX10_times_7 : decode cX10_times 7 = .ok (.lconst 0, 1) := by decide +kernel
theorem dX10_times_8 : decode cX10_times 8 = .ok (.lcmp, 1) := by decide +kernel
theorem dX10_times_9 : decode cX10_times 9 = .ok (.ifCond .ne 7, 3) := by decide +kernel
theorem dX10_times_12 : decode cX10_times 12 = .ok (.lconst 0, 1) := by decide +kernel
theorem dX10_times_13 : decode cX10_times 13 = .ok (.goto 22, 3) := by decide +kernel
theorem dX10_times_16 : decode cX10_times 16 = .ok (.lload_n 0, 1) := by decide +kernel
theorem dX10_times_17 : decode cX10_times 17 = .ok (.ldc2_w 67, 3) := by decide +kernel
theorem dX10_times_20 : decode cX10_times 20 = .ok (.lload_n 2, 1) := by decide +kernel
theorem dX10_times_21 : decode cX10_times 21 = .ok (.ldiv, 1) := by decide +kernel
theorem dX10_times_22 : decode cX10_times 22 = .ok (.lcmp, 1) := by decide +kernel
theorem dX10_times_23 : decode cX10_times 23 = .ok (.ifCond .le 9, 3) := by decide +kernel
theorem dX10_times_26 : decode cX10_times 26 = .ok (.ldc2_w 67, 3) := by decide +kernel
theorem dX10_times_29 : decode cX10_times 29 = .ok (.goto 6, 3) := by decide +kernel
theorem dX10_times_32 : decode cX10_times 32 = .ok (.lload_n 0, 1) := by decide +kernel
theorem dX10_times_33 : decode cX10_times 33 = .ok (.lload_n 2, 1) := by decide +kernel
theorem dX10_times_34 : decode cX10_times 34 = .ok (.lmul, 1) := by decide +kernel
theorem dX10_times_35 : decode cX10_times 35 = .ok (.lreturn, 1) := by decide +kernel
theorem dX10_byteAt_0 : decode cX10_byteAt 0 = .ok (.iload_n 1, 1) := by decide +kernel
theorem dX10_byteAt_1 : decode cX10_byteAt 1 = .ok (.aload_n 0, 1) := by decide +kernel
theorem dX10_byteAt_2 : decode cX10_byteAt 2 = .ok (.getfield 69, 3) := by decide +kernel
theorem dX10_byteAt_5 : decode cX10_byteAt 5 = .ok (.if_icmp .ge 16, 3) := by decide +kernel
theorem dX10_byteAt_8 : decode cX10_byteAt 8 = .ok (.aload_n 0, 1) := by decide +kernel
theorem dX10_byteAt_9 : decode cX10_byteAt 9 = .ok (.getfield 13, 3) := by decide +kernel
theorem dX10_byteAt_12 : decode cX10_byteAt 12 = .ok (.iload_n 1, 1) := by decide +kernel
theorem dX10_byteAt_13 : decode cX10_byteAt 13 = .ok (.baload, 1) := by decide +kernel
theorem dX10_byteAt_14 : decode cX10_byteAt 14 = .ok (.sipush 255, 3) := by decide +kernel
theorem dX10_byteAt_17 : decode cX10_byteAt 17 = .ok (.iand, 1) := by decide +kernel
theorem dX10_byteAt_18 : decode cX10_byteAt 18 = .ok (.goto 4, 3) := by decide +kernel
theorem dX10_byteAt_21 : decode cX10_byteAt 21 = .ok (.iconst (-1), 1) := by decide +kernel
theorem dX10_byteAt_22 : decode cX10_byteAt 22 = .ok (.ireturn, 1) := by decide +kernel
theorem dX10_isLetter_0 : decode cX10_isLetter 0 = .ok (.iload_n 0, 1) := by decide +kernel
theorem dX10_isLetter_1 : decode cX10_isLetter 1 = .ok (.bipush 97, 2) := by decide +kernel
theorem dX10_isLetter_3 : decode cX10_isLetter 3 = .ok (.if_icmp .lt 13, 3) := by decide +kernel
theorem dX10_isLetter_6 : decode cX10_isLetter 6 = .ok (.iload_n 0, 1) := by decide +kernel
theorem dX10_isLetter_7 : decode cX10_isLetter 7 = .ok (.bipush 122, 2) := by decide +kernel
theorem dX10_isLetter_9 : decode cX10_isLetter 9 = .ok (.if_icmp .gt 7, 3) := by decide +kernel
